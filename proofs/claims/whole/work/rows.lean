section
-- ===== PART A: goes FIRST, ahead of the names: the tables' words, and 'selects' of the private methods out of them =====
/-- a private method of a class that the tables say can be made, by its rows of tables_1 -/
def lw_okq (q : MethodName × Nat) : Prop := (q.1.cls ≠ "java/lang/invoke/MethodHandle" ∧ q.1.cls ≠ "java/lang/invoke/VarHandle") ∧ Cond.instantiable q.1.cls q.2 ∈ tables_1 ∧ Cond.privateMethod q.1 ∈ tables_1 ∧ Cond.instanceMethod q.1 ∈ tables_1
theorem lw_p0 : lw_okq (⟨"BlanketKeys", "move", "(II)I"⟩, 6) := ⟨⟨by decide +kernel, by decide +kernel⟩, List.mem_of_getElem? (i := 18) (by decide +kernel), List.mem_of_getElem? (i := 681) (by decide +kernel), List.mem_of_getElem? (i := 682) (by decide +kernel)⟩
theorem lw_p1 : lw_okq (⟨"BlanketKeys", "meanOf", "(II)F"⟩, 6) := ⟨⟨by decide +kernel, by decide +kernel⟩, List.mem_of_getElem? (i := 18) (by decide +kernel), List.mem_of_getElem? (i := 733) (by decide +kernel), List.mem_of_getElem? (i := 734) (by decide +kernel)⟩
theorem lw_p2 : lw_okq (⟨"BlanketKeysModel", "clearKeys", "()V"⟩, 15) := ⟨⟨by decide +kernel, by decide +kernel⟩, List.mem_of_getElem? (i := 792) (by decide +kernel), List.mem_of_getElem? (i := 803) (by decide +kernel), List.mem_of_getElem? (i := 804) (by decide +kernel)⟩
theorem lw_p3 : lw_okq (⟨"BlanketKeysModel", "begin", "()V"⟩, 15) := ⟨⟨by decide +kernel, by decide +kernel⟩, List.mem_of_getElem? (i := 792) (by decide +kernel), List.mem_of_getElem? (i := 866) (by decide +kernel), List.mem_of_getElem? (i := 867) (by decide +kernel)⟩
theorem lw_p4 : lw_okq (⟨"BlanketKeysModel", "remember", "()V"⟩, 15) := ⟨⟨by decide +kernel, by decide +kernel⟩, List.mem_of_getElem? (i := 792) (by decide +kernel), List.mem_of_getElem? (i := 870) (by decide +kernel), List.mem_of_getElem? (i := 871) (by decide +kernel)⟩
theorem lw_p5 : lw_okq (⟨"BlanketKeysModel", "record", "()V"⟩, 15) := ⟨⟨by decide +kernel, by decide +kernel⟩, List.mem_of_getElem? (i := 792) (by decide +kernel), List.mem_of_getElem? (i := 874) (by decide +kernel), List.mem_of_getElem? (i := 875) (by decide +kernel)⟩
theorem lw_p6 : lw_okq (⟨"BlanketKeysModel", "keys", "()I"⟩, 15) := ⟨⟨by decide +kernel, by decide +kernel⟩, List.mem_of_getElem? (i := 792) (by decide +kernel), List.mem_of_getElem? (i := 885) (by decide +kernel), List.mem_of_getElem? (i := 886) (by decide +kernel)⟩
theorem lw_p7 : lw_okq (⟨"BlanketKeysModel", "isDown", "(I)Z"⟩, 15) := ⟨⟨by decide +kernel, by decide +kernel⟩, List.mem_of_getElem? (i := 792) (by decide +kernel), List.mem_of_getElem? (i := 889) (by decide +kernel), List.mem_of_getElem? (i := 890) (by decide +kernel)⟩
theorem lw_p8 : lw_okq (⟨"BlanketKeysModel", "isSeen", "(I)Z"⟩, 15) := ⟨⟨by decide +kernel, by decide +kernel⟩, List.mem_of_getElem? (i := 792) (by decide +kernel), List.mem_of_getElem? (i := 893) (by decide +kernel), List.mem_of_getElem? (i := 894) (by decide +kernel)⟩
theorem lw_p9 : lw_okq (⟨"BlanketKeysModel", "noKey", "(I)Z"⟩, 15) := ⟨⟨by decide +kernel, by decide +kernel⟩, List.mem_of_getElem? (i := 792) (by decide +kernel), List.mem_of_getElem? (i := 901) (by decide +kernel), List.mem_of_getElem? (i := 902) (by decide +kernel)⟩
theorem lw_p10 : lw_okq (⟨"BlanketKeysModel", "shiftOf", "(I)I"⟩, 15) := ⟨⟨by decide +kernel, by decide +kernel⟩, List.mem_of_getElem? (i := 792) (by decide +kernel), List.mem_of_getElem? (i := 905) (by decide +kernel), List.mem_of_getElem? (i := 906) (by decide +kernel)⟩
theorem lw_p11 : lw_okq (⟨"BlanketKeysModel", "noTypist", "(I)Z"⟩, 15) := ⟨⟨by decide +kernel, by decide +kernel⟩, List.mem_of_getElem? (i := 792) (by decide +kernel), List.mem_of_getElem? (i := 913) (by decide +kernel), List.mem_of_getElem? (i := 914) (by decide +kernel)⟩
theorem lw_p12 : lw_okq (⟨"BlanketKeysModel", "againstPress", "(II)I"⟩, 15) := ⟨⟨by decide +kernel, by decide +kernel⟩, List.mem_of_getElem? (i := 792) (by decide +kernel), List.mem_of_getElem? (i := 944) (by decide +kernel), List.mem_of_getElem? (i := 945) (by decide +kernel)⟩
theorem lw_p13 : lw_okq (⟨"BlanketKeysModel", "held", "(I)I"⟩, 15) := ⟨⟨by decide +kernel, by decide +kernel⟩, List.mem_of_getElem? (i := 792) (by decide +kernel), List.mem_of_getElem? (i := 948) (by decide +kernel), List.mem_of_getElem? (i := 949) (by decide +kernel)⟩
theorem lw_p14 : lw_okq (⟨"BlanketKeysModel", "againstRelease", "(II)I"⟩, 15) := ⟨⟨by decide +kernel, by decide +kernel⟩, List.mem_of_getElem? (i := 792) (by decide +kernel), List.mem_of_getElem? (i := 956) (by decide +kernel), List.mem_of_getElem? (i := 957) (by decide +kernel)⟩
theorem lw_p15 : lw_okq (⟨"BlanketKeysModel", "steps", "(I)I"⟩, 15) := ⟨⟨by decide +kernel, by decide +kernel⟩, List.mem_of_getElem? (i := 792) (by decide +kernel), List.mem_of_getElem? (i := 964) (by decide +kernel), List.mem_of_getElem? (i := 965) (by decide +kernel)⟩
def lw_privs_1 : List (MethodName × Nat) := [(⟨"BlanketKeys", "move", "(II)I"⟩, 6), (⟨"BlanketKeys", "meanOf", "(II)F"⟩, 6), (⟨"BlanketKeysModel", "clearKeys", "()V"⟩, 15), (⟨"BlanketKeysModel", "begin", "()V"⟩, 15), (⟨"BlanketKeysModel", "remember", "()V"⟩, 15), (⟨"BlanketKeysModel", "record", "()V"⟩, 15), (⟨"BlanketKeysModel", "keys", "()I"⟩, 15), (⟨"BlanketKeysModel", "isDown", "(I)Z"⟩, 15), (⟨"BlanketKeysModel", "isSeen", "(I)Z"⟩, 15), (⟨"BlanketKeysModel", "noKey", "(I)Z"⟩, 15), (⟨"BlanketKeysModel", "shiftOf", "(I)I"⟩, 15), (⟨"BlanketKeysModel", "noTypist", "(I)Z"⟩, 15), (⟨"BlanketKeysModel", "againstPress", "(II)I"⟩, 15), (⟨"BlanketKeysModel", "held", "(I)I"⟩, 15), (⟨"BlanketKeysModel", "againstRelease", "(II)I"⟩, 15), (⟨"BlanketKeysModel", "steps", "(I)I"⟩, 15)]
theorem lw_r1 : ∀ q ∈ lw_privs_1, lw_okq q := List.forall_mem_cons.mpr ⟨lw_p0, List.forall_mem_cons.mpr ⟨lw_p1, List.forall_mem_cons.mpr ⟨lw_p2, List.forall_mem_cons.mpr ⟨lw_p3, List.forall_mem_cons.mpr ⟨lw_p4, List.forall_mem_cons.mpr ⟨lw_p5, List.forall_mem_cons.mpr ⟨lw_p6, List.forall_mem_cons.mpr ⟨lw_p7, List.forall_mem_cons.mpr ⟨lw_p8, List.forall_mem_cons.mpr ⟨lw_p9, List.forall_mem_cons.mpr ⟨lw_p10, List.forall_mem_cons.mpr ⟨lw_p11, List.forall_mem_cons.mpr ⟨lw_p12, List.forall_mem_cons.mpr ⟨lw_p13, List.forall_mem_cons.mpr ⟨lw_p14, List.forall_mem_cons.mpr ⟨lw_p15, fun _ h => absurd h List.not_mem_nil⟩⟩⟩⟩⟩⟩⟩⟩⟩⟩⟩⟩⟩⟩⟩⟩
theorem lw_p16 : lw_okq (⟨"BlanketKeysModel", "step", "()I"⟩, 15) := ⟨⟨by decide +kernel, by decide +kernel⟩, List.mem_of_getElem? (i := 792) (by decide +kernel), List.mem_of_getElem? (i := 968) (by decide +kernel), List.mem_of_getElem? (i := 969) (by decide +kernel)⟩
theorem lw_p17 : lw_okq (⟨"BlanketKeysModel", "drive", "(I)V"⟩, 15) := ⟨⟨by decide +kernel, by decide +kernel⟩, List.mem_of_getElem? (i := 792) (by decide +kernel), List.mem_of_getElem? (i := 972) (by decide +kernel), List.mem_of_getElem? (i := 973) (by decide +kernel)⟩
theorem lw_p18 : lw_okq (⟨"BlanketKeysModel", "endStroke", "(I)V"⟩, 15) := ⟨⟨by decide +kernel, by decide +kernel⟩, List.mem_of_getElem? (i := 792) (by decide +kernel), List.mem_of_getElem? (i := 976) (by decide +kernel), List.mem_of_getElem? (i := 977) (by decide +kernel)⟩
theorem lw_p19 : lw_okq (⟨"BlanketKeysModel", "judged", "(I)I"⟩, 15) := ⟨⟨by decide +kernel, by decide +kernel⟩, List.mem_of_getElem? (i := 792) (by decide +kernel), List.mem_of_getElem? (i := 980) (by decide +kernel), List.mem_of_getElem? (i := 981) (by decide +kernel)⟩
theorem lw_p20 : lw_okq (⟨"BlanketKeysModel", "off", "(III)F"⟩, 15) := ⟨⟨by decide +kernel, by decide +kernel⟩, List.mem_of_getElem? (i := 792) (by decide +kernel), List.mem_of_getElem? (i := 984) (by decide +kernel), List.mem_of_getElem? (i := 985) (by decide +kernel)⟩
theorem lw_p21 : lw_okq (⟨"BlanketKeysModel", "gap", "(II)I"⟩, 15) := ⟨⟨by decide +kernel, by decide +kernel⟩, List.mem_of_getElem? (i := 792) (by decide +kernel), List.mem_of_getElem? (i := 991) (by decide +kernel), List.mem_of_getElem? (i := 992) (by decide +kernel)⟩
theorem lw_p22 : lw_okq (⟨"BlanketKeysModel", "countIt", "(II)V"⟩, 15) := ⟨⟨by decide +kernel, by decide +kernel⟩, List.mem_of_getElem? (i := 792) (by decide +kernel), List.mem_of_getElem? (i := 995) (by decide +kernel), List.mem_of_getElem? (i := 996) (by decide +kernel)⟩
theorem lw_p23 : lw_okq (⟨"BlanketKeysModel", "learn", "(III)V"⟩, 15) := ⟨⟨by decide +kernel, by decide +kernel⟩, List.mem_of_getElem? (i := 792) (by decide +kernel), List.mem_of_getElem? (i := 999) (by decide +kernel), List.mem_of_getElem? (i := 1000) (by decide +kernel)⟩
theorem lw_p24 : lw_okq (⟨"BlanketKeysModel", "learned", "(FI)F"⟩, 15) := ⟨⟨by decide +kernel, by decide +kernel⟩, List.mem_of_getElem? (i := 792) (by decide +kernel), List.mem_of_getElem? (i := 1003) (by decide +kernel), List.mem_of_getElem? (i := 1004) (by decide +kernel)⟩
theorem lw_p25 : lw_okq (⟨"BlanketKeysModel", "giveSign", "(III)V"⟩, 15) := ⟨⟨by decide +kernel, by decide +kernel⟩, List.mem_of_getElem? (i := 792) (by decide +kernel), List.mem_of_getElem? (i := 1007) (by decide +kernel), List.mem_of_getElem? (i := 1008) (by decide +kernel)⟩
theorem lw_p26 : lw_okq (⟨"BlanketKeysModel", "closesCorner", "(I)Z"⟩, 15) := ⟨⟨by decide +kernel, by decide +kernel⟩, List.mem_of_getElem? (i := 792) (by decide +kernel), List.mem_of_getElem? (i := 1011) (by decide +kernel), List.mem_of_getElem? (i := 1012) (by decide +kernel)⟩
theorem lw_p27 : lw_okq (⟨"BlanketKeysModel", "isOn", "(I)Z"⟩, 15) := ⟨⟨by decide +kernel, by decide +kernel⟩, List.mem_of_getElem? (i := 792) (by decide +kernel), List.mem_of_getElem? (i := 1015) (by decide +kernel), List.mem_of_getElem? (i := 1016) (by decide +kernel)⟩
theorem lw_p28 : lw_okq (⟨"BlanketKeysModel", "noDispute", "(I)Z"⟩, 15) := ⟨⟨by decide +kernel, by decide +kernel⟩, List.mem_of_getElem? (i := 792) (by decide +kernel), List.mem_of_getElem? (i := 1023) (by decide +kernel), List.mem_of_getElem? (i := 1024) (by decide +kernel)⟩
theorem lw_p29 : lw_okq (⟨"BlanketKeysModel", "moves", "(Z)I"⟩, 15) := ⟨⟨by decide +kernel, by decide +kernel⟩, List.mem_of_getElem? (i := 792) (by decide +kernel), List.mem_of_getElem? (i := 1039) (by decide +kernel), List.mem_of_getElem? (i := 1040) (by decide +kernel)⟩
theorem lw_p30 : lw_okq (⟨"BlanketKeysModel", "move", "(Z)I"⟩, 15) := ⟨⟨by decide +kernel, by decide +kernel⟩, List.mem_of_getElem? (i := 792) (by decide +kernel), List.mem_of_getElem? (i := 1043) (by decide +kernel), List.mem_of_getElem? (i := 1044) (by decide +kernel)⟩
theorem lw_p31 : lw_okq (⟨"BlanketKeysModel", "sees", "(II)Z"⟩, 15) := ⟨⟨by decide +kernel, by decide +kernel⟩, List.mem_of_getElem? (i := 792) (by decide +kernel), List.mem_of_getElem? (i := 1047) (by decide +kernel), List.mem_of_getElem? (i := 1048) (by decide +kernel)⟩
def lw_privs_2 : List (MethodName × Nat) := [(⟨"BlanketKeysModel", "step", "()I"⟩, 15), (⟨"BlanketKeysModel", "drive", "(I)V"⟩, 15), (⟨"BlanketKeysModel", "endStroke", "(I)V"⟩, 15), (⟨"BlanketKeysModel", "judged", "(I)I"⟩, 15), (⟨"BlanketKeysModel", "off", "(III)F"⟩, 15), (⟨"BlanketKeysModel", "gap", "(II)I"⟩, 15), (⟨"BlanketKeysModel", "countIt", "(II)V"⟩, 15), (⟨"BlanketKeysModel", "learn", "(III)V"⟩, 15), (⟨"BlanketKeysModel", "learned", "(FI)F"⟩, 15), (⟨"BlanketKeysModel", "giveSign", "(III)V"⟩, 15), (⟨"BlanketKeysModel", "closesCorner", "(I)Z"⟩, 15), (⟨"BlanketKeysModel", "isOn", "(I)Z"⟩, 15), (⟨"BlanketKeysModel", "noDispute", "(I)Z"⟩, 15), (⟨"BlanketKeysModel", "moves", "(Z)I"⟩, 15), (⟨"BlanketKeysModel", "move", "(Z)I"⟩, 15), (⟨"BlanketKeysModel", "sees", "(II)Z"⟩, 15)]
theorem lw_r2 : ∀ q ∈ lw_privs_2, lw_okq q := List.forall_mem_cons.mpr ⟨lw_p16, List.forall_mem_cons.mpr ⟨lw_p17, List.forall_mem_cons.mpr ⟨lw_p18, List.forall_mem_cons.mpr ⟨lw_p19, List.forall_mem_cons.mpr ⟨lw_p20, List.forall_mem_cons.mpr ⟨lw_p21, List.forall_mem_cons.mpr ⟨lw_p22, List.forall_mem_cons.mpr ⟨lw_p23, List.forall_mem_cons.mpr ⟨lw_p24, List.forall_mem_cons.mpr ⟨lw_p25, List.forall_mem_cons.mpr ⟨lw_p26, List.forall_mem_cons.mpr ⟨lw_p27, List.forall_mem_cons.mpr ⟨lw_p28, List.forall_mem_cons.mpr ⟨lw_p29, List.forall_mem_cons.mpr ⟨lw_p30, List.forall_mem_cons.mpr ⟨lw_p31, fun _ h => absurd h List.not_mem_nil⟩⟩⟩⟩⟩⟩⟩⟩⟩⟩⟩⟩⟩⟩⟩⟩
theorem lw_p32 : lw_okq (⟨"BlanketKeysModel", "readsNumber", "(I)I"⟩, 15) := ⟨⟨by decide +kernel, by decide +kernel⟩, List.mem_of_getElem? (i := 792) (by decide +kernel), List.mem_of_getElem? (i := 1051) (by decide +kernel), List.mem_of_getElem? (i := 1052) (by decide +kernel)⟩
theorem lw_p33 : lw_okq (⟨"BlanketKeysModel", "goBack", "()V"⟩, 15) := ⟨⟨by decide +kernel, by decide +kernel⟩, List.mem_of_getElem? (i := 792) (by decide +kernel), List.mem_of_getElem? (i := 1055) (by decide +kernel), List.mem_of_getElem? (i := 1056) (by decide +kernel)⟩
theorem lw_p34 : lw_okq (⟨"BlanketKeysModel", "wouldSense", "(I)Z"⟩, 15) := ⟨⟨by decide +kernel, by decide +kernel⟩, List.mem_of_getElem? (i := 792) (by decide +kernel), List.mem_of_getElem? (i := 1063) (by decide +kernel), List.mem_of_getElem? (i := 1064) (by decide +kernel)⟩
theorem lw_p35 : lw_okq (⟨"BlanketKeysModel", "keysThat", "(I)I"⟩, 15) := ⟨⟨by decide +kernel, by decide +kernel⟩, List.mem_of_getElem? (i := 792) (by decide +kernel), List.mem_of_getElem? (i := 1109) (by decide +kernel), List.mem_of_getElem? (i := 1110) (by decide +kernel)⟩
theorem lw_p36 : lw_okq (⟨"BlanketKeysModel", "openDisputes", "()I"⟩, 15) := ⟨⟨by decide +kernel, by decide +kernel⟩, List.mem_of_getElem? (i := 792) (by decide +kernel), List.mem_of_getElem? (i := 1113) (by decide +kernel), List.mem_of_getElem? (i := 1114) (by decide +kernel)⟩
def lw_privs_3 : List (MethodName × Nat) := [(⟨"BlanketKeysModel", "readsNumber", "(I)I"⟩, 15), (⟨"BlanketKeysModel", "goBack", "()V"⟩, 15), (⟨"BlanketKeysModel", "wouldSense", "(I)Z"⟩, 15), (⟨"BlanketKeysModel", "keysThat", "(I)I"⟩, 15), (⟨"BlanketKeysModel", "openDisputes", "()I"⟩, 15)]
theorem lw_r3 : ∀ q ∈ lw_privs_3, lw_okq q := List.forall_mem_cons.mpr ⟨lw_p32, List.forall_mem_cons.mpr ⟨lw_p33, List.forall_mem_cons.mpr ⟨lw_p34, List.forall_mem_cons.mpr ⟨lw_p35, List.forall_mem_cons.mpr ⟨lw_p36, fun _ h => absurd h List.not_mem_nil⟩⟩⟩⟩⟩
def lw_privs : List (MethodName × Nat) := lw_privs_1 ++ (lw_privs_2 ++ (lw_privs_3))
def lw_tbl : List Cond := k2_sels lw_privs ++ tables_1
theorem lw_privs_ok : ∀ q ∈ lw_privs, lw_okq q := by
  show ∀ q ∈ lw_privs_1 ++ (lw_privs_2 ++ (lw_privs_3)), lw_okq q
  exact List.forall_mem_append.mpr ⟨lw_r1, List.forall_mem_append.mpr ⟨lw_r2, lw_r3⟩⟩
/-- the streams that the claim lets the run draw from -/
abbrev lw_cs : List Choice := [Jvm.Choice.named "NaN.bits", Jvm.Choice.named "NaN.copy"]
theorem lw_bits : nanBits ∈ lw_cs := by first | decide | exact List.mem_cons_self | simp [lw_cs, nanBits]
end
section
def RX0 : String := "BlanketKeys$Board"
def TX0 : u_T := fun k => match k with
  | 0 => ("BlanketKeys$Board", "rows", "I", false)
  | 1 => ("BlanketKeys$Board", "columns", "I", false)
  | 2 => ("BlanketKeys$Board", "holders", "[I", true)
  | 3 => ("BlanketKeys$Board", "signs", "[I", true)
  | 4 => ("BlanketKeys$Board", "sinces", "[I", true)
  | 5 => ("BlanketKeys$Board", "notedShifts", "[I", true)
  | 6 => ("BlanketKeys$Board", "trueHolders", "[I", true)
  | 7 => ("BlanketKeys$Board", "down", "[I", true)
  | 8 => ("BlanketKeys$Board", "seen", "[I", true)
  | 9 => ("BlanketKeys$Board", "doubtful", "[I", true)
  | _ => ("BlanketKeys$Board", "shifts", "[I", true)
def tyX0 : Nat → FieldType := fun k => match k with
  | 0 => .int
  | 1 => .int
  | 2 => .array .int
  | 3 => .array .int
  | 4 => .array .int
  | 5 => .array .int
  | 6 => .array .int
  | 7 => .array .int
  | 8 => .array .int
  | 9 => .array .int
  | _ => .array .int
abbrev wsX00 : List Cond := u_ws RX0 TX0 11
theorem nmX0 : ∀ a, a < 11 → ∀ b, b < 11 → a ≠ b → (TX0 a).2.1 ≠ (TX0 b).2.1 := by decide +kernel
theorem tyX0_ok : ∀ k, k < 11 → parseFieldDescriptor (TX0 k).2.2.1 = some (tyX0 k) := by decide +kernel
abbrev cX0_init : ByteArray := prog_2_method_1_code
def yX0_init : MethodName := ⟨RX0, "<init>", "()V"⟩
abbrev cX0_copyFrom : ByteArray := prog_2_method_2_code
def yX0_copyFrom : MethodName := ⟨RX0, "copyFrom", "(LBlanketKeys$Board;)V"⟩
abbrev cX0_rebuild : ByteArray := prog_2_method_3_code
def yX0_rebuild : MethodName := ⟨RX0, "rebuild", "(II)V"⟩
abbrev cX0_size : ByteArray := prog_2_method_4_code
def yX0_size : MethodName := ⟨RX0, "size", "()I"⟩
abbrev cX0_has : ByteArray := prog_2_method_5_code
def yX0_has : MethodName := ⟨RX0, "has", "(I)Z"⟩
abbrev cX0_rowOf : ByteArray := prog_2_method_6_code
def yX0_rowOf : MethodName := ⟨RX0, "rowOf", "(I)I"⟩
abbrev cX0_bitOf : ByteArray := prog_2_method_7_code
def yX0_bitOf : MethodName := ⟨RX0, "bitOf", "(I)I"⟩
abbrev cX0_isDown : ByteArray := prog_2_method_8_code
def yX0_isDown : MethodName := ⟨RX0, "isDown", "(I)Z"⟩
abbrev cX0_isSeen : ByteArray := prog_2_method_9_code
def yX0_isSeen : MethodName := ⟨RX0, "isSeen", "(I)Z"⟩
abbrev cX0_isDoubtful : ByteArray := prog_2_method_10_code
def yX0_isDoubtful : MethodName := ⟨RX0, "isDoubtful", "(I)Z"⟩
abbrev cX0_downKeys : ByteArray := prog_2_method_11_code
def yX0_downKeys : MethodName := ⟨RX0, "downKeys", "()I"⟩
abbrev cX0_seenKeys : ByteArray := prog_2_method_12_code
def yX0_seenKeys : MethodName := ⟨RX0, "seenKeys", "()I"⟩
abbrev cX0_doubtfulKeys : ByteArray := prog_2_method_13_code
def yX0_doubtfulKeys : MethodName := ⟨RX0, "doubtfulKeys", "()I"⟩
abbrev cX0_holderOf : ByteArray := prog_2_method_14_code
def yX0_holderOf : MethodName := ⟨RX0, "holderOf", "(I)I"⟩
abbrev cX0_heldBy : ByteArray := prog_2_method_15_code
def yX0_heldBy : MethodName := ⟨RX0, "heldBy", "(I)I"⟩
abbrev cX0_putDown : ByteArray := prog_2_method_16_code
def yX0_putDown : MethodName := ⟨RX0, "putDown", "(II)V"⟩
abbrev cX0_liftUp : ByteArray := prog_2_method_17_code
def yX0_liftUp : MethodName := ⟨RX0, "liftUp", "(I)V"⟩
abbrev cX0_signOf : ByteArray := prog_2_method_18_code
def yX0_signOf : MethodName := ⟨RX0, "signOf", "(I)I"⟩
abbrev cX0_giveSign : ByteArray := prog_2_method_19_code
def yX0_giveSign : MethodName := ⟨RX0, "giveSign", "(IC)V"⟩
abbrev cX0_shiftOf : ByteArray := prog_2_method_20_code
def yX0_shiftOf : MethodName := ⟨RX0, "shiftOf", "(I)I"⟩
abbrev cX0_shiftOwner : ByteArray := prog_2_method_21_code
def yX0_shiftOwner : MethodName := ⟨RX0, "shiftOwner", "(I)I"⟩
abbrev cX0_giveShift : ByteArray := prog_2_method_22_code
def yX0_giveShift : MethodName := ⟨RX0, "giveShift", "(II)V"⟩
abbrev cX0_isShiftOn : ByteArray := prog_2_method_23_code
def yX0_isShiftOn : MethodName := ⟨RX0, "isShiftOn", "(I)Z"⟩
abbrev cX0_joined : ByteArray := prog_2_method_24_code
def yX0_joined : MethodName := ⟨RX0, "joined", "(II)I"⟩
abbrev cX0_sensed : ByteArray := prog_2_method_25_code
def yX0_sensed : MethodName := ⟨RX0, "sensed", "(II)I"⟩
abbrev cX0_ghostsBeside : ByteArray := prog_2_method_26_code
def yX0_ghostsBeside : MethodName := ⟨RX0, "ghostsBeside", "(II)I"⟩
abbrev cX0_see : ByteArray := prog_2_method_27_code
def yX0_see : MethodName := ⟨RX0, "see", "(III)V"⟩
abbrev cX0_closesCorner : ByteArray := prog_2_method_28_code
def yX0_closesCorner : MethodName := ⟨RX0, "closesCorner", "(II)Z"⟩
abbrev cX0_loseSight : ByteArray := prog_2_method_29_code
def yX0_loseSight : MethodName := ⟨RX0, "loseSight", "(I)V"⟩
abbrev cX0_sinceOf : ByteArray := prog_2_method_30_code
def yX0_sinceOf : MethodName := ⟨RX0, "sinceOf", "(I)I"⟩
abbrev cX0_notedFor : ByteArray := prog_2_method_31_code
def yX0_notedFor : MethodName := ⟨RX0, "notedFor", "(I)I"⟩
abbrev cX0_trueHolderOf : ByteArray := prog_2_method_32_code
def yX0_trueHolderOf : MethodName := ⟨RX0, "trueHolderOf", "(I)I"⟩
def RX1 : String := "BlanketKeys$Cells"
def TX1 : u_T := fun k => match k with
  | _ => ("", "", "", false)
def tyX1 : Nat → FieldType := fun k => match k with
  | _ => .int
abbrev wsX10 : List Cond := u_ws RX1 TX1 0
theorem nmX1 : ∀ a, a < 0 → ∀ b, b < 0 → a ≠ b → (TX1 a).2.1 ≠ (TX1 b).2.1 := by decide +kernel
theorem tyX1_ok : ∀ k, k < 0 → parseFieldDescriptor (TX1 k).2.2.1 = some (tyX1 k) := by decide +kernel
abbrev cX1_at : ByteArray := prog_3_method_2_code
def yX1_at : MethodName := ⟨RX1, "at", "([II)I"⟩
abbrev cX1_put : ByteArray := prog_3_method_3_code
def yX1_put : MethodName := ⟨RX1, "put", "([III)V"⟩
abbrev cX1_copy : ByteArray := prog_3_method_4_code
def yX1_copy : MethodName := ⟨RX1, "copy", "([I[I)V"⟩
abbrev cX1_bitsIn : ByteArray := prog_3_method_5_code
def yX1_bitsIn : MethodName := ⟨RX1, "bitsIn", "([I)I"⟩
def RX2 : String := "BlanketKeys$History"
def TX2 : u_T := fun k => match k with
  | 0 => ("BlanketKeys$History", "depth", "I", false)
  | 1 => ("BlanketKeys$History", "latest", "LBlanketKeys$State;", false)
  | 2 => ("BlanketKeys$History", "second", "LBlanketKeys$State;", false)
  | 3 => ("BlanketKeys$History", "third", "LBlanketKeys$State;", false)
  | _ => ("BlanketKeys$History", "oldest", "LBlanketKeys$State;", false)
def tyX2 : Nat → FieldType := fun k => match k with
  | 0 => .int
  | 1 => .object "BlanketKeys$State"
  | 2 => .object "BlanketKeys$State"
  | 3 => .object "BlanketKeys$State"
  | _ => .object "BlanketKeys$State"
abbrev wsX20 : List Cond := u_ws RX2 TX2 5
theorem nmX2 : ∀ a, a < 5 → ∀ b, b < 5 → a ≠ b → (TX2 a).2.1 ≠ (TX2 b).2.1 := by decide +kernel
theorem tyX2_ok : ∀ k, k < 5 → parseFieldDescriptor (TX2 k).2.2.1 = some (tyX2 k) := by decide +kernel
abbrev cX2_init : ByteArray := prog_4_method_1_code
def yX2_init : MethodName := ⟨RX2, "<init>", "()V"⟩
abbrev cX2_remember : ByteArray := prog_4_method_2_code
def yX2_remember : MethodName := ⟨RX2, "remember", "(LBlanketKeys$State;)V"⟩
abbrev cX2_takeBack : ByteArray := prog_4_method_3_code
def yX2_takeBack : MethodName := ⟨RX2, "takeBack", "(LBlanketKeys$State;)V"⟩
def RX3 : String := "BlanketKeys$Script"
def TX3 : u_T := fun k => match k with
  | 0 => ("BlanketKeys$Script", "length", "I", false)
  | _ => ("BlanketKeys$Script", "characters", "[C", true)
def tyX3 : Nat → FieldType := fun k => match k with
  | 0 => .int
  | _ => .array .char
abbrev wsX30 : List Cond := u_ws RX3 TX3 2
theorem nmX3 : ∀ a, a < 2 → ∀ b, b < 2 → a ≠ b → (TX3 a).2.1 ≠ (TX3 b).2.1 := by decide +kernel
theorem tyX3_ok : ∀ k, k < 2 → parseFieldDescriptor (TX3 k).2.2.1 = some (tyX3 k) := by decide +kernel
abbrev cX3_init : ByteArray := prog_5_method_1_code
def yX3_init : MethodName := ⟨RX3, "<init>", "()V"⟩
abbrev cX3_append : ByteArray := prog_5_method_2_code
def yX3_append : MethodName := ⟨RX3, "append", "(C)Z"⟩
abbrev cX3_characterAt : ByteArray := prog_5_method_3_code
def yX3_characterAt : MethodName := ⟨RX3, "characterAt", "(I)C"⟩
abbrev cX3_fault : ByteArray := prog_5_method_4_code
def yX3_fault : MethodName := ⟨RX3, "fault", "()I"⟩
abbrev cX3_placeAfter : ByteArray := prog_5_method_5_code
def yX3_placeAfter : MethodName := ⟨RX3, "placeAfter", "(IC)I"⟩
abbrev cX3_isDigit : ByteArray := prog_5_method_6_code
def yX3_isDigit : MethodName := ⟨RX3, "isDigit", "(C)Z"⟩
abbrev cX3_isMoveEnd : ByteArray := prog_5_method_7_code
def yX3_isMoveEnd : MethodName := ⟨RX3, "isMoveEnd", "(I)Z"⟩
abbrev cX3_number : ByteArray := prog_5_method_8_code
def yX3_number : MethodName := ⟨RX3, "number", "(II)I"⟩
def RX4 : String := "BlanketKeys$Settings"
def TX4 : u_T := fun k => match k with
  | 0 => ("BlanketKeys$Settings", "bits", "[I", true)
  | 1 => ("BlanketKeys$Settings", "margin", "F", false)
  | 2 => ("BlanketKeys$Settings", "trust", "F", false)
  | _ => ("BlanketKeys$Settings", "rate", "F", false)
def tyX4 : Nat → FieldType := fun k => match k with
  | 0 => .array .int
  | 1 => .float
  | 2 => .float
  | _ => .float
abbrev wsX40 : List Cond := u_ws RX4 TX4 4
theorem nmX4 : ∀ a, a < 4 → ∀ b, b < 4 → a ≠ b → (TX4 a).2.1 ≠ (TX4 b).2.1 := by decide +kernel
theorem tyX4_ok : ∀ k, k < 4 → parseFieldDescriptor (TX4 k).2.2.1 = some (tyX4 k) := by decide +kernel
abbrev cX4_init : ByteArray := prog_6_method_1_code
def yX4_init : MethodName := ⟨RX4, "<init>", "()V"⟩
abbrev cX4_copyFrom : ByteArray := prog_6_method_2_code
def yX4_copyFrom : MethodName := ⟨RX4, "copyFrom", "(LBlanketKeys$Settings;)V"⟩
abbrev cX4_accepts : ByteArray := prog_6_method_3_code
def yX4_accepts : MethodName := ⟨RX4, "accepts", "(II)Z"⟩
abbrev cX4_bitsOf : ByteArray := prog_6_method_4_code
def yX4_bitsOf : MethodName := ⟨RX4, "bitsOf", "(I)I"⟩
abbrev cX4_change : ByteArray := prog_6_method_5_code
def yX4_change : MethodName := ⟨RX4, "change", "(II)V"⟩
abbrev cX4_valueOf : ByteArray := prog_6_method_6_code
def yX4_valueOf : MethodName := ⟨RX4, "valueOf", "(I)F"⟩
def RX5 : String := "BlanketKeys$State"
def TX5 : u_T := fun k => match k with
  | 0 => ("BlanketKeys$State", "board", "LBlanketKeys$Board;", true)
  | 1 => ("BlanketKeys$State", "first", "LBlanketKeys$Typist;", true)
  | 2 => ("BlanketKeys$State", "second", "LBlanketKeys$Typist;", true)
  | 3 => ("BlanketKeys$State", "ended", "LBlanketKeys$Strokes;", true)
  | 4 => ("BlanketKeys$State", "disputes", "LBlanketKeys$Strokes;", true)
  | 5 => ("BlanketKeys$State", "settings", "LBlanketKeys$Settings;", true)
  | 6 => ("BlanketKeys$State", "time", "I", false)
  | 7 => ("BlanketKeys$State", "ghosts", "I", false)
  | 8 => ("BlanketKeys$State", "ghostsOfNobody", "I", false)
  | _ => ("BlanketKeys$State", "openDisputes", "I", false)
def tyX5 : Nat → FieldType := fun k => match k with
  | 0 => .object "BlanketKeys$Board"
  | 1 => .object "BlanketKeys$Typist"
  | 2 => .object "BlanketKeys$Typist"
  | 3 => .object "BlanketKeys$Strokes"
  | 4 => .object "BlanketKeys$Strokes"
  | 5 => .object "BlanketKeys$Settings"
  | 6 => .int
  | 7 => .int
  | 8 => .int
  | _ => .int
abbrev wsX50 : List Cond := u_ws RX5 TX5 10
theorem nmX5 : ∀ a, a < 10 → ∀ b, b < 10 → a ≠ b → (TX5 a).2.1 ≠ (TX5 b).2.1 := by decide +kernel
theorem tyX5_ok : ∀ k, k < 10 → parseFieldDescriptor (TX5 k).2.2.1 = some (tyX5 k) := by decide +kernel
abbrev cX5_init : ByteArray := prog_7_method_1_code
def yX5_init : MethodName := ⟨RX5, "<init>", "()V"⟩
abbrev cX5_copyFrom : ByteArray := prog_7_method_2_code
def yX5_copyFrom : MethodName := ⟨RX5, "copyFrom", "(LBlanketKeys$State;)V"⟩
abbrev cX5_isTypist : ByteArray := prog_7_method_3_code
def yX5_isTypist : MethodName := ⟨RX5, "isTypist", "(I)Z"⟩
abbrev cX5_typistOf : ByteArray := prog_7_method_4_code
def yX5_typistOf : MethodName := ⟨RX5, "typistOf", "(I)LBlanketKeys$Typist;"⟩
abbrev cX5_hasDispute : ByteArray := prog_7_method_5_code
def yX5_hasDispute : MethodName := ⟨RX5, "hasDispute", "(I)Z"⟩
abbrev cX5_pressError : ByteArray := prog_7_method_6_code
def yX5_pressError : MethodName := ⟨RX5, "pressError", "(II)I"⟩
abbrev cX5_releaseError : ByteArray := prog_7_method_7_code
def yX5_releaseError : MethodName := ⟨RX5, "releaseError", "(II)I"⟩
abbrev cX5_drivenRow : ByteArray := prog_7_method_8_code
def yX5_drivenRow : MethodName := ⟨RX5, "drivenRow", "()I"⟩
abbrev cX5_pass : ByteArray := prog_7_method_9_code
def yX5_pass : MethodName := ⟨RX5, "pass", "(I)I"⟩
abbrev cX5_fateNow : ByteArray := prog_7_method_10_code
def yX5_fateNow : MethodName := ⟨RX5, "fateNow", "(I)I"⟩
abbrev cX5_endStroke : ByteArray := prog_7_method_11_code
def yX5_endStroke : MethodName := ⟨RX5, "endStroke", "(I)V"⟩
abbrev cX5_settleByHand : ByteArray := prog_7_method_12_code
def yX5_settleByHand : MethodName := ⟨RX5, "settleByHand", "(II)V"⟩
abbrev cX5_finish : ByteArray := prog_7_method_13_code
def yX5_finish : MethodName := ⟨RX5, "finish", "(LBlanketKeys$Strokes;IIZ)V"⟩
def RX6 : String := "BlanketKeys$Strokes"
def TX6 : u_T := fun k => match k with
  | 0 => ("BlanketKeys$Strokes", "total", "I", false)
  | 1 => ("BlanketKeys$Strokes", "keys", "[I", true)
  | 2 => ("BlanketKeys$Strokes", "sinces", "[I", true)
  | 3 => ("BlanketKeys$Strokes", "dwells", "[I", true)
  | 4 => ("BlanketKeys$Strokes", "fates", "[I", true)
  | 5 => ("BlanketKeys$Strokes", "holders", "[I", true)
  | 6 => ("BlanketKeys$Strokes", "notedShifts", "[I", true)
  | _ => ("BlanketKeys$Strokes", "origins", "[I", true)
def tyX6 : Nat → FieldType := fun k => match k with
  | 0 => .int
  | 1 => .array .int
  | 2 => .array .int
  | 3 => .array .int
  | 4 => .array .int
  | 5 => .array .int
  | 6 => .array .int
  | _ => .array .int
abbrev wsX60 : List Cond := u_ws RX6 TX6 8
theorem nmX6 : ∀ a, a < 8 → ∀ b, b < 8 → a ≠ b → (TX6 a).2.1 ≠ (TX6 b).2.1 := by decide +kernel
theorem tyX6_ok : ∀ k, k < 8 → parseFieldDescriptor (TX6 k).2.2.1 = some (tyX6 k) := by decide +kernel
abbrev cX6_init : ByteArray := prog_8_method_1_code
def yX6_init : MethodName := ⟨RX6, "<init>", "()V"⟩
abbrev cX6_copyFrom : ByteArray := prog_8_method_2_code
def yX6_copyFrom : MethodName := ⟨RX6, "copyFrom", "(LBlanketKeys$Strokes;)V"⟩
abbrev cX6_slot : ByteArray := prog_8_method_3_code
def yX6_slot : MethodName := ⟨RX6, "slot", "(I)I"⟩
abbrev cX6_holds : ByteArray := prog_8_method_4_code
def yX6_holds : MethodName := ⟨RX6, "holds", "(I)Z"⟩
abbrev cX6_addFrom : ByteArray := prog_8_method_5_code
def yX6_addFrom : MethodName := ⟨RX6, "addFrom", "(LBlanketKeys$Board;III)V"⟩
abbrev cX6_addLatestOf : ByteArray := prog_8_method_6_code
def yX6_addLatestOf : MethodName := ⟨RX6, "addLatestOf", "(LBlanketKeys$Strokes;)V"⟩
abbrev cX6_keyOf : ByteArray := prog_8_method_7_code
def yX6_keyOf : MethodName := ⟨RX6, "keyOf", "(I)I"⟩
abbrev cX6_sinceOf : ByteArray := prog_8_method_8_code
def yX6_sinceOf : MethodName := ⟨RX6, "sinceOf", "(I)I"⟩
abbrev cX6_dwellOf : ByteArray := prog_8_method_9_code
def yX6_dwellOf : MethodName := ⟨RX6, "dwellOf", "(I)I"⟩
abbrev cX6_fateOf : ByteArray := prog_8_method_10_code
def yX6_fateOf : MethodName := ⟨RX6, "fateOf", "(I)I"⟩
abbrev cX6_holderOf : ByteArray := prog_8_method_11_code
def yX6_holderOf : MethodName := ⟨RX6, "holderOf", "(I)I"⟩
abbrev cX6_notedOf : ByteArray := prog_8_method_12_code
def yX6_notedOf : MethodName := ⟨RX6, "notedOf", "(I)I"⟩
abbrev cX6_originOf : ByteArray := prog_8_method_13_code
def yX6_originOf : MethodName := ⟨RX6, "originOf", "(I)I"⟩
abbrev cX6_changeFate : ByteArray := prog_8_method_14_code
def yX6_changeFate : MethodName := ⟨RX6, "changeFate", "(II)V"⟩
def RX7 : String := "BlanketKeys$Typist"
def TX7 : u_T := fun k => match k with
  | 0 => ("BlanketKeys$Typist", "meanDwell", "F", false)
  | 1 => ("BlanketKeys$Typist", "meanGap", "F", false)
  | 2 => ("BlanketKeys$Typist", "last", "I", false)
  | 3 => ("BlanketKeys$Typist", "borrows", "Z", false)
  | 4 => ("BlanketKeys$Typist", "credited", "I", false)
  | 5 => ("BlanketKeys$Typist", "creditedRightly", "I", false)
  | 6 => ("BlanketKeys$Typist", "signCount", "I", false)
  | _ => ("BlanketKeys$Typist", "signs", "[I", true)
def tyX7 : Nat → FieldType := fun k => match k with
  | 0 => .float
  | 1 => .float
  | 2 => .int
  | 3 => .boolean
  | 4 => .int
  | 5 => .int
  | 6 => .int
  | _ => .array .int
abbrev wsX70 : List Cond := u_ws RX7 TX7 8
theorem nmX7 : ∀ a, a < 8 → ∀ b, b < 8 → a ≠ b → (TX7 a).2.1 ≠ (TX7 b).2.1 := by decide +kernel
theorem tyX7_ok : ∀ k, k < 8 → parseFieldDescriptor (TX7 k).2.2.1 = some (tyX7 k) := by decide +kernel
abbrev cX7_init : ByteArray := prog_9_method_1_code
def yX7_init : MethodName := ⟨RX7, "<init>", "(FF)V"⟩
abbrev cX7_copyFrom : ByteArray := prog_9_method_2_code
def yX7_copyFrom : MethodName := ⟨RX7, "copyFrom", "(LBlanketKeys$Typist;)V"⟩
abbrev cX7_distanceOf : ByteArray := prog_9_method_3_code
def yX7_distanceOf : MethodName := ⟨RX7, "distanceOf", "(II)F"⟩
abbrev cX7_learn : ByteArray := prog_9_method_4_code
def yX7_learn : MethodName := ⟨RX7, "learn", "(IIF)V"⟩
abbrev cX7_unsigned : ByteArray := prog_9_method_5_code
def yX7_unsigned : MethodName := ⟨RX7, "unsigned", "(F)F"⟩
abbrev cX7_atLeastHalf : ByteArray := prog_9_method_6_code
def yX7_atLeastHalf : MethodName := ⟨RX7, "atLeastHalf", "(F)F"⟩
abbrev cX7_addSign : ByteArray := prog_9_method_7_code
def yX7_addSign : MethodName := ⟨RX7, "addSign", "(I)V"⟩
abbrev cX7_signBack : ByteArray := prog_9_method_8_code
def yX7_signBack : MethodName := ⟨RX7, "signBack", "(I)I"⟩
def RX8 : String := "BlanketKeys"
def TX8 : u_T := fun k => match k with
  | 0 => ("BlanketKeys", "now", "LBlanketKeys$State;", true)
  | 1 => ("BlanketKeys", "beforeScript", "LBlanketKeys$State;", true)
  | 2 => ("BlanketKeys", "snapshot", "LBlanketKeys$State;", true)
  | 3 => ("BlanketKeys", "history", "LBlanketKeys$History;", true)
  | 4 => ("BlanketKeys", "script", "LBlanketKeys$Script;", true)
  | _ => ("BlanketKeys", "hasSnapshot", "Z", false)
def tyX8 : Nat → FieldType := fun k => match k with
  | 0 => .object "BlanketKeys$State"
  | 1 => .object "BlanketKeys$State"
  | 2 => .object "BlanketKeys$State"
  | 3 => .object "BlanketKeys$History"
  | 4 => .object "BlanketKeys$Script"
  | _ => .boolean
abbrev wsX80 : List Cond := u_ws RX8 TX8 6
theorem nmX8 : ∀ a, a < 6 → ∀ b, b < 6 → a ≠ b → (TX8 a).2.1 ≠ (TX8 b).2.1 := by decide +kernel
theorem tyX8_ok : ∀ k, k < 6 → parseFieldDescriptor (TX8 k).2.2.1 = some (tyX8 k) := by decide +kernel
abbrev cX8_init : ByteArray := prog_1_method_1_code
def yX8_init : MethodName := ⟨RX8, "<init>", "()V"⟩
abbrev cX8_build : ByteArray := prog_1_method_2_code
def yX8_build : MethodName := ⟨RX8, "build", "(II)I"⟩
abbrev cX8_setSign : ByteArray := prog_1_method_3_code
def yX8_setSign : MethodName := ⟨RX8, "setSign", "(IC)I"⟩
abbrev cX8_setShift : ByteArray := prog_1_method_4_code
def yX8_setShift : MethodName := ⟨RX8, "setShift", "(II)I"⟩
abbrev cX8_borrow : ByteArray := prog_1_method_5_code
def yX8_borrow : MethodName := ⟨RX8, "borrow", "(IZ)I"⟩
abbrev cX8_set : ByteArray := prog_1_method_6_code
def yX8_set : MethodName := ⟨RX8, "set", "(II)I"⟩
abbrev cX8_press : ByteArray := prog_1_method_7_code
def yX8_press : MethodName := ⟨RX8, "press", "(II)I"⟩
abbrev cX8_release : ByteArray := prog_1_method_8_code
def yX8_release : MethodName := ⟨RX8, "release", "(II)I"⟩
abbrev cX8_tick : ByteArray := prog_1_method_9_code
def yX8_tick : MethodName := ⟨RX8, "tick", "(I)I"⟩
abbrev cX8_settle : ByteArray := prog_1_method_10_code
def yX8_settle : MethodName := ⟨RX8, "settle", "(II)I"⟩
abbrev cX8_type : ByteArray := prog_1_method_11_code
def yX8_type : MethodName := ⟨RX8, "type", "(C)I"⟩
abbrev cX8_clearText : ByteArray := prog_1_method_12_code
def yX8_clearText : MethodName := ⟨RX8, "clearText", "()I"⟩
abbrev cX8_perform : ByteArray := prog_1_method_13_code
def yX8_perform : MethodName := ⟨RX8, "perform", "()I"⟩
abbrev cX8_move : ByteArray := prog_1_method_14_code
def yX8_move : MethodName := ⟨RX8, "move", "(II)I"⟩
abbrev cX8_undo : ByteArray := prog_1_method_15_code
def yX8_undo : MethodName := ⟨RX8, "undo", "()I"⟩
abbrev cX8_keep : ByteArray := prog_1_method_16_code
def yX8_keep : MethodName := ⟨RX8, "keep", "()I"⟩
abbrev cX8_restore : ByteArray := prog_1_method_17_code
def yX8_restore : MethodName := ⟨RX8, "restore", "()I"⟩
abbrev cX8_key : ByteArray := prog_1_method_18_code
def yX8_key : MethodName := ⟨RX8, "key", "(II)I"⟩
abbrev cX8_typist : ByteArray := prog_1_method_19_code
def yX8_typist : MethodName := ⟨RX8, "typist", "(II)I"⟩
abbrev cX8_style : ByteArray := prog_1_method_20_code
def yX8_style : MethodName := ⟨RX8, "style", "(II)F"⟩
abbrev cX8_hundredths : ByteArray := prog_1_method_21_code
def yX8_hundredths : MethodName := ⟨RX8, "hundredths", "(II)I"⟩
abbrev cX8_typed : ByteArray := prog_1_method_22_code
def yX8_typed : MethodName := ⟨RX8, "typed", "(II)I"⟩
abbrev cX8_stroke : ByteArray := prog_1_method_23_code
def yX8_stroke : MethodName := ⟨RX8, "stroke", "(II)I"⟩
abbrev cX8_dispute : ByteArray := prog_1_method_24_code
def yX8_dispute : MethodName := ⟨RX8, "dispute", "(II)I"⟩
abbrev cX8_distance : ByteArray := prog_1_method_25_code
def yX8_distance : MethodName := ⟨RX8, "distance", "(III)F"⟩
abbrev cX8_verdict : ByteArray := prog_1_method_26_code
def yX8_verdict : MethodName := ⟨RX8, "verdict", "(I)I"⟩
abbrev cX8_ghostsBy : ByteArray := prog_1_method_27_code
def yX8_ghostsBy : MethodName := ⟨RX8, "ghostsBy", "(I)I"⟩
abbrev cX8_count : ByteArray := prog_1_method_28_code
def yX8_count : MethodName := ⟨RX8, "count", "(I)I"⟩
abbrev cX8_isMean : ByteArray := prog_1_method_29_code
def yX8_isMean : MethodName := ⟨RX8, "isMean", "(I)Z"⟩
abbrev cX8_meanOf : ByteArray := prog_1_method_30_code
def yX8_meanOf : MethodName := ⟨RX8, "meanOf", "(II)F"⟩
abbrev cX8_orNone : ByteArray := prog_1_method_31_code
def yX8_orNone : MethodName := ⟨RX8, "orNone", "(I)I"⟩
def RX9 : String := "BlanketKeysModel"
def TX9 : u_T := fun k => match k with
  | 0 => ("BlanketKeysModel", "row", "[I", true)
  | 1 => ("BlanketKeysModel", "past", "[I", true)
  | 2 => ("BlanketKeysModel", "aside", "[I", true)
  | 3 => ("BlanketKeysModel", "before", "[I", true)
  | 4 => ("BlanketKeysModel", "style", "[F", true)
  | 5 => ("BlanketKeysModel", "pastStyle", "[F", true)
  | 6 => ("BlanketKeysModel", "asideStyle", "[F", true)
  | 7 => ("BlanketKeysModel", "beforeStyle", "[F", true)
  | 8 => ("BlanketKeysModel", "states", "I", false)
  | 9 => ("BlanketKeysModel", "isAside", "Z", false)
  | 10 => ("BlanketKeysModel", "text", "[C", true)
  | 11 => ("BlanketKeysModel", "length", "I", false)
  | 12 => ("BlanketKeysModel", "at", "I", false)
  | 13 => ("BlanketKeysModel", "columnsNow", "I", false)
  | _ => ("BlanketKeysModel", "rowsNow", "I", false)
def tyX9 : Nat → FieldType := fun k => match k with
  | 0 => .array .int
  | 1 => .array .int
  | 2 => .array .int
  | 3 => .array .int
  | 4 => .array .float
  | 5 => .array .float
  | 6 => .array .float
  | 7 => .array .float
  | 8 => .int
  | 9 => .boolean
  | 10 => .array .char
  | 11 => .int
  | 12 => .int
  | 13 => .int
  | _ => .int
abbrev wsX90 : List Cond := u_ws RX9 TX9 15
theorem nmX9 : ∀ a, a < 15 → ∀ b, b < 15 → a ≠ b → (TX9 a).2.1 ≠ (TX9 b).2.1 := by decide +kernel
theorem tyX9_ok : ∀ k, k < 15 → parseFieldDescriptor (TX9 k).2.2.1 = some (tyX9 k) := by decide +kernel
abbrev cX9_init : ByteArray := prog_11_method_1_code
def yX9_init : MethodName := ⟨RX9, "<init>", "()V"⟩
abbrev cX9_clearKeys : ByteArray := prog_11_method_2_code
def yX9_clearKeys : MethodName := ⟨RX9, "clearKeys", "()V"⟩
abbrev cX9_in : ByteArray := prog_11_method_3_code
def yX9_in : MethodName := ⟨RX9, "in", "(III)Z"⟩
abbrev cX9_remember : ByteArray := prog_11_method_4_code
def yX9_remember : MethodName := ⟨RX9, "remember", "()V"⟩
abbrev cX9_goBack : ByteArray := prog_11_method_5_code
def yX9_goBack : MethodName := ⟨RX9, "goBack", "()V"⟩
abbrev cX9_record : ByteArray := prog_11_method_6_code
def yX9_record : MethodName := ⟨RX9, "record", "()V"⟩
abbrev cX9_begin : ByteArray := prog_11_method_7_code
def yX9_begin : MethodName := ⟨RX9, "begin", "()V"⟩
abbrev cX9_undo : ByteArray := prog_11_method_8_code
def yX9_undo : MethodName := ⟨RX9, "undo", "()I"⟩
abbrev cX9_keep : ByteArray := prog_11_method_9_code
def yX9_keep : MethodName := ⟨RX9, "keep", "()I"⟩
abbrev cX9_restore : ByteArray := prog_11_method_10_code
def yX9_restore : MethodName := ⟨RX9, "restore", "()I"⟩
abbrev cX9_keys : ByteArray := prog_11_method_11_code
def yX9_keys : MethodName := ⟨RX9, "keys", "()I"⟩
abbrev cX9_noKey : ByteArray := prog_11_method_12_code
def yX9_noKey : MethodName := ⟨RX9, "noKey", "(I)Z"⟩
abbrev cX9_noTypist : ByteArray := prog_11_method_13_code
def yX9_noTypist : MethodName := ⟨RX9, "noTypist", "(I)Z"⟩
abbrev cX9_isDown : ByteArray := prog_11_method_14_code
def yX9_isDown : MethodName := ⟨RX9, "isDown", "(I)Z"⟩
abbrev cX9_isSeen : ByteArray := prog_11_method_15_code
def yX9_isSeen : MethodName := ⟨RX9, "isSeen", "(I)Z"⟩
abbrev cX9_build : ByteArray := prog_11_method_16_code
def yX9_build : MethodName := ⟨RX9, "build", "(II)I"⟩
abbrev cX9_shiftOf : ByteArray := prog_11_method_17_code
def yX9_shiftOf : MethodName := ⟨RX9, "shiftOf", "(I)I"⟩
abbrev cX9_setSign : ByteArray := prog_11_method_18_code
def yX9_setSign : MethodName := ⟨RX9, "setSign", "(IC)I"⟩
abbrev cX9_setShift : ByteArray := prog_11_method_19_code
def yX9_setShift : MethodName := ⟨RX9, "setShift", "(II)I"⟩
abbrev cX9_borrow : ByteArray := prog_11_method_20_code
def yX9_borrow : MethodName := ⟨RX9, "borrow", "(IZ)I"⟩
abbrev cX9_set : ByteArray := prog_11_method_21_code
def yX9_set : MethodName := ⟨RX9, "set", "(II)I"⟩
abbrev cX9_drive : ByteArray := prog_11_method_22_code
def yX9_drive : MethodName := ⟨RX9, "drive", "(I)V"⟩
abbrev cX9_wouldSense : ByteArray := prog_11_method_23_code
def yX9_wouldSense : MethodName := ⟨RX9, "wouldSense", "(I)Z"⟩
abbrev cX9_closesCorner : ByteArray := prog_11_method_24_code
def yX9_closesCorner : MethodName := ⟨RX9, "closesCorner", "(I)Z"⟩
abbrev cX9_isOn : ByteArray := prog_11_method_25_code
def yX9_isOn : MethodName := ⟨RX9, "isOn", "(I)Z"⟩
abbrev cX9_step : ByteArray := prog_11_method_26_code
def yX9_step : MethodName := ⟨RX9, "step", "()I"⟩
abbrev cX9_size : ByteArray := prog_11_method_27_code
def yX9_size : MethodName := ⟨RX9, "size", "(F)F"⟩
abbrev cX9_gap : ByteArray := prog_11_method_28_code
def yX9_gap : MethodName := ⟨RX9, "gap", "(II)I"⟩
abbrev cX9_off : ByteArray := prog_11_method_29_code
def yX9_off : MethodName := ⟨RX9, "off", "(III)F"⟩
abbrev cX9_learned : ByteArray := prog_11_method_30_code
def yX9_learned : MethodName := ⟨RX9, "learned", "(FI)F"⟩
abbrev cX9_learn : ByteArray := prog_11_method_31_code
def yX9_learn : MethodName := ⟨RX9, "learn", "(III)V"⟩
abbrev cX9_judged : ByteArray := prog_11_method_32_code
def yX9_judged : MethodName := ⟨RX9, "judged", "(I)I"⟩
abbrev cX9_giveSign : ByteArray := prog_11_method_33_code
def yX9_giveSign : MethodName := ⟨RX9, "giveSign", "(III)V"⟩
abbrev cX9_countIt : ByteArray := prog_11_method_34_code
def yX9_countIt : MethodName := ⟨RX9, "countIt", "(II)V"⟩
abbrev cX9_endStroke : ByteArray := prog_11_method_35_code
def yX9_endStroke : MethodName := ⟨RX9, "endStroke", "(I)V"⟩
abbrev cX9_held : ByteArray := prog_11_method_36_code
def yX9_held : MethodName := ⟨RX9, "held", "(I)I"⟩
abbrev cX9_againstPress : ByteArray := prog_11_method_37_code
def yX9_againstPress : MethodName := ⟨RX9, "againstPress", "(II)I"⟩
abbrev cX9_againstRelease : ByteArray := prog_11_method_38_code
def yX9_againstRelease : MethodName := ⟨RX9, "againstRelease", "(II)I"⟩
abbrev cX9_press : ByteArray := prog_11_method_39_code
def yX9_press : MethodName := ⟨RX9, "press", "(II)I"⟩
abbrev cX9_release : ByteArray := prog_11_method_40_code
def yX9_release : MethodName := ⟨RX9, "release", "(II)I"⟩
abbrev cX9_steps : ByteArray := prog_11_method_41_code
def yX9_steps : MethodName := ⟨RX9, "steps", "(I)I"⟩
abbrev cX9_tick : ByteArray := prog_11_method_42_code
def yX9_tick : MethodName := ⟨RX9, "tick", "(I)I"⟩
abbrev cX9_noDispute : ByteArray := prog_11_method_43_code
def yX9_noDispute : MethodName := ⟨RX9, "noDispute", "(I)Z"⟩
abbrev cX9_settle : ByteArray := prog_11_method_44_code
def yX9_settle : MethodName := ⟨RX9, "settle", "(II)I"⟩
abbrev cX9_type : ByteArray := prog_11_method_45_code
def yX9_type : MethodName := ⟨RX9, "type", "(C)I"⟩
abbrev cX9_clearText : ByteArray := prog_11_method_46_code
def yX9_clearText : MethodName := ⟨RX9, "clearText", "()I"⟩
abbrev cX9_sees : ByteArray := prog_11_method_47_code
def yX9_sees : MethodName := ⟨RX9, "sees", "(II)Z"⟩
abbrev cX9_readsNumber : ByteArray := prog_11_method_48_code
def yX9_readsNumber : MethodName := ⟨RX9, "readsNumber", "(I)I"⟩
abbrev cX9_move : ByteArray := prog_11_method_49_code
def yX9_move : MethodName := ⟨RX9, "move", "(Z)I"⟩
abbrev cX9_moves : ByteArray := prog_11_method_50_code
def yX9_moves : MethodName := ⟨RX9, "moves", "(Z)I"⟩
abbrev cX9_perform : ByteArray := prog_11_method_51_code
def yX9_perform : MethodName := ⟨RX9, "perform", "()I"⟩
abbrev cX9_key : ByteArray := prog_11_method_52_code
def yX9_key : MethodName := ⟨RX9, "key", "(II)I"⟩
abbrev cX9_typist : ByteArray := prog_11_method_53_code
def yX9_typist : MethodName := ⟨RX9, "typist", "(II)I"⟩
abbrev cX9_style : ByteArray := prog_11_method_54_code
def yX9_style : MethodName := ⟨RX9, "style", "(II)F"⟩
abbrev cX9_hundredths : ByteArray := prog_11_method_55_code
def yX9_hundredths : MethodName := ⟨RX9, "hundredths", "(II)I"⟩
abbrev cX9_typed : ByteArray := prog_11_method_56_code
def yX9_typed : MethodName := ⟨RX9, "typed", "(II)I"⟩
abbrev cX9_stroke : ByteArray := prog_11_method_57_code
def yX9_stroke : MethodName := ⟨RX9, "stroke", "(II)I"⟩
abbrev cX9_dispute : ByteArray := prog_11_method_58_code
def yX9_dispute : MethodName := ⟨RX9, "dispute", "(II)I"⟩
abbrev cX9_distance : ByteArray := prog_11_method_59_code
def yX9_distance : MethodName := ⟨RX9, "distance", "(III)F"⟩
abbrev cX9_verdict : ByteArray := prog_11_method_60_code
def yX9_verdict : MethodName := ⟨RX9, "verdict", "(I)I"⟩
abbrev cX9_ghostsBy : ByteArray := prog_11_method_61_code
def yX9_ghostsBy : MethodName := ⟨RX9, "ghostsBy", "(I)I"⟩
abbrev cX9_openDisputes : ByteArray := prog_11_method_62_code
def yX9_openDisputes : MethodName := ⟨RX9, "openDisputes", "()I"⟩
abbrev cX9_keysThat : ByteArray := prog_11_method_63_code
def yX9_keysThat : MethodName := ⟨RX9, "keysThat", "(I)I"⟩
abbrev cX9_count : ByteArray := prog_11_method_64_code
def yX9_count : MethodName := ⟨RX9, "count", "(I)I"⟩
def RJx145de : String := "java/io/Serializable"
def RJxb160c : String := "java/lang/Comparable"
def RJxf58ca : String := "java/lang/Float"
abbrev cJxf58ca_isNaN_12338 : ByteArray := prog_12_method_6_code
def yJxf58ca_isNaN_12338 : MethodName := ⟨RJxf58ca, "isNaN", "(F)Z"⟩
abbrev cJxf58ca_floatToIntBits_5c35a : ByteArray := prog_12_method_24_code
def yJxf58ca_floatToIntBits_5c35a : MethodName := ⟨RJxf58ca, "floatToIntBits", "(F)I"⟩
def RJ6 : String := "java/lang/Integer"
abbrev cJ6_bitCount_0f7a4 : ByteArray := prog_13_method_49_code
def yJ6_bitCount_0f7a4 : MethodName := ⟨RJ6, "bitCount", "(I)I"⟩
def RJ9 : String := "java/lang/Math"
abbrev cJ9_floorMod_7cf53 : ByteArray := prog_14_method_50_code
def yJ9_floorMod_7cf53 : MethodName := ⟨RJ9, "floorMod", "(II)I"⟩
abbrev cJ9_abs_0f7a4 : ByteArray := prog_14_method_59_code
def yJ9_abs_0f7a4 : MethodName := ⟨RJ9, "abs", "(I)I"⟩
abbrev cJ9_min_7cf53 : ByteArray := prog_14_method_69_code
def yJ9_min_7cf53 : MethodName := ⟨RJ9, "min", "(II)I"⟩
def RJxd2413 : String := "java/lang/Number"
def RJ10 : String := "java/lang/System"
def RJxfd54e : String := "java/lang/constant/Constable"
def RJx3cf43 : String := "java/lang/constant/ConstantDesc"
def RJ7 : String := "java/util/Arrays"
abbrev cJ7_fill_53178 : ByteArray := prog_17_method_103_code
def yJ7_fill_53178 : MethodName := ⟨RJ7, "fill", "([II)V"⟩
def RL : String := "BlanketKeysLaw"
abbrev cL_law : ByteArray := code
def yL_law : MethodName := ⟨RL, "law", "([I)Z"⟩
abbrev vwCl : List vw_C := [(RX0, TX0, 11), (RX2, TX2, 5), (RX3, TX3, 2), (RX4, TX4, 4), (RX5, TX5, 10), (RX6, TX6, 8), (RX7, TX7, 8), (RX8, TX8, 6), (RX9, TX9, 15)]
end
section
/-- the words of the tables that a callee may be handed -/
def TT : List Cond := lw_tbl.filter goodWord
theorem TTm {w : Cond} (h : w ∈ lw_tbl) (g : goodWord w = true) : w ∈ TT := List.mem_filter.mpr ⟨h, g⟩
theorem TTs {w : Cond} (h : w ∈ TT) : w ∈ lw_tbl := (List.mem_filter.mp h).1
theorem TTg : GoodIn TT TT := fun w h => ⟨h, good_of_word (List.mem_filter.mp h).2⟩
theorem t0_in {w : Cond} (h : w ∈ k2_sels lw_privs) (g : goodWord w = true) : w ∈ TT := TTm (List.mem_append_left _ h) g
theorem t1_in {w : Cond} (h : w ∈ tables_1_1) (g : goodWord w = true) : w ∈ TT := TTm (List.mem_append_right _ (List.mem_append_left _ h)) g
theorem t2_in {w : Cond} (h : w ∈ tables_1_2) (g : goodWord w = true) : w ∈ TT := TTm (List.mem_append_right _ (List.mem_append_right _ (List.mem_append_left _ h))) g
theorem t3_in {w : Cond} (h : w ∈ tables_1_3) (g : goodWord w = true) : w ∈ TT := TTm (List.mem_append_right _ (List.mem_append_right _ (List.mem_append_right _ (List.mem_append_left _ h)))) g
theorem t4_in {w : Cond} (h : w ∈ tables_1_4) (g : goodWord w = true) : w ∈ TT := TTm (List.mem_append_right _ (List.mem_append_right _ (List.mem_append_right _ (List.mem_append_right _ (List.mem_append_left _ h))))) g
theorem t5_in {w : Cond} (h : w ∈ tables_1_5) (g : goodWord w = true) : w ∈ TT := TTm (List.mem_append_right _ (List.mem_append_right _ (List.mem_append_right _ (List.mem_append_right _ (List.mem_append_right _ h))))) g
theorem wt1_0 : Cond.initialized RL ∈ TT := t1_in (List.mem_of_getElem? (i := 0) rfl) rfl
theorem wt1_1 : Cond.initialized RX8 ∈ TT := t1_in (List.mem_of_getElem? (i := 1) rfl) rfl
theorem wt1_2 : Cond.initialized RX5 ∈ TT := t1_in (List.mem_of_getElem? (i := 2) rfl) rfl
theorem wt1_3 : Cond.initialized RX0 ∈ TT := t1_in (List.mem_of_getElem? (i := 3) rfl) rfl
theorem wt1_4 : Cond.initialized RJ7 ∈ TT := t1_in (List.mem_of_getElem? (i := 4) rfl) rfl
theorem wt1_5 : Cond.initialized RX7 ∈ TT := t1_in (List.mem_of_getElem? (i := 5) rfl) rfl
theorem wt1_6 : Cond.initialized RX6 ∈ TT := t1_in (List.mem_of_getElem? (i := 6) rfl) rfl
theorem wt1_7 : Cond.initialized RX4 ∈ TT := t1_in (List.mem_of_getElem? (i := 7) rfl) rfl
theorem wt1_8 : Cond.initialized RX2 ∈ TT := t1_in (List.mem_of_getElem? (i := 8) rfl) rfl
theorem wt1_9 : Cond.initialized RX3 ∈ TT := t1_in (List.mem_of_getElem? (i := 9) rfl) rfl
theorem wt1_10 : Cond.initialized RX9 ∈ TT := t1_in (List.mem_of_getElem? (i := 10) rfl) rfl
theorem wt1_11 : Cond.initialized RX1 ∈ TT := t1_in (List.mem_of_getElem? (i := 11) rfl) rfl
theorem wt1_12 : Cond.initialized RJxd2413 ∈ TT := t1_in (List.mem_of_getElem? (i := 12) rfl) rfl
theorem wt1_13 : Cond.initialized RJ6 ∈ TT := t1_in (List.mem_of_getElem? (i := 13) rfl) rfl
theorem wt1_14 : Cond.initialized RJ9 ∈ TT := t1_in (List.mem_of_getElem? (i := 14) rfl) rfl
theorem wt1_15 : Cond.initialized RJ10 ∈ TT := t1_in (List.mem_of_getElem? (i := 15) rfl) rfl
theorem wt1_16 : Cond.initialized RJxf58ca ∈ TT := t1_in (List.mem_of_getElem? (i := 16) rfl) rfl
theorem wt1_17 : Cond.classLink RL 7 RX8 ∈ TT := t1_in (List.mem_of_getElem? (i := 17) rfl) rfl
theorem wt1_18 : Cond.instantiable RX8 6 ∈ TT := t1_in (List.mem_of_getElem? (i := 18) rfl) rfl
theorem wt1_19 : Cond.methodLink RL 9 yX8_init ∈ TT := t1_in (List.mem_of_getElem? (i := 19) rfl) rfl
theorem wt1_20 : Cond.instanceMethod yX8_init ∈ TT := t1_in (List.mem_of_getElem? (i := 20) rfl) rfl
theorem wt1_21 : Cond.code yX8_init cX8_init 1 none ∈ TT := t1_in (List.mem_of_getElem? (i := 21) rfl) rfl
theorem wt1_22 : Cond.methodLink RX8 3 ⟨"java/lang/Object", "<init>", "()V"⟩ ∈ TT := t1_in (List.mem_of_getElem? (i := 22) rfl) rfl
theorem wt1_23 : Cond.instanceMethod ⟨"java/lang/Object", "<init>", "()V"⟩ ∈ TT := t1_in (List.mem_of_getElem? (i := 23) rfl) rfl
theorem wt1_24 : Cond.code ⟨"java/lang/Object", "<init>", "()V"⟩ object_method_1_code 1 none ∈ TT := t1_in (List.mem_of_getElem? (i := 24) rfl) rfl
theorem wt1_25 : Cond.classLink RX8 9 RX5 ∈ TT := t1_in (List.mem_of_getElem? (i := 25) rfl) rfl
theorem wt1_26 : Cond.instantiable RX5 10 ∈ TT := t1_in (List.mem_of_getElem? (i := 26) rfl) rfl
theorem wn1_27 : Cond.methodLinkNest RX8 11 yX5_init RX8 ∈ lw_tbl := (fun h => List.mem_append_right _ (List.mem_append_left _ h)) (List.mem_of_getElem? (l := tables_1_1) (i := 27) rfl)
theorem wt1_28 : Cond.instanceMethod yX5_init ∈ TT := t1_in (List.mem_of_getElem? (i := 28) rfl) rfl
theorem wt1_29 : Cond.code yX5_init cX5_init 1 none ∈ TT := t1_in (List.mem_of_getElem? (i := 29) rfl) rfl
theorem wt1_30 : Cond.methodLink RX5 3 ⟨"java/lang/Object", "<init>", "()V"⟩ ∈ TT := t1_in (List.mem_of_getElem? (i := 30) rfl) rfl
theorem wt1_31 : Cond.classLink RX5 9 RX0 ∈ TT := t1_in (List.mem_of_getElem? (i := 31) rfl) rfl
theorem wt1_32 : Cond.instantiable RX0 11 ∈ TT := t1_in (List.mem_of_getElem? (i := 32) rfl) rfl
theorem wt1_33 : Cond.methodLink RX5 11 yX0_init ∈ TT := t1_in (List.mem_of_getElem? (i := 33) rfl) rfl
theorem wt1_34 : Cond.instanceMethod yX0_init ∈ TT := t1_in (List.mem_of_getElem? (i := 34) rfl) rfl
theorem wt1_35 : Cond.code yX0_init cX0_init 1 none ∈ TT := t1_in (List.mem_of_getElem? (i := 35) rfl) rfl
theorem wt1_36 : Cond.methodLink RX0 3 ⟨"java/lang/Object", "<init>", "()V"⟩ ∈ TT := t1_in (List.mem_of_getElem? (i := 36) rfl) rfl
theorem wt1_37 : Cond.methodLink RX0 46 yJ7_fill_53178 ∈ TT := t1_in (List.mem_of_getElem? (i := 37) rfl) rfl
theorem wt1_38 : Cond.static yJ7_fill_53178 ∈ TT := t1_in (List.mem_of_getElem? (i := 38) rfl) rfl
theorem wt1_39 : Cond.code yJ7_fill_53178 cJ7_fill_53178 4 none ∈ TT := t1_in (List.mem_of_getElem? (i := 39) rfl) rfl
theorem wt1_40 : Cond.fieldLink RX0 9 "BlanketKeys$Board" "rows" "I" ∈ TT := t1_in (List.mem_of_getElem? (i := 40) rfl) rfl
theorem wt1_41 : Cond.fieldLink RX8 53 "BlanketKeys$Board" "rows" "I" ∈ TT := t1_in (List.mem_of_getElem? (i := 41) rfl) rfl
theorem wt1_42 : Cond.fieldLink RX5 97 "BlanketKeys$Board" "rows" "I" ∈ TT := t1_in (List.mem_of_getElem? (i := 42) rfl) rfl
theorem wt1_43 : Cond.fieldLink RX0 15 "BlanketKeys$Board" "columns" "I" ∈ TT := t1_in (List.mem_of_getElem? (i := 43) rfl) rfl
theorem wt1_44 : Cond.fieldLink RX8 57 "BlanketKeys$Board" "columns" "I" ∈ TT := t1_in (List.mem_of_getElem? (i := 44) rfl) rfl
theorem wt1_45 : Cond.fieldLink RX5 123 "BlanketKeys$Board" "columns" "I" ∈ TT := t1_in (List.mem_of_getElem? (i := 45) rfl) rfl
theorem wt1_46 : Cond.fieldLink RX0 18 "BlanketKeys$Board" "holders" "[I" ∈ TT := t1_in (List.mem_of_getElem? (i := 46) rfl) rfl
theorem wt1_47 : Cond.fieldLink RX0 22 "BlanketKeys$Board" "signs" "[I" ∈ TT := t1_in (List.mem_of_getElem? (i := 47) rfl) rfl
theorem wt1_48 : Cond.fieldLink RX0 25 "BlanketKeys$Board" "sinces" "[I" ∈ TT := t1_in (List.mem_of_getElem? (i := 48) rfl) rfl
theorem wt1_49 : Cond.fieldLink RX0 28 "BlanketKeys$Board" "notedShifts" "[I" ∈ TT := t1_in (List.mem_of_getElem? (i := 49) rfl) rfl
theorem wt1_50 : Cond.fieldLink RX0 31 "BlanketKeys$Board" "trueHolders" "[I" ∈ TT := t1_in (List.mem_of_getElem? (i := 50) rfl) rfl
theorem wt1_51 : Cond.fieldLink RX0 34 "BlanketKeys$Board" "down" "[I" ∈ TT := t1_in (List.mem_of_getElem? (i := 51) rfl) rfl
theorem wt1_52 : Cond.fieldLink RX0 37 "BlanketKeys$Board" "seen" "[I" ∈ TT := t1_in (List.mem_of_getElem? (i := 52) rfl) rfl
theorem wt1_53 : Cond.fieldLink RX5 110 "BlanketKeys$Board" "seen" "[I" ∈ TT := t1_in (List.mem_of_getElem? (i := 53) rfl) rfl
theorem wt1_54 : Cond.fieldLink RX0 40 "BlanketKeys$Board" "doubtful" "[I" ∈ TT := t1_in (List.mem_of_getElem? (i := 54) rfl) rfl
theorem wt1_55 : Cond.fieldLink RX0 43 "BlanketKeys$Board" "shifts" "[I" ∈ TT := t1_in (List.mem_of_getElem? (i := 55) rfl) rfl
theorem wt1_56 : Cond.lays RX0 "BlanketKeys$Board" "rows" "I" ∈ TT := t1_in (List.mem_of_getElem? (i := 56) rfl) rfl
theorem wt1_58 : Cond.lays RX0 "BlanketKeys$Board" "columns" "I" ∈ TT := t1_in (List.mem_of_getElem? (i := 58) rfl) rfl
theorem wt1_60 : Cond.laysFinal RX0 "BlanketKeys$Board" "holders" "[I" ∈ TT := t1_in (List.mem_of_getElem? (i := 60) rfl) rfl
theorem wt1_62 : Cond.laysFinal RX0 "BlanketKeys$Board" "signs" "[I" ∈ TT := t1_in (List.mem_of_getElem? (i := 62) rfl) rfl
theorem wt1_64 : Cond.laysFinal RX0 "BlanketKeys$Board" "sinces" "[I" ∈ TT := t1_in (List.mem_of_getElem? (i := 64) rfl) rfl
theorem wt1_66 : Cond.laysFinal RX0 "BlanketKeys$Board" "notedShifts" "[I" ∈ TT := t1_in (List.mem_of_getElem? (i := 66) rfl) rfl
theorem wt1_68 : Cond.laysFinal RX0 "BlanketKeys$Board" "trueHolders" "[I" ∈ TT := t1_in (List.mem_of_getElem? (i := 68) rfl) rfl
theorem wt1_70 : Cond.laysFinal RX0 "BlanketKeys$Board" "down" "[I" ∈ TT := t1_in (List.mem_of_getElem? (i := 70) rfl) rfl
theorem wt1_72 : Cond.laysFinal RX0 "BlanketKeys$Board" "seen" "[I" ∈ TT := t1_in (List.mem_of_getElem? (i := 72) rfl) rfl
theorem wt1_74 : Cond.laysFinal RX0 "BlanketKeys$Board" "doubtful" "[I" ∈ TT := t1_in (List.mem_of_getElem? (i := 74) rfl) rfl
theorem wt1_76 : Cond.laysFinal RX0 "BlanketKeys$Board" "shifts" "[I" ∈ TT := t1_in (List.mem_of_getElem? (i := 76) rfl) rfl
theorem wt1_79 : Cond.arrayClass .int ∈ TT := t1_in (List.mem_of_getElem? (i := 79) rfl) rfl
theorem wt1_80 : Cond.classLink RX5 18 RX7 ∈ TT := t1_in (List.mem_of_getElem? (i := 80) rfl) rfl
theorem wt1_81 : Cond.instantiable RX7 8 ∈ TT := t1_in (List.mem_of_getElem? (i := 81) rfl) rfl
theorem wt1_82 : Cond.constantFloat RX5 20 (1082130432) ∈ TT := t1_in (List.mem_of_getElem? (i := 82) rfl) rfl
theorem wt1_83 : Cond.constantFloat RX5 21 (1086324736) ∈ TT := t1_in (List.mem_of_getElem? (i := 83) rfl) rfl
theorem wt1_84 : Cond.methodLink RX5 22 yX7_init ∈ TT := t1_in (List.mem_of_getElem? (i := 84) rfl) rfl
theorem wt1_85 : Cond.instanceMethod yX7_init ∈ TT := t1_in (List.mem_of_getElem? (i := 85) rfl) rfl
theorem wt1_86 : Cond.code yX7_init cX7_init 3 none ∈ TT := t1_in (List.mem_of_getElem? (i := 86) rfl) rfl
theorem wt1_87 : Cond.methodLink RX7 3 ⟨"java/lang/Object", "<init>", "()V"⟩ ∈ TT := t1_in (List.mem_of_getElem? (i := 87) rfl) rfl
theorem wt1_88 : Cond.fieldLink RX7 19 "BlanketKeys$Typist" "meanDwell" "F" ∈ TT := t1_in (List.mem_of_getElem? (i := 88) rfl) rfl
theorem wt1_89 : Cond.fieldLink RX8 289 "BlanketKeys$Typist" "meanDwell" "F" ∈ TT := t1_in (List.mem_of_getElem? (i := 89) rfl) rfl
theorem wt1_90 : Cond.fieldLink RX7 23 "BlanketKeys$Typist" "meanGap" "F" ∈ TT := t1_in (List.mem_of_getElem? (i := 90) rfl) rfl
theorem wt1_91 : Cond.fieldLink RX8 293 "BlanketKeys$Typist" "meanGap" "F" ∈ TT := t1_in (List.mem_of_getElem? (i := 91) rfl) rfl
theorem wt1_92 : Cond.fieldLink RX7 9 "BlanketKeys$Typist" "last" "I" ∈ TT := t1_in (List.mem_of_getElem? (i := 92) rfl) rfl
theorem wt1_93 : Cond.fieldLink RX8 236 "BlanketKeys$Typist" "last" "I" ∈ TT := t1_in (List.mem_of_getElem? (i := 93) rfl) rfl
theorem wt1_94 : Cond.fieldLink RX7 26 "BlanketKeys$Typist" "borrows" "Z" ∈ TT := t1_in (List.mem_of_getElem? (i := 94) rfl) rfl
theorem wt1_95 : Cond.fieldLink RX8 99 "BlanketKeys$Typist" "borrows" "Z" ∈ TT := t1_in (List.mem_of_getElem? (i := 95) rfl) rfl
theorem wt1_96 : Cond.fieldLink RX5 210 "BlanketKeys$Typist" "borrows" "Z" ∈ TT := t1_in (List.mem_of_getElem? (i := 96) rfl) rfl
theorem wt1_97 : Cond.fieldLink RX7 30 "BlanketKeys$Typist" "credited" "I" ∈ TT := t1_in (List.mem_of_getElem? (i := 97) rfl) rfl
theorem wt1_98 : Cond.fieldLink RX5 187 "BlanketKeys$Typist" "credited" "I" ∈ TT := t1_in (List.mem_of_getElem? (i := 98) rfl) rfl
theorem wt1_99 : Cond.fieldLink RX8 227 "BlanketKeys$Typist" "credited" "I" ∈ TT := t1_in (List.mem_of_getElem? (i := 99) rfl) rfl
theorem wt1_100 : Cond.fieldLink RX7 33 "BlanketKeys$Typist" "creditedRightly" "I" ∈ TT := t1_in (List.mem_of_getElem? (i := 100) rfl) rfl
theorem wt1_101 : Cond.fieldLink RX5 190 "BlanketKeys$Typist" "creditedRightly" "I" ∈ TT := t1_in (List.mem_of_getElem? (i := 101) rfl) rfl
theorem wt1_102 : Cond.fieldLink RX8 230 "BlanketKeys$Typist" "creditedRightly" "I" ∈ TT := t1_in (List.mem_of_getElem? (i := 102) rfl) rfl
theorem wt1_103 : Cond.fieldLink RX7 36 "BlanketKeys$Typist" "signCount" "I" ∈ TT := t1_in (List.mem_of_getElem? (i := 103) rfl) rfl
theorem wt1_104 : Cond.fieldLink RX8 233 "BlanketKeys$Typist" "signCount" "I" ∈ TT := t1_in (List.mem_of_getElem? (i := 104) rfl) rfl
theorem wt1_105 : Cond.fieldLink RX7 15 "BlanketKeys$Typist" "signs" "[I" ∈ TT := t1_in (List.mem_of_getElem? (i := 105) rfl) rfl
theorem wt1_106 : Cond.lays RX7 "BlanketKeys$Typist" "meanDwell" "F" ∈ TT := t1_in (List.mem_of_getElem? (i := 106) rfl) rfl
theorem wt1_108 : Cond.lays RX7 "BlanketKeys$Typist" "meanGap" "F" ∈ TT := t1_in (List.mem_of_getElem? (i := 108) rfl) rfl
theorem wt1_110 : Cond.lays RX7 "BlanketKeys$Typist" "last" "I" ∈ TT := t1_in (List.mem_of_getElem? (i := 110) rfl) rfl
theorem wt1_112 : Cond.lays RX7 "BlanketKeys$Typist" "borrows" "Z" ∈ TT := t1_in (List.mem_of_getElem? (i := 112) rfl) rfl
theorem wt1_114 : Cond.lays RX7 "BlanketKeys$Typist" "credited" "I" ∈ TT := t1_in (List.mem_of_getElem? (i := 114) rfl) rfl
theorem wt1_116 : Cond.lays RX7 "BlanketKeys$Typist" "creditedRightly" "I" ∈ TT := t1_in (List.mem_of_getElem? (i := 116) rfl) rfl
theorem wt1_118 : Cond.lays RX7 "BlanketKeys$Typist" "signCount" "I" ∈ TT := t1_in (List.mem_of_getElem? (i := 118) rfl) rfl
theorem wt1_120 : Cond.laysFinal RX7 "BlanketKeys$Typist" "signs" "[I" ∈ TT := t1_in (List.mem_of_getElem? (i := 120) rfl) rfl
theorem wt1_123 : Cond.constantFloat RX5 29 (1090519040) ∈ TT := t1_in (List.mem_of_getElem? (i := 123) rfl) rfl
theorem wt1_124 : Cond.constantFloat RX5 30 (1092616192) ∈ TT := t1_in (List.mem_of_getElem? (i := 124) rfl) rfl
theorem wt1_125 : Cond.classLink RX5 34 RX6 ∈ TT := t1_in (List.mem_of_getElem? (i := 125) rfl) rfl
theorem wt1_126 : Cond.instantiable RX6 8 ∈ TT := t1_in (List.mem_of_getElem? (i := 126) rfl) rfl
theorem wn1_127 : Cond.methodLinkNest RX5 36 yX6_init RX8 ∈ lw_tbl := (fun h => List.mem_append_right _ (List.mem_append_left _ h)) (List.mem_of_getElem? (l := tables_1_1) (i := 127) rfl)
theorem wt1_128 : Cond.instanceMethod yX6_init ∈ TT := t1_in (List.mem_of_getElem? (i := 128) rfl) rfl
theorem wt1_129 : Cond.code yX6_init cX6_init 1 none ∈ TT := t1_in (List.mem_of_getElem? (i := 129) rfl) rfl
theorem wt1_130 : Cond.methodLink RX6 3 ⟨"java/lang/Object", "<init>", "()V"⟩ ∈ TT := t1_in (List.mem_of_getElem? (i := 130) rfl) rfl
theorem wt1_131 : Cond.fieldLink RX6 33 "BlanketKeys$Strokes" "total" "I" ∈ TT := t1_in (List.mem_of_getElem? (i := 131) rfl) rfl
theorem wt1_132 : Cond.fieldLink RX5 77 "BlanketKeys$Strokes" "total" "I" ∈ TT := t1_in (List.mem_of_getElem? (i := 132) rfl) rfl
theorem wt1_133 : Cond.fieldLink RX8 254 "BlanketKeys$Strokes" "total" "I" ∈ TT := t1_in (List.mem_of_getElem? (i := 133) rfl) rfl
theorem wt1_134 : Cond.fieldLink RX6 11 "BlanketKeys$Strokes" "keys" "[I" ∈ TT := t1_in (List.mem_of_getElem? (i := 134) rfl) rfl
theorem wt1_135 : Cond.fieldLink RX6 15 "BlanketKeys$Strokes" "sinces" "[I" ∈ TT := t1_in (List.mem_of_getElem? (i := 135) rfl) rfl
theorem wt1_136 : Cond.fieldLink RX6 18 "BlanketKeys$Strokes" "dwells" "[I" ∈ TT := t1_in (List.mem_of_getElem? (i := 136) rfl) rfl
theorem wt1_137 : Cond.fieldLink RX6 21 "BlanketKeys$Strokes" "fates" "[I" ∈ TT := t1_in (List.mem_of_getElem? (i := 137) rfl) rfl
theorem wt1_138 : Cond.fieldLink RX6 24 "BlanketKeys$Strokes" "holders" "[I" ∈ TT := t1_in (List.mem_of_getElem? (i := 138) rfl) rfl
theorem wt1_139 : Cond.fieldLink RX6 27 "BlanketKeys$Strokes" "notedShifts" "[I" ∈ TT := t1_in (List.mem_of_getElem? (i := 139) rfl) rfl
theorem wt1_140 : Cond.fieldLink RX6 30 "BlanketKeys$Strokes" "origins" "[I" ∈ TT := t1_in (List.mem_of_getElem? (i := 140) rfl) rfl
theorem wt1_141 : Cond.lays RX6 "BlanketKeys$Strokes" "total" "I" ∈ TT := t1_in (List.mem_of_getElem? (i := 141) rfl) rfl
theorem wt1_143 : Cond.laysFinal RX6 "BlanketKeys$Strokes" "keys" "[I" ∈ TT := t1_in (List.mem_of_getElem? (i := 143) rfl) rfl
theorem wt1_145 : Cond.laysFinal RX6 "BlanketKeys$Strokes" "sinces" "[I" ∈ TT := t1_in (List.mem_of_getElem? (i := 145) rfl) rfl
theorem wt1_147 : Cond.laysFinal RX6 "BlanketKeys$Strokes" "dwells" "[I" ∈ TT := t1_in (List.mem_of_getElem? (i := 147) rfl) rfl
theorem wt1_149 : Cond.laysFinal RX6 "BlanketKeys$Strokes" "fates" "[I" ∈ TT := t1_in (List.mem_of_getElem? (i := 149) rfl) rfl
theorem wt1_151 : Cond.laysFinal RX6 "BlanketKeys$Strokes" "holders" "[I" ∈ TT := t1_in (List.mem_of_getElem? (i := 151) rfl) rfl
theorem wt1_153 : Cond.laysFinal RX6 "BlanketKeys$Strokes" "notedShifts" "[I" ∈ TT := t1_in (List.mem_of_getElem? (i := 153) rfl) rfl
theorem wt1_155 : Cond.laysFinal RX6 "BlanketKeys$Strokes" "origins" "[I" ∈ TT := t1_in (List.mem_of_getElem? (i := 155) rfl) rfl
theorem wt1_158 : Cond.classLink RX5 44 RX4 ∈ TT := t1_in (List.mem_of_getElem? (i := 158) rfl) rfl
theorem wt1_159 : Cond.instantiable RX4 4 ∈ TT := t1_in (List.mem_of_getElem? (i := 159) rfl) rfl
theorem wn1_160 : Cond.methodLinkNest RX5 46 yX4_init RX8 ∈ lw_tbl := (fun h => List.mem_append_right _ (List.mem_append_left _ h)) (List.mem_of_getElem? (l := tables_1_1) (i := 160) rfl)
theorem wt1_161 : Cond.instanceMethod yX4_init ∈ TT := t1_in (List.mem_of_getElem? (i := 161) rfl) rfl
theorem wt1_162 : Cond.code yX4_init cX4_init 1 none ∈ TT := t1_in (List.mem_of_getElem? (i := 162) rfl) rfl
theorem wt1_163 : Cond.methodLink RX4 3 ⟨"java/lang/Object", "<init>", "()V"⟩ ∈ TT := t1_in (List.mem_of_getElem? (i := 163) rfl) rfl
theorem wt1_164 : Cond.constant RX4 9 (1040187392) ∈ TT := t1_in (List.mem_of_getElem? (i := 164) rfl) rfl
theorem wt1_165 : Cond.constant RX4 10 (1056964608) ∈ TT := t1_in (List.mem_of_getElem? (i := 165) rfl) rfl
theorem wt1_166 : Cond.constant RX4 11 (1048576000) ∈ TT := t1_in (List.mem_of_getElem? (i := 166) rfl) rfl
theorem wt1_167 : Cond.constantFloat RX4 16 (1040187392) ∈ TT := t1_in (List.mem_of_getElem? (i := 167) rfl) rfl
theorem wt1_168 : Cond.constantFloat RX4 21 (1056964608) ∈ TT := t1_in (List.mem_of_getElem? (i := 168) rfl) rfl
theorem wt1_169 : Cond.constantFloat RX4 25 (1048576000) ∈ TT := t1_in (List.mem_of_getElem? (i := 169) rfl) rfl
theorem wt1_170 : Cond.fieldLink RX4 12 "BlanketKeys$Settings" "bits" "[I" ∈ TT := t1_in (List.mem_of_getElem? (i := 170) rfl) rfl
theorem wt1_171 : Cond.fieldLink RX4 17 "BlanketKeys$Settings" "margin" "F" ∈ TT := t1_in (List.mem_of_getElem? (i := 171) rfl) rfl
theorem wt1_172 : Cond.fieldLink RX5 155 "BlanketKeys$Settings" "margin" "F" ∈ TT := t1_in (List.mem_of_getElem? (i := 172) rfl) rfl
theorem wt1_173 : Cond.fieldLink RX4 22 "BlanketKeys$Settings" "trust" "F" ∈ TT := t1_in (List.mem_of_getElem? (i := 173) rfl) rfl
theorem wt1_174 : Cond.fieldLink RX5 147 "BlanketKeys$Settings" "trust" "F" ∈ TT := t1_in (List.mem_of_getElem? (i := 174) rfl) rfl
theorem wt1_175 : Cond.fieldLink RX4 26 "BlanketKeys$Settings" "rate" "F" ∈ TT := t1_in (List.mem_of_getElem? (i := 175) rfl) rfl
theorem wt1_176 : Cond.fieldLink RX5 197 "BlanketKeys$Settings" "rate" "F" ∈ TT := t1_in (List.mem_of_getElem? (i := 176) rfl) rfl
theorem wt1_177 : Cond.laysFinal RX4 "BlanketKeys$Settings" "bits" "[I" ∈ TT := t1_in (List.mem_of_getElem? (i := 177) rfl) rfl
theorem wt1_179 : Cond.lays RX4 "BlanketKeys$Settings" "margin" "F" ∈ TT := t1_in (List.mem_of_getElem? (i := 179) rfl) rfl
theorem wt1_181 : Cond.lays RX4 "BlanketKeys$Settings" "trust" "F" ∈ TT := t1_in (List.mem_of_getElem? (i := 181) rfl) rfl
theorem wt1_183 : Cond.lays RX4 "BlanketKeys$Settings" "rate" "F" ∈ TT := t1_in (List.mem_of_getElem? (i := 183) rfl) rfl
theorem wt1_186 : Cond.fieldLink RX5 12 "BlanketKeys$State" "board" "LBlanketKeys$Board;" ∈ TT := t1_in (List.mem_of_getElem? (i := 186) rfl) rfl
theorem wt1_187 : Cond.fieldLink RX8 40 "BlanketKeys$State" "board" "LBlanketKeys$Board;" ∈ TT := t1_in (List.mem_of_getElem? (i := 187) rfl) rfl
theorem wt1_188 : Cond.fieldLink RX5 25 "BlanketKeys$State" "first" "LBlanketKeys$Typist;" ∈ TT := t1_in (List.mem_of_getElem? (i := 188) rfl) rfl
theorem wt1_189 : Cond.fieldLink RX8 104 "BlanketKeys$State" "first" "LBlanketKeys$Typist;" ∈ TT := t1_in (List.mem_of_getElem? (i := 189) rfl) rfl
theorem wt1_190 : Cond.fieldLink RX5 31 "BlanketKeys$State" "second" "LBlanketKeys$Typist;" ∈ TT := t1_in (List.mem_of_getElem? (i := 190) rfl) rfl
theorem wt1_191 : Cond.fieldLink RX8 108 "BlanketKeys$State" "second" "LBlanketKeys$Typist;" ∈ TT := t1_in (List.mem_of_getElem? (i := 191) rfl) rfl
theorem wt1_192 : Cond.fieldLink RX5 37 "BlanketKeys$State" "ended" "LBlanketKeys$Strokes;" ∈ TT := t1_in (List.mem_of_getElem? (i := 192) rfl) rfl
theorem wt1_193 : Cond.fieldLink RX8 251 "BlanketKeys$State" "ended" "LBlanketKeys$Strokes;" ∈ TT := t1_in (List.mem_of_getElem? (i := 193) rfl) rfl
theorem wt1_194 : Cond.fieldLink RX5 41 "BlanketKeys$State" "disputes" "LBlanketKeys$Strokes;" ∈ TT := t1_in (List.mem_of_getElem? (i := 194) rfl) rfl
theorem wt1_195 : Cond.fieldLink RX8 150 "BlanketKeys$State" "disputes" "LBlanketKeys$Strokes;" ∈ TT := t1_in (List.mem_of_getElem? (i := 195) rfl) rfl
theorem wt1_196 : Cond.fieldLink RX5 47 "BlanketKeys$State" "settings" "LBlanketKeys$Settings;" ∈ TT := t1_in (List.mem_of_getElem? (i := 196) rfl) rfl
theorem wt1_197 : Cond.fieldLink RX8 117 "BlanketKeys$State" "settings" "LBlanketKeys$Settings;" ∈ TT := t1_in (List.mem_of_getElem? (i := 197) rfl) rfl
theorem wt1_198 : Cond.fieldLink RX5 64 "BlanketKeys$State" "time" "I" ∈ TT := t1_in (List.mem_of_getElem? (i := 198) rfl) rfl
theorem wt1_199 : Cond.fieldLink RX8 197 "BlanketKeys$State" "time" "I" ∈ TT := t1_in (List.mem_of_getElem? (i := 199) rfl) rfl
theorem wt1_200 : Cond.fieldLink RX5 68 "BlanketKeys$State" "ghosts" "I" ∈ TT := t1_in (List.mem_of_getElem? (i := 200) rfl) rfl
theorem wt1_201 : Cond.fieldLink RX8 277 "BlanketKeys$State" "ghosts" "I" ∈ TT := t1_in (List.mem_of_getElem? (i := 201) rfl) rfl
theorem wt1_202 : Cond.fieldLink RX5 71 "BlanketKeys$State" "ghostsOfNobody" "I" ∈ TT := t1_in (List.mem_of_getElem? (i := 202) rfl) rfl
theorem wt1_203 : Cond.fieldLink RX8 283 "BlanketKeys$State" "ghostsOfNobody" "I" ∈ TT := t1_in (List.mem_of_getElem? (i := 203) rfl) rfl
theorem wt1_204 : Cond.fieldLink RX5 74 "BlanketKeys$State" "openDisputes" "I" ∈ TT := t1_in (List.mem_of_getElem? (i := 204) rfl) rfl
theorem wt1_205 : Cond.fieldLink RX8 280 "BlanketKeys$State" "openDisputes" "I" ∈ TT := t1_in (List.mem_of_getElem? (i := 205) rfl) rfl
theorem wt1_206 : Cond.laysFinal RX5 "BlanketKeys$State" "board" "LBlanketKeys$Board;" ∈ TT := t1_in (List.mem_of_getElem? (i := 206) rfl) rfl
theorem wt1_208 : Cond.laysFinal RX5 "BlanketKeys$State" "first" "LBlanketKeys$Typist;" ∈ TT := t1_in (List.mem_of_getElem? (i := 208) rfl) rfl
theorem wt1_210 : Cond.laysFinal RX5 "BlanketKeys$State" "second" "LBlanketKeys$Typist;" ∈ TT := t1_in (List.mem_of_getElem? (i := 210) rfl) rfl
theorem wt1_212 : Cond.laysFinal RX5 "BlanketKeys$State" "ended" "LBlanketKeys$Strokes;" ∈ TT := t1_in (List.mem_of_getElem? (i := 212) rfl) rfl
theorem wt1_214 : Cond.laysFinal RX5 "BlanketKeys$State" "disputes" "LBlanketKeys$Strokes;" ∈ TT := t1_in (List.mem_of_getElem? (i := 214) rfl) rfl
theorem wt1_216 : Cond.laysFinal RX5 "BlanketKeys$State" "settings" "LBlanketKeys$Settings;" ∈ TT := t1_in (List.mem_of_getElem? (i := 216) rfl) rfl
theorem wt1_218 : Cond.lays RX5 "BlanketKeys$State" "time" "I" ∈ TT := t1_in (List.mem_of_getElem? (i := 218) rfl) rfl
theorem wt1_220 : Cond.lays RX5 "BlanketKeys$State" "ghosts" "I" ∈ TT := t1_in (List.mem_of_getElem? (i := 220) rfl) rfl
theorem wt1_222 : Cond.lays RX5 "BlanketKeys$State" "ghostsOfNobody" "I" ∈ TT := t1_in (List.mem_of_getElem? (i := 222) rfl) rfl
theorem wt1_224 : Cond.lays RX5 "BlanketKeys$State" "openDisputes" "I" ∈ TT := t1_in (List.mem_of_getElem? (i := 224) rfl) rfl
theorem wt1_227 : Cond.classLink RX8 22 RX2 ∈ TT := t1_in (List.mem_of_getElem? (i := 227) rfl) rfl
theorem wt1_228 : Cond.instantiable RX2 5 ∈ TT := t1_in (List.mem_of_getElem? (i := 228) rfl) rfl
theorem wn1_229 : Cond.methodLinkNest RX8 24 yX2_init RX8 ∈ lw_tbl := (fun h => List.mem_append_right _ (List.mem_append_left _ h)) (List.mem_of_getElem? (l := tables_1_1) (i := 229) rfl)
theorem wt1_230 : Cond.instanceMethod yX2_init ∈ TT := t1_in (List.mem_of_getElem? (i := 230) rfl) rfl
theorem wt1_231 : Cond.code yX2_init cX2_init 1 none ∈ TT := t1_in (List.mem_of_getElem? (i := 231) rfl) rfl
theorem wt1_232 : Cond.methodLink RX2 3 ⟨"java/lang/Object", "<init>", "()V"⟩ ∈ TT := t1_in (List.mem_of_getElem? (i := 232) rfl) rfl
theorem wt1_233 : Cond.classLink RX2 9 RX5 ∈ TT := t1_in (List.mem_of_getElem? (i := 233) rfl) rfl
theorem wn1_234 : Cond.methodLinkNest RX2 11 yX5_init RX8 ∈ lw_tbl := (fun h => List.mem_append_right _ (List.mem_append_left _ h)) (List.mem_of_getElem? (l := tables_1_1) (i := 234) rfl)
theorem wt1_235 : Cond.fieldLink RX2 31 "BlanketKeys$History" "depth" "I" ∈ TT := t1_in (List.mem_of_getElem? (i := 235) rfl) rfl
theorem wt1_236 : Cond.fieldLink RX8 191 "BlanketKeys$History" "depth" "I" ∈ TT := t1_in (List.mem_of_getElem? (i := 236) rfl) rfl
theorem wt1_237 : Cond.fieldLink RX2 12 "BlanketKeys$History" "latest" "LBlanketKeys$State;" ∈ TT := t1_in (List.mem_of_getElem? (i := 237) rfl) rfl
theorem wt1_238 : Cond.fieldLink RX2 18 "BlanketKeys$History" "second" "LBlanketKeys$State;" ∈ TT := t1_in (List.mem_of_getElem? (i := 238) rfl) rfl
theorem wt1_239 : Cond.fieldLink RX2 21 "BlanketKeys$History" "third" "LBlanketKeys$State;" ∈ TT := t1_in (List.mem_of_getElem? (i := 239) rfl) rfl
theorem wt2_0 : Cond.fieldLink RX2 24 "BlanketKeys$History" "oldest" "LBlanketKeys$State;" ∈ TT := t2_in (List.mem_of_getElem? (i := 0) rfl) rfl
theorem wt2_1 : Cond.lays RX2 "BlanketKeys$History" "depth" "I" ∈ TT := t2_in (List.mem_of_getElem? (i := 1) rfl) rfl
theorem wt2_3 : Cond.lays RX2 "BlanketKeys$History" "latest" "LBlanketKeys$State;" ∈ TT := t2_in (List.mem_of_getElem? (i := 3) rfl) rfl
theorem wt2_5 : Cond.lays RX2 "BlanketKeys$History" "second" "LBlanketKeys$State;" ∈ TT := t2_in (List.mem_of_getElem? (i := 5) rfl) rfl
theorem wt2_7 : Cond.lays RX2 "BlanketKeys$History" "third" "LBlanketKeys$State;" ∈ TT := t2_in (List.mem_of_getElem? (i := 7) rfl) rfl
theorem wt2_9 : Cond.lays RX2 "BlanketKeys$History" "oldest" "LBlanketKeys$State;" ∈ TT := t2_in (List.mem_of_getElem? (i := 9) rfl) rfl
theorem wt2_12 : Cond.classLink RX8 29 RX3 ∈ TT := t2_in (List.mem_of_getElem? (i := 12) rfl) rfl
theorem wt2_13 : Cond.instantiable RX3 2 ∈ TT := t2_in (List.mem_of_getElem? (i := 13) rfl) rfl
theorem wn2_14 : Cond.methodLinkNest RX8 31 yX3_init RX8 ∈ lw_tbl := (fun h => List.mem_append_right _ (List.mem_append_right _ (List.mem_append_left _ h))) (List.mem_of_getElem? (l := tables_1_2) (i := 14) rfl)
theorem wt2_15 : Cond.instanceMethod yX3_init ∈ TT := t2_in (List.mem_of_getElem? (i := 15) rfl) rfl
theorem wt2_16 : Cond.code yX3_init cX3_init 1 none ∈ TT := t2_in (List.mem_of_getElem? (i := 16) rfl) rfl
theorem wt2_17 : Cond.methodLink RX3 3 ⟨"java/lang/Object", "<init>", "()V"⟩ ∈ TT := t2_in (List.mem_of_getElem? (i := 17) rfl) rfl
theorem wt2_18 : Cond.fieldLink RX3 15 "BlanketKeys$Script" "length" "I" ∈ TT := t2_in (List.mem_of_getElem? (i := 18) rfl) rfl
theorem wt2_19 : Cond.fieldLink RX8 169 "BlanketKeys$Script" "length" "I" ∈ TT := t2_in (List.mem_of_getElem? (i := 19) rfl) rfl
theorem wt2_20 : Cond.fieldLink RX3 9 "BlanketKeys$Script" "characters" "[C" ∈ TT := t2_in (List.mem_of_getElem? (i := 20) rfl) rfl
theorem wt2_21 : Cond.lays RX3 "BlanketKeys$Script" "length" "I" ∈ TT := t2_in (List.mem_of_getElem? (i := 21) rfl) rfl
theorem wt2_23 : Cond.laysFinal RX3 "BlanketKeys$Script" "characters" "[C" ∈ TT := t2_in (List.mem_of_getElem? (i := 23) rfl) rfl
theorem wt2_26 : Cond.arrayClass .char ∈ TT := t2_in (List.mem_of_getElem? (i := 26) rfl) rfl
theorem wt2_27 : Cond.fieldLink RX8 12 "BlanketKeys" "now" "LBlanketKeys$State;" ∈ TT := t2_in (List.mem_of_getElem? (i := 27) rfl) rfl
theorem wt2_28 : Cond.fieldLink RX8 16 "BlanketKeys" "beforeScript" "LBlanketKeys$State;" ∈ TT := t2_in (List.mem_of_getElem? (i := 28) rfl) rfl
theorem wt2_29 : Cond.fieldLink RX8 19 "BlanketKeys" "snapshot" "LBlanketKeys$State;" ∈ TT := t2_in (List.mem_of_getElem? (i := 29) rfl) rfl
theorem wt2_30 : Cond.fieldLink RX8 25 "BlanketKeys" "history" "LBlanketKeys$History;" ∈ TT := t2_in (List.mem_of_getElem? (i := 30) rfl) rfl
theorem wt2_31 : Cond.fieldLink RX8 32 "BlanketKeys" "script" "LBlanketKeys$Script;" ∈ TT := t2_in (List.mem_of_getElem? (i := 31) rfl) rfl
theorem wt2_32 : Cond.fieldLink RX8 36 "BlanketKeys" "hasSnapshot" "Z" ∈ TT := t2_in (List.mem_of_getElem? (i := 32) rfl) rfl
theorem wt2_33 : Cond.laysFinal RX8 "BlanketKeys" "now" "LBlanketKeys$State;" ∈ TT := t2_in (List.mem_of_getElem? (i := 33) rfl) rfl
theorem wt2_35 : Cond.laysFinal RX8 "BlanketKeys" "beforeScript" "LBlanketKeys$State;" ∈ TT := t2_in (List.mem_of_getElem? (i := 35) rfl) rfl
theorem wt2_37 : Cond.laysFinal RX8 "BlanketKeys" "snapshot" "LBlanketKeys$State;" ∈ TT := t2_in (List.mem_of_getElem? (i := 37) rfl) rfl
theorem wt2_39 : Cond.laysFinal RX8 "BlanketKeys" "history" "LBlanketKeys$History;" ∈ TT := t2_in (List.mem_of_getElem? (i := 39) rfl) rfl
theorem wt2_41 : Cond.laysFinal RX8 "BlanketKeys" "script" "LBlanketKeys$Script;" ∈ TT := t2_in (List.mem_of_getElem? (i := 41) rfl) rfl
theorem wt2_43 : Cond.lays RX8 "BlanketKeys" "hasSnapshot" "Z" ∈ TT := t2_in (List.mem_of_getElem? (i := 43) rfl) rfl
theorem wt2_46 : Cond.methodLink RL 13 yX8_build ∈ TT := t2_in (List.mem_of_getElem? (i := 46) rfl) rfl
theorem wt2_47 : Cond.instanceMethod yX8_build ∈ TT := t2_in (List.mem_of_getElem? (i := 47) rfl) rfl
theorem wt2_48 : Cond.selects RX8 yX8_build yX8_build ∈ TT := t2_in (List.mem_of_getElem? (i := 48) rfl) rfl
theorem wt2_49 : Cond.code yX8_build cX8_build 4 (some .int) ∈ TT := t2_in (List.mem_of_getElem? (i := 49) rfl) rfl
theorem wt2_50 : Cond.methodLink RX8 44 yX0_downKeys ∈ TT := t2_in (List.mem_of_getElem? (i := 50) rfl) rfl
theorem wt2_51 : Cond.instanceMethod yX0_downKeys ∈ TT := t2_in (List.mem_of_getElem? (i := 51) rfl) rfl
theorem wt2_52 : Cond.selects RX0 yX0_downKeys yX0_downKeys ∈ TT := t2_in (List.mem_of_getElem? (i := 52) rfl) rfl
theorem wt2_53 : Cond.code yX0_downKeys cX0_downKeys 1 (some .int) ∈ TT := t2_in (List.mem_of_getElem? (i := 53) rfl) rfl
theorem wt2_54 : Cond.methodLink RX0 69 yX1_bitsIn ∈ TT := t2_in (List.mem_of_getElem? (i := 54) rfl) rfl
theorem wt2_55 : Cond.static yX1_bitsIn ∈ TT := t2_in (List.mem_of_getElem? (i := 55) rfl) rfl
theorem wt2_56 : Cond.code yX1_bitsIn cX1_bitsIn 6 (some .int) ∈ TT := t2_in (List.mem_of_getElem? (i := 56) rfl) rfl
theorem wt2_57 : Cond.methodLink RX1 19 yJ6_bitCount_0f7a4 ∈ TT := t2_in (List.mem_of_getElem? (i := 57) rfl) rfl
theorem wt2_58 : Cond.static yJ6_bitCount_0f7a4 ∈ TT := t2_in (List.mem_of_getElem? (i := 58) rfl) rfl
theorem wt2_59 : Cond.code yJ6_bitCount_0f7a4 cJ6_bitCount_0f7a4 1 (some .int) ∈ TT := t2_in (List.mem_of_getElem? (i := 59) rfl) rfl
theorem wt2_60 : Cond.constant RJ6 265 (1431655765) ∈ TT := t2_in (List.mem_of_getElem? (i := 60) rfl) rfl
theorem wt2_61 : Cond.constant RJ6 266 (858993459) ∈ TT := t2_in (List.mem_of_getElem? (i := 61) rfl) rfl
theorem wt2_62 : Cond.constant RJ6 267 (252645135) ∈ TT := t2_in (List.mem_of_getElem? (i := 62) rfl) rfl
theorem wt2_63 : Cond.methodLink RX8 50 yX0_seenKeys ∈ TT := t2_in (List.mem_of_getElem? (i := 63) rfl) rfl
theorem wt2_64 : Cond.instanceMethod yX0_seenKeys ∈ TT := t2_in (List.mem_of_getElem? (i := 64) rfl) rfl
theorem wt2_65 : Cond.selects RX0 yX0_seenKeys yX0_seenKeys ∈ TT := t2_in (List.mem_of_getElem? (i := 65) rfl) rfl
theorem wt2_66 : Cond.code yX0_seenKeys cX0_seenKeys 1 (some .int) ∈ TT := t2_in (List.mem_of_getElem? (i := 66) rfl) rfl
theorem wt2_67 : Cond.methodLink RX8 60 yX2_remember ∈ TT := t2_in (List.mem_of_getElem? (i := 67) rfl) rfl
theorem wt2_68 : Cond.instanceMethod yX2_remember ∈ TT := t2_in (List.mem_of_getElem? (i := 68) rfl) rfl
theorem wt2_69 : Cond.selects RX2 yX2_remember yX2_remember ∈ TT := t2_in (List.mem_of_getElem? (i := 69) rfl) rfl
theorem wt2_70 : Cond.code yX2_remember cX2_remember 3 none ∈ TT := t2_in (List.mem_of_getElem? (i := 70) rfl) rfl
theorem wt2_71 : Cond.methodLink RX2 27 yX5_copyFrom ∈ TT := t2_in (List.mem_of_getElem? (i := 71) rfl) rfl
theorem wt2_72 : Cond.instanceMethod yX5_copyFrom ∈ TT := t2_in (List.mem_of_getElem? (i := 72) rfl) rfl
theorem wt2_73 : Cond.selects RX5 yX5_copyFrom yX5_copyFrom ∈ TT := t2_in (List.mem_of_getElem? (i := 73) rfl) rfl
theorem wt2_74 : Cond.code yX5_copyFrom cX5_copyFrom 2 none ∈ TT := t2_in (List.mem_of_getElem? (i := 74) rfl) rfl
theorem wt2_75 : Cond.methodLink RX5 51 yX0_copyFrom ∈ TT := t2_in (List.mem_of_getElem? (i := 75) rfl) rfl
theorem wt2_76 : Cond.instanceMethod yX0_copyFrom ∈ TT := t2_in (List.mem_of_getElem? (i := 76) rfl) rfl
theorem wt2_77 : Cond.selects RX0 yX0_copyFrom yX0_copyFrom ∈ TT := t2_in (List.mem_of_getElem? (i := 77) rfl) rfl
theorem wt2_78 : Cond.code yX0_copyFrom cX0_copyFrom 2 none ∈ TT := t2_in (List.mem_of_getElem? (i := 78) rfl) rfl
theorem wt2_79 : Cond.methodLink RX0 52 yX1_copy ∈ TT := t2_in (List.mem_of_getElem? (i := 79) rfl) rfl
theorem wt2_80 : Cond.static yX1_copy ∈ TT := t2_in (List.mem_of_getElem? (i := 80) rfl) rfl
theorem wt2_81 : Cond.code yX1_copy cX1_copy 2 none ∈ TT := t2_in (List.mem_of_getElem? (i := 81) rfl) rfl
theorem wt2_82 : Cond.methodLink RX1 7 yJ9_min_7cf53 ∈ TT := t2_in (List.mem_of_getElem? (i := 82) rfl) rfl
theorem wt2_83 : Cond.static yJ9_min_7cf53 ∈ TT := t2_in (List.mem_of_getElem? (i := 83) rfl) rfl
theorem wt2_84 : Cond.code yJ9_min_7cf53 cJ9_min_7cf53 2 (some .int) ∈ TT := t2_in (List.mem_of_getElem? (i := 84) rfl) rfl
theorem wt2_85 : Cond.methodLink RX1 13 ⟨"java/lang/System", "arraycopy", "(Ljava/lang/Object;ILjava/lang/Object;II)V"⟩ ∈ TT := t2_in (List.mem_of_getElem? (i := 85) rfl) rfl
theorem wt2_86 : Cond.static ⟨"java/lang/System", "arraycopy", "(Ljava/lang/Object;ILjava/lang/Object;II)V"⟩ ∈ TT := t2_in (List.mem_of_getElem? (i := 86) rfl) rfl
theorem wt2_87 : Cond.native ⟨"java/lang/System", "arraycopy", "(Ljava/lang/Object;ILjava/lang/Object;II)V"⟩ ∈ TT := t2_in (List.mem_of_getElem? (i := 87) rfl) rfl
theorem wt2_88 : Cond.methodLink RX5 55 yX7_copyFrom ∈ TT := t2_in (List.mem_of_getElem? (i := 88) rfl) rfl
theorem wt2_89 : Cond.instanceMethod yX7_copyFrom ∈ TT := t2_in (List.mem_of_getElem? (i := 89) rfl) rfl
theorem wt2_90 : Cond.selects RX7 yX7_copyFrom yX7_copyFrom ∈ TT := t2_in (List.mem_of_getElem? (i := 90) rfl) rfl
theorem wt2_91 : Cond.code yX7_copyFrom cX7_copyFrom 2 none ∈ TT := t2_in (List.mem_of_getElem? (i := 91) rfl) rfl
theorem wt2_92 : Cond.methodLink RX7 39 yX1_copy ∈ TT := t2_in (List.mem_of_getElem? (i := 92) rfl) rfl
theorem wt2_93 : Cond.methodLink RX5 58 yX6_copyFrom ∈ TT := t2_in (List.mem_of_getElem? (i := 93) rfl) rfl
theorem wt2_94 : Cond.instanceMethod yX6_copyFrom ∈ TT := t2_in (List.mem_of_getElem? (i := 94) rfl) rfl
theorem wt2_95 : Cond.selects RX6 yX6_copyFrom yX6_copyFrom ∈ TT := t2_in (List.mem_of_getElem? (i := 95) rfl) rfl
theorem wt2_96 : Cond.code yX6_copyFrom cX6_copyFrom 2 none ∈ TT := t2_in (List.mem_of_getElem? (i := 96) rfl) rfl
theorem wt2_97 : Cond.methodLink RX6 37 yX1_copy ∈ TT := t2_in (List.mem_of_getElem? (i := 97) rfl) rfl
theorem wt2_98 : Cond.methodLink RX5 61 yX4_copyFrom ∈ TT := t2_in (List.mem_of_getElem? (i := 98) rfl) rfl
theorem wt2_99 : Cond.instanceMethod yX4_copyFrom ∈ TT := t2_in (List.mem_of_getElem? (i := 99) rfl) rfl
theorem wt2_100 : Cond.selects RX4 yX4_copyFrom yX4_copyFrom ∈ TT := t2_in (List.mem_of_getElem? (i := 100) rfl) rfl
theorem wt2_101 : Cond.code yX4_copyFrom cX4_copyFrom 2 none ∈ TT := t2_in (List.mem_of_getElem? (i := 101) rfl) rfl
theorem wt2_102 : Cond.methodLink RX4 29 yX1_copy ∈ TT := t2_in (List.mem_of_getElem? (i := 102) rfl) rfl
theorem wt2_103 : Cond.methodLink RX2 35 yJ9_min_7cf53 ∈ TT := t2_in (List.mem_of_getElem? (i := 103) rfl) rfl
theorem wt2_104 : Cond.methodLink RX8 64 yX0_rebuild ∈ TT := t2_in (List.mem_of_getElem? (i := 104) rfl) rfl
theorem wt2_105 : Cond.instanceMethod yX0_rebuild ∈ TT := t2_in (List.mem_of_getElem? (i := 105) rfl) rfl
theorem wt2_106 : Cond.selects RX0 yX0_rebuild yX0_rebuild ∈ TT := t2_in (List.mem_of_getElem? (i := 106) rfl) rfl
theorem wt2_107 : Cond.code yX0_rebuild cX0_rebuild 3 none ∈ TT := t2_in (List.mem_of_getElem? (i := 107) rfl) rfl
theorem wt2_108 : Cond.methodLink RX8 68 yX0_size ∈ TT := t2_in (List.mem_of_getElem? (i := 108) rfl) rfl
theorem wt2_109 : Cond.instanceMethod yX0_size ∈ TT := t2_in (List.mem_of_getElem? (i := 109) rfl) rfl
theorem wt2_110 : Cond.selects RX0 yX0_size yX0_size ∈ TT := t2_in (List.mem_of_getElem? (i := 110) rfl) rfl
theorem wt2_111 : Cond.code yX0_size cX0_size 1 (some .int) ∈ TT := t2_in (List.mem_of_getElem? (i := 111) rfl) rfl
theorem wt2_112 : Cond.methodLink RL 18 yX8_setSign ∈ TT := t2_in (List.mem_of_getElem? (i := 112) rfl) rfl
theorem wt2_113 : Cond.instanceMethod yX8_setSign ∈ TT := t2_in (List.mem_of_getElem? (i := 113) rfl) rfl
theorem wt2_114 : Cond.selects RX8 yX8_setSign yX8_setSign ∈ TT := t2_in (List.mem_of_getElem? (i := 114) rfl) rfl
theorem wt2_115 : Cond.code yX8_setSign cX8_setSign 5 (some .int) ∈ TT := t2_in (List.mem_of_getElem? (i := 115) rfl) rfl
theorem wt2_116 : Cond.methodLink RX8 71 yX0_has ∈ TT := t2_in (List.mem_of_getElem? (i := 116) rfl) rfl
theorem wt2_117 : Cond.instanceMethod yX0_has ∈ TT := t2_in (List.mem_of_getElem? (i := 117) rfl) rfl
theorem wt2_118 : Cond.selects RX0 yX0_has yX0_has ∈ TT := t2_in (List.mem_of_getElem? (i := 118) rfl) rfl
theorem wt2_119 : Cond.code yX0_has cX0_has 2 (some .boolean) ∈ TT := t2_in (List.mem_of_getElem? (i := 119) rfl) rfl
theorem wt2_120 : Cond.methodLink RX8 75 yX0_signOf ∈ TT := t2_in (List.mem_of_getElem? (i := 120) rfl) rfl
theorem wt2_121 : Cond.instanceMethod yX0_signOf ∈ TT := t2_in (List.mem_of_getElem? (i := 121) rfl) rfl
theorem wt2_122 : Cond.selects RX0 yX0_signOf yX0_signOf ∈ TT := t2_in (List.mem_of_getElem? (i := 122) rfl) rfl
theorem wt2_123 : Cond.code yX0_signOf cX0_signOf 2 (some .int) ∈ TT := t2_in (List.mem_of_getElem? (i := 123) rfl) rfl
theorem wt2_124 : Cond.methodLink RX0 77 yX0_has ∈ TT := t2_in (List.mem_of_getElem? (i := 124) rfl) rfl
theorem wt2_125 : Cond.methodLink RX0 62 yX1_at ∈ TT := t2_in (List.mem_of_getElem? (i := 125) rfl) rfl
theorem wt2_126 : Cond.static yX1_at ∈ TT := t2_in (List.mem_of_getElem? (i := 126) rfl) rfl
theorem wt2_127 : Cond.code yX1_at cX1_at 2 (some .int) ∈ TT := t2_in (List.mem_of_getElem? (i := 127) rfl) rfl
theorem wt2_128 : Cond.methodLink RX8 79 yX0_shiftOwner ∈ TT := t2_in (List.mem_of_getElem? (i := 128) rfl) rfl
theorem wt2_129 : Cond.instanceMethod yX0_shiftOwner ∈ TT := t2_in (List.mem_of_getElem? (i := 129) rfl) rfl
theorem wt2_130 : Cond.selects RX0 yX0_shiftOwner yX0_shiftOwner ∈ TT := t2_in (List.mem_of_getElem? (i := 130) rfl) rfl
theorem wt2_131 : Cond.code yX0_shiftOwner cX0_shiftOwner 2 (some .int) ∈ TT := t2_in (List.mem_of_getElem? (i := 131) rfl) rfl
theorem wt2_132 : Cond.methodLink RX8 82 yX0_giveSign ∈ TT := t2_in (List.mem_of_getElem? (i := 132) rfl) rfl
theorem wt2_133 : Cond.instanceMethod yX0_giveSign ∈ TT := t2_in (List.mem_of_getElem? (i := 133) rfl) rfl
theorem wt2_134 : Cond.selects RX0 yX0_giveSign yX0_giveSign ∈ TT := t2_in (List.mem_of_getElem? (i := 134) rfl) rfl
theorem wt2_135 : Cond.code yX0_giveSign cX0_giveSign 4 none ∈ TT := t2_in (List.mem_of_getElem? (i := 135) rfl) rfl
theorem wt2_136 : Cond.methodLink RX0 81 yX0_shiftOwner ∈ TT := t2_in (List.mem_of_getElem? (i := 136) rfl) rfl
theorem wt2_137 : Cond.methodLink RX0 73 yX1_put ∈ TT := t2_in (List.mem_of_getElem? (i := 137) rfl) rfl
theorem wt2_138 : Cond.static yX1_put ∈ TT := t2_in (List.mem_of_getElem? (i := 138) rfl) rfl
theorem wt2_139 : Cond.code yX1_put cX1_put 3 none ∈ TT := t2_in (List.mem_of_getElem? (i := 139) rfl) rfl
theorem wt2_140 : Cond.methodLink RL 23 yX8_setShift ∈ TT := t2_in (List.mem_of_getElem? (i := 140) rfl) rfl
theorem wt2_141 : Cond.instanceMethod yX8_setShift ∈ TT := t2_in (List.mem_of_getElem? (i := 141) rfl) rfl
theorem wt2_142 : Cond.selects RX8 yX8_setShift yX8_setShift ∈ TT := t2_in (List.mem_of_getElem? (i := 142) rfl) rfl
theorem wt2_143 : Cond.code yX8_setShift cX8_setShift 6 (some .int) ∈ TT := t2_in (List.mem_of_getElem? (i := 143) rfl) rfl
theorem wt2_144 : Cond.methodLink RX8 86 yX5_isTypist ∈ TT := t2_in (List.mem_of_getElem? (i := 144) rfl) rfl
theorem wt2_145 : Cond.static yX5_isTypist ∈ TT := t2_in (List.mem_of_getElem? (i := 145) rfl) rfl
theorem wt2_146 : Cond.code yX5_isTypist cX5_isTypist 1 (some .boolean) ∈ TT := t2_in (List.mem_of_getElem? (i := 146) rfl) rfl
theorem wt2_147 : Cond.methodLink RX8 89 yX0_shiftOf ∈ TT := t2_in (List.mem_of_getElem? (i := 147) rfl) rfl
theorem wt2_148 : Cond.instanceMethod yX0_shiftOf ∈ TT := t2_in (List.mem_of_getElem? (i := 148) rfl) rfl
theorem wt2_149 : Cond.selects RX0 yX0_shiftOf yX0_shiftOf ∈ TT := t2_in (List.mem_of_getElem? (i := 149) rfl) rfl
theorem wt2_150 : Cond.code yX0_shiftOf cX0_shiftOf 2 (some .int) ∈ TT := t2_in (List.mem_of_getElem? (i := 150) rfl) rfl
theorem wt2_151 : Cond.methodLink RX8 92 yX0_giveShift ∈ TT := t2_in (List.mem_of_getElem? (i := 151) rfl) rfl
theorem wt2_152 : Cond.instanceMethod yX0_giveShift ∈ TT := t2_in (List.mem_of_getElem? (i := 152) rfl) rfl
theorem wt2_153 : Cond.selects RX0 yX0_giveShift yX0_giveShift ∈ TT := t2_in (List.mem_of_getElem? (i := 153) rfl) rfl
theorem wt2_154 : Cond.code yX0_giveShift cX0_giveShift 3 none ∈ TT := t2_in (List.mem_of_getElem? (i := 154) rfl) rfl
theorem wt2_155 : Cond.methodLink RL 27 yX8_borrow ∈ TT := t2_in (List.mem_of_getElem? (i := 155) rfl) rfl
theorem wt2_156 : Cond.instanceMethod yX8_borrow ∈ TT := t2_in (List.mem_of_getElem? (i := 156) rfl) rfl
theorem wt2_157 : Cond.selects RX8 yX8_borrow yX8_borrow ∈ TT := t2_in (List.mem_of_getElem? (i := 157) rfl) rfl
theorem wt2_158 : Cond.code yX8_borrow cX8_borrow 3 (some .int) ∈ TT := t2_in (List.mem_of_getElem? (i := 158) rfl) rfl
theorem wt2_159 : Cond.methodLink RX8 95 yX5_typistOf ∈ TT := t2_in (List.mem_of_getElem? (i := 159) rfl) rfl
theorem wt2_160 : Cond.instanceMethod yX5_typistOf ∈ TT := t2_in (List.mem_of_getElem? (i := 160) rfl) rfl
theorem wt2_161 : Cond.selects RX5 yX5_typistOf yX5_typistOf ∈ TT := t2_in (List.mem_of_getElem? (i := 161) rfl) rfl
theorem wt2_162 : Cond.code yX5_typistOf cX5_typistOf 2 (some (.object "BlanketKeys$Typist")) ∈ TT := t2_in (List.mem_of_getElem? (i := 162) rfl) rfl
theorem wt2_163 : Cond.methodLink RL 32 yX8_set ∈ TT := t2_in (List.mem_of_getElem? (i := 163) rfl) rfl
theorem wt2_164 : Cond.instanceMethod yX8_set ∈ TT := t2_in (List.mem_of_getElem? (i := 164) rfl) rfl
theorem wt2_165 : Cond.selects RX8 yX8_set yX8_set ∈ TT := t2_in (List.mem_of_getElem? (i := 165) rfl) rfl
theorem wt2_166 : Cond.code yX8_set cX8_set 4 (some .int) ∈ TT := t2_in (List.mem_of_getElem? (i := 166) rfl) rfl
theorem wt2_167 : Cond.methodLink RX8 111 yX4_accepts ∈ TT := t2_in (List.mem_of_getElem? (i := 167) rfl) rfl
theorem wt2_168 : Cond.static yX4_accepts ∈ TT := t2_in (List.mem_of_getElem? (i := 168) rfl) rfl
theorem wt2_169 : Cond.code yX4_accepts cX4_accepts 2 (some .boolean) ∈ TT := t2_in (List.mem_of_getElem? (i := 169) rfl) rfl
theorem wt2_170 : Cond.fieldLink RX4 35 "BlanketKeys$Settings" "LEAST_TOO_MUCH" "[I" ∈ TT := t2_in (List.mem_of_getElem? (i := 170) rfl) rfl
theorem wt2_172 : Cond.methodLink RX8 121 yX4_bitsOf ∈ TT := t2_in (List.mem_of_getElem? (i := 172) rfl) rfl
theorem wt2_173 : Cond.instanceMethod yX4_bitsOf ∈ TT := t2_in (List.mem_of_getElem? (i := 173) rfl) rfl
theorem wt2_174 : Cond.selects RX4 yX4_bitsOf yX4_bitsOf ∈ TT := t2_in (List.mem_of_getElem? (i := 174) rfl) rfl
theorem wt2_175 : Cond.code yX4_bitsOf cX4_bitsOf 2 (some .int) ∈ TT := t2_in (List.mem_of_getElem? (i := 175) rfl) rfl
theorem wt2_176 : Cond.methodLink RX4 38 yX1_at ∈ TT := t2_in (List.mem_of_getElem? (i := 176) rfl) rfl
theorem wt2_177 : Cond.methodLink RX8 124 yX4_change ∈ TT := t2_in (List.mem_of_getElem? (i := 177) rfl) rfl
theorem wt2_178 : Cond.instanceMethod yX4_change ∈ TT := t2_in (List.mem_of_getElem? (i := 178) rfl) rfl
theorem wt2_179 : Cond.selects RX4 yX4_change yX4_change ∈ TT := t2_in (List.mem_of_getElem? (i := 179) rfl) rfl
theorem wt2_180 : Cond.code yX4_change cX4_change 4 none ∈ TT := t2_in (List.mem_of_getElem? (i := 180) rfl) rfl
theorem wt2_181 : Cond.methodLink RX4 42 yX1_put ∈ TT := t2_in (List.mem_of_getElem? (i := 181) rfl) rfl
theorem wt2_182 : Cond.methodLink RX4 46 yX4_valueOf ∈ TT := t2_in (List.mem_of_getElem? (i := 182) rfl) rfl
theorem wt2_183 : Cond.static yX4_valueOf ∈ TT := t2_in (List.mem_of_getElem? (i := 183) rfl) rfl
theorem wt2_184 : Cond.code yX4_valueOf cX4_valueOf 6 (some .float) ∈ TT := t2_in (List.mem_of_getElem? (i := 184) rfl) rfl
theorem wt2_185 : Cond.constant RX4 50 (8388607) ∈ TT := t2_in (List.mem_of_getElem? (i := 185) rfl) rfl
theorem wt2_186 : Cond.constant RX4 51 (8388608) ∈ TT := t2_in (List.mem_of_getElem? (i := 186) rfl) rfl
theorem wt2_187 : Cond.methodLink RL 36 yX8_press ∈ TT := t2_in (List.mem_of_getElem? (i := 187) rfl) rfl
theorem wt2_188 : Cond.instanceMethod yX8_press ∈ TT := t2_in (List.mem_of_getElem? (i := 188) rfl) rfl
theorem wt2_189 : Cond.selects RX8 yX8_press yX8_press ∈ TT := t2_in (List.mem_of_getElem? (i := 189) rfl) rfl
theorem wt2_190 : Cond.code yX8_press cX8_press 4 (some .int) ∈ TT := t2_in (List.mem_of_getElem? (i := 190) rfl) rfl
theorem wt2_191 : Cond.methodLink RX8 127 yX5_pressError ∈ TT := t2_in (List.mem_of_getElem? (i := 191) rfl) rfl
theorem wt2_192 : Cond.instanceMethod yX5_pressError ∈ TT := t2_in (List.mem_of_getElem? (i := 192) rfl) rfl
theorem wt2_193 : Cond.selects RX5 yX5_pressError yX5_pressError ∈ TT := t2_in (List.mem_of_getElem? (i := 193) rfl) rfl
theorem wt2_194 : Cond.code yX5_pressError cX5_pressError 3 (some .int) ∈ TT := t2_in (List.mem_of_getElem? (i := 194) rfl) rfl
theorem wt2_195 : Cond.methodLink RX5 80 yX5_isTypist ∈ TT := t2_in (List.mem_of_getElem? (i := 195) rfl) rfl
theorem wt2_196 : Cond.methodLink RX5 84 yX0_has ∈ TT := t2_in (List.mem_of_getElem? (i := 196) rfl) rfl
theorem wt2_197 : Cond.methodLink RX5 87 yX0_isDown ∈ TT := t2_in (List.mem_of_getElem? (i := 197) rfl) rfl
theorem wt2_198 : Cond.instanceMethod yX0_isDown ∈ TT := t2_in (List.mem_of_getElem? (i := 198) rfl) rfl
theorem wt2_199 : Cond.selects RX0 yX0_isDown yX0_isDown ∈ TT := t2_in (List.mem_of_getElem? (i := 199) rfl) rfl
theorem wt2_200 : Cond.code yX0_isDown cX0_isDown 2 (some .boolean) ∈ TT := t2_in (List.mem_of_getElem? (i := 200) rfl) rfl
theorem wt2_201 : Cond.methodLink RX0 58 yX0_rowOf ∈ TT := t2_in (List.mem_of_getElem? (i := 201) rfl) rfl
theorem wt2_202 : Cond.instanceMethod yX0_rowOf ∈ TT := t2_in (List.mem_of_getElem? (i := 202) rfl) rfl
theorem wt2_203 : Cond.selects RX0 yX0_rowOf yX0_rowOf ∈ TT := t2_in (List.mem_of_getElem? (i := 203) rfl) rfl
theorem wt2_204 : Cond.code yX0_rowOf cX0_rowOf 2 (some .int) ∈ TT := t2_in (List.mem_of_getElem? (i := 204) rfl) rfl
theorem wt2_205 : Cond.methodLink RX0 66 yX0_bitOf ∈ TT := t2_in (List.mem_of_getElem? (i := 205) rfl) rfl
theorem wt2_206 : Cond.instanceMethod yX0_bitOf ∈ TT := t2_in (List.mem_of_getElem? (i := 206) rfl) rfl
theorem wt2_207 : Cond.selects RX0 yX0_bitOf yX0_bitOf ∈ TT := t2_in (List.mem_of_getElem? (i := 207) rfl) rfl
theorem wt2_208 : Cond.code yX0_bitOf cX0_bitOf 2 (some .int) ∈ TT := t2_in (List.mem_of_getElem? (i := 208) rfl) rfl
theorem wt2_209 : Cond.methodLink RX5 90 yX0_heldBy ∈ TT := t2_in (List.mem_of_getElem? (i := 209) rfl) rfl
theorem wt2_210 : Cond.instanceMethod yX0_heldBy ∈ TT := t2_in (List.mem_of_getElem? (i := 210) rfl) rfl
theorem wt2_211 : Cond.selects RX0 yX0_heldBy yX0_heldBy ∈ TT := t2_in (List.mem_of_getElem? (i := 211) rfl) rfl
theorem wt2_212 : Cond.code yX0_heldBy cX0_heldBy 7 (some .int) ∈ TT := t2_in (List.mem_of_getElem? (i := 212) rfl) rfl
theorem wt2_213 : Cond.methodLink RX8 131 yX0_putDown ∈ TT := t2_in (List.mem_of_getElem? (i := 213) rfl) rfl
theorem wt2_214 : Cond.instanceMethod yX0_putDown ∈ TT := t2_in (List.mem_of_getElem? (i := 214) rfl) rfl
theorem wt2_215 : Cond.selects RX0 yX0_putDown yX0_putDown ∈ TT := t2_in (List.mem_of_getElem? (i := 215) rfl) rfl
theorem wt2_216 : Cond.code yX0_putDown cX0_putDown 4 none ∈ TT := t2_in (List.mem_of_getElem? (i := 216) rfl) rfl
theorem wt2_217 : Cond.methodLink RX8 134 yX0_heldBy ∈ TT := t2_in (List.mem_of_getElem? (i := 217) rfl) rfl
theorem wt2_218 : Cond.methodLink RL 40 yX8_release ∈ TT := t2_in (List.mem_of_getElem? (i := 218) rfl) rfl
theorem wt2_219 : Cond.instanceMethod yX8_release ∈ TT := t2_in (List.mem_of_getElem? (i := 219) rfl) rfl
theorem wt2_220 : Cond.selects RX8 yX8_release yX8_release ∈ TT := t2_in (List.mem_of_getElem? (i := 220) rfl) rfl
theorem wt2_221 : Cond.code yX8_release cX8_release 4 (some .int) ∈ TT := t2_in (List.mem_of_getElem? (i := 221) rfl) rfl
theorem wt2_222 : Cond.methodLink RX8 137 yX5_releaseError ∈ TT := t2_in (List.mem_of_getElem? (i := 222) rfl) rfl
theorem wt2_223 : Cond.instanceMethod yX5_releaseError ∈ TT := t2_in (List.mem_of_getElem? (i := 223) rfl) rfl
theorem wt2_224 : Cond.selects RX5 yX5_releaseError yX5_releaseError ∈ TT := t2_in (List.mem_of_getElem? (i := 224) rfl) rfl
theorem wt2_225 : Cond.code yX5_releaseError cX5_releaseError 3 (some .int) ∈ TT := t2_in (List.mem_of_getElem? (i := 225) rfl) rfl
theorem wt2_226 : Cond.methodLink RX5 94 yX0_holderOf ∈ TT := t2_in (List.mem_of_getElem? (i := 226) rfl) rfl
theorem wt2_227 : Cond.instanceMethod yX0_holderOf ∈ TT := t2_in (List.mem_of_getElem? (i := 227) rfl) rfl
theorem wt2_228 : Cond.selects RX0 yX0_holderOf yX0_holderOf ∈ TT := t2_in (List.mem_of_getElem? (i := 228) rfl) rfl
theorem wt2_229 : Cond.code yX0_holderOf cX0_holderOf 2 (some .int) ∈ TT := t2_in (List.mem_of_getElem? (i := 229) rfl) rfl
theorem wt2_230 : Cond.methodLink RX8 140 yX0_liftUp ∈ TT := t2_in (List.mem_of_getElem? (i := 230) rfl) rfl
theorem wt2_231 : Cond.instanceMethod yX0_liftUp ∈ TT := t2_in (List.mem_of_getElem? (i := 231) rfl) rfl
theorem wt2_232 : Cond.selects RX0 yX0_liftUp yX0_liftUp ∈ TT := t2_in (List.mem_of_getElem? (i := 232) rfl) rfl
theorem wt2_233 : Cond.code yX0_liftUp cX0_liftUp 3 none ∈ TT := t2_in (List.mem_of_getElem? (i := 233) rfl) rfl
theorem wt2_234 : Cond.methodLink RL 44 yX8_tick ∈ TT := t2_in (List.mem_of_getElem? (i := 234) rfl) rfl
theorem wt2_235 : Cond.instanceMethod yX8_tick ∈ TT := t2_in (List.mem_of_getElem? (i := 235) rfl) rfl
theorem wt2_236 : Cond.selects RX8 yX8_tick yX8_tick ∈ TT := t2_in (List.mem_of_getElem? (i := 236) rfl) rfl
theorem wt2_237 : Cond.code yX8_tick cX8_tick 2 (some .int) ∈ TT := t2_in (List.mem_of_getElem? (i := 237) rfl) rfl
theorem wt2_238 : Cond.methodLink RX8 144 yX5_pass ∈ TT := t2_in (List.mem_of_getElem? (i := 238) rfl) rfl
theorem wt2_239 : Cond.instanceMethod yX5_pass ∈ TT := t2_in (List.mem_of_getElem? (i := 239) rfl) rfl
theorem wt3_0 : Cond.selects RX5 yX5_pass yX5_pass ∈ TT := t3_in (List.mem_of_getElem? (i := 0) rfl) rfl
theorem wt3_1 : Cond.code yX5_pass cX5_pass 8 (some .int) ∈ TT := t3_in (List.mem_of_getElem? (i := 1) rfl) rfl
theorem wt3_2 : Cond.methodLink RX5 106 yX5_drivenRow ∈ TT := t3_in (List.mem_of_getElem? (i := 2) rfl) rfl
theorem wt3_3 : Cond.instanceMethod yX5_drivenRow ∈ TT := t3_in (List.mem_of_getElem? (i := 3) rfl) rfl
theorem wt3_4 : Cond.selects RX5 yX5_drivenRow yX5_drivenRow ∈ TT := t3_in (List.mem_of_getElem? (i := 4) rfl) rfl
theorem wt3_5 : Cond.code yX5_drivenRow cX5_drivenRow 1 (some .int) ∈ TT := t3_in (List.mem_of_getElem? (i := 5) rfl) rfl
theorem wt3_6 : Cond.methodLink RX5 100 yJ9_floorMod_7cf53 ∈ TT := t3_in (List.mem_of_getElem? (i := 6) rfl) rfl
theorem wt3_7 : Cond.static yJ9_floorMod_7cf53 ∈ TT := t3_in (List.mem_of_getElem? (i := 7) rfl) rfl
theorem wt3_8 : Cond.code yJ9_floorMod_7cf53 cJ9_floorMod_7cf53 3 (some .int) ∈ TT := t3_in (List.mem_of_getElem? (i := 8) rfl) rfl
theorem wt3_9 : Cond.methodLink RX5 114 yX1_at ∈ TT := t3_in (List.mem_of_getElem? (i := 9) rfl) rfl
theorem wt3_10 : Cond.methodLink RX5 120 yX0_sensed ∈ TT := t3_in (List.mem_of_getElem? (i := 10) rfl) rfl
theorem wt3_11 : Cond.instanceMethod yX0_sensed ∈ TT := t3_in (List.mem_of_getElem? (i := 11) rfl) rfl
theorem wt3_12 : Cond.selects RX0 yX0_sensed yX0_sensed ∈ TT := t3_in (List.mem_of_getElem? (i := 12) rfl) rfl
theorem wt3_13 : Cond.code yX0_sensed cX0_sensed 8 (some .int) ∈ TT := t3_in (List.mem_of_getElem? (i := 13) rfl) rfl
theorem wt3_14 : Cond.methodLink RX0 93 yX0_joined ∈ TT := t3_in (List.mem_of_getElem? (i := 14) rfl) rfl
theorem wt3_15 : Cond.instanceMethod yX0_joined ∈ TT := t3_in (List.mem_of_getElem? (i := 15) rfl) rfl
theorem wt3_16 : Cond.selects RX0 yX0_joined yX0_joined ∈ TT := t3_in (List.mem_of_getElem? (i := 16) rfl) rfl
theorem wt3_17 : Cond.code yX0_joined cX0_joined 4 (some .int) ∈ TT := t3_in (List.mem_of_getElem? (i := 17) rfl) rfl
theorem wt3_18 : Cond.methodLink RX5 126 yX5_endStroke ∈ TT := t3_in (List.mem_of_getElem? (i := 18) rfl) rfl
theorem wt3_19 : Cond.instanceMethod yX5_endStroke ∈ TT := t3_in (List.mem_of_getElem? (i := 19) rfl) rfl
theorem wt3_20 : Cond.selects RX5 yX5_endStroke yX5_endStroke ∈ TT := t3_in (List.mem_of_getElem? (i := 20) rfl) rfl
theorem wt3_21 : Cond.code yX5_endStroke cX5_endStroke 3 none ∈ TT := t3_in (List.mem_of_getElem? (i := 21) rfl) rfl
theorem wt3_22 : Cond.methodLink RX5 158 yX5_fateNow ∈ TT := t3_in (List.mem_of_getElem? (i := 22) rfl) rfl
theorem wt3_23 : Cond.instanceMethod yX5_fateNow ∈ TT := t3_in (List.mem_of_getElem? (i := 23) rfl) rfl
theorem wt3_24 : Cond.selects RX5 yX5_fateNow yX5_fateNow ∈ TT := t3_in (List.mem_of_getElem? (i := 24) rfl) rfl
theorem wt3_25 : Cond.code yX5_fateNow cX5_fateNow 9 (some .int) ∈ TT := t3_in (List.mem_of_getElem? (i := 25) rfl) rfl
theorem wt3_26 : Cond.methodLink RX5 134 yX0_isDoubtful ∈ TT := t3_in (List.mem_of_getElem? (i := 26) rfl) rfl
theorem wt3_27 : Cond.instanceMethod yX0_isDoubtful ∈ TT := t3_in (List.mem_of_getElem? (i := 27) rfl) rfl
theorem wt3_28 : Cond.selects RX0 yX0_isDoubtful yX0_isDoubtful ∈ TT := t3_in (List.mem_of_getElem? (i := 28) rfl) rfl
theorem wt3_29 : Cond.code yX0_isDoubtful cX0_isDoubtful 2 (some .boolean) ∈ TT := t3_in (List.mem_of_getElem? (i := 29) rfl) rfl
theorem wt3_30 : Cond.methodLink RX5 137 yX0_shiftOwner ∈ TT := t3_in (List.mem_of_getElem? (i := 30) rfl) rfl
theorem wt3_31 : Cond.methodLink RX5 140 yX0_sinceOf ∈ TT := t3_in (List.mem_of_getElem? (i := 31) rfl) rfl
theorem wt3_32 : Cond.instanceMethod yX0_sinceOf ∈ TT := t3_in (List.mem_of_getElem? (i := 32) rfl) rfl
theorem wt3_33 : Cond.selects RX0 yX0_sinceOf yX0_sinceOf ∈ TT := t3_in (List.mem_of_getElem? (i := 33) rfl) rfl
theorem wt3_34 : Cond.code yX0_sinceOf cX0_sinceOf 2 (some .int) ∈ TT := t3_in (List.mem_of_getElem? (i := 34) rfl) rfl
theorem wt3_35 : Cond.methodLink RX5 143 yX7_distanceOf ∈ TT := t3_in (List.mem_of_getElem? (i := 35) rfl) rfl
theorem wt3_36 : Cond.instanceMethod yX7_distanceOf ∈ TT := t3_in (List.mem_of_getElem? (i := 36) rfl) rfl
theorem wt3_37 : Cond.selects RX7 yX7_distanceOf yX7_distanceOf ∈ TT := t3_in (List.mem_of_getElem? (i := 37) rfl) rfl
theorem wt3_38 : Cond.code yX7_distanceOf cX7_distanceOf 4 (some .float) ∈ TT := t3_in (List.mem_of_getElem? (i := 38) rfl) rfl
theorem wt3_39 : Cond.methodLink RX7 45 yX7_unsigned ∈ TT := t3_in (List.mem_of_getElem? (i := 39) rfl) rfl
theorem wt3_40 : Cond.static yX7_unsigned ∈ TT := t3_in (List.mem_of_getElem? (i := 40) rfl) rfl
theorem wt3_41 : Cond.code yX7_unsigned cX7_unsigned 1 (some .float) ∈ TT := t3_in (List.mem_of_getElem? (i := 41) rfl) rfl
theorem wt3_42 : Cond.methodLink RX7 49 yJ9_abs_0f7a4 ∈ TT := t3_in (List.mem_of_getElem? (i := 42) rfl) rfl
theorem wt3_43 : Cond.static yJ9_abs_0f7a4 ∈ TT := t3_in (List.mem_of_getElem? (i := 43) rfl) rfl
theorem wt3_44 : Cond.code yJ9_abs_0f7a4 cJ9_abs_0f7a4 1 (some .int) ∈ TT := t3_in (List.mem_of_getElem? (i := 44) rfl) rfl
theorem wt3_45 : Cond.constantFloat RX7 55 (1056964608) ∈ TT := t3_in (List.mem_of_getElem? (i := 45) rfl) rfl
theorem wt3_46 : Cond.methodLink RX5 151 yX7_unsigned ∈ TT := t3_in (List.mem_of_getElem? (i := 46) rfl) rfl
theorem wt3_47 : Cond.methodLink RX5 161 yX6_addFrom ∈ TT := t3_in (List.mem_of_getElem? (i := 47) rfl) rfl
theorem wt3_48 : Cond.instanceMethod yX6_addFrom ∈ TT := t3_in (List.mem_of_getElem? (i := 48) rfl) rfl
theorem wt3_49 : Cond.selects RX6 yX6_addFrom yX6_addFrom ∈ TT := t3_in (List.mem_of_getElem? (i := 49) rfl) rfl
theorem wt3_50 : Cond.code yX6_addFrom cX6_addFrom 6 none ∈ TT := t3_in (List.mem_of_getElem? (i := 50) rfl) rfl
theorem wt3_51 : Cond.methodLink RX6 43 yX6_slot ∈ TT := t3_in (List.mem_of_getElem? (i := 51) rfl) rfl
theorem wt3_52 : Cond.static yX6_slot ∈ TT := t3_in (List.mem_of_getElem? (i := 52) rfl) rfl
theorem wt3_53 : Cond.code yX6_slot cX6_slot 1 (some .int) ∈ TT := t3_in (List.mem_of_getElem? (i := 53) rfl) rfl
theorem wt3_54 : Cond.methodLink RX6 47 yX1_put ∈ TT := t3_in (List.mem_of_getElem? (i := 54) rfl) rfl
theorem wt3_55 : Cond.methodLink RX6 51 yX0_sinceOf ∈ TT := t3_in (List.mem_of_getElem? (i := 55) rfl) rfl
theorem wt3_56 : Cond.methodLink RX6 56 yX0_trueHolderOf ∈ TT := t3_in (List.mem_of_getElem? (i := 56) rfl) rfl
theorem wt3_57 : Cond.instanceMethod yX0_trueHolderOf ∈ TT := t3_in (List.mem_of_getElem? (i := 57) rfl) rfl
theorem wt3_58 : Cond.selects RX0 yX0_trueHolderOf yX0_trueHolderOf ∈ TT := t3_in (List.mem_of_getElem? (i := 58) rfl) rfl
theorem wt3_59 : Cond.code yX0_trueHolderOf cX0_trueHolderOf 2 (some .int) ∈ TT := t3_in (List.mem_of_getElem? (i := 59) rfl) rfl
theorem wt3_60 : Cond.methodLink RX6 59 yX0_notedFor ∈ TT := t3_in (List.mem_of_getElem? (i := 60) rfl) rfl
theorem wt3_61 : Cond.instanceMethod yX0_notedFor ∈ TT := t3_in (List.mem_of_getElem? (i := 61) rfl) rfl
theorem wt3_62 : Cond.selects RX0 yX0_notedFor yX0_notedFor ∈ TT := t3_in (List.mem_of_getElem? (i := 62) rfl) rfl
theorem wt3_63 : Cond.code yX0_notedFor cX0_notedFor 2 (some .int) ∈ TT := t3_in (List.mem_of_getElem? (i := 63) rfl) rfl
theorem wt3_64 : Cond.methodLink RX5 165 yX0_loseSight ∈ TT := t3_in (List.mem_of_getElem? (i := 64) rfl) rfl
theorem wt3_65 : Cond.instanceMethod yX0_loseSight ∈ TT := t3_in (List.mem_of_getElem? (i := 65) rfl) rfl
theorem wt3_66 : Cond.selects RX0 yX0_loseSight yX0_loseSight ∈ TT := t3_in (List.mem_of_getElem? (i := 66) rfl) rfl
theorem wt3_67 : Cond.code yX0_loseSight cX0_loseSight 3 none ∈ TT := t3_in (List.mem_of_getElem? (i := 67) rfl) rfl
theorem wt3_68 : Cond.methodLink RX5 168 yX6_addLatestOf ∈ TT := t3_in (List.mem_of_getElem? (i := 68) rfl) rfl
theorem wt3_69 : Cond.instanceMethod yX6_addLatestOf ∈ TT := t3_in (List.mem_of_getElem? (i := 69) rfl) rfl
theorem wt3_70 : Cond.selects RX6 yX6_addLatestOf yX6_addLatestOf ∈ TT := t3_in (List.mem_of_getElem? (i := 70) rfl) rfl
theorem wt3_71 : Cond.code yX6_addLatestOf cX6_addLatestOf 4 none ∈ TT := t3_in (List.mem_of_getElem? (i := 71) rfl) rfl
theorem wt3_72 : Cond.methodLink RX6 62 yX6_keyOf ∈ TT := t3_in (List.mem_of_getElem? (i := 72) rfl) rfl
theorem wt3_73 : Cond.instanceMethod yX6_keyOf ∈ TT := t3_in (List.mem_of_getElem? (i := 73) rfl) rfl
theorem wt3_74 : Cond.selects RX6 yX6_keyOf yX6_keyOf ∈ TT := t3_in (List.mem_of_getElem? (i := 74) rfl) rfl
theorem wt3_75 : Cond.code yX6_keyOf cX6_keyOf 2 (some .int) ∈ TT := t3_in (List.mem_of_getElem? (i := 75) rfl) rfl
theorem wt3_76 : Cond.methodLink RX6 78 yX1_at ∈ TT := t3_in (List.mem_of_getElem? (i := 76) rfl) rfl
theorem wt3_77 : Cond.methodLink RX6 65 yX6_sinceOf ∈ TT := t3_in (List.mem_of_getElem? (i := 77) rfl) rfl
theorem wt3_78 : Cond.instanceMethod yX6_sinceOf ∈ TT := t3_in (List.mem_of_getElem? (i := 78) rfl) rfl
theorem wt3_79 : Cond.selects RX6 yX6_sinceOf yX6_sinceOf ∈ TT := t3_in (List.mem_of_getElem? (i := 79) rfl) rfl
theorem wt3_80 : Cond.code yX6_sinceOf cX6_sinceOf 2 (some .int) ∈ TT := t3_in (List.mem_of_getElem? (i := 80) rfl) rfl
theorem wt3_81 : Cond.methodLink RX6 66 yX6_dwellOf ∈ TT := t3_in (List.mem_of_getElem? (i := 81) rfl) rfl
theorem wt3_82 : Cond.instanceMethod yX6_dwellOf ∈ TT := t3_in (List.mem_of_getElem? (i := 82) rfl) rfl
theorem wt3_83 : Cond.selects RX6 yX6_dwellOf yX6_dwellOf ∈ TT := t3_in (List.mem_of_getElem? (i := 83) rfl) rfl
theorem wt3_84 : Cond.code yX6_dwellOf cX6_dwellOf 2 (some .int) ∈ TT := t3_in (List.mem_of_getElem? (i := 84) rfl) rfl
theorem wt3_85 : Cond.methodLink RX6 69 yX6_fateOf ∈ TT := t3_in (List.mem_of_getElem? (i := 85) rfl) rfl
theorem wt3_86 : Cond.instanceMethod yX6_fateOf ∈ TT := t3_in (List.mem_of_getElem? (i := 86) rfl) rfl
theorem wt3_87 : Cond.selects RX6 yX6_fateOf yX6_fateOf ∈ TT := t3_in (List.mem_of_getElem? (i := 87) rfl) rfl
theorem wt3_88 : Cond.code yX6_fateOf cX6_fateOf 2 (some .int) ∈ TT := t3_in (List.mem_of_getElem? (i := 88) rfl) rfl
theorem wt3_89 : Cond.methodLink RX6 72 yX6_holderOf ∈ TT := t3_in (List.mem_of_getElem? (i := 89) rfl) rfl
theorem wt3_90 : Cond.instanceMethod yX6_holderOf ∈ TT := t3_in (List.mem_of_getElem? (i := 90) rfl) rfl
theorem wt3_91 : Cond.selects RX6 yX6_holderOf yX6_holderOf ∈ TT := t3_in (List.mem_of_getElem? (i := 91) rfl) rfl
theorem wt3_92 : Cond.code yX6_holderOf cX6_holderOf 2 (some .int) ∈ TT := t3_in (List.mem_of_getElem? (i := 92) rfl) rfl
theorem wt3_93 : Cond.methodLink RX6 75 yX6_notedOf ∈ TT := t3_in (List.mem_of_getElem? (i := 93) rfl) rfl
theorem wt3_94 : Cond.instanceMethod yX6_notedOf ∈ TT := t3_in (List.mem_of_getElem? (i := 94) rfl) rfl
theorem wt3_95 : Cond.selects RX6 yX6_notedOf yX6_notedOf ∈ TT := t3_in (List.mem_of_getElem? (i := 95) rfl) rfl
theorem wt3_96 : Cond.code yX6_notedOf cX6_notedOf 2 (some .int) ∈ TT := t3_in (List.mem_of_getElem? (i := 96) rfl) rfl
theorem wt3_97 : Cond.methodLink RX5 171 yX5_finish ∈ TT := t3_in (List.mem_of_getElem? (i := 97) rfl) rfl
theorem wt3_98 : Cond.instanceMethod yX5_finish ∈ TT := t3_in (List.mem_of_getElem? (i := 98) rfl) rfl
theorem wt3_99 : Cond.selects RX5 yX5_finish yX5_finish ∈ TT := t3_in (List.mem_of_getElem? (i := 99) rfl) rfl
theorem wt3_100 : Cond.code yX5_finish cX5_finish 10 none ∈ TT := t3_in (List.mem_of_getElem? (i := 100) rfl) rfl
theorem wt3_101 : Cond.methodLink RX5 182 yX6_holderOf ∈ TT := t3_in (List.mem_of_getElem? (i := 101) rfl) rfl
theorem wt3_102 : Cond.methodLink RX5 183 yX5_typistOf ∈ TT := t3_in (List.mem_of_getElem? (i := 102) rfl) rfl
theorem wt3_103 : Cond.methodLink RX5 193 yX6_sinceOf ∈ TT := t3_in (List.mem_of_getElem? (i := 103) rfl) rfl
theorem wt3_104 : Cond.methodLink RX5 194 yX6_dwellOf ∈ TT := t3_in (List.mem_of_getElem? (i := 104) rfl) rfl
theorem wt3_105 : Cond.methodLink RX5 200 yX7_learn ∈ TT := t3_in (List.mem_of_getElem? (i := 105) rfl) rfl
theorem wt3_106 : Cond.instanceMethod yX7_learn ∈ TT := t3_in (List.mem_of_getElem? (i := 106) rfl) rfl
theorem wt3_107 : Cond.selects RX7 yX7_learn yX7_learn ∈ TT := t3_in (List.mem_of_getElem? (i := 107) rfl) rfl
theorem wt3_108 : Cond.code yX7_learn cX7_learn 4 none ∈ TT := t3_in (List.mem_of_getElem? (i := 108) rfl) rfl
theorem wt3_109 : Cond.methodLink RX7 56 yX7_atLeastHalf ∈ TT := t3_in (List.mem_of_getElem? (i := 109) rfl) rfl
theorem wt3_110 : Cond.static yX7_atLeastHalf ∈ TT := t3_in (List.mem_of_getElem? (i := 110) rfl) rfl
theorem wt3_111 : Cond.code yX7_atLeastHalf cX7_atLeastHalf 1 (some .float) ∈ TT := t3_in (List.mem_of_getElem? (i := 111) rfl) rfl
theorem wt3_112 : Cond.methodLink RX5 204 yX6_keyOf ∈ TT := t3_in (List.mem_of_getElem? (i := 112) rfl) rfl
theorem wt3_113 : Cond.methodLink RX5 207 yX0_signOf ∈ TT := t3_in (List.mem_of_getElem? (i := 113) rfl) rfl
theorem wt3_114 : Cond.methodLink RX5 214 yX6_notedOf ∈ TT := t3_in (List.mem_of_getElem? (i := 114) rfl) rfl
theorem wt3_115 : Cond.methodLink RX5 217 yX7_addSign ∈ TT := t3_in (List.mem_of_getElem? (i := 115) rfl) rfl
theorem wt3_116 : Cond.instanceMethod yX7_addSign ∈ TT := t3_in (List.mem_of_getElem? (i := 116) rfl) rfl
theorem wt3_117 : Cond.selects RX7 yX7_addSign yX7_addSign ∈ TT := t3_in (List.mem_of_getElem? (i := 117) rfl) rfl
theorem wt3_118 : Cond.code yX7_addSign cX7_addSign 2 none ∈ TT := t3_in (List.mem_of_getElem? (i := 118) rfl) rfl
theorem wt3_119 : Cond.methodLink RX7 59 yJ9_floorMod_7cf53 ∈ TT := t3_in (List.mem_of_getElem? (i := 119) rfl) rfl
theorem wt3_120 : Cond.methodLink RX7 63 yX1_put ∈ TT := t3_in (List.mem_of_getElem? (i := 120) rfl) rfl
theorem wt3_121 : Cond.methodLink RX5 130 yX0_see ∈ TT := t3_in (List.mem_of_getElem? (i := 121) rfl) rfl
theorem wt3_122 : Cond.instanceMethod yX0_see ∈ TT := t3_in (List.mem_of_getElem? (i := 122) rfl) rfl
theorem wt3_123 : Cond.selects RX0 yX0_see yX0_see ∈ TT := t3_in (List.mem_of_getElem? (i := 123) rfl) rfl
theorem wt3_124 : Cond.code yX0_see cX0_see 7 none ∈ TT := t3_in (List.mem_of_getElem? (i := 124) rfl) rfl
theorem wt3_125 : Cond.methodLink RX0 105 yX0_closesCorner ∈ TT := t3_in (List.mem_of_getElem? (i := 125) rfl) rfl
theorem wt3_126 : Cond.instanceMethod yX0_closesCorner ∈ TT := t3_in (List.mem_of_getElem? (i := 126) rfl) rfl
theorem wt3_127 : Cond.selects RX0 yX0_closesCorner yX0_closesCorner ∈ TT := t3_in (List.mem_of_getElem? (i := 127) rfl) rfl
theorem wt3_128 : Cond.code yX0_closesCorner cX0_closesCorner 6 (some .boolean) ∈ TT := t3_in (List.mem_of_getElem? (i := 128) rfl) rfl
theorem wt3_129 : Cond.methodLink RX0 109 yX0_isShiftOn ∈ TT := t3_in (List.mem_of_getElem? (i := 129) rfl) rfl
theorem wt3_130 : Cond.instanceMethod yX0_isShiftOn ∈ TT := t3_in (List.mem_of_getElem? (i := 130) rfl) rfl
theorem wt3_131 : Cond.selects RX0 yX0_isShiftOn yX0_isShiftOn ∈ TT := t3_in (List.mem_of_getElem? (i := 131) rfl) rfl
theorem wt3_132 : Cond.code yX0_isShiftOn cX0_isShiftOn 3 (some .boolean) ∈ TT := t3_in (List.mem_of_getElem? (i := 132) rfl) rfl
theorem wt3_133 : Cond.methodLink RX0 84 yX0_shiftOf ∈ TT := t3_in (List.mem_of_getElem? (i := 133) rfl) rfl
theorem wt3_134 : Cond.methodLink RX0 87 yX0_isSeen ∈ TT := t3_in (List.mem_of_getElem? (i := 134) rfl) rfl
theorem wt3_135 : Cond.instanceMethod yX0_isSeen ∈ TT := t3_in (List.mem_of_getElem? (i := 135) rfl) rfl
theorem wt3_136 : Cond.selects RX0 yX0_isSeen yX0_isSeen ∈ TT := t3_in (List.mem_of_getElem? (i := 136) rfl) rfl
theorem wt3_137 : Cond.code yX0_isSeen cX0_isSeen 2 (some .boolean) ∈ TT := t3_in (List.mem_of_getElem? (i := 137) rfl) rfl
theorem wt3_138 : Cond.methodLink RX0 90 yX0_isDoubtful ∈ TT := t3_in (List.mem_of_getElem? (i := 138) rfl) rfl
theorem wt3_139 : Cond.methodLink RL 49 yX8_settle ∈ TT := t3_in (List.mem_of_getElem? (i := 139) rfl) rfl
theorem wt3_140 : Cond.instanceMethod yX8_settle ∈ TT := t3_in (List.mem_of_getElem? (i := 140) rfl) rfl
theorem wt3_141 : Cond.selects RX8 yX8_settle yX8_settle ∈ TT := t3_in (List.mem_of_getElem? (i := 141) rfl) rfl
theorem wt3_142 : Cond.code yX8_settle cX8_settle 3 (some .int) ∈ TT := t3_in (List.mem_of_getElem? (i := 142) rfl) rfl
theorem wt3_143 : Cond.methodLink RX8 147 yX5_hasDispute ∈ TT := t3_in (List.mem_of_getElem? (i := 143) rfl) rfl
theorem wt3_144 : Cond.instanceMethod yX5_hasDispute ∈ TT := t3_in (List.mem_of_getElem? (i := 144) rfl) rfl
theorem wt3_145 : Cond.selects RX5 yX5_hasDispute yX5_hasDispute ∈ TT := t3_in (List.mem_of_getElem? (i := 145) rfl) rfl
theorem wt3_146 : Cond.code yX5_hasDispute cX5_hasDispute 2 (some .boolean) ∈ TT := t3_in (List.mem_of_getElem? (i := 146) rfl) rfl
theorem wt3_147 : Cond.methodLink RX8 154 yX6_fateOf ∈ TT := t3_in (List.mem_of_getElem? (i := 147) rfl) rfl
theorem wt3_148 : Cond.methodLink RX8 159 yX5_settleByHand ∈ TT := t3_in (List.mem_of_getElem? (i := 148) rfl) rfl
theorem wt3_149 : Cond.instanceMethod yX5_settleByHand ∈ TT := t3_in (List.mem_of_getElem? (i := 149) rfl) rfl
theorem wt3_150 : Cond.selects RX5 yX5_settleByHand yX5_settleByHand ∈ TT := t3_in (List.mem_of_getElem? (i := 150) rfl) rfl
theorem wt3_151 : Cond.code yX5_settleByHand cX5_settleByHand 3 none ∈ TT := t3_in (List.mem_of_getElem? (i := 151) rfl) rfl
theorem wt3_152 : Cond.methodLink RX5 175 yX6_changeFate ∈ TT := t3_in (List.mem_of_getElem? (i := 152) rfl) rfl
theorem wt3_153 : Cond.instanceMethod yX6_changeFate ∈ TT := t3_in (List.mem_of_getElem? (i := 153) rfl) rfl
theorem wt3_154 : Cond.selects RX6 yX6_changeFate yX6_changeFate ∈ TT := t3_in (List.mem_of_getElem? (i := 154) rfl) rfl
theorem wt3_155 : Cond.code yX6_changeFate cX6_changeFate 3 none ∈ TT := t3_in (List.mem_of_getElem? (i := 155) rfl) rfl
theorem wt3_156 : Cond.methodLink RX6 82 yX6_holds ∈ TT := t3_in (List.mem_of_getElem? (i := 156) rfl) rfl
theorem wt3_157 : Cond.instanceMethod yX6_holds ∈ TT := t3_in (List.mem_of_getElem? (i := 157) rfl) rfl
theorem wt3_158 : Cond.selects RX6 yX6_holds yX6_holds ∈ TT := t3_in (List.mem_of_getElem? (i := 158) rfl) rfl
theorem wt3_159 : Cond.code yX6_holds cX6_holds 2 (some .boolean) ∈ TT := t3_in (List.mem_of_getElem? (i := 159) rfl) rfl
theorem wt3_160 : Cond.methodLink RX5 179 yX6_originOf ∈ TT := t3_in (List.mem_of_getElem? (i := 160) rfl) rfl
theorem wt3_161 : Cond.instanceMethod yX6_originOf ∈ TT := t3_in (List.mem_of_getElem? (i := 161) rfl) rfl
theorem wt3_162 : Cond.selects RX6 yX6_originOf yX6_originOf ∈ TT := t3_in (List.mem_of_getElem? (i := 162) rfl) rfl
theorem wt3_163 : Cond.code yX6_originOf cX6_originOf 2 (some .int) ∈ TT := t3_in (List.mem_of_getElem? (i := 163) rfl) rfl
theorem wt3_164 : Cond.methodLink RX8 162 yX6_keyOf ∈ TT := t3_in (List.mem_of_getElem? (i := 164) rfl) rfl
theorem wt3_165 : Cond.methodLink RL 53 yX8_type ∈ TT := t3_in (List.mem_of_getElem? (i := 165) rfl) rfl
theorem wt3_166 : Cond.instanceMethod yX8_type ∈ TT := t3_in (List.mem_of_getElem? (i := 166) rfl) rfl
theorem wt3_167 : Cond.selects RX8 yX8_type yX8_type ∈ TT := t3_in (List.mem_of_getElem? (i := 167) rfl) rfl
theorem wt3_168 : Cond.code yX8_type cX8_type 2 (some .int) ∈ TT := t3_in (List.mem_of_getElem? (i := 168) rfl) rfl
theorem wt3_169 : Cond.methodLink RX8 165 yX3_append ∈ TT := t3_in (List.mem_of_getElem? (i := 169) rfl) rfl
theorem wt3_170 : Cond.instanceMethod yX3_append ∈ TT := t3_in (List.mem_of_getElem? (i := 170) rfl) rfl
theorem wt3_171 : Cond.selects RX3 yX3_append yX3_append ∈ TT := t3_in (List.mem_of_getElem? (i := 171) rfl) rfl
theorem wt3_172 : Cond.code yX3_append cX3_append 2 (some .boolean) ∈ TT := t3_in (List.mem_of_getElem? (i := 172) rfl) rfl
theorem wt3_173 : Cond.methodLink RL 58 yX8_clearText ∈ TT := t3_in (List.mem_of_getElem? (i := 173) rfl) rfl
theorem wt3_174 : Cond.instanceMethod yX8_clearText ∈ TT := t3_in (List.mem_of_getElem? (i := 174) rfl) rfl
theorem wt3_175 : Cond.selects RX8 yX8_clearText yX8_clearText ∈ TT := t3_in (List.mem_of_getElem? (i := 175) rfl) rfl
theorem wt3_176 : Cond.code yX8_clearText cX8_clearText 2 (some .int) ∈ TT := t3_in (List.mem_of_getElem? (i := 176) rfl) rfl
theorem wt3_177 : Cond.methodLink RL 63 yX8_perform ∈ TT := t3_in (List.mem_of_getElem? (i := 177) rfl) rfl
theorem wt3_178 : Cond.instanceMethod yX8_perform ∈ TT := t3_in (List.mem_of_getElem? (i := 178) rfl) rfl
theorem wt3_179 : Cond.selects RX8 yX8_perform yX8_perform ∈ TT := t3_in (List.mem_of_getElem? (i := 179) rfl) rfl
theorem wt3_180 : Cond.code yX8_perform cX8_perform 6 (some .int) ∈ TT := t3_in (List.mem_of_getElem? (i := 180) rfl) rfl
theorem wt3_181 : Cond.methodLink RX8 172 yX3_fault ∈ TT := t3_in (List.mem_of_getElem? (i := 181) rfl) rfl
theorem wt3_182 : Cond.instanceMethod yX3_fault ∈ TT := t3_in (List.mem_of_getElem? (i := 182) rfl) rfl
theorem wt3_183 : Cond.selects RX3 yX3_fault yX3_fault ∈ TT := t3_in (List.mem_of_getElem? (i := 183) rfl) rfl
theorem wt3_184 : Cond.code yX3_fault cX3_fault 3 (some .int) ∈ TT := t3_in (List.mem_of_getElem? (i := 184) rfl) rfl
theorem wt3_185 : Cond.methodLink RX3 19 yX3_characterAt ∈ TT := t3_in (List.mem_of_getElem? (i := 185) rfl) rfl
theorem wt3_186 : Cond.instanceMethod yX3_characterAt ∈ TT := t3_in (List.mem_of_getElem? (i := 186) rfl) rfl
theorem wt3_187 : Cond.selects RX3 yX3_characterAt yX3_characterAt ∈ TT := t3_in (List.mem_of_getElem? (i := 187) rfl) rfl
theorem wt3_188 : Cond.code yX3_characterAt cX3_characterAt 2 (some .char) ∈ TT := t3_in (List.mem_of_getElem? (i := 188) rfl) rfl
theorem wt3_189 : Cond.methodLink RX3 23 yX3_placeAfter ∈ TT := t3_in (List.mem_of_getElem? (i := 189) rfl) rfl
theorem wt3_190 : Cond.static yX3_placeAfter ∈ TT := t3_in (List.mem_of_getElem? (i := 190) rfl) rfl
theorem wt3_191 : Cond.code yX3_placeAfter cX3_placeAfter 2 (some .int) ∈ TT := t3_in (List.mem_of_getElem? (i := 191) rfl) rfl
theorem wt3_192 : Cond.methodLink RX3 27 yX3_isDigit ∈ TT := t3_in (List.mem_of_getElem? (i := 192) rfl) rfl
theorem wt3_193 : Cond.static yX3_isDigit ∈ TT := t3_in (List.mem_of_getElem? (i := 193) rfl) rfl
theorem wt3_194 : Cond.code yX3_isDigit cX3_isDigit 1 (some .boolean) ∈ TT := t3_in (List.mem_of_getElem? (i := 194) rfl) rfl
theorem wt3_195 : Cond.methodLink RX8 175 yX5_copyFrom ∈ TT := t3_in (List.mem_of_getElem? (i := 195) rfl) rfl
theorem wt3_196 : Cond.methodLink RX8 178 yX3_isMoveEnd ∈ TT := t3_in (List.mem_of_getElem? (i := 196) rfl) rfl
theorem wt3_197 : Cond.instanceMethod yX3_isMoveEnd ∈ TT := t3_in (List.mem_of_getElem? (i := 197) rfl) rfl
theorem wt3_198 : Cond.selects RX3 yX3_isMoveEnd yX3_isMoveEnd ∈ TT := t3_in (List.mem_of_getElem? (i := 198) rfl) rfl
theorem wt3_199 : Cond.code yX3_isMoveEnd cX3_isMoveEnd 2 (some .boolean) ∈ TT := t3_in (List.mem_of_getElem? (i := 199) rfl) rfl
theorem wt3_200 : Cond.methodLink RX8 181 yX8_move ∈ TT := t3_in (List.mem_of_getElem? (i := 200) rfl) rfl
theorem wt3_202 : Cond.instanceMethod yX8_move ∈ TT := t3_in (List.mem_of_getElem? (i := 202) rfl) rfl
theorem wt3_203 : Cond.code yX8_move cX8_move 8 (some .int) ∈ TT := t3_in (List.mem_of_getElem? (i := 203) rfl) rfl
theorem wt3_204 : Cond.methodLink RX8 184 yX3_characterAt ∈ TT := t3_in (List.mem_of_getElem? (i := 204) rfl) rfl
theorem wt3_205 : Cond.methodLink RX8 188 yX3_number ∈ TT := t3_in (List.mem_of_getElem? (i := 205) rfl) rfl
theorem wt3_206 : Cond.instanceMethod yX3_number ∈ TT := t3_in (List.mem_of_getElem? (i := 206) rfl) rfl
theorem wt3_207 : Cond.selects RX3 yX3_number yX3_number ∈ TT := t3_in (List.mem_of_getElem? (i := 207) rfl) rfl
theorem wt3_208 : Cond.code yX3_number cX3_number 5 (some .int) ∈ TT := t3_in (List.mem_of_getElem? (i := 208) rfl) rfl
theorem wt3_209 : Cond.methodLink RL 67 yX8_undo ∈ TT := t3_in (List.mem_of_getElem? (i := 209) rfl) rfl
theorem wt3_210 : Cond.instanceMethod yX8_undo ∈ TT := t3_in (List.mem_of_getElem? (i := 210) rfl) rfl
theorem wt3_211 : Cond.selects RX8 yX8_undo yX8_undo ∈ TT := t3_in (List.mem_of_getElem? (i := 211) rfl) rfl
theorem wt3_212 : Cond.code yX8_undo cX8_undo 1 (some .int) ∈ TT := t3_in (List.mem_of_getElem? (i := 212) rfl) rfl
theorem wt3_213 : Cond.methodLink RX8 194 yX2_takeBack ∈ TT := t3_in (List.mem_of_getElem? (i := 213) rfl) rfl
theorem wt3_214 : Cond.instanceMethod yX2_takeBack ∈ TT := t3_in (List.mem_of_getElem? (i := 214) rfl) rfl
theorem wt3_215 : Cond.selects RX2 yX2_takeBack yX2_takeBack ∈ TT := t3_in (List.mem_of_getElem? (i := 215) rfl) rfl
theorem wt3_216 : Cond.code yX2_takeBack cX2_takeBack 3 none ∈ TT := t3_in (List.mem_of_getElem? (i := 216) rfl) rfl
theorem wt3_217 : Cond.methodLink RL 71 yX8_keep ∈ TT := t3_in (List.mem_of_getElem? (i := 217) rfl) rfl
theorem wt3_218 : Cond.instanceMethod yX8_keep ∈ TT := t3_in (List.mem_of_getElem? (i := 218) rfl) rfl
theorem wt3_219 : Cond.selects RX8 yX8_keep yX8_keep ∈ TT := t3_in (List.mem_of_getElem? (i := 219) rfl) rfl
theorem wt3_220 : Cond.code yX8_keep cX8_keep 1 (some .int) ∈ TT := t3_in (List.mem_of_getElem? (i := 220) rfl) rfl
theorem wt3_221 : Cond.methodLink RL 75 yX8_restore ∈ TT := t3_in (List.mem_of_getElem? (i := 221) rfl) rfl
theorem wt3_222 : Cond.instanceMethod yX8_restore ∈ TT := t3_in (List.mem_of_getElem? (i := 222) rfl) rfl
theorem wt3_223 : Cond.selects RX8 yX8_restore yX8_restore ∈ TT := t3_in (List.mem_of_getElem? (i := 223) rfl) rfl
theorem wt3_224 : Cond.code yX8_restore cX8_restore 1 (some .int) ∈ TT := t3_in (List.mem_of_getElem? (i := 224) rfl) rfl
theorem wt3_225 : Cond.methodLink RL 79 yX8_key ∈ TT := t3_in (List.mem_of_getElem? (i := 225) rfl) rfl
theorem wt3_226 : Cond.instanceMethod yX8_key ∈ TT := t3_in (List.mem_of_getElem? (i := 226) rfl) rfl
theorem wt3_227 : Cond.selects RX8 yX8_key yX8_key ∈ TT := t3_in (List.mem_of_getElem? (i := 227) rfl) rfl
theorem wt3_228 : Cond.code yX8_key cX8_key 4 (some .int) ∈ TT := t3_in (List.mem_of_getElem? (i := 228) rfl) rfl
theorem wt3_229 : Cond.methodLink RX8 200 yX0_holderOf ∈ TT := t3_in (List.mem_of_getElem? (i := 229) rfl) rfl
theorem wt3_230 : Cond.methodLink RX8 203 yX8_orNone ∈ TT := t3_in (List.mem_of_getElem? (i := 230) rfl) rfl
theorem wt3_231 : Cond.static yX8_orNone ∈ TT := t3_in (List.mem_of_getElem? (i := 231) rfl) rfl
theorem wt3_232 : Cond.code yX8_orNone cX8_orNone 1 (some .int) ∈ TT := t3_in (List.mem_of_getElem? (i := 232) rfl) rfl
theorem wt3_233 : Cond.methodLink RX8 206 yX0_isSeen ∈ TT := t3_in (List.mem_of_getElem? (i := 233) rfl) rfl
theorem wt3_234 : Cond.methodLink RX8 209 yX0_sinceOf ∈ TT := t3_in (List.mem_of_getElem? (i := 234) rfl) rfl
theorem wt3_235 : Cond.methodLink RX8 212 yX0_isDoubtful ∈ TT := t3_in (List.mem_of_getElem? (i := 235) rfl) rfl
theorem wt3_236 : Cond.methodLink RX8 215 yX0_rowOf ∈ TT := t3_in (List.mem_of_getElem? (i := 236) rfl) rfl
theorem wt3_237 : Cond.methodLink RX8 218 yX0_sensed ∈ TT := t3_in (List.mem_of_getElem? (i := 237) rfl) rfl
theorem wt3_238 : Cond.methodLink RX8 221 yX0_bitOf ∈ TT := t3_in (List.mem_of_getElem? (i := 238) rfl) rfl
theorem wt3_239 : Cond.methodLink RL 83 yX8_typist ∈ TT := t3_in (List.mem_of_getElem? (i := 239) rfl) rfl
theorem wt4_0 : Cond.instanceMethod yX8_typist ∈ TT := t4_in (List.mem_of_getElem? (i := 0) rfl) rfl
theorem wt4_1 : Cond.selects RX8 yX8_typist yX8_typist ∈ TT := t4_in (List.mem_of_getElem? (i := 1) rfl) rfl
theorem wt4_2 : Cond.code yX8_typist cX8_typist 4 (some .int) ∈ TT := t4_in (List.mem_of_getElem? (i := 2) rfl) rfl
theorem wt4_3 : Cond.methodLink RX8 224 yX0_isShiftOn ∈ TT := t4_in (List.mem_of_getElem? (i := 3) rfl) rfl
theorem wt4_4 : Cond.methodLink RL 87 yX8_style ∈ TT := t4_in (List.mem_of_getElem? (i := 4) rfl) rfl
theorem wt4_5 : Cond.instanceMethod yX8_style ∈ TT := t4_in (List.mem_of_getElem? (i := 5) rfl) rfl
theorem wt4_6 : Cond.selects RX8 yX8_style yX8_style ∈ TT := t4_in (List.mem_of_getElem? (i := 6) rfl) rfl
theorem wt4_7 : Cond.code yX8_style cX8_style 3 (some .float) ∈ TT := t4_in (List.mem_of_getElem? (i := 7) rfl) rfl
theorem wt4_8 : Cond.methodLink RX8 239 yX8_isMean ∈ TT := t4_in (List.mem_of_getElem? (i := 8) rfl) rfl
theorem wt4_9 : Cond.static yX8_isMean ∈ TT := t4_in (List.mem_of_getElem? (i := 9) rfl) rfl
theorem wt4_10 : Cond.code yX8_isMean cX8_isMean 1 (some .boolean) ∈ TT := t4_in (List.mem_of_getElem? (i := 10) rfl) rfl
theorem wt4_11 : Cond.constantFloat RX8 242 (2143289344) ∈ TT := t4_in (List.mem_of_getElem? (i := 11) rfl) rfl
theorem wt4_12 : Cond.methodLink RX8 243 yX8_meanOf ∈ TT := t4_in (List.mem_of_getElem? (i := 12) rfl) rfl
theorem wt4_14 : Cond.instanceMethod yX8_meanOf ∈ TT := t4_in (List.mem_of_getElem? (i := 14) rfl) rfl
theorem wt4_15 : Cond.code yX8_meanOf cX8_meanOf 4 (some .float) ∈ TT := t4_in (List.mem_of_getElem? (i := 15) rfl) rfl
theorem wt4_16 : Cond.methodLink RL 92 yX8_hundredths ∈ TT := t4_in (List.mem_of_getElem? (i := 16) rfl) rfl
theorem wt4_17 : Cond.instanceMethod yX8_hundredths ∈ TT := t4_in (List.mem_of_getElem? (i := 17) rfl) rfl
theorem wt4_18 : Cond.selects RX8 yX8_hundredths yX8_hundredths ∈ TT := t4_in (List.mem_of_getElem? (i := 18) rfl) rfl
theorem wt4_19 : Cond.code yX8_hundredths cX8_hundredths 3 (some .int) ∈ TT := t4_in (List.mem_of_getElem? (i := 19) rfl) rfl
theorem wt4_20 : Cond.constantFloat RX8 247 (1120403456) ∈ TT := t4_in (List.mem_of_getElem? (i := 20) rfl) rfl
theorem wt4_21 : Cond.methodLink RL 96 yX8_typed ∈ TT := t4_in (List.mem_of_getElem? (i := 21) rfl) rfl
theorem wt4_22 : Cond.instanceMethod yX8_typed ∈ TT := t4_in (List.mem_of_getElem? (i := 22) rfl) rfl
theorem wt4_23 : Cond.selects RX8 yX8_typed yX8_typed ∈ TT := t4_in (List.mem_of_getElem? (i := 23) rfl) rfl
theorem wt4_24 : Cond.code yX8_typed cX8_typed 4 (some .int) ∈ TT := t4_in (List.mem_of_getElem? (i := 24) rfl) rfl
theorem wt4_25 : Cond.methodLink RX8 248 yX7_signBack ∈ TT := t4_in (List.mem_of_getElem? (i := 25) rfl) rfl
theorem wt4_26 : Cond.instanceMethod yX7_signBack ∈ TT := t4_in (List.mem_of_getElem? (i := 26) rfl) rfl
theorem wt4_27 : Cond.selects RX7 yX7_signBack yX7_signBack ∈ TT := t4_in (List.mem_of_getElem? (i := 27) rfl) rfl
theorem wt4_28 : Cond.code yX7_signBack cX7_signBack 2 (some .int) ∈ TT := t4_in (List.mem_of_getElem? (i := 28) rfl) rfl
theorem wt4_29 : Cond.methodLink RX7 67 yX1_at ∈ TT := t4_in (List.mem_of_getElem? (i := 29) rfl) rfl
theorem wt4_30 : Cond.methodLink RL 100 yX8_stroke ∈ TT := t4_in (List.mem_of_getElem? (i := 30) rfl) rfl
theorem wt4_31 : Cond.instanceMethod yX8_stroke ∈ TT := t4_in (List.mem_of_getElem? (i := 31) rfl) rfl
theorem wt4_32 : Cond.selects RX8 yX8_stroke yX8_stroke ∈ TT := t4_in (List.mem_of_getElem? (i := 32) rfl) rfl
theorem wt4_33 : Cond.code yX8_stroke cX8_stroke 5 (some .int) ∈ TT := t4_in (List.mem_of_getElem? (i := 33) rfl) rfl
theorem wt4_34 : Cond.methodLink RX8 257 yX6_sinceOf ∈ TT := t4_in (List.mem_of_getElem? (i := 34) rfl) rfl
theorem wt4_35 : Cond.methodLink RX8 258 yX6_dwellOf ∈ TT := t4_in (List.mem_of_getElem? (i := 35) rfl) rfl
theorem wt4_36 : Cond.methodLink RX8 261 yX6_holderOf ∈ TT := t4_in (List.mem_of_getElem? (i := 36) rfl) rfl
theorem wt4_37 : Cond.methodLink RX8 262 yX6_notedOf ∈ TT := t4_in (List.mem_of_getElem? (i := 37) rfl) rfl
theorem wt4_38 : Cond.methodLink RL 104 yX8_dispute ∈ TT := t4_in (List.mem_of_getElem? (i := 38) rfl) rfl
theorem wt4_39 : Cond.instanceMethod yX8_dispute ∈ TT := t4_in (List.mem_of_getElem? (i := 39) rfl) rfl
theorem wt4_40 : Cond.selects RX8 yX8_dispute yX8_dispute ∈ TT := t4_in (List.mem_of_getElem? (i := 40) rfl) rfl
theorem wt4_41 : Cond.code yX8_dispute cX8_dispute 4 (some .int) ∈ TT := t4_in (List.mem_of_getElem? (i := 41) rfl) rfl
theorem wt4_42 : Cond.methodLink RL 108 yX8_distance ∈ TT := t4_in (List.mem_of_getElem? (i := 42) rfl) rfl
theorem wt4_43 : Cond.instanceMethod yX8_distance ∈ TT := t4_in (List.mem_of_getElem? (i := 43) rfl) rfl
theorem wt4_44 : Cond.selects RX8 yX8_distance yX8_distance ∈ TT := t4_in (List.mem_of_getElem? (i := 44) rfl) rfl
theorem wt4_45 : Cond.code yX8_distance cX8_distance 4 (some .float) ∈ TT := t4_in (List.mem_of_getElem? (i := 45) rfl) rfl
theorem wt4_46 : Cond.methodLink RX8 265 yX7_distanceOf ∈ TT := t4_in (List.mem_of_getElem? (i := 46) rfl) rfl
theorem wt4_47 : Cond.methodLink RL 113 yX8_verdict ∈ TT := t4_in (List.mem_of_getElem? (i := 47) rfl) rfl
theorem wt4_48 : Cond.instanceMethod yX8_verdict ∈ TT := t4_in (List.mem_of_getElem? (i := 48) rfl) rfl
theorem wt4_49 : Cond.selects RX8 yX8_verdict yX8_verdict ∈ TT := t4_in (List.mem_of_getElem? (i := 49) rfl) rfl
theorem wt4_50 : Cond.code yX8_verdict cX8_verdict 2 (some .int) ∈ TT := t4_in (List.mem_of_getElem? (i := 50) rfl) rfl
theorem wt4_51 : Cond.methodLink RX8 268 yX5_fateNow ∈ TT := t4_in (List.mem_of_getElem? (i := 51) rfl) rfl
theorem wt4_52 : Cond.methodLink RL 117 yX8_ghostsBy ∈ TT := t4_in (List.mem_of_getElem? (i := 52) rfl) rfl
theorem wt4_53 : Cond.instanceMethod yX8_ghostsBy ∈ TT := t4_in (List.mem_of_getElem? (i := 53) rfl) rfl
theorem wt4_54 : Cond.selects RX8 yX8_ghostsBy yX8_ghostsBy ∈ TT := t4_in (List.mem_of_getElem? (i := 54) rfl) rfl
theorem wt4_55 : Cond.code yX8_ghostsBy cX8_ghostsBy 3 (some .int) ∈ TT := t4_in (List.mem_of_getElem? (i := 55) rfl) rfl
theorem wt4_56 : Cond.methodLink RX8 271 yX0_ghostsBeside ∈ TT := t4_in (List.mem_of_getElem? (i := 56) rfl) rfl
theorem wt4_57 : Cond.instanceMethod yX0_ghostsBeside ∈ TT := t4_in (List.mem_of_getElem? (i := 57) rfl) rfl
theorem wt4_58 : Cond.selects RX0 yX0_ghostsBeside yX0_ghostsBeside ∈ TT := t4_in (List.mem_of_getElem? (i := 58) rfl) rfl
theorem wt4_59 : Cond.code yX0_ghostsBeside cX0_ghostsBeside 6 (some .int) ∈ TT := t4_in (List.mem_of_getElem? (i := 59) rfl) rfl
theorem wt4_60 : Cond.methodLink RX0 97 yX0_sensed ∈ TT := t4_in (List.mem_of_getElem? (i := 60) rfl) rfl
theorem wt4_61 : Cond.methodLink RX0 100 yJ6_bitCount_0f7a4 ∈ TT := t4_in (List.mem_of_getElem? (i := 61) rfl) rfl
theorem wt4_62 : Cond.methodLink RL 121 yX8_count ∈ TT := t4_in (List.mem_of_getElem? (i := 62) rfl) rfl
theorem wt4_63 : Cond.instanceMethod yX8_count ∈ TT := t4_in (List.mem_of_getElem? (i := 63) rfl) rfl
theorem wt4_64 : Cond.selects RX8 yX8_count yX8_count ∈ TT := t4_in (List.mem_of_getElem? (i := 64) rfl) rfl
theorem wt4_65 : Cond.code yX8_count cX8_count 3 (some .int) ∈ TT := t4_in (List.mem_of_getElem? (i := 65) rfl) rfl
theorem wt4_66 : Cond.methodLink RX8 274 yX0_doubtfulKeys ∈ TT := t4_in (List.mem_of_getElem? (i := 66) rfl) rfl
theorem wt4_67 : Cond.instanceMethod yX0_doubtfulKeys ∈ TT := t4_in (List.mem_of_getElem? (i := 67) rfl) rfl
theorem wt4_68 : Cond.selects RX0 yX0_doubtfulKeys yX0_doubtfulKeys ∈ TT := t4_in (List.mem_of_getElem? (i := 68) rfl) rfl
theorem wt4_69 : Cond.code yX0_doubtfulKeys cX0_doubtfulKeys 1 (some .int) ∈ TT := t4_in (List.mem_of_getElem? (i := 69) rfl) rfl
theorem wt4_70 : Cond.methodLink RX8 286 yX5_drivenRow ∈ TT := t4_in (List.mem_of_getElem? (i := 70) rfl) rfl
theorem wt4_71 : Cond.classLink RL 10 RX9 ∈ TT := t4_in (List.mem_of_getElem? (i := 71) rfl) rfl
theorem wt4_72 : Cond.instantiable RX9 15 ∈ TT := t4_in (List.mem_of_getElem? (i := 72) rfl) rfl
theorem wt4_73 : Cond.methodLink RL 12 yX9_init ∈ TT := t4_in (List.mem_of_getElem? (i := 73) rfl) rfl
theorem wt4_74 : Cond.instanceMethod yX9_init ∈ TT := t4_in (List.mem_of_getElem? (i := 74) rfl) rfl
theorem wt4_75 : Cond.code yX9_init cX9_init 2 none ∈ TT := t4_in (List.mem_of_getElem? (i := 75) rfl) rfl
theorem wt4_76 : Cond.methodLink RX9 1 ⟨"java/lang/Object", "<init>", "()V"⟩ ∈ TT := t4_in (List.mem_of_getElem? (i := 76) rfl) rfl
theorem wt4_77 : Cond.constantFloat RX9 39 (1082130432) ∈ TT := t4_in (List.mem_of_getElem? (i := 77) rfl) rfl
theorem wt4_78 : Cond.constantFloat RX9 40 (1086324736) ∈ TT := t4_in (List.mem_of_getElem? (i := 78) rfl) rfl
theorem wt4_79 : Cond.constantFloat RX9 41 (1040187392) ∈ TT := t4_in (List.mem_of_getElem? (i := 79) rfl) rfl
theorem wt4_80 : Cond.constantFloat RX9 42 (1056964608) ∈ TT := t4_in (List.mem_of_getElem? (i := 80) rfl) rfl
theorem wt4_81 : Cond.constantFloat RX9 43 (1048576000) ∈ TT := t4_in (List.mem_of_getElem? (i := 81) rfl) rfl
theorem wt4_82 : Cond.methodLink RX9 44 yX9_clearKeys ∈ TT := t4_in (List.mem_of_getElem? (i := 82) rfl) rfl
theorem wt4_84 : Cond.instanceMethod yX9_clearKeys ∈ TT := t4_in (List.mem_of_getElem? (i := 84) rfl) rfl
theorem wt4_85 : Cond.code yX9_clearKeys cX9_clearKeys 2 none ∈ TT := t4_in (List.mem_of_getElem? (i := 85) rfl) rfl
theorem wt4_86 : Cond.fieldLink RX9 7 "BlanketKeysModel" "row" "[I" ∈ TT := t4_in (List.mem_of_getElem? (i := 86) rfl) rfl
theorem wt4_87 : Cond.fieldLink RX9 13 "BlanketKeysModel" "past" "[I" ∈ TT := t4_in (List.mem_of_getElem? (i := 87) rfl) rfl
theorem wt4_88 : Cond.fieldLink RX9 16 "BlanketKeysModel" "aside" "[I" ∈ TT := t4_in (List.mem_of_getElem? (i := 88) rfl) rfl
theorem wt4_89 : Cond.fieldLink RX9 19 "BlanketKeysModel" "before" "[I" ∈ TT := t4_in (List.mem_of_getElem? (i := 89) rfl) rfl
theorem wt4_90 : Cond.fieldLink RX9 22 "BlanketKeysModel" "style" "[F" ∈ TT := t4_in (List.mem_of_getElem? (i := 90) rfl) rfl
theorem wt4_91 : Cond.fieldLink RX9 26 "BlanketKeysModel" "pastStyle" "[F" ∈ TT := t4_in (List.mem_of_getElem? (i := 91) rfl) rfl
theorem wt4_92 : Cond.fieldLink RX9 29 "BlanketKeysModel" "asideStyle" "[F" ∈ TT := t4_in (List.mem_of_getElem? (i := 92) rfl) rfl
theorem wt4_93 : Cond.fieldLink RX9 32 "BlanketKeysModel" "beforeStyle" "[F" ∈ TT := t4_in (List.mem_of_getElem? (i := 93) rfl) rfl
theorem wt4_94 : Cond.fieldLink RX9 47 "BlanketKeysModel" "states" "I" ∈ TT := t4_in (List.mem_of_getElem? (i := 94) rfl) rfl
theorem wt4_95 : Cond.fieldLink RX9 57 "BlanketKeysModel" "isAside" "Z" ∈ TT := t4_in (List.mem_of_getElem? (i := 95) rfl) rfl
theorem wt4_96 : Cond.fieldLink RX9 35 "BlanketKeysModel" "text" "[C" ∈ TT := t4_in (List.mem_of_getElem? (i := 96) rfl) rfl
theorem wt4_97 : Cond.fieldLink RX9 168 "BlanketKeysModel" "length" "I" ∈ TT := t4_in (List.mem_of_getElem? (i := 97) rfl) rfl
theorem wt4_98 : Cond.fieldLink RX9 171 "BlanketKeysModel" "at" "I" ∈ TT := t4_in (List.mem_of_getElem? (i := 98) rfl) rfl
theorem wt4_99 : Cond.fieldLink RX9 104 "BlanketKeysModel" "columnsNow" "I" ∈ TT := t4_in (List.mem_of_getElem? (i := 99) rfl) rfl
theorem wt4_100 : Cond.fieldLink RX9 101 "BlanketKeysModel" "rowsNow" "I" ∈ TT := t4_in (List.mem_of_getElem? (i := 100) rfl) rfl
theorem wt4_101 : Cond.laysFinal RX9 "BlanketKeysModel" "row" "[I" ∈ TT := t4_in (List.mem_of_getElem? (i := 101) rfl) rfl
theorem wt4_103 : Cond.laysFinal RX9 "BlanketKeysModel" "past" "[I" ∈ TT := t4_in (List.mem_of_getElem? (i := 103) rfl) rfl
theorem wt4_105 : Cond.laysFinal RX9 "BlanketKeysModel" "aside" "[I" ∈ TT := t4_in (List.mem_of_getElem? (i := 105) rfl) rfl
theorem wt4_107 : Cond.laysFinal RX9 "BlanketKeysModel" "before" "[I" ∈ TT := t4_in (List.mem_of_getElem? (i := 107) rfl) rfl
theorem wt4_109 : Cond.laysFinal RX9 "BlanketKeysModel" "style" "[F" ∈ TT := t4_in (List.mem_of_getElem? (i := 109) rfl) rfl
theorem wt4_111 : Cond.laysFinal RX9 "BlanketKeysModel" "pastStyle" "[F" ∈ TT := t4_in (List.mem_of_getElem? (i := 111) rfl) rfl
theorem wt4_113 : Cond.laysFinal RX9 "BlanketKeysModel" "asideStyle" "[F" ∈ TT := t4_in (List.mem_of_getElem? (i := 113) rfl) rfl
theorem wt4_115 : Cond.laysFinal RX9 "BlanketKeysModel" "beforeStyle" "[F" ∈ TT := t4_in (List.mem_of_getElem? (i := 115) rfl) rfl
theorem wt4_117 : Cond.lays RX9 "BlanketKeysModel" "states" "I" ∈ TT := t4_in (List.mem_of_getElem? (i := 117) rfl) rfl
theorem wt4_119 : Cond.lays RX9 "BlanketKeysModel" "isAside" "Z" ∈ TT := t4_in (List.mem_of_getElem? (i := 119) rfl) rfl
theorem wt4_121 : Cond.laysFinal RX9 "BlanketKeysModel" "text" "[C" ∈ TT := t4_in (List.mem_of_getElem? (i := 121) rfl) rfl
theorem wt4_123 : Cond.lays RX9 "BlanketKeysModel" "length" "I" ∈ TT := t4_in (List.mem_of_getElem? (i := 123) rfl) rfl
theorem wt4_125 : Cond.lays RX9 "BlanketKeysModel" "at" "I" ∈ TT := t4_in (List.mem_of_getElem? (i := 125) rfl) rfl
theorem wt4_127 : Cond.lays RX9 "BlanketKeysModel" "columnsNow" "I" ∈ TT := t4_in (List.mem_of_getElem? (i := 127) rfl) rfl
theorem wt4_129 : Cond.lays RX9 "BlanketKeysModel" "rowsNow" "I" ∈ TT := t4_in (List.mem_of_getElem? (i := 129) rfl) rfl
theorem wt4_132 : Cond.arrayClass .float ∈ TT := t4_in (List.mem_of_getElem? (i := 132) rfl) rfl
theorem wt4_133 : Cond.methodLink RL 70 yX9_undo ∈ TT := t4_in (List.mem_of_getElem? (i := 133) rfl) rfl
theorem wt4_134 : Cond.instanceMethod yX9_undo ∈ TT := t4_in (List.mem_of_getElem? (i := 134) rfl) rfl
theorem wt4_135 : Cond.selects RX9 yX9_undo yX9_undo ∈ TT := t4_in (List.mem_of_getElem? (i := 135) rfl) rfl
theorem wt4_136 : Cond.code yX9_undo cX9_undo 2 (some .int) ∈ TT := t4_in (List.mem_of_getElem? (i := 136) rfl) rfl
theorem wt4_137 : Cond.methodLink RL 74 yX9_keep ∈ TT := t4_in (List.mem_of_getElem? (i := 137) rfl) rfl
theorem wt4_138 : Cond.instanceMethod yX9_keep ∈ TT := t4_in (List.mem_of_getElem? (i := 138) rfl) rfl
theorem wt4_139 : Cond.selects RX9 yX9_keep yX9_keep ∈ TT := t4_in (List.mem_of_getElem? (i := 139) rfl) rfl
theorem wt4_140 : Cond.code yX9_keep cX9_keep 2 (some .int) ∈ TT := t4_in (List.mem_of_getElem? (i := 140) rfl) rfl
theorem wt4_141 : Cond.methodLink RL 78 yX9_restore ∈ TT := t4_in (List.mem_of_getElem? (i := 141) rfl) rfl
theorem wt4_142 : Cond.instanceMethod yX9_restore ∈ TT := t4_in (List.mem_of_getElem? (i := 142) rfl) rfl
theorem wt4_143 : Cond.selects RX9 yX9_restore yX9_restore ∈ TT := t4_in (List.mem_of_getElem? (i := 143) rfl) rfl
theorem wt4_144 : Cond.code yX9_restore cX9_restore 2 (some .int) ∈ TT := t4_in (List.mem_of_getElem? (i := 144) rfl) rfl
theorem wt4_145 : Cond.methodLink RX9 61 yX9_begin ∈ TT := t4_in (List.mem_of_getElem? (i := 145) rfl) rfl
theorem wt4_147 : Cond.instanceMethod yX9_begin ∈ TT := t4_in (List.mem_of_getElem? (i := 147) rfl) rfl
theorem wt4_148 : Cond.code yX9_begin cX9_begin 1 none ∈ TT := t4_in (List.mem_of_getElem? (i := 148) rfl) rfl
theorem wt4_149 : Cond.methodLink RX9 51 yX9_remember ∈ TT := t4_in (List.mem_of_getElem? (i := 149) rfl) rfl
theorem wt4_151 : Cond.instanceMethod yX9_remember ∈ TT := t4_in (List.mem_of_getElem? (i := 151) rfl) rfl
theorem wt4_152 : Cond.code yX9_remember cX9_remember 2 none ∈ TT := t4_in (List.mem_of_getElem? (i := 152) rfl) rfl
theorem wt4_153 : Cond.methodLink RX9 54 yX9_record ∈ TT := t4_in (List.mem_of_getElem? (i := 153) rfl) rfl
theorem wt4_155 : Cond.instanceMethod yX9_record ∈ TT := t4_in (List.mem_of_getElem? (i := 155) rfl) rfl
theorem wt4_156 : Cond.code yX9_record cX9_record 2 none ∈ TT := t4_in (List.mem_of_getElem? (i := 156) rfl) rfl
theorem wt4_157 : Cond.methodLink RL 17 yX9_build ∈ TT := t4_in (List.mem_of_getElem? (i := 157) rfl) rfl
theorem wt4_158 : Cond.instanceMethod yX9_build ∈ TT := t4_in (List.mem_of_getElem? (i := 158) rfl) rfl
theorem wt4_159 : Cond.selects RX9 yX9_build yX9_build ∈ TT := t4_in (List.mem_of_getElem? (i := 159) rfl) rfl
theorem wt4_160 : Cond.code yX9_build cX9_build 5 (some .int) ∈ TT := t4_in (List.mem_of_getElem? (i := 160) rfl) rfl
theorem wt4_161 : Cond.methodLink RX9 68 yX9_in ∈ TT := t4_in (List.mem_of_getElem? (i := 161) rfl) rfl
theorem wt4_162 : Cond.static yX9_in ∈ TT := t4_in (List.mem_of_getElem? (i := 162) rfl) rfl
theorem wt4_163 : Cond.code yX9_in cX9_in 3 (some .boolean) ∈ TT := t4_in (List.mem_of_getElem? (i := 163) rfl) rfl
theorem wt4_164 : Cond.methodLink RX9 64 yX9_keys ∈ TT := t4_in (List.mem_of_getElem? (i := 164) rfl) rfl
theorem wt4_166 : Cond.instanceMethod yX9_keys ∈ TT := t4_in (List.mem_of_getElem? (i := 166) rfl) rfl
theorem wt4_167 : Cond.code yX9_keys cX9_keys 1 (some .int) ∈ TT := t4_in (List.mem_of_getElem? (i := 167) rfl) rfl
theorem wt4_168 : Cond.methodLink RX9 72 yX9_isDown ∈ TT := t4_in (List.mem_of_getElem? (i := 168) rfl) rfl
theorem wt4_170 : Cond.instanceMethod yX9_isDown ∈ TT := t4_in (List.mem_of_getElem? (i := 170) rfl) rfl
theorem wt4_171 : Cond.code yX9_isDown cX9_isDown 2 (some .boolean) ∈ TT := t4_in (List.mem_of_getElem? (i := 171) rfl) rfl
theorem wt4_172 : Cond.methodLink RX9 76 yX9_isSeen ∈ TT := t4_in (List.mem_of_getElem? (i := 172) rfl) rfl
theorem wt4_174 : Cond.instanceMethod yX9_isSeen ∈ TT := t4_in (List.mem_of_getElem? (i := 174) rfl) rfl
theorem wt4_175 : Cond.code yX9_isSeen cX9_isSeen 2 (some .boolean) ∈ TT := t4_in (List.mem_of_getElem? (i := 175) rfl) rfl
theorem wt4_176 : Cond.methodLink RL 22 yX9_setSign ∈ TT := t4_in (List.mem_of_getElem? (i := 176) rfl) rfl
theorem wt4_177 : Cond.instanceMethod yX9_setSign ∈ TT := t4_in (List.mem_of_getElem? (i := 177) rfl) rfl
theorem wt4_178 : Cond.selects RX9 yX9_setSign yX9_setSign ∈ TT := t4_in (List.mem_of_getElem? (i := 178) rfl) rfl
theorem wt4_179 : Cond.code yX9_setSign cX9_setSign 5 (some .int) ∈ TT := t4_in (List.mem_of_getElem? (i := 179) rfl) rfl
theorem wt4_180 : Cond.methodLink RX9 79 yX9_noKey ∈ TT := t4_in (List.mem_of_getElem? (i := 180) rfl) rfl
theorem wt4_182 : Cond.instanceMethod yX9_noKey ∈ TT := t4_in (List.mem_of_getElem? (i := 182) rfl) rfl
theorem wt4_183 : Cond.code yX9_noKey cX9_noKey 2 (some .boolean) ∈ TT := t4_in (List.mem_of_getElem? (i := 183) rfl) rfl
theorem wt4_184 : Cond.methodLink RX9 82 yX9_shiftOf ∈ TT := t4_in (List.mem_of_getElem? (i := 184) rfl) rfl
theorem wt4_186 : Cond.instanceMethod yX9_shiftOf ∈ TT := t4_in (List.mem_of_getElem? (i := 186) rfl) rfl
theorem wt4_187 : Cond.code yX9_shiftOf cX9_shiftOf 2 (some .int) ∈ TT := t4_in (List.mem_of_getElem? (i := 187) rfl) rfl
theorem wt4_188 : Cond.methodLink RL 26 yX9_setShift ∈ TT := t4_in (List.mem_of_getElem? (i := 188) rfl) rfl
theorem wt4_189 : Cond.instanceMethod yX9_setShift ∈ TT := t4_in (List.mem_of_getElem? (i := 189) rfl) rfl
theorem wt4_190 : Cond.selects RX9 yX9_setShift yX9_setShift ∈ TT := t4_in (List.mem_of_getElem? (i := 190) rfl) rfl
theorem wt4_191 : Cond.code yX9_setShift cX9_setShift 5 (some .int) ∈ TT := t4_in (List.mem_of_getElem? (i := 191) rfl) rfl
theorem wt4_192 : Cond.methodLink RX9 86 yX9_noTypist ∈ TT := t4_in (List.mem_of_getElem? (i := 192) rfl) rfl
theorem wt4_194 : Cond.instanceMethod yX9_noTypist ∈ TT := t4_in (List.mem_of_getElem? (i := 194) rfl) rfl
theorem wt4_195 : Cond.code yX9_noTypist cX9_noTypist 2 (some .boolean) ∈ TT := t4_in (List.mem_of_getElem? (i := 195) rfl) rfl
theorem wt4_196 : Cond.methodLink RL 31 yX9_borrow ∈ TT := t4_in (List.mem_of_getElem? (i := 196) rfl) rfl
theorem wt4_197 : Cond.instanceMethod yX9_borrow ∈ TT := t4_in (List.mem_of_getElem? (i := 197) rfl) rfl
theorem wt4_198 : Cond.selects RX9 yX9_borrow yX9_borrow ∈ TT := t4_in (List.mem_of_getElem? (i := 198) rfl) rfl
theorem wt4_199 : Cond.code yX9_borrow cX9_borrow 3 (some .int) ∈ TT := t4_in (List.mem_of_getElem? (i := 199) rfl) rfl
theorem wt4_200 : Cond.methodLink RL 35 yX9_set ∈ TT := t4_in (List.mem_of_getElem? (i := 200) rfl) rfl
theorem wt4_201 : Cond.instanceMethod yX9_set ∈ TT := t4_in (List.mem_of_getElem? (i := 201) rfl) rfl
theorem wt4_202 : Cond.selects RX9 yX9_set yX9_set ∈ TT := t4_in (List.mem_of_getElem? (i := 202) rfl) rfl
theorem wt4_203 : Cond.code yX9_set cX9_set 6 (some .int) ∈ TT := t4_in (List.mem_of_getElem? (i := 203) rfl) rfl
theorem wt4_204 : Cond.constant RX9 89 (2147483647) ∈ TT := t4_in (List.mem_of_getElem? (i := 204) rfl) rfl
theorem wt4_205 : Cond.constant RX9 90 (2139095040) ∈ TT := t4_in (List.mem_of_getElem? (i := 205) rfl) rfl
theorem wt4_206 : Cond.methodLink RX9 91 ⟨"java/lang/Float", "intBitsToFloat", "(I)F"⟩ ∈ TT := t4_in (List.mem_of_getElem? (i := 206) rfl) rfl
theorem wt4_207 : Cond.static ⟨"java/lang/Float", "intBitsToFloat", "(I)F"⟩ ∈ TT := t4_in (List.mem_of_getElem? (i := 207) rfl) rfl
theorem wt4_208 : Cond.native ⟨"java/lang/Float", "intBitsToFloat", "(I)F"⟩ ∈ TT := t4_in (List.mem_of_getElem? (i := 208) rfl) rfl
theorem wt4_209 : Cond.methodLink RX9 97 yJxf58ca_floatToIntBits_5c35a ∈ TT := t4_in (List.mem_of_getElem? (i := 209) rfl) rfl
theorem wt4_210 : Cond.static yJxf58ca_floatToIntBits_5c35a ∈ TT := t4_in (List.mem_of_getElem? (i := 210) rfl) rfl
theorem wt4_211 : Cond.code yJxf58ca_floatToIntBits_5c35a cJxf58ca_floatToIntBits_5c35a 1 (some .int) ∈ TT := t4_in (List.mem_of_getElem? (i := 211) rfl) rfl
theorem wt4_212 : Cond.methodLink RJxf58ca 59 yJxf58ca_isNaN_12338 ∈ TT := t4_in (List.mem_of_getElem? (i := 212) rfl) rfl
theorem wt4_213 : Cond.static yJxf58ca_isNaN_12338 ∈ TT := t4_in (List.mem_of_getElem? (i := 213) rfl) rfl
theorem wt4_214 : Cond.code yJxf58ca_isNaN_12338 cJxf58ca_isNaN_12338 1 (some .boolean) ∈ TT := t4_in (List.mem_of_getElem? (i := 214) rfl) rfl
theorem wt4_215 : Cond.methodLink RJxf58ca 74 ⟨"java/lang/Float", "floatToRawIntBits", "(F)I"⟩ ∈ TT := t4_in (List.mem_of_getElem? (i := 215) rfl) rfl
theorem wt4_216 : Cond.static ⟨"java/lang/Float", "floatToRawIntBits", "(F)I"⟩ ∈ TT := t4_in (List.mem_of_getElem? (i := 216) rfl) rfl
theorem wt4_217 : Cond.native ⟨"java/lang/Float", "floatToRawIntBits", "(F)I"⟩ ∈ TT := t4_in (List.mem_of_getElem? (i := 217) rfl) rfl
theorem wt4_218 : Cond.constant RJxf58ca 77 (2143289344) ∈ TT := t4_in (List.mem_of_getElem? (i := 218) rfl) rfl
theorem wt4_219 : Cond.methodLink RL 39 yX9_press ∈ TT := t4_in (List.mem_of_getElem? (i := 219) rfl) rfl
theorem wt4_220 : Cond.instanceMethod yX9_press ∈ TT := t4_in (List.mem_of_getElem? (i := 220) rfl) rfl
theorem wt4_221 : Cond.selects RX9 yX9_press yX9_press ∈ TT := t4_in (List.mem_of_getElem? (i := 221) rfl) rfl
theorem wt4_222 : Cond.code yX9_press cX9_press 4 (some .int) ∈ TT := t4_in (List.mem_of_getElem? (i := 222) rfl) rfl
theorem wt4_223 : Cond.methodLink RX9 153 yX9_againstPress ∈ TT := t4_in (List.mem_of_getElem? (i := 223) rfl) rfl
theorem wt4_225 : Cond.instanceMethod yX9_againstPress ∈ TT := t4_in (List.mem_of_getElem? (i := 225) rfl) rfl
theorem wt4_226 : Cond.code yX9_againstPress cX9_againstPress 3 (some .int) ∈ TT := t4_in (List.mem_of_getElem? (i := 226) rfl) rfl
theorem wt4_227 : Cond.methodLink RX9 150 yX9_held ∈ TT := t4_in (List.mem_of_getElem? (i := 227) rfl) rfl
theorem wt4_229 : Cond.instanceMethod yX9_held ∈ TT := t4_in (List.mem_of_getElem? (i := 229) rfl) rfl
theorem wt4_230 : Cond.code yX9_held cX9_held 4 (some .int) ∈ TT := t4_in (List.mem_of_getElem? (i := 230) rfl) rfl
theorem wt4_231 : Cond.methodLink RL 43 yX9_release ∈ TT := t4_in (List.mem_of_getElem? (i := 231) rfl) rfl
theorem wt4_232 : Cond.instanceMethod yX9_release ∈ TT := t4_in (List.mem_of_getElem? (i := 232) rfl) rfl
theorem wt4_233 : Cond.selects RX9 yX9_release yX9_release ∈ TT := t4_in (List.mem_of_getElem? (i := 233) rfl) rfl
theorem wt4_234 : Cond.code yX9_release cX9_release 4 (some .int) ∈ TT := t4_in (List.mem_of_getElem? (i := 234) rfl) rfl
theorem wt4_235 : Cond.methodLink RX9 156 yX9_againstRelease ∈ TT := t4_in (List.mem_of_getElem? (i := 235) rfl) rfl
theorem wt4_237 : Cond.instanceMethod yX9_againstRelease ∈ TT := t4_in (List.mem_of_getElem? (i := 237) rfl) rfl
theorem wt4_238 : Cond.code yX9_againstRelease cX9_againstRelease 3 (some .int) ∈ TT := t4_in (List.mem_of_getElem? (i := 238) rfl) rfl
theorem wt4_239 : Cond.methodLink RL 48 yX9_tick ∈ TT := t4_in (List.mem_of_getElem? (i := 239) rfl) rfl
theorem wt5_0 : Cond.instanceMethod yX9_tick ∈ TT := t5_in (List.mem_of_getElem? (i := 0) rfl) rfl
theorem wt5_1 : Cond.selects RX9 yX9_tick yX9_tick ∈ TT := t5_in (List.mem_of_getElem? (i := 1) rfl) rfl
theorem wt5_2 : Cond.code yX9_tick cX9_tick 2 (some .int) ∈ TT := t5_in (List.mem_of_getElem? (i := 2) rfl) rfl
theorem wt5_3 : Cond.methodLink RX9 162 yX9_steps ∈ TT := t5_in (List.mem_of_getElem? (i := 3) rfl) rfl
theorem wt5_5 : Cond.instanceMethod yX9_steps ∈ TT := t5_in (List.mem_of_getElem? (i := 5) rfl) rfl
theorem wt5_6 : Cond.code yX9_steps cX9_steps 4 (some .int) ∈ TT := t5_in (List.mem_of_getElem? (i := 6) rfl) rfl
theorem wt5_7 : Cond.methodLink RX9 159 yX9_step ∈ TT := t5_in (List.mem_of_getElem? (i := 7) rfl) rfl
theorem wt5_9 : Cond.instanceMethod yX9_step ∈ TT := t5_in (List.mem_of_getElem? (i := 9) rfl) rfl
theorem wt5_10 : Cond.code yX9_step cX9_step 7 (some .int) ∈ TT := t5_in (List.mem_of_getElem? (i := 10) rfl) rfl
theorem wt5_11 : Cond.methodLink RX9 107 yX9_drive ∈ TT := t5_in (List.mem_of_getElem? (i := 11) rfl) rfl
theorem wt5_13 : Cond.instanceMethod yX9_drive ∈ TT := t5_in (List.mem_of_getElem? (i := 13) rfl) rfl
theorem wt5_14 : Cond.code yX9_drive cX9_drive 9 none ∈ TT := t5_in (List.mem_of_getElem? (i := 14) rfl) rfl
theorem wt5_15 : Cond.methodLink RX9 111 yX9_endStroke ∈ TT := t5_in (List.mem_of_getElem? (i := 15) rfl) rfl
theorem wt5_17 : Cond.instanceMethod yX9_endStroke ∈ TT := t5_in (List.mem_of_getElem? (i := 17) rfl) rfl
theorem wt5_18 : Cond.code yX9_endStroke cX9_endStroke 9 none ∈ TT := t5_in (List.mem_of_getElem? (i := 18) rfl) rfl
theorem wt5_19 : Cond.methodLink RX9 136 yX9_judged ∈ TT := t5_in (List.mem_of_getElem? (i := 19) rfl) rfl
theorem wt5_21 : Cond.instanceMethod yX9_judged ∈ TT := t5_in (List.mem_of_getElem? (i := 21) rfl) rfl
theorem wt5_22 : Cond.code yX9_judged cX9_judged 9 (some .int) ∈ TT := t5_in (List.mem_of_getElem? (i := 22) rfl) rfl
theorem wt5_23 : Cond.methodLink RX9 132 yX9_off ∈ TT := t5_in (List.mem_of_getElem? (i := 23) rfl) rfl
theorem wt5_25 : Cond.instanceMethod yX9_off ∈ TT := t5_in (List.mem_of_getElem? (i := 25) rfl) rfl
theorem wt5_26 : Cond.code yX9_off cX9_off 8 (some .float) ∈ TT := t5_in (List.mem_of_getElem? (i := 26) rfl) rfl
theorem wt5_27 : Cond.methodLink RX9 120 yX9_size ∈ TT := t5_in (List.mem_of_getElem? (i := 27) rfl) rfl
theorem wt5_28 : Cond.static yX9_size ∈ TT := t5_in (List.mem_of_getElem? (i := 28) rfl) rfl
theorem wt5_29 : Cond.code yX9_size cX9_size 1 (some .float) ∈ TT := t5_in (List.mem_of_getElem? (i := 29) rfl) rfl
theorem wt5_30 : Cond.methodLink RX9 124 yX9_gap ∈ TT := t5_in (List.mem_of_getElem? (i := 30) rfl) rfl
theorem wt5_32 : Cond.instanceMethod yX9_gap ∈ TT := t5_in (List.mem_of_getElem? (i := 32) rfl) rfl
theorem wt5_33 : Cond.code yX9_gap cX9_gap 4 (some .int) ∈ TT := t5_in (List.mem_of_getElem? (i := 33) rfl) rfl
theorem wt5_34 : Cond.methodLink RX9 139 yX9_countIt ∈ TT := t5_in (List.mem_of_getElem? (i := 34) rfl) rfl
theorem wt5_36 : Cond.instanceMethod yX9_countIt ∈ TT := t5_in (List.mem_of_getElem? (i := 36) rfl) rfl
theorem wt5_37 : Cond.code yX9_countIt cX9_countIt 3 none ∈ TT := t5_in (List.mem_of_getElem? (i := 37) rfl) rfl
theorem wt5_38 : Cond.methodLink RX9 143 yX9_learn ∈ TT := t5_in (List.mem_of_getElem? (i := 38) rfl) rfl
theorem wt5_40 : Cond.instanceMethod yX9_learn ∈ TT := t5_in (List.mem_of_getElem? (i := 40) rfl) rfl
theorem wt5_41 : Cond.code yX9_learn cX9_learn 5 none ∈ TT := t5_in (List.mem_of_getElem? (i := 41) rfl) rfl
theorem wt5_42 : Cond.methodLink RX9 128 yX9_learned ∈ TT := t5_in (List.mem_of_getElem? (i := 42) rfl) rfl
theorem wt5_44 : Cond.instanceMethod yX9_learned ∈ TT := t5_in (List.mem_of_getElem? (i := 44) rfl) rfl
theorem wt5_45 : Cond.code yX9_learned cX9_learned 4 (some .float) ∈ TT := t5_in (List.mem_of_getElem? (i := 45) rfl) rfl
theorem wt5_46 : Cond.methodLink RX9 147 yX9_giveSign ∈ TT := t5_in (List.mem_of_getElem? (i := 46) rfl) rfl
theorem wt5_48 : Cond.instanceMethod yX9_giveSign ∈ TT := t5_in (List.mem_of_getElem? (i := 48) rfl) rfl
theorem wt5_49 : Cond.code yX9_giveSign cX9_giveSign 5 none ∈ TT := t5_in (List.mem_of_getElem? (i := 49) rfl) rfl
theorem wt5_50 : Cond.methodLink RX9 114 yX9_closesCorner ∈ TT := t5_in (List.mem_of_getElem? (i := 50) rfl) rfl
theorem wt5_52 : Cond.instanceMethod yX9_closesCorner ∈ TT := t5_in (List.mem_of_getElem? (i := 52) rfl) rfl
theorem wt5_53 : Cond.code yX9_closesCorner cX9_closesCorner 7 (some .boolean) ∈ TT := t5_in (List.mem_of_getElem? (i := 53) rfl) rfl
theorem wt5_54 : Cond.methodLink RX9 117 yX9_isOn ∈ TT := t5_in (List.mem_of_getElem? (i := 54) rfl) rfl
theorem wt5_56 : Cond.instanceMethod yX9_isOn ∈ TT := t5_in (List.mem_of_getElem? (i := 56) rfl) rfl
theorem wt5_57 : Cond.code yX9_isOn cX9_isOn 3 (some .boolean) ∈ TT := t5_in (List.mem_of_getElem? (i := 57) rfl) rfl
theorem wt5_58 : Cond.methodLink RL 52 yX9_settle ∈ TT := t5_in (List.mem_of_getElem? (i := 58) rfl) rfl
theorem wt5_59 : Cond.instanceMethod yX9_settle ∈ TT := t5_in (List.mem_of_getElem? (i := 59) rfl) rfl
theorem wt5_60 : Cond.selects RX9 yX9_settle yX9_settle ∈ TT := t5_in (List.mem_of_getElem? (i := 60) rfl) rfl
theorem wt5_61 : Cond.code yX9_settle cX9_settle 4 (some .int) ∈ TT := t5_in (List.mem_of_getElem? (i := 61) rfl) rfl
theorem wt5_62 : Cond.methodLink RX9 165 yX9_noDispute ∈ TT := t5_in (List.mem_of_getElem? (i := 62) rfl) rfl
theorem wt5_64 : Cond.instanceMethod yX9_noDispute ∈ TT := t5_in (List.mem_of_getElem? (i := 64) rfl) rfl
theorem wt5_65 : Cond.code yX9_noDispute cX9_noDispute 2 (some .boolean) ∈ TT := t5_in (List.mem_of_getElem? (i := 65) rfl) rfl
theorem wt5_66 : Cond.methodLink RL 57 yX9_type ∈ TT := t5_in (List.mem_of_getElem? (i := 66) rfl) rfl
theorem wt5_67 : Cond.instanceMethod yX9_type ∈ TT := t5_in (List.mem_of_getElem? (i := 67) rfl) rfl
theorem wt5_68 : Cond.selects RX9 yX9_type yX9_type ∈ TT := t5_in (List.mem_of_getElem? (i := 68) rfl) rfl
theorem wt5_69 : Cond.code yX9_type cX9_type 2 (some .int) ∈ TT := t5_in (List.mem_of_getElem? (i := 69) rfl) rfl
theorem wt5_70 : Cond.methodLink RL 62 yX9_clearText ∈ TT := t5_in (List.mem_of_getElem? (i := 70) rfl) rfl
theorem wt5_71 : Cond.instanceMethod yX9_clearText ∈ TT := t5_in (List.mem_of_getElem? (i := 71) rfl) rfl
theorem wt5_72 : Cond.selects RX9 yX9_clearText yX9_clearText ∈ TT := t5_in (List.mem_of_getElem? (i := 72) rfl) rfl
theorem wt5_73 : Cond.code yX9_clearText cX9_clearText 2 (some .int) ∈ TT := t5_in (List.mem_of_getElem? (i := 73) rfl) rfl
theorem wt5_74 : Cond.methodLink RL 66 yX9_perform ∈ TT := t5_in (List.mem_of_getElem? (i := 74) rfl) rfl
theorem wt5_75 : Cond.instanceMethod yX9_perform ∈ TT := t5_in (List.mem_of_getElem? (i := 75) rfl) rfl
theorem wt5_76 : Cond.selects RX9 yX9_perform yX9_perform ∈ TT := t5_in (List.mem_of_getElem? (i := 76) rfl) rfl
theorem wt5_77 : Cond.code yX9_perform cX9_perform 2 (some .int) ∈ TT := t5_in (List.mem_of_getElem? (i := 77) rfl) rfl
theorem wt5_78 : Cond.methodLink RX9 185 yX9_moves ∈ TT := t5_in (List.mem_of_getElem? (i := 78) rfl) rfl
theorem wt5_80 : Cond.instanceMethod yX9_moves ∈ TT := t5_in (List.mem_of_getElem? (i := 80) rfl) rfl
theorem wt5_81 : Cond.code yX9_moves cX9_moves 5 (some .int) ∈ TT := t5_in (List.mem_of_getElem? (i := 81) rfl) rfl
theorem wt5_82 : Cond.methodLink RX9 181 yX9_move ∈ TT := t5_in (List.mem_of_getElem? (i := 82) rfl) rfl
theorem wt5_84 : Cond.instanceMethod yX9_move ∈ TT := t5_in (List.mem_of_getElem? (i := 84) rfl) rfl
theorem wt5_85 : Cond.code yX9_move cX9_move 6 (some .int) ∈ TT := t5_in (List.mem_of_getElem? (i := 85) rfl) rfl
theorem wt5_86 : Cond.methodLink RX9 174 yX9_sees ∈ TT := t5_in (List.mem_of_getElem? (i := 86) rfl) rfl
theorem wt5_88 : Cond.instanceMethod yX9_sees ∈ TT := t5_in (List.mem_of_getElem? (i := 88) rfl) rfl
theorem wt5_89 : Cond.code yX9_sees cX9_sees 3 (some .boolean) ∈ TT := t5_in (List.mem_of_getElem? (i := 89) rfl) rfl
theorem wt5_90 : Cond.methodLink RX9 178 yX9_readsNumber ∈ TT := t5_in (List.mem_of_getElem? (i := 90) rfl) rfl
theorem wt5_92 : Cond.instanceMethod yX9_readsNumber ∈ TT := t5_in (List.mem_of_getElem? (i := 92) rfl) rfl
theorem wt5_93 : Cond.code yX9_readsNumber cX9_readsNumber 3 (some .int) ∈ TT := t5_in (List.mem_of_getElem? (i := 93) rfl) rfl
theorem wt5_94 : Cond.methodLink RX9 188 yX9_goBack ∈ TT := t5_in (List.mem_of_getElem? (i := 94) rfl) rfl
theorem wt5_96 : Cond.instanceMethod yX9_goBack ∈ TT := t5_in (List.mem_of_getElem? (i := 96) rfl) rfl
theorem wt5_97 : Cond.code yX9_goBack cX9_goBack 2 none ∈ TT := t5_in (List.mem_of_getElem? (i := 97) rfl) rfl
theorem wt5_98 : Cond.methodLink RL 82 yX9_key ∈ TT := t5_in (List.mem_of_getElem? (i := 98) rfl) rfl
theorem wt5_99 : Cond.instanceMethod yX9_key ∈ TT := t5_in (List.mem_of_getElem? (i := 99) rfl) rfl
theorem wt5_100 : Cond.selects RX9 yX9_key yX9_key ∈ TT := t5_in (List.mem_of_getElem? (i := 100) rfl) rfl
theorem wt5_101 : Cond.code yX9_key cX9_key 3 (some .int) ∈ TT := t5_in (List.mem_of_getElem? (i := 101) rfl) rfl
theorem wt5_102 : Cond.methodLink RX9 191 yX9_wouldSense ∈ TT := t5_in (List.mem_of_getElem? (i := 102) rfl) rfl
theorem wt5_104 : Cond.instanceMethod yX9_wouldSense ∈ TT := t5_in (List.mem_of_getElem? (i := 104) rfl) rfl
theorem wt5_105 : Cond.code yX9_wouldSense cX9_wouldSense 2 (some .boolean) ∈ TT := t5_in (List.mem_of_getElem? (i := 105) rfl) rfl
theorem wt5_106 : Cond.methodLink RL 86 yX9_typist ∈ TT := t5_in (List.mem_of_getElem? (i := 106) rfl) rfl
theorem wt5_107 : Cond.instanceMethod yX9_typist ∈ TT := t5_in (List.mem_of_getElem? (i := 107) rfl) rfl
theorem wt5_108 : Cond.selects RX9 yX9_typist yX9_typist ∈ TT := t5_in (List.mem_of_getElem? (i := 108) rfl) rfl
theorem wt5_109 : Cond.code yX9_typist cX9_typist 3 (some .int) ∈ TT := t5_in (List.mem_of_getElem? (i := 109) rfl) rfl
theorem wt5_110 : Cond.methodLink RL 91 yX9_style ∈ TT := t5_in (List.mem_of_getElem? (i := 110) rfl) rfl
theorem wt5_111 : Cond.instanceMethod yX9_style ∈ TT := t5_in (List.mem_of_getElem? (i := 111) rfl) rfl
theorem wt5_112 : Cond.selects RX9 yX9_style yX9_style ∈ TT := t5_in (List.mem_of_getElem? (i := 112) rfl) rfl
theorem wt5_113 : Cond.code yX9_style cX9_style 3 (some .float) ∈ TT := t5_in (List.mem_of_getElem? (i := 113) rfl) rfl
theorem wt5_114 : Cond.constantFloat RX9 194 (2143289344) ∈ TT := t5_in (List.mem_of_getElem? (i := 114) rfl) rfl
theorem wt5_115 : Cond.methodLink RL 95 yX9_hundredths ∈ TT := t5_in (List.mem_of_getElem? (i := 115) rfl) rfl
theorem wt5_116 : Cond.instanceMethod yX9_hundredths ∈ TT := t5_in (List.mem_of_getElem? (i := 116) rfl) rfl
theorem wt5_117 : Cond.selects RX9 yX9_hundredths yX9_hundredths ∈ TT := t5_in (List.mem_of_getElem? (i := 117) rfl) rfl
theorem wt5_118 : Cond.code yX9_hundredths cX9_hundredths 3 (some .int) ∈ TT := t5_in (List.mem_of_getElem? (i := 118) rfl) rfl
theorem wt5_119 : Cond.constantFloat RX9 195 (1120403456) ∈ TT := t5_in (List.mem_of_getElem? (i := 119) rfl) rfl
theorem wt5_120 : Cond.methodLink RL 99 yX9_typed ∈ TT := t5_in (List.mem_of_getElem? (i := 120) rfl) rfl
theorem wt5_121 : Cond.instanceMethod yX9_typed ∈ TT := t5_in (List.mem_of_getElem? (i := 121) rfl) rfl
theorem wt5_122 : Cond.selects RX9 yX9_typed yX9_typed ∈ TT := t5_in (List.mem_of_getElem? (i := 122) rfl) rfl
theorem wt5_123 : Cond.code yX9_typed cX9_typed 4 (some .int) ∈ TT := t5_in (List.mem_of_getElem? (i := 123) rfl) rfl
theorem wt5_124 : Cond.methodLink RL 103 yX9_stroke ∈ TT := t5_in (List.mem_of_getElem? (i := 124) rfl) rfl
theorem wt5_125 : Cond.instanceMethod yX9_stroke ∈ TT := t5_in (List.mem_of_getElem? (i := 125) rfl) rfl
theorem wt5_126 : Cond.selects RX9 yX9_stroke yX9_stroke ∈ TT := t5_in (List.mem_of_getElem? (i := 126) rfl) rfl
theorem wt5_127 : Cond.code yX9_stroke cX9_stroke 4 (some .int) ∈ TT := t5_in (List.mem_of_getElem? (i := 127) rfl) rfl
theorem wt5_128 : Cond.methodLink RL 107 yX9_dispute ∈ TT := t5_in (List.mem_of_getElem? (i := 128) rfl) rfl
theorem wt5_129 : Cond.instanceMethod yX9_dispute ∈ TT := t5_in (List.mem_of_getElem? (i := 129) rfl) rfl
theorem wt5_130 : Cond.selects RX9 yX9_dispute yX9_dispute ∈ TT := t5_in (List.mem_of_getElem? (i := 130) rfl) rfl
theorem wt5_131 : Cond.code yX9_dispute cX9_dispute 3 (some .int) ∈ TT := t5_in (List.mem_of_getElem? (i := 131) rfl) rfl
theorem wt5_132 : Cond.methodLink RL 112 yX9_distance ∈ TT := t5_in (List.mem_of_getElem? (i := 132) rfl) rfl
theorem wt5_133 : Cond.instanceMethod yX9_distance ∈ TT := t5_in (List.mem_of_getElem? (i := 133) rfl) rfl
theorem wt5_134 : Cond.selects RX9 yX9_distance yX9_distance ∈ TT := t5_in (List.mem_of_getElem? (i := 134) rfl) rfl
theorem wt5_135 : Cond.code yX9_distance cX9_distance 4 (some .float) ∈ TT := t5_in (List.mem_of_getElem? (i := 135) rfl) rfl
theorem wt5_136 : Cond.methodLink RL 116 yX9_verdict ∈ TT := t5_in (List.mem_of_getElem? (i := 136) rfl) rfl
theorem wt5_137 : Cond.instanceMethod yX9_verdict ∈ TT := t5_in (List.mem_of_getElem? (i := 137) rfl) rfl
theorem wt5_138 : Cond.selects RX9 yX9_verdict yX9_verdict ∈ TT := t5_in (List.mem_of_getElem? (i := 138) rfl) rfl
theorem wt5_139 : Cond.code yX9_verdict cX9_verdict 2 (some .int) ∈ TT := t5_in (List.mem_of_getElem? (i := 139) rfl) rfl
theorem wt5_140 : Cond.methodLink RL 120 yX9_ghostsBy ∈ TT := t5_in (List.mem_of_getElem? (i := 140) rfl) rfl
theorem wt5_141 : Cond.instanceMethod yX9_ghostsBy ∈ TT := t5_in (List.mem_of_getElem? (i := 141) rfl) rfl
theorem wt5_142 : Cond.selects RX9 yX9_ghostsBy yX9_ghostsBy ∈ TT := t5_in (List.mem_of_getElem? (i := 142) rfl) rfl
theorem wt5_143 : Cond.code yX9_ghostsBy cX9_ghostsBy 8 (some .int) ∈ TT := t5_in (List.mem_of_getElem? (i := 143) rfl) rfl
theorem wt5_144 : Cond.methodLink RL 124 yX9_count ∈ TT := t5_in (List.mem_of_getElem? (i := 144) rfl) rfl
theorem wt5_145 : Cond.instanceMethod yX9_count ∈ TT := t5_in (List.mem_of_getElem? (i := 145) rfl) rfl
theorem wt5_146 : Cond.selects RX9 yX9_count yX9_count ∈ TT := t5_in (List.mem_of_getElem? (i := 146) rfl) rfl
theorem wt5_147 : Cond.code yX9_count cX9_count 2 (some .int) ∈ TT := t5_in (List.mem_of_getElem? (i := 147) rfl) rfl
theorem wt5_148 : Cond.methodLink RX9 196 yX9_keysThat ∈ TT := t5_in (List.mem_of_getElem? (i := 148) rfl) rfl
theorem wt5_150 : Cond.instanceMethod yX9_keysThat ∈ TT := t5_in (List.mem_of_getElem? (i := 150) rfl) rfl
theorem wt5_151 : Cond.code yX9_keysThat cX9_keysThat 5 (some .int) ∈ TT := t5_in (List.mem_of_getElem? (i := 151) rfl) rfl
theorem wt5_152 : Cond.methodLink RX9 199 yX9_openDisputes ∈ TT := t5_in (List.mem_of_getElem? (i := 152) rfl) rfl
theorem wt5_154 : Cond.instanceMethod yX9_openDisputes ∈ TT := t5_in (List.mem_of_getElem? (i := 154) rfl) rfl
theorem wt5_155 : Cond.code yX9_openDisputes cX9_openDisputes 3 (some .int) ∈ TT := t5_in (List.mem_of_getElem? (i := 155) rfl) rfl
theorem wt0_0 : Cond.selects RX8 yX8_move yX8_move ∈ TT := t0_in (List.mem_of_getElem? (i := 0) rfl) rfl
theorem wt0_1 : Cond.selects RX8 yX8_meanOf yX8_meanOf ∈ TT := t0_in (List.mem_of_getElem? (i := 1) rfl) rfl
theorem wt0_2 : Cond.selects RX9 yX9_clearKeys yX9_clearKeys ∈ TT := t0_in (List.mem_of_getElem? (i := 2) rfl) rfl
theorem wt0_3 : Cond.selects RX9 yX9_begin yX9_begin ∈ TT := t0_in (List.mem_of_getElem? (i := 3) rfl) rfl
theorem wt0_4 : Cond.selects RX9 yX9_remember yX9_remember ∈ TT := t0_in (List.mem_of_getElem? (i := 4) rfl) rfl
theorem wt0_5 : Cond.selects RX9 yX9_record yX9_record ∈ TT := t0_in (List.mem_of_getElem? (i := 5) rfl) rfl
theorem wt0_6 : Cond.selects RX9 yX9_keys yX9_keys ∈ TT := t0_in (List.mem_of_getElem? (i := 6) rfl) rfl
theorem wt0_7 : Cond.selects RX9 yX9_isDown yX9_isDown ∈ TT := t0_in (List.mem_of_getElem? (i := 7) rfl) rfl
theorem wt0_8 : Cond.selects RX9 yX9_isSeen yX9_isSeen ∈ TT := t0_in (List.mem_of_getElem? (i := 8) rfl) rfl
theorem wt0_9 : Cond.selects RX9 yX9_noKey yX9_noKey ∈ TT := t0_in (List.mem_of_getElem? (i := 9) rfl) rfl
theorem wt0_10 : Cond.selects RX9 yX9_shiftOf yX9_shiftOf ∈ TT := t0_in (List.mem_of_getElem? (i := 10) rfl) rfl
theorem wt0_11 : Cond.selects RX9 yX9_noTypist yX9_noTypist ∈ TT := t0_in (List.mem_of_getElem? (i := 11) rfl) rfl
theorem wt0_12 : Cond.selects RX9 yX9_againstPress yX9_againstPress ∈ TT := t0_in (List.mem_of_getElem? (i := 12) rfl) rfl
theorem wt0_13 : Cond.selects RX9 yX9_held yX9_held ∈ TT := t0_in (List.mem_of_getElem? (i := 13) rfl) rfl
theorem wt0_14 : Cond.selects RX9 yX9_againstRelease yX9_againstRelease ∈ TT := t0_in (List.mem_of_getElem? (i := 14) rfl) rfl
theorem wt0_15 : Cond.selects RX9 yX9_steps yX9_steps ∈ TT := t0_in (List.mem_of_getElem? (i := 15) rfl) rfl
theorem wt0_16 : Cond.selects RX9 yX9_step yX9_step ∈ TT := t0_in (List.mem_of_getElem? (i := 16) rfl) rfl
theorem wt0_17 : Cond.selects RX9 yX9_drive yX9_drive ∈ TT := t0_in (List.mem_of_getElem? (i := 17) rfl) rfl
theorem wt0_18 : Cond.selects RX9 yX9_endStroke yX9_endStroke ∈ TT := t0_in (List.mem_of_getElem? (i := 18) rfl) rfl
theorem wt0_19 : Cond.selects RX9 yX9_judged yX9_judged ∈ TT := t0_in (List.mem_of_getElem? (i := 19) rfl) rfl
theorem wt0_20 : Cond.selects RX9 yX9_off yX9_off ∈ TT := t0_in (List.mem_of_getElem? (i := 20) rfl) rfl
theorem wt0_21 : Cond.selects RX9 yX9_gap yX9_gap ∈ TT := t0_in (List.mem_of_getElem? (i := 21) rfl) rfl
theorem wt0_22 : Cond.selects RX9 yX9_countIt yX9_countIt ∈ TT := t0_in (List.mem_of_getElem? (i := 22) rfl) rfl
theorem wt0_23 : Cond.selects RX9 yX9_learn yX9_learn ∈ TT := t0_in (List.mem_of_getElem? (i := 23) rfl) rfl
theorem wt0_24 : Cond.selects RX9 yX9_learned yX9_learned ∈ TT := t0_in (List.mem_of_getElem? (i := 24) rfl) rfl
theorem wt0_25 : Cond.selects RX9 yX9_giveSign yX9_giveSign ∈ TT := t0_in (List.mem_of_getElem? (i := 25) rfl) rfl
theorem wt0_26 : Cond.selects RX9 yX9_closesCorner yX9_closesCorner ∈ TT := t0_in (List.mem_of_getElem? (i := 26) rfl) rfl
theorem wt0_27 : Cond.selects RX9 yX9_isOn yX9_isOn ∈ TT := t0_in (List.mem_of_getElem? (i := 27) rfl) rfl
theorem wt0_28 : Cond.selects RX9 yX9_noDispute yX9_noDispute ∈ TT := t0_in (List.mem_of_getElem? (i := 28) rfl) rfl
theorem wt0_29 : Cond.selects RX9 yX9_moves yX9_moves ∈ TT := t0_in (List.mem_of_getElem? (i := 29) rfl) rfl
theorem wt0_30 : Cond.selects RX9 yX9_move yX9_move ∈ TT := t0_in (List.mem_of_getElem? (i := 30) rfl) rfl
theorem wt0_31 : Cond.selects RX9 yX9_sees yX9_sees ∈ TT := t0_in (List.mem_of_getElem? (i := 31) rfl) rfl
theorem wt0_32 : Cond.selects RX9 yX9_readsNumber yX9_readsNumber ∈ TT := t0_in (List.mem_of_getElem? (i := 32) rfl) rfl
theorem wt0_33 : Cond.selects RX9 yX9_goBack yX9_goBack ∈ TT := t0_in (List.mem_of_getElem? (i := 33) rfl) rfl
theorem wt0_34 : Cond.selects RX9 yX9_wouldSense yX9_wouldSense ∈ TT := t0_in (List.mem_of_getElem? (i := 34) rfl) rfl
theorem wt0_35 : Cond.selects RX9 yX9_keysThat yX9_keysThat ∈ TT := t0_in (List.mem_of_getElem? (i := 35) rfl) rfl
theorem wt0_36 : Cond.selects RX9 yX9_openDisputes yX9_openDisputes ∈ TT := t0_in (List.mem_of_getElem? (i := 36) rfl) rfl
theorem uinX0 : ∀ w ∈ wsX00, w ∈ TT := by
  have e : wsX00 = [Cond.lays RX0 "BlanketKeys$Board" "rows" "I", Cond.lays RX0 "BlanketKeys$Board" "columns" "I", Cond.laysFinal RX0 "BlanketKeys$Board" "holders" "[I", Cond.laysFinal RX0 "BlanketKeys$Board" "signs" "[I", Cond.laysFinal RX0 "BlanketKeys$Board" "sinces" "[I", Cond.laysFinal RX0 "BlanketKeys$Board" "notedShifts" "[I", Cond.laysFinal RX0 "BlanketKeys$Board" "trueHolders" "[I", Cond.laysFinal RX0 "BlanketKeys$Board" "down" "[I", Cond.laysFinal RX0 "BlanketKeys$Board" "seen" "[I", Cond.laysFinal RX0 "BlanketKeys$Board" "doubtful" "[I", Cond.laysFinal RX0 "BlanketKeys$Board" "shifts" "[I"] := rfl
  rw [e]
  exact List.forall_mem_cons.mpr ⟨wt1_56, List.forall_mem_cons.mpr ⟨wt1_58, List.forall_mem_cons.mpr ⟨wt1_60, List.forall_mem_cons.mpr ⟨wt1_62, List.forall_mem_cons.mpr ⟨wt1_64, List.forall_mem_cons.mpr ⟨wt1_66, List.forall_mem_cons.mpr ⟨wt1_68, List.forall_mem_cons.mpr ⟨wt1_70, List.forall_mem_cons.mpr ⟨wt1_72, List.forall_mem_cons.mpr ⟨wt1_74, List.forall_mem_cons.mpr ⟨wt1_76, fun _ h => absurd h List.not_mem_nil⟩⟩⟩⟩⟩⟩⟩⟩⟩⟩⟩
theorem uinX2 : ∀ w ∈ wsX20, w ∈ TT := by
  have e : wsX20 = [Cond.lays RX2 "BlanketKeys$History" "depth" "I", Cond.lays RX2 "BlanketKeys$History" "latest" "LBlanketKeys$State;", Cond.lays RX2 "BlanketKeys$History" "second" "LBlanketKeys$State;", Cond.lays RX2 "BlanketKeys$History" "third" "LBlanketKeys$State;", Cond.lays RX2 "BlanketKeys$History" "oldest" "LBlanketKeys$State;"] := rfl
  rw [e]
  exact List.forall_mem_cons.mpr ⟨wt2_1, List.forall_mem_cons.mpr ⟨wt2_3, List.forall_mem_cons.mpr ⟨wt2_5, List.forall_mem_cons.mpr ⟨wt2_7, List.forall_mem_cons.mpr ⟨wt2_9, fun _ h => absurd h List.not_mem_nil⟩⟩⟩⟩⟩
theorem uinX3 : ∀ w ∈ wsX30, w ∈ TT := by
  have e : wsX30 = [Cond.lays RX3 "BlanketKeys$Script" "length" "I", Cond.laysFinal RX3 "BlanketKeys$Script" "characters" "[C"] := rfl
  rw [e]
  exact List.forall_mem_cons.mpr ⟨wt2_21, List.forall_mem_cons.mpr ⟨wt2_23, fun _ h => absurd h List.not_mem_nil⟩⟩
theorem uinX4 : ∀ w ∈ wsX40, w ∈ TT := by
  have e : wsX40 = [Cond.laysFinal RX4 "BlanketKeys$Settings" "bits" "[I", Cond.lays RX4 "BlanketKeys$Settings" "margin" "F", Cond.lays RX4 "BlanketKeys$Settings" "trust" "F", Cond.lays RX4 "BlanketKeys$Settings" "rate" "F"] := rfl
  rw [e]
  exact List.forall_mem_cons.mpr ⟨wt1_177, List.forall_mem_cons.mpr ⟨wt1_179, List.forall_mem_cons.mpr ⟨wt1_181, List.forall_mem_cons.mpr ⟨wt1_183, fun _ h => absurd h List.not_mem_nil⟩⟩⟩⟩
theorem uinX5 : ∀ w ∈ wsX50, w ∈ TT := by
  have e : wsX50 = [Cond.laysFinal RX5 "BlanketKeys$State" "board" "LBlanketKeys$Board;", Cond.laysFinal RX5 "BlanketKeys$State" "first" "LBlanketKeys$Typist;", Cond.laysFinal RX5 "BlanketKeys$State" "second" "LBlanketKeys$Typist;", Cond.laysFinal RX5 "BlanketKeys$State" "ended" "LBlanketKeys$Strokes;", Cond.laysFinal RX5 "BlanketKeys$State" "disputes" "LBlanketKeys$Strokes;", Cond.laysFinal RX5 "BlanketKeys$State" "settings" "LBlanketKeys$Settings;", Cond.lays RX5 "BlanketKeys$State" "time" "I", Cond.lays RX5 "BlanketKeys$State" "ghosts" "I", Cond.lays RX5 "BlanketKeys$State" "ghostsOfNobody" "I", Cond.lays RX5 "BlanketKeys$State" "openDisputes" "I"] := rfl
  rw [e]
  exact List.forall_mem_cons.mpr ⟨wt1_206, List.forall_mem_cons.mpr ⟨wt1_208, List.forall_mem_cons.mpr ⟨wt1_210, List.forall_mem_cons.mpr ⟨wt1_212, List.forall_mem_cons.mpr ⟨wt1_214, List.forall_mem_cons.mpr ⟨wt1_216, List.forall_mem_cons.mpr ⟨wt1_218, List.forall_mem_cons.mpr ⟨wt1_220, List.forall_mem_cons.mpr ⟨wt1_222, List.forall_mem_cons.mpr ⟨wt1_224, fun _ h => absurd h List.not_mem_nil⟩⟩⟩⟩⟩⟩⟩⟩⟩⟩
theorem uinX6 : ∀ w ∈ wsX60, w ∈ TT := by
  have e : wsX60 = [Cond.lays RX6 "BlanketKeys$Strokes" "total" "I", Cond.laysFinal RX6 "BlanketKeys$Strokes" "keys" "[I", Cond.laysFinal RX6 "BlanketKeys$Strokes" "sinces" "[I", Cond.laysFinal RX6 "BlanketKeys$Strokes" "dwells" "[I", Cond.laysFinal RX6 "BlanketKeys$Strokes" "fates" "[I", Cond.laysFinal RX6 "BlanketKeys$Strokes" "holders" "[I", Cond.laysFinal RX6 "BlanketKeys$Strokes" "notedShifts" "[I", Cond.laysFinal RX6 "BlanketKeys$Strokes" "origins" "[I"] := rfl
  rw [e]
  exact List.forall_mem_cons.mpr ⟨wt1_141, List.forall_mem_cons.mpr ⟨wt1_143, List.forall_mem_cons.mpr ⟨wt1_145, List.forall_mem_cons.mpr ⟨wt1_147, List.forall_mem_cons.mpr ⟨wt1_149, List.forall_mem_cons.mpr ⟨wt1_151, List.forall_mem_cons.mpr ⟨wt1_153, List.forall_mem_cons.mpr ⟨wt1_155, fun _ h => absurd h List.not_mem_nil⟩⟩⟩⟩⟩⟩⟩⟩
theorem uinX7 : ∀ w ∈ wsX70, w ∈ TT := by
  have e : wsX70 = [Cond.lays RX7 "BlanketKeys$Typist" "meanDwell" "F", Cond.lays RX7 "BlanketKeys$Typist" "meanGap" "F", Cond.lays RX7 "BlanketKeys$Typist" "last" "I", Cond.lays RX7 "BlanketKeys$Typist" "borrows" "Z", Cond.lays RX7 "BlanketKeys$Typist" "credited" "I", Cond.lays RX7 "BlanketKeys$Typist" "creditedRightly" "I", Cond.lays RX7 "BlanketKeys$Typist" "signCount" "I", Cond.laysFinal RX7 "BlanketKeys$Typist" "signs" "[I"] := rfl
  rw [e]
  exact List.forall_mem_cons.mpr ⟨wt1_106, List.forall_mem_cons.mpr ⟨wt1_108, List.forall_mem_cons.mpr ⟨wt1_110, List.forall_mem_cons.mpr ⟨wt1_112, List.forall_mem_cons.mpr ⟨wt1_114, List.forall_mem_cons.mpr ⟨wt1_116, List.forall_mem_cons.mpr ⟨wt1_118, List.forall_mem_cons.mpr ⟨wt1_120, fun _ h => absurd h List.not_mem_nil⟩⟩⟩⟩⟩⟩⟩⟩
theorem uinX8 : ∀ w ∈ wsX80, w ∈ TT := by
  have e : wsX80 = [Cond.laysFinal RX8 "BlanketKeys" "now" "LBlanketKeys$State;", Cond.laysFinal RX8 "BlanketKeys" "beforeScript" "LBlanketKeys$State;", Cond.laysFinal RX8 "BlanketKeys" "snapshot" "LBlanketKeys$State;", Cond.laysFinal RX8 "BlanketKeys" "history" "LBlanketKeys$History;", Cond.laysFinal RX8 "BlanketKeys" "script" "LBlanketKeys$Script;", Cond.lays RX8 "BlanketKeys" "hasSnapshot" "Z"] := rfl
  rw [e]
  exact List.forall_mem_cons.mpr ⟨wt2_33, List.forall_mem_cons.mpr ⟨wt2_35, List.forall_mem_cons.mpr ⟨wt2_37, List.forall_mem_cons.mpr ⟨wt2_39, List.forall_mem_cons.mpr ⟨wt2_41, List.forall_mem_cons.mpr ⟨wt2_43, fun _ h => absurd h List.not_mem_nil⟩⟩⟩⟩⟩⟩
theorem uinX9 : ∀ w ∈ wsX90, w ∈ TT := by
  have e : wsX90 = [Cond.laysFinal RX9 "BlanketKeysModel" "row" "[I", Cond.laysFinal RX9 "BlanketKeysModel" "past" "[I", Cond.laysFinal RX9 "BlanketKeysModel" "aside" "[I", Cond.laysFinal RX9 "BlanketKeysModel" "before" "[I", Cond.laysFinal RX9 "BlanketKeysModel" "style" "[F", Cond.laysFinal RX9 "BlanketKeysModel" "pastStyle" "[F", Cond.laysFinal RX9 "BlanketKeysModel" "asideStyle" "[F", Cond.laysFinal RX9 "BlanketKeysModel" "beforeStyle" "[F", Cond.lays RX9 "BlanketKeysModel" "states" "I", Cond.lays RX9 "BlanketKeysModel" "isAside" "Z", Cond.laysFinal RX9 "BlanketKeysModel" "text" "[C", Cond.lays RX9 "BlanketKeysModel" "length" "I", Cond.lays RX9 "BlanketKeysModel" "at" "I", Cond.lays RX9 "BlanketKeysModel" "columnsNow" "I", Cond.lays RX9 "BlanketKeysModel" "rowsNow" "I"] := rfl
  rw [e]
  exact List.forall_mem_cons.mpr ⟨wt4_101, List.forall_mem_cons.mpr ⟨wt4_103, List.forall_mem_cons.mpr ⟨wt4_105, List.forall_mem_cons.mpr ⟨wt4_107, List.forall_mem_cons.mpr ⟨wt4_109, List.forall_mem_cons.mpr ⟨wt4_111, List.forall_mem_cons.mpr ⟨wt4_113, List.forall_mem_cons.mpr ⟨wt4_115, List.forall_mem_cons.mpr ⟨wt4_117, List.forall_mem_cons.mpr ⟨wt4_119, List.forall_mem_cons.mpr ⟨wt4_121, List.forall_mem_cons.mpr ⟨wt4_123, List.forall_mem_cons.mpr ⟨wt4_125, List.forall_mem_cons.mpr ⟨wt4_127, List.forall_mem_cons.mpr ⟨wt4_129, fun _ h => absurd h List.not_mem_nil⟩⟩⟩⟩⟩⟩⟩⟩⟩⟩⟩⟩⟩⟩⟩
end
section
theorem dJxf58ca_isNaN_12338_0 : decode cJxf58ca_isNaN_12338 0 = .ok (.fload_n 0, 1) := by decide +kernel
theorem dJxf58ca_isNaN_12338_1 : decode cJxf58ca_isNaN_12338 1 = .ok (.fload_n 0, 1) := by decide +kernel
theorem dJxf58ca_isNaN_12338_2 : decode cJxf58ca_isNaN_12338 2 = .ok (.fcmp .l, 1) := by decide +kernel
theorem dJxf58ca_isNaN_12338_3 : decode cJxf58ca_isNaN_12338 3 = .ok (.ifCond .eq 7, 3) := by decide +kernel
theorem dJxf58ca_isNaN_12338_6 : decode cJxf58ca_isNaN_12338 6 = .ok (.iconst 1, 1) := by decide +kernel
theorem dJxf58ca_isNaN_12338_7 : decode cJxf58ca_isNaN_12338 7 = .ok (.goto 4, 3) := by decide +kernel
theorem dJxf58ca_isNaN_12338_10 : decode cJxf58ca_isNaN_12338 10 = .ok (.iconst 0, 1) := by decide +kernel
theorem dJxf58ca_isNaN_12338_11 : decode cJxf58ca_isNaN_12338 11 = .ok (.ireturn, 1) := by decide +kernel
theorem dJxf58ca_floatToIntBits_5c35a_0 : decode cJxf58ca_floatToIntBits_5c35a 0 = .ok (.fload_n 0, 1) := by decide +kernel
theorem dJxf58ca_floatToIntBits_5c35a_1 : decode cJxf58ca_floatToIntBits_5c35a 1 = .ok (.invokestatic 59, 3) := by decide +kernel
theorem dJxf58ca_floatToIntBits_5c35a_4 : decode cJxf58ca_floatToIntBits_5c35a 4 = .ok (.ifCond .ne 8, 3) := by decide +kernel
theorem dJxf58ca_floatToIntBits_5c35a_7 : decode cJxf58ca_floatToIntBits_5c35a 7 = .ok (.fload_n 0, 1) := by decide +kernel
theorem dJxf58ca_floatToIntBits_5c35a_8 : decode cJxf58ca_floatToIntBits_5c35a 8 = .ok (.invokestatic 74, 3) := by decide +kernel
theorem dJxf58ca_floatToIntBits_5c35a_11 : decode cJxf58ca_floatToIntBits_5c35a 11 = .ok (.ireturn, 1) := by decide +kernel
theorem dJxf58ca_floatToIntBits_5c35a_12 : decode cJxf58ca_floatToIntBits_5c35a 12 = .ok (.ldc 77, 2) := by decide +kernel
theorem dJxf58ca_floatToIntBits_5c35a_14 : decode cJxf58ca_floatToIntBits_5c35a 14 = .ok (.ireturn, 1) := by decide +kernel
theorem dJ6_bitCount_0f7a4_0 : decode cJ6_bitCount_0f7a4 0 = .ok (.iload_n 0, 1) := by decide +kernel
theorem dJ6_bitCount_0f7a4_1 : decode cJ6_bitCount_0f7a4 1 = .ok (.iload_n 0, 1) := by decide +kernel
theorem dJ6_bitCount_0f7a4_2 : decode cJ6_bitCount_0f7a4 2 = .ok (.iconst 1, 1) := by decide +kernel
theorem dJ6_bitCount_0f7a4_3 : decode cJ6_bitCount_0f7a4 3 = .ok (.iushr, 1) := by decide +kernel
theorem dJ6_bitCount_0f7a4_4 : decode cJ6_bitCount_0f7a4 4 = .ok (.ldc_w 265, 3) := by decide +kernel
theorem dJ6_bitCount_0f7a4_7 : decode cJ6_bitCount_0f7a4 7 = .ok (.iand, 1) := by decide +kernel
theorem dJ6_bitCount_0f7a4_8 : decode cJ6_bitCount_0f7a4 8 = .ok (.isub, 1) := by decide +kernel
theorem dJ6_bitCount_0f7a4_9 : decode cJ6_bitCount_0f7a4 9 = .ok (.istore_n 0, 1) := by decide +kernel
theorem dJ6_bitCount_0f7a4_10 : decode cJ6_bitCount_0f7a4 10 = .ok (.iload_n 0, 1) := by decide +kernel
theorem dJ6_bitCount_0f7a4_11 : decode cJ6_bitCount_0f7a4 11 = .ok (.ldc_w 266, 3) := by decide +kernel
theorem dJ6_bitCount_0f7a4_14 : decode cJ6_bitCount_0f7a4 14 = .ok (.iand, 1) := by decide +kernel
theorem dJ6_bitCount_0f7a4_15 : decode cJ6_bitCount_0f7a4 15 = .ok (.iload_n 0, 1) := by decide +kernel
theorem dJ6_bitCount_0f7a4_16 : decode cJ6_bitCount_0f7a4 16 = .ok (.iconst 2, 1) := by decide +kernel
theorem dJ6_bitCount_0f7a4_17 : decode cJ6_bitCount_0f7a4 17 = .ok (.iushr, 1) := by decide +kernel
theorem dJ6_bitCount_0f7a4_18 : decode cJ6_bitCount_0f7a4 18 = .ok (.ldc_w 266, 3) := by decide +kernel
theorem dJ6_bitCount_0f7a4_21 : decode cJ6_bitCount_0f7a4 21 = .ok (.iand, 1) := by decide +kernel
theorem dJ6_bitCount_0f7a4_22 : decode cJ6_bitCount_0f7a4 22 = .ok (.iadd, 1) := by decide +kernel
theorem dJ6_bitCount_0f7a4_23 : decode cJ6_bitCount_0f7a4 23 = .ok (.istore_n 0, 1) := by decide +kernel
theorem dJ6_bitCount_0f7a4_24 : decode cJ6_bitCount_0f7a4 24 = .ok (.iload_n 0, 1) := by decide +kernel
theorem dJ6_bitCount_0f7a4_25 : decode cJ6_bitCount_0f7a4 25 = .ok (.iload_n 0, 1) := by decide +kernel
theorem dJ6_bitCount_0f7a4_26 : decode cJ6_bitCount_0f7a4 26 = .ok (.iconst 4, 1) := by decide +kernel
theorem dJ6_bitCount_0f7a4_27 : decode cJ6_bitCount_0f7a4 27 = .ok (.iushr, 1) := by decide +kernel
theorem dJ6_bitCount_0f7a4_28 : decode cJ6_bitCount_0f7a4 28 = .ok (.iadd, 1) := by decide +kernel
theorem dJ6_bitCount_0f7a4_29 : decode cJ6_bitCount_0f7a4 29 = .ok (.ldc_w 267, 3) := by decide +kernel
theorem dJ6_bitCount_0f7a4_32 : decode cJ6_bitCount_0f7a4 32 = .ok (.iand, 1) := by decide +kernel
theorem dJ6_bitCount_0f7a4_33 : decode cJ6_bitCount_0f7a4 33 = .ok (.istore_n 0, 1) := by decide +kernel
theorem dJ6_bitCount_0f7a4_34 : decode cJ6_bitCount_0f7a4 34 = .ok (.iload_n 0, 1) := by decide +kernel
theorem dJ6_bitCount_0f7a4_35 : decode cJ6_bitCount_0f7a4 35 = .ok (.iload_n 0, 1) := by decide +kernel
theorem dJ6_bitCount_0f7a4_36 : decode cJ6_bitCount_0f7a4 36 = .ok (.bipush 8, 2) := by decide +kernel
theorem dJ6_bitCount_0f7a4_38 : decode cJ6_bitCount_0f7a4 38 = .ok (.iushr, 1) := by decide +kernel
theorem dJ6_bitCount_0f7a4_39 : decode cJ6_bitCount_0f7a4 39 = .ok (.iadd, 1) := by decide +kernel
theorem dJ6_bitCount_0f7a4_40 : decode cJ6_bitCount_0f7a4 40 = .ok (.istore_n 0, 1) := by decide +kernel
theorem dJ6_bitCount_0f7a4_41 : decode cJ6_bitCount_0f7a4 41 = .ok (.iload_n 0, 1) := by decide +kernel
theorem dJ6_bitCount_0f7a4_42 : decode cJ6_bitCount_0f7a4 42 = .ok (.iload_n 0, 1) := by decide +kernel
theorem dJ6_bitCount_0f7a4_43 : decode cJ6_bitCount_0f7a4 43 = .ok (.bipush 16, 2) := by decide +kernel
theorem dJ6_bitCount_0f7a4_45 : decode cJ6_bitCount_0f7a4 45 = .ok (.iushr, 1) := by decide +kernel
theorem dJ6_bitCount_0f7a4_46 : decode cJ6_bitCount_0f7a4 46 = .ok (.iadd, 1) := by decide +kernel
theorem dJ6_bitCount_0f7a4_47 : decode cJ6_bitCount_0f7a4 47 = .ok (.istore_n 0, 1) := by decide +kernel
theorem dJ6_bitCount_0f7a4_48 : decode cJ6_bitCount_0f7a4 48 = .ok (.iload_n 0, 1) := by decide +kernel
theorem dJ6_bitCount_0f7a4_49 : decode cJ6_bitCount_0f7a4 49 = .ok (.bipush 63, 2) := by decide +kernel
theorem dJ6_bitCount_0f7a4_51 : decode cJ6_bitCount_0f7a4 51 = .ok (.iand, 1) := by decide +kernel
theorem dJ6_bitCount_0f7a4_52 : decode cJ6_bitCount_0f7a4 52 = .ok (.ireturn, 1) := by decide +kernel
theorem dJ9_floorMod_7cf53_0 : decode cJ9_floorMod_7cf53 0 = .ok (.iload_n 0, 1) := by decide +kernel
theorem dJ9_floorMod_7cf53_1 : decode cJ9_floorMod_7cf53 1 = .ok (.iload_n 1, 1) := by decide +kernel
theorem dJ9_floorMod_7cf53_2 : decode cJ9_floorMod_7cf53 2 = .ok (.irem, 1) := by decide +kernel
theorem dJ9_floorMod_7cf53_3 : decode cJ9_floorMod_7cf53 3 = .ok (.istore_n 2, 1) := by decide +kernel
theorem dJ9_floorMod_7cf53_4 : decode cJ9_floorMod_7cf53 4 = .ok (.iload_n 0, 1) := by decide +kernel
theorem dJ9_floorMod_7cf53_5 : decode cJ9_floorMod_7cf53 5 = .ok (.iload_n 1, 1) := by decide +kernel
theorem dJ9_floorMod_7cf53_6 : decode cJ9_floorMod_7cf53 6 = .ok (.ixor, 1) := by decide +kernel
theorem dJ9_floorMod_7cf53_7 : decode cJ9_floorMod_7cf53 7 = .ok (.ifCond .ge 11, 3) := by decide +kernel
theorem dJ9_floorMod_7cf53_10 : decode cJ9_floorMod_7cf53 10 = .ok (.iload_n 2, 1) := by decide +kernel
theorem dJ9_floorMod_7cf53_11 : decode cJ9_floorMod_7cf53 11 = .ok (.ifCond .eq 7, 3) := by decide +kernel
theorem dJ9_floorMod_7cf53_14 : decode cJ9_floorMod_7cf53 14 = .ok (.iload_n 2, 1) := by decide +kernel
theorem dJ9_floorMod_7cf53_15 : decode cJ9_floorMod_7cf53 15 = .ok (.iload_n 1, 1) := by decide +kernel
theorem dJ9_floorMod_7cf53_16 : decode cJ9_floorMod_7cf53 16 = .ok (.iadd, 1) := by decide +kernel
theorem dJ9_floorMod_7cf53_17 : decode cJ9_floorMod_7cf53 17 = .ok (.ireturn, 1) := by decide +kernel
theorem dJ9_floorMod_7cf53_18 : decode cJ9_floorMod_7cf53 18 = .ok (.iload_n 2, 1) := by decide +kernel
theorem dJ9_floorMod_7cf53_19 : decode cJ9_floorMod_7cf53 19 = .ok (.ireturn, 1) := by decide +kernel
theorem dJ9_abs_0f7a4_0 : decode cJ9_abs_0f7a4 0 = .ok (.iload_n 0, 1) := by decide +kernel
theorem dJ9_abs_0f7a4_1 : decode cJ9_abs_0f7a4 1 = .ok (.ifCond .ge 8, 3) := by decide +kernel
theorem dJ9_abs_0f7a4_4 : decode cJ9_abs_0f7a4 4 = .ok (.iload_n 0, 1) := by decide +kernel
theorem dJ9_abs_0f7a4_5 : decode cJ9_abs_0f7a4 5 = .ok (.ineg, 1) := by decide +kernel
theorem dJ9_abs_0f7a4_6 : decode cJ9_abs_0f7a4 6 = .ok (.goto 4, 3) := by decide +kernel
theorem dJ9_abs_0f7a4_9 : decode cJ9_abs_0f7a4 9 = .ok (.iload_n 0, 1) := by decide +kernel
theorem dJ9_abs_0f7a4_10 : decode cJ9_abs_0f7a4 10 = .ok (.ireturn, 1) := by decide +kernel
theorem dJ9_min_7cf53_0 : decode cJ9_min_7cf53 0 = .ok (.iload_n 0, 1) := by decide +kernel
theorem dJ9_min_7cf53_1 : decode cJ9_min_7cf53 1 = .ok (.iload_n 1, 1) := by decide +kernel
theorem dJ9_min_7cf53_2 : decode cJ9_min_7cf53 2 = .ok (.if_icmp .gt 7, 3) := by decide +kernel
theorem dJ9_min_7cf53_5 : decode cJ9_min_7cf53 5 = .ok (.iload_n 0, 1) := by decide +kernel
theorem dJ9_min_7cf53_6 : decode cJ9_min_7cf53 6 = .ok (.goto 4, 3) := by decide +kernel
theorem dJ9_min_7cf53_9 : decode cJ9_min_7cf53 9 = .ok (.iload_n 1, 1) := by decide +kernel
theorem dJ9_min_7cf53_10 : decode cJ9_min_7cf53 10 = .ok (.ireturn, 1) := by decide +kernel
theorem dJ7_fill_53178_0 : decode cJ7_fill_53178 0 = .ok (.iconst 0, 1) := by decide +kernel
theorem dJ7_fill_53178_1 : decode cJ7_fill_53178 1 = .ok (.istore_n 2, 1) := by decide +kernel
theorem dJ7_fill_53178_2 : decode cJ7_fill_53178 2 = .ok (.aload_n 0, 1) := by decide +kernel
theorem dJ7_fill_53178_3 : decode cJ7_fill_53178 3 = .ok (.arraylength, 1) := by decide +kernel
theorem dJ7_fill_53178_4 : decode cJ7_fill_53178 4 = .ok (.istore_n 3, 1) := by decide +kernel
theorem dJ7_fill_53178_5 : decode cJ7_fill_53178 5 = .ok (.iload_n 2, 1) := by decide +kernel
theorem dJ7_fill_53178_6 : decode cJ7_fill_53178 6 = .ok (.iload_n 3, 1) := by decide +kernel
theorem dJ7_fill_53178_7 : decode cJ7_fill_53178 7 = .ok (.if_icmp .ge 13, 3) := by decide +kernel
theorem dJ7_fill_53178_10 : decode cJ7_fill_53178 10 = .ok (.aload_n 0, 1) := by decide +kernel
theorem dJ7_fill_53178_11 : decode cJ7_fill_53178 11 = .ok (.iload_n 2, 1) := by decide +kernel
theorem dJ7_fill_53178_12 : decode cJ7_fill_53178 12 = .ok (.iload_n 1, 1) := by decide +kernel
theorem dJ7_fill_53178_13 : decode cJ7_fill_53178 13 = .ok (.iastore, 1) := by decide +kernel
theorem dJ7_fill_53178_14 : decode cJ7_fill_53178 14 = .ok (.iinc 2 1, 3) := by decide +kernel
theorem dJ7_fill_53178_17 : decode cJ7_fill_53178 17 = .ok (.goto (-12), 3) := by decide +kernel
theorem dJ7_fill_53178_20 : decode cJ7_fill_53178 20 = .ok (.return_, 1) := by decide +kernel
end
section
theorem dX0_init_0 : decode cX0_init 0 = .ok (.aload_n 0, 1) := by decide +kernel
theorem dX0_init_1 : decode cX0_init 1 = .ok (.invokespecial 3, 3) := by decide +kernel
theorem dX0_init_4 : decode cX0_init 4 = .ok (.aload_n 0, 1) := by decide +kernel
theorem dX0_init_5 : decode cX0_init 5 = .ok (.iconst 4, 1) := by decide +kernel
theorem dX0_init_6 : decode cX0_init 6 = .ok (.putfield 9, 3) := by decide +kernel
theorem dX0_init_9 : decode cX0_init 9 = .ok (.aload_n 0, 1) := by decide +kernel
theorem dX0_init_10 : decode cX0_init 10 = .ok (.bipush 6, 2) := by decide +kernel
theorem dX0_init_12 : decode cX0_init 12 = .ok (.putfield 15, 3) := by decide +kernel
theorem dX0_init_15 : decode cX0_init 15 = .ok (.aload_n 0, 1) := by decide +kernel
theorem dX0_init_16 : decode cX0_init 16 = .ok (.bipush 48, 2) := by decide +kernel
theorem dX0_init_18 : decode cX0_init 18 = .ok (.newarray .int, 2) := by decide +kernel
theorem dX0_init_20 : decode cX0_init 20 = .ok (.putfield 18, 3) := by decide +kernel
theorem dX0_init_23 : decode cX0_init 23 = .ok (.aload_n 0, 1) := by decide +kernel
theorem dX0_init_24 : decode cX0_init 24 = .ok (.bipush 48, 2) := by decide +kernel
theorem dX0_init_26 : decode cX0_init 26 = .ok (.newarray .int, 2) := by decide +kernel
theorem dX0_init_28 : decode cX0_init 28 = .ok (.putfield 22, 3) := by decide +kernel
theorem dX0_init_31 : decode cX0_init 31 = .ok (.aload_n 0, 1) := by decide +kernel
theorem dX0_init_32 : decode cX0_init 32 = .ok (.bipush 48, 2) := by decide +kernel
theorem dX0_init_34 : decode cX0_init 34 = .ok (.newarray .int, 2) := by decide +kernel
theorem dX0_init_36 : decode cX0_init 36 = .ok (.putfield 25, 3) := by decide +kernel
theorem dX0_init_39 : decode cX0_init 39 = .ok (.aload_n 0, 1) := by decide +kernel
theorem dX0_init_40 : decode cX0_init 40 = .ok (.bipush 48, 2) := by decide +kernel
theorem dX0_init_42 : decode cX0_init 42 = .ok (.newarray .int, 2) := by decide +kernel
theorem dX0_init_44 : decode cX0_init 44 = .ok (.putfield 28, 3) := by decide +kernel
theorem dX0_init_47 : decode cX0_init 47 = .ok (.aload_n 0, 1) := by decide +kernel
theorem dX0_init_48 : decode cX0_init 48 = .ok (.bipush 48, 2) := by decide +kernel
theorem dX0_init_50 : decode cX0_init 50 = .ok (.newarray .int, 2) := by decide +kernel
theorem dX0_init_52 : decode cX0_init 52 = .ok (.putfield 31, 3) := by decide +kernel
theorem dX0_init_55 : decode cX0_init 55 = .ok (.aload_n 0, 1) := by decide +kernel
theorem dX0_init_56 : decode cX0_init 56 = .ok (.bipush 6, 2) := by decide +kernel
theorem dX0_init_58 : decode cX0_init 58 = .ok (.newarray .int, 2) := by decide +kernel
theorem dX0_init_60 : decode cX0_init 60 = .ok (.putfield 34, 3) := by decide +kernel
theorem dX0_init_63 : decode cX0_init 63 = .ok (.aload_n 0, 1) := by decide +kernel
theorem dX0_init_64 : decode cX0_init 64 = .ok (.bipush 6, 2) := by decide +kernel
theorem dX0_init_66 : decode cX0_init 66 = .ok (.newarray .int, 2) := by decide +kernel
theorem dX0_init_68 : decode cX0_init 68 = .ok (.putfield 37, 3) := by decide +kernel
theorem dX0_init_71 : decode cX0_init 71 = .ok (.aload_n 0, 1) := by decide +kernel
theorem dX0_init_72 : decode cX0_init 72 = .ok (.bipush 6, 2) := by decide +kernel
theorem dX0_init_74 : decode cX0_init 74 = .ok (.newarray .int, 2) := by decide +kernel
theorem dX0_init_76 : decode cX0_init 76 = .ok (.putfield 40, 3) := by decide +kernel
theorem dX0_init_79 : decode cX0_init 79 = .ok (.aload_n 0, 1) := by decide +kernel
theorem dX0_init_80 : decode cX0_init 80 = .ok (.iconst 2, 1) := by decide +kernel
theorem dX0_init_81 : decode cX0_init 81 = .ok (.newarray .int, 2) := by decide +kernel
theorem dX0_init_83 : decode cX0_init 83 = .ok (.putfield 43, 3) := by decide +kernel
theorem dX0_init_86 : decode cX0_init 86 = .ok (.aload_n 0, 1) := by decide +kernel
theorem dX0_init_87 : decode cX0_init 87 = .ok (.getfield 18, 3) := by decide +kernel
theorem dX0_init_90 : decode cX0_init 90 = .ok (.iconst (-1), 1) := by decide +kernel
theorem dX0_init_91 : decode cX0_init 91 = .ok (.invokestatic 46, 3) := by decide +kernel
theorem dX0_init_94 : decode cX0_init 94 = .ok (.aload_n 0, 1) := by decide +kernel
theorem dX0_init_95 : decode cX0_init 95 = .ok (.getfield 22, 3) := by decide +kernel
theorem dX0_init_98 : decode cX0_init 98 = .ok (.bipush 46, 2) := by decide +kernel
theorem dX0_init_100 : decode cX0_init 100 = .ok (.invokestatic 46, 3) := by decide +kernel
theorem dX0_init_103 : decode cX0_init 103 = .ok (.aload_n 0, 1) := by decide +kernel
theorem dX0_init_104 : decode cX0_init 104 = .ok (.getfield 31, 3) := by decide +kernel
theorem dX0_init_107 : decode cX0_init 107 = .ok (.iconst (-1), 1) := by decide +kernel
theorem dX0_init_108 : decode cX0_init 108 = .ok (.invokestatic 46, 3) := by decide +kernel
theorem dX0_init_111 : decode cX0_init 111 = .ok (.aload_n 0, 1) := by decide +kernel
theorem dX0_init_112 : decode cX0_init 112 = .ok (.getfield 43, 3) := by decide +kernel
theorem dX0_init_115 : decode cX0_init 115 = .ok (.iconst (-1), 1) := by decide +kernel
theorem dX0_init_116 : decode cX0_init 116 = .ok (.invokestatic 46, 3) := by decide +kernel
theorem dX0_init_119 : decode cX0_init 119 = .ok (.return_, 1) := by decide +kernel
theorem dX0_copyFrom_0 : decode cX0_copyFrom 0 = .ok (.aload_n 0, 1) := by decide +kernel
theorem dX0_copyFrom_1 : decode cX0_copyFrom 1 = .ok (.aload_n 1, 1) := by decide +kernel
theorem dX0_copyFrom_2 : decode cX0_copyFrom 2 = .ok (.getfield 9, 3) := by decide +kernel
theorem dX0_copyFrom_5 : decode cX0_copyFrom 5 = .ok (.putfield 9, 3) := by decide +kernel
theorem dX0_copyFrom_8 : decode cX0_copyFrom 8 = .ok (.aload_n 0, 1) := by decide +kernel
theorem dX0_copyFrom_9 : decode cX0_copyFrom 9 = .ok (.aload_n 1, 1) := by decide +kernel
theorem dX0_copyFrom_10 : decode cX0_copyFrom 10 = .ok (.getfield 15, 3) := by decide +kernel
theorem dX0_copyFrom_13 : decode cX0_copyFrom 13 = .ok (.putfield 15, 3) := by decide +kernel
theorem dX0_copyFrom_16 : decode cX0_copyFrom 16 = .ok (.aload_n 1, 1) := by decide +kernel
theorem dX0_copyFrom_17 : decode cX0_copyFrom 17 = .ok (.getfield 18, 3) := by decide +kernel
theorem dX0_copyFrom_20 : decode cX0_copyFrom 20 = .ok (.aload_n 0, 1) := by decide +kernel
theorem dX0_copyFrom_21 : decode cX0_copyFrom 21 = .ok (.getfield 18, 3) := by decide +kernel
theorem dX0_copyFrom_24 : decode cX0_copyFrom 24 = .ok (.invokestatic 52, 3) := by decide +kernel
theorem dX0_copyFrom_27 : decode cX0_copyFrom 27 = .ok (.aload_n 1, 1) := by decide +kernel
theorem dX0_copyFrom_28 : decode cX0_copyFrom 28 = .ok (.getfield 22, 3) := by decide +kernel
theorem dX0_copyFrom_31 : decode cX0_copyFrom 31 = .ok (.aload_n 0, 1) := by decide +kernel
theorem dX0_copyFrom_32 : decode cX0_copyFrom 32 = .ok (.getfield 22, 3) := by decide +kernel
theorem dX0_copyFrom_35 : decode cX0_copyFrom 35 = .ok (.invokestatic 52, 3) := by decide +kernel
theorem dX0_copyFrom_38 : decode cX0_copyFrom 38 = .ok (.aload_n 1, 1) := by decide +kernel
theorem dX0_copyFrom_39 : decode cX0_copyFrom 39 = .ok (.getfield 25, 3) := by decide +kernel
theorem dX0_copyFrom_42 : decode cX0_copyFrom 42 = .ok (.aload_n 0, 1) := by decide +kernel
theorem dX0_copyFrom_43 : decode cX0_copyFrom 43 = .ok (.getfield 25, 3) := by decide +kernel
theorem dX0_copyFrom_46 : decode cX0_copyFrom 46 = .ok (.invokestatic 52, 3) := by decide +kernel
theorem dX0_copyFrom_49 : decode cX0_copyFrom 49 = .ok (.aload_n 1, 1) := by decide +kernel
theorem dX0_copyFrom_50 : decode cX0_copyFrom 50 = .ok (.getfield 28, 3) := by decide +kernel
theorem dX0_copyFrom_53 : decode cX0_copyFrom 53 = .ok (.aload_n 0, 1) := by decide +kernel
theorem dX0_copyFrom_54 : decode cX0_copyFrom 54 = .ok (.getfield 28, 3) := by decide +kernel
theorem dX0_copyFrom_57 : decode cX0_copyFrom 57 = .ok (.invokestatic 52, 3) := by decide +kernel
theorem dX0_copyFrom_60 : decode cX0_copyFrom 60 = .ok (.aload_n 1, 1) := by decide +kernel
theorem dX0_copyFrom_61 : decode cX0_copyFrom 61 = .ok (.getfield 31, 3) := by decide +kernel
theorem dX0_copyFrom_64 : decode cX0_copyFrom 64 = .ok (.aload_n 0, 1) := by decide +kernel
theorem dX0_copyFrom_65 : decode cX0_copyFrom 65 = .ok (.getfield 31, 3) := by decide +kernel
theorem dX0_copyFrom_68 : decode cX0_copyFrom 68 = .ok (.invokestatic 52, 3) := by decide +kernel
theorem dX0_copyFrom_71 : decode cX0_copyFrom 71 = .ok (.aload_n 1, 1) := by decide +kernel
theorem dX0_copyFrom_72 : decode cX0_copyFrom 72 = .ok (.getfield 34, 3) := by decide +kernel
theorem dX0_copyFrom_75 : decode cX0_copyFrom 75 = .ok (.aload_n 0, 1) := by decide +kernel
theorem dX0_copyFrom_76 : decode cX0_copyFrom 76 = .ok (.getfield 34, 3) := by decide +kernel
theorem dX0_copyFrom_79 : decode cX0_copyFrom 79 = .ok (.invokestatic 52, 3) := by decide +kernel
theorem dX0_copyFrom_82 : decode cX0_copyFrom 82 = .ok (.aload_n 1, 1) := by decide +kernel
theorem dX0_copyFrom_83 : decode cX0_copyFrom 83 = .ok (.getfield 37, 3) := by decide +kernel
theorem dX0_copyFrom_86 : decode cX0_copyFrom 86 = .ok (.aload_n 0, 1) := by decide +kernel
theorem dX0_copyFrom_87 : decode cX0_copyFrom 87 = .ok (.getfield 37, 3) := by decide +kernel
theorem dX0_copyFrom_90 : decode cX0_copyFrom 90 = .ok (.invokestatic 52, 3) := by decide +kernel
theorem dX0_copyFrom_93 : decode cX0_copyFrom 93 = .ok (.aload_n 1, 1) := by decide +kernel
theorem dX0_copyFrom_94 : decode cX0_copyFrom 94 = .ok (.getfield 40, 3) := by decide +kernel
theorem dX0_copyFrom_97 : decode cX0_copyFrom 97 = .ok (.aload_n 0, 1) := by decide +kernel
theorem dX0_copyFrom_98 : decode cX0_copyFrom 98 = .ok (.getfield 40, 3) := by decide +kernel
theorem dX0_copyFrom_101 : decode cX0_copyFrom 101 = .ok (.invokestatic 52, 3) := by decide +kernel
theorem dX0_copyFrom_104 : decode cX0_copyFrom 104 = .ok (.aload_n 1, 1) := by decide +kernel
theorem dX0_copyFrom_105 : decode cX0_copyFrom 105 = .ok (.getfield 43, 3) := by decide +kernel
theorem dX0_copyFrom_108 : decode cX0_copyFrom 108 = .ok (.aload_n 0, 1) := by decide +kernel
theorem dX0_copyFrom_109 : decode cX0_copyFrom 109 = .ok (.getfield 43, 3) := by decide +kernel
theorem dX0_copyFrom_112 : decode cX0_copyFrom 112 = .ok (.invokestatic 52, 3) := by decide +kernel
theorem dX0_copyFrom_115 : decode cX0_copyFrom 115 = .ok (.return_, 1) := by decide +kernel
theorem dX0_rebuild_0 : decode cX0_rebuild 0 = .ok (.aload_n 0, 1) := by decide +kernel
theorem dX0_rebuild_1 : decode cX0_rebuild 1 = .ok (.iload_n 1, 1) := by decide +kernel
theorem dX0_rebuild_2 : decode cX0_rebuild 2 = .ok (.putfield 9, 3) := by decide +kernel
theorem dX0_rebuild_5 : decode cX0_rebuild 5 = .ok (.aload_n 0, 1) := by decide +kernel
theorem dX0_rebuild_6 : decode cX0_rebuild 6 = .ok (.iload_n 2, 1) := by decide +kernel
theorem dX0_rebuild_7 : decode cX0_rebuild 7 = .ok (.putfield 15, 3) := by decide +kernel
theorem dX0_rebuild_10 : decode cX0_rebuild 10 = .ok (.aload_n 0, 1) := by decide +kernel
theorem dX0_rebuild_11 : decode cX0_rebuild 11 = .ok (.getfield 22, 3) := by decide +kernel
theorem dX0_rebuild_14 : decode cX0_rebuild 14 = .ok (.bipush 46, 2) := by decide +kernel
theorem dX0_rebuild_16 : decode cX0_rebuild 16 = .ok (.invokestatic 46, 3) := by decide +kernel
theorem dX0_rebuild_19 : decode cX0_rebuild 19 = .ok (.aload_n 0, 1) := by decide +kernel
theorem dX0_rebuild_20 : decode cX0_rebuild 20 = .ok (.getfield 43, 3) := by decide +kernel
theorem dX0_rebuild_23 : decode cX0_rebuild 23 = .ok (.iconst (-1), 1) := by decide +kernel
theorem dX0_rebuild_24 : decode cX0_rebuild 24 = .ok (.invokestatic 46, 3) := by decide +kernel
theorem dX0_rebuild_27 : decode cX0_rebuild 27 = .ok (.return_, 1) := by decide +kernel
theorem dX0_size_0 : decode cX0_size 0 = .ok (.aload_n 0, 1) := by decide +kernel
theorem dX0_size_1 : decode cX0_size 1 = .ok (.getfield 9, 3) := by decide +kernel
theorem dX0_size_4 : decode cX0_size 4 = .ok (.aload_n 0, 1) := by decide +kernel
theorem dX0_size_5 : decode cX0_size 5 = .ok (.getfield 15, 3) := by decide +kernel
theorem dX0_size_8 : decode cX0_size 8 = .ok (.imul, 1) := by decide +kernel
theorem dX0_size_9 : decode cX0_size 9 = .ok (.ireturn, 1) := by decide +kernel
theorem dX0_has_0 : decode cX0_has 0 = .ok (.iload_n 1, 1) := by decide +kernel
theorem dX0_has_1 : decode cX0_has 1 = .ok (.ifCond .lt 20, 3) := by decide +kernel
theorem dX0_has_4 : decode cX0_has 4 = .ok (.iload_n 1, 1) := by decide +kernel
theorem dX0_has_5 : decode cX0_has 5 = .ok (.aload_n 0, 1) := by decide +kernel
theorem dX0_has_6 : decode cX0_has 6 = .ok (.getfield 9, 3) := by decide +kernel
theorem dX0_has_9 : decode cX0_has 9 = .ok (.aload_n 0, 1) := by decide +kernel
theorem dX0_has_10 : decode cX0_has 10 = .ok (.getfield 15, 3) := by decide +kernel
theorem dX0_has_13 : decode cX0_has 13 = .ok (.imul, 1) := by decide +kernel
theorem dX0_has_14 : decode cX0_has 14 = .ok (.if_icmp .ge 7, 3) := by decide +kernel
theorem dX0_has_17 : decode cX0_has 17 = .ok (.iconst 1, 1) := by decide +kernel
theorem dX0_has_18 : decode cX0_has 18 = .ok (.goto 4, 3) := by decide +kernel
theorem dX0_has_21 : decode cX0_has 21 = .ok (.iconst 0, 1) := by decide +kernel
theorem dX0_has_22 : decode cX0_has 22 = .ok (.ireturn, 1) := by decide +kernel
theorem dX0_rowOf_0 : decode cX0_rowOf 0 = .ok (.aload_n 0, 1) := by decide +kernel
theorem dX0_rowOf_1 : decode cX0_rowOf 1 = .ok (.getfield 15, 3) := by decide +kernel
theorem dX0_rowOf_4 : decode cX0_rowOf 4 = .ok (.ifCond .le 12, 3) := by decide +kernel
theorem dX0_rowOf_7 : decode cX0_rowOf 7 = .ok (.iload_n 1, 1) := by decide +kernel
theorem dX0_rowOf_8 : decode cX0_rowOf 8 = .ok (.aload_n 0, 1) := by decide +kernel
theorem dX0_rowOf_9 : decode cX0_rowOf 9 = .ok (.getfield 15, 3) := by decide +kernel
theorem dX0_rowOf_12 : decode cX0_rowOf 12 = .ok (.idiv, 1) := by decide +kernel
theorem dX0_rowOf_13 : decode cX0_rowOf 13 = .ok (.goto 4, 3) := by decide +kernel
theorem dX0_rowOf_16 : decode cX0_rowOf 16 = .ok (.iconst 0, 1) := by decide +kernel
theorem dX0_rowOf_17 : decode cX0_rowOf 17 = .ok (.ireturn, 1) := by decide +kernel
theorem dX0_bitOf_0 : decode cX0_bitOf 0 = .ok (.aload_n 0, 1) := by decide +kernel
theorem dX0_bitOf_1 : decode cX0_bitOf 1 = .ok (.getfield 15, 3) := by decide +kernel
theorem dX0_bitOf_4 : decode cX0_bitOf 4 = .ok (.ifCond .le 14, 3) := by decide +kernel
theorem dX0_bitOf_7 : decode cX0_bitOf 7 = .ok (.iconst 1, 1) := by decide +kernel
theorem dX0_bitOf_8 : decode cX0_bitOf 8 = .ok (.iload_n 1, 1) := by decide +kernel
theorem dX0_bitOf_9 : decode cX0_bitOf 9 = .ok (.aload_n 0, 1) := by decide +kernel
theorem dX0_bitOf_10 : decode cX0_bitOf 10 = .ok (.getfield 15, 3) := by decide +kernel
theorem dX0_bitOf_13 : decode cX0_bitOf 13 = .ok (.irem, 1) := by decide +kernel
theorem dX0_bitOf_14 : decode cX0_bitOf 14 = .ok (.ishl, 1) := by decide +kernel
theorem dX0_bitOf_15 : decode cX0_bitOf 15 = .ok (.goto 4, 3) := by decide +kernel
theorem dX0_bitOf_18 : decode cX0_bitOf 18 = .ok (.iconst 0, 1) := by decide +kernel
theorem dX0_bitOf_19 : decode cX0_bitOf 19 = .ok (.ireturn, 1) := by decide +kernel
theorem dX0_isDown_0 : decode cX0_isDown 0 = .ok (.aload_n 0, 1) := by decide +kernel
theorem dX0_isDown_1 : decode cX0_isDown 1 = .ok (.getfield 34, 3) := by decide +kernel
theorem dX0_isDown_4 : decode cX0_isDown 4 = .ok (.aload_n 0, 1) := by decide +kernel
theorem dX0_isDown_5 : decode cX0_isDown 5 = .ok (.iload_n 1, 1) := by decide +kernel
theorem dX0_isDown_6 : decode cX0_isDown 6 = .ok (.invokevirtual 58, 3) := by decide +kernel
theorem dX0_isDown_9 : decode cX0_isDown 9 = .ok (.invokestatic 62, 3) := by decide +kernel
theorem dX0_isDown_12 : decode cX0_isDown 12 = .ok (.aload_n 0, 1) := by decide +kernel
theorem dX0_isDown_13 : decode cX0_isDown 13 = .ok (.iload_n 1, 1) := by decide +kernel
theorem dX0_isDown_14 : decode cX0_isDown 14 = .ok (.invokevirtual 66, 3) := by decide +kernel
theorem dX0_isDown_17 : decode cX0_isDown 17 = .ok (.iand, 1) := by decide +kernel
theorem dX0_isDown_18 : decode cX0_isDown 18 = .ok (.ifCond .eq 7, 3) := by decide +kernel
theorem dX0_isDown_21 : decode cX0_isDown 21 = .ok (.iconst 1, 1) := by decide +kernel
theorem dX0_isDown_22 : decode cX0_isDown 22 = .ok (.goto 4, 3) := by decide +kernel
theorem dX0_isDown_25 : decode cX0_isDown 25 = .ok (.iconst 0, 1) := by decide +kernel
theorem dX0_isDown_26 : decode cX0_isDown 26 = .ok (.ireturn, 1) := by decide +kernel
theorem dX0_isSeen_0 : decode cX0_isSeen 0 = .ok (.aload_n 0, 1) := by decide +kernel
theorem dX0_isSeen_1 : decode cX0_isSeen 1 = .ok (.getfield 37, 3) := by decide +kernel
theorem dX0_isSeen_4 : decode cX0_isSeen 4 = .ok (.aload_n 0, 1) := by decide +kernel
theorem dX0_isSeen_5 : decode cX0_isSeen 5 = .ok (.iload_n 1, 1) := by decide +kernel
theorem dX0_isSeen_6 : decode cX0_isSeen 6 = .ok (.invokevirtual 58, 3) := by decide +kernel
theorem dX0_isSeen_9 : decode cX0_isSeen 9 = .ok (.invokestatic 62, 3) := by decide +kernel
theorem dX0_isSeen_12 : decode cX0_isSeen 12 = .ok (.aload_n 0, 1) := by decide +kernel
theorem dX0_isSeen_13 : decode cX0_isSeen 13 = .ok (.iload_n 1, 1) := by decide +kernel
theorem dX0_isSeen_14 : decode cX0_isSeen 14 = .ok (.invokevirtual 66, 3) := by decide +kernel
theorem dX0_isSeen_17 : decode cX0_isSeen 17 = .ok (.iand, 1) := by decide +kernel
theorem dX0_isSeen_18 : decode cX0_isSeen 18 = .ok (.ifCond .eq 7, 3) := by decide +kernel
theorem dX0_isSeen_21 : decode cX0_isSeen 21 = .ok (.iconst 1, 1) := by decide +kernel
theorem dX0_isSeen_22 : decode cX0_isSeen 22 = .ok (.goto 4, 3) := by decide +kernel
theorem dX0_isSeen_25 : decode cX0_isSeen 25 = .ok (.iconst 0, 1) := by decide +kernel
theorem dX0_isSeen_26 : decode cX0_isSeen 26 = .ok (.ireturn, 1) := by decide +kernel
theorem dX0_isDoubtful_0 : decode cX0_isDoubtful 0 = .ok (.aload_n 0, 1) := by decide +kernel
theorem dX0_isDoubtful_1 : decode cX0_isDoubtful 1 = .ok (.getfield 40, 3) := by decide +kernel
theorem dX0_isDoubtful_4 : decode cX0_isDoubtful 4 = .ok (.aload_n 0, 1) := by decide +kernel
theorem dX0_isDoubtful_5 : decode cX0_isDoubtful 5 = .ok (.iload_n 1, 1) := by decide +kernel
theorem dX0_isDoubtful_6 : decode cX0_isDoubtful 6 = .ok (.invokevirtual 58, 3) := by decide +kernel
theorem dX0_isDoubtful_9 : decode cX0_isDoubtful 9 = .ok (.invokestatic 62, 3) := by decide +kernel
theorem dX0_isDoubtful_12 : decode cX0_isDoubtful 12 = .ok (.aload_n 0, 1) := by decide +kernel
theorem dX0_isDoubtful_13 : decode cX0_isDoubtful 13 = .ok (.iload_n 1, 1) := by decide +kernel
theorem dX0_isDoubtful_14 : decode cX0_isDoubtful 14 = .ok (.invokevirtual 66, 3) := by decide +kernel
theorem dX0_isDoubtful_17 : decode cX0_isDoubtful 17 = .ok (.iand, 1) := by decide +kernel
theorem dX0_isDoubtful_18 : decode cX0_isDoubtful 18 = .ok (.ifCond .eq 7, 3) := by decide +kernel
theorem dX0_isDoubtful_21 : decode cX0_isDoubtful 21 = .ok (.iconst 1, 1) := by decide +kernel
theorem dX0_isDoubtful_22 : decode cX0_isDoubtful 22 = .ok (.goto 4, 3) := by decide +kernel
theorem dX0_isDoubtful_25 : decode cX0_isDoubtful 25 = .ok (.iconst 0, 1) := by decide +kernel
theorem dX0_isDoubtful_26 : decode cX0_isDoubtful 26 = .ok (.ireturn, 1) := by decide +kernel
theorem dX0_downKeys_0 : decode cX0_downKeys 0 = .ok (.aload_n 0, 1) := by decide +kernel
theorem dX0_downKeys_1 : decode cX0_downKeys 1 = .ok (.getfield 34, 3) := by decide +kernel
theorem dX0_downKeys_4 : decode cX0_downKeys 4 = .ok (.invokestatic 69, 3) := by decide +kernel
theorem dX0_downKeys_7 : decode cX0_downKeys 7 = .ok (.ireturn, 1) := by decide +kernel
theorem dX0_seenKeys_0 : decode cX0_seenKeys 0 = .ok (.aload_n 0, 1) := by decide +kernel
theorem dX0_seenKeys_1 : decode cX0_seenKeys 1 = .ok (.getfield 37, 3) := by decide +kernel
theorem dX0_seenKeys_4 : decode cX0_seenKeys 4 = .ok (.invokestatic 69, 3) := by decide +kernel
theorem dX0_seenKeys_7 : decode cX0_seenKeys 7 = .ok (.ireturn, 1) := by decide +kernel
theorem dX0_doubtfulKeys_0 : decode cX0_doubtfulKeys 0 = .ok (.aload_n 0, 1) := by decide +kernel
theorem dX0_doubtfulKeys_1 : decode cX0_doubtfulKeys 1 = .ok (.getfield 40, 3) := by decide +kernel
theorem dX0_doubtfulKeys_4 : decode cX0_doubtfulKeys 4 = .ok (.invokestatic 69, 3) := by decide +kernel
theorem dX0_doubtfulKeys_7 : decode cX0_doubtfulKeys 7 = .ok (.ireturn, 1) := by decide +kernel
theorem dX0_holderOf_0 : decode cX0_holderOf 0 = .ok (.aload_n 0, 1) := by decide +kernel
theorem dX0_holderOf_1 : decode cX0_holderOf 1 = .ok (.getfield 18, 3) := by decide +kernel
theorem dX0_holderOf_4 : decode cX0_holderOf 4 = .ok (.iload_n 1, 1) := by decide +kernel
theorem dX0_holderOf_5 : decode cX0_holderOf 5 = .ok (.invokestatic 62, 3) := by decide +kernel
theorem dX0_holderOf_8 : decode cX0_holderOf 8 = .ok (.ireturn, 1) := by decide +kernel
theorem dX0_heldBy_0 : decode cX0_heldBy 0 = .ok (.iconst 0, 1) := by decide +kernel
theorem dX0_heldBy_1 : decode cX0_heldBy 1 = .ok (.istore_n 2, 1) := by decide +kernel
theorem dX0_heldBy_2 : decode cX0_heldBy 2 = .ok (.aload_n 0, 1) := by decide +kernel
theorem dX0_heldBy_3 : decode cX0_heldBy 3 = .ok (.getfield 18, 3) := by decide +kernel
theorem dX0_heldBy_6 : decode cX0_heldBy 6 = .ok (.astore_n 3, 1) := by decide +kernel
theorem dX0_heldBy_7 : decode cX0_heldBy 7 = .ok (.aload_n 3, 1) := by decide +kernel
theorem dX0_heldBy_8 : decode cX0_heldBy 8 = .ok (.arraylength, 1) := by decide +kernel
theorem dX0_heldBy_9 : decode cX0_heldBy 9 = .ok (.istore 4, 2) := by decide +kernel
theorem dX0_heldBy_11 : decode cX0_heldBy 11 = .ok (.iconst 0, 1) := by decide +kernel
theorem dX0_heldBy_12 : decode cX0_heldBy 12 = .ok (.istore 5, 2) := by decide +kernel
theorem dX0_heldBy_14 : decode cX0_heldBy 14 = .ok (.iload 5, 2) := by decide +kernel
theorem dX0_heldBy_16 : decode cX0_heldBy 16 = .ok (.iload 4, 2) := by decide +kernel
theorem dX0_heldBy_18 : decode cX0_heldBy 18 = .ok (.if_icmp .ge 29, 3) := by decide +kernel
theorem dX0_heldBy_21 : decode cX0_heldBy 21 = .ok (.aload_n 3, 1) := by decide +kernel
theorem dX0_heldBy_22 : decode cX0_heldBy 22 = .ok (.iload 5, 2) := by decide +kernel
theorem dX0_heldBy_24 : decode cX0_heldBy 24 = .ok (.iaload, 1) := by decide +kernel
theorem dX0_heldBy_25 : decode cX0_heldBy 25 = .ok (.istore 6, 2) := by decide +kernel
theorem dX0_heldBy_27 : decode cX0_heldBy 27 = .ok (.iload_n 2, 1) := by decide +kernel
theorem dX0_heldBy_28 : decode cX0_heldBy 28 = .ok (.iload 6, 2) := by decide +kernel
theorem dX0_heldBy_30 : decode cX0_heldBy 30 = .ok (.iload_n 1, 1) := by decide +kernel
theorem dX0_heldBy_31 : decode cX0_heldBy 31 = .ok (.if_icmp .ne 7, 3) := by decide +kernel
theorem dX0_heldBy_34 : decode cX0_heldBy 34 = .ok (.iconst 1, 1) := by decide +kernel
theorem dX0_heldBy_35 : decode cX0_heldBy 35 = .ok (.goto 4, 3) := by decide +kernel
theorem dX0_heldBy_38 : decode cX0_heldBy 38 = .ok (.iconst 0, 1) := by decide +kernel
theorem dX0_heldBy_39 : decode cX0_heldBy 39 = .ok (.iadd, 1) := by decide +kernel
theorem dX0_heldBy_40 : decode cX0_heldBy 40 = .ok (.istore_n 2, 1) := by decide +kernel
theorem dX0_heldBy_41 : decode cX0_heldBy 41 = .ok (.iinc 5 1, 3) := by decide +kernel
theorem dX0_heldBy_44 : decode cX0_heldBy 44 = .ok (.goto (-30), 3) := by decide +kernel
theorem dX0_heldBy_47 : decode cX0_heldBy 47 = .ok (.iload_n 2, 1) := by decide +kernel
theorem dX0_heldBy_48 : decode cX0_heldBy 48 = .ok (.ireturn, 1) := by decide +kernel
theorem dX0_putDown_0 : decode cX0_putDown 0 = .ok (.aload_n 0, 1) := by decide +kernel
theorem dX0_putDown_1 : decode cX0_putDown 1 = .ok (.iload_n 2, 1) := by decide +kernel
theorem dX0_putDown_2 : decode cX0_putDown 2 = .ok (.invokevirtual 58, 3) := by decide +kernel
theorem dX0_putDown_5 : decode cX0_putDown 5 = .ok (.istore_n 3, 1) := by decide +kernel
theorem dX0_putDown_6 : decode cX0_putDown 6 = .ok (.aload_n 0, 1) := by decide +kernel
theorem dX0_putDown_7 : decode cX0_putDown 7 = .ok (.getfield 18, 3) := by decide +kernel
theorem dX0_putDown_10 : decode cX0_putDown 10 = .ok (.iload_n 2, 1) := by decide +kernel
theorem dX0_putDown_11 : decode cX0_putDown 11 = .ok (.iload_n 1, 1) := by decide +kernel
theorem dX0_putDown_12 : decode cX0_putDown 12 = .ok (.invokestatic 73, 3) := by decide +kernel
theorem dX0_putDown_15 : decode cX0_putDown 15 = .ok (.aload_n 0, 1) := by decide +kernel
theorem dX0_putDown_16 : decode cX0_putDown 16 = .ok (.getfield 34, 3) := by decide +kernel
theorem dX0_putDown_19 : decode cX0_putDown 19 = .ok (.iload_n 3, 1) := by decide +kernel
theorem dX0_putDown_20 : decode cX0_putDown 20 = .ok (.aload_n 0, 1) := by decide +kernel
theorem dX0_putDown_21 : decode cX0_putDown 21 = .ok (.getfield 34, 3) := by decide +kernel
theorem dX0_putDown_24 : decode cX0_putDown 24 = .ok (.iload_n 3, 1) := by decide +kernel
theorem dX0_putDown_25 : decode cX0_putDown 25 = .ok (.invokestatic 62, 3) := by decide +kernel
theorem dX0_putDown_28 : decode cX0_putDown 28 = .ok (.aload_n 0, 1) := by decide +kernel
theorem dX0_putDown_29 : decode cX0_putDown 29 = .ok (.iload_n 2, 1) := by decide +kernel
theorem dX0_putDown_30 : decode cX0_putDown 30 = .ok (.invokevirtual 66, 3) := by decide +kernel
theorem dX0_putDown_33 : decode cX0_putDown 33 = .ok (.ior, 1) := by decide +kernel
theorem dX0_putDown_34 : decode cX0_putDown 34 = .ok (.invokestatic 73, 3) := by decide +kernel
theorem dX0_putDown_37 : decode cX0_putDown 37 = .ok (.return_, 1) := by decide +kernel
theorem dX0_liftUp_0 : decode cX0_liftUp 0 = .ok (.aload_n 0, 1) := by decide +kernel
theorem dX0_liftUp_1 : decode cX0_liftUp 1 = .ok (.iload_n 1, 1) := by decide +kernel
theorem dX0_liftUp_2 : decode cX0_liftUp 2 = .ok (.invokevirtual 58, 3) := by decide +kernel
theorem dX0_liftUp_5 : decode cX0_liftUp 5 = .ok (.istore_n 2, 1) := by decide +kernel
theorem dX0_liftUp_6 : decode cX0_liftUp 6 = .ok (.aload_n 0, 1) := by decide +kernel
theorem dX0_liftUp_7 : decode cX0_liftUp 7 = .ok (.getfield 18, 3) := by decide +kernel
theorem dX0_liftUp_10 : decode cX0_liftUp 10 = .ok (.iload_n 1, 1) := by decide +kernel
theorem dX0_liftUp_11 : decode cX0_liftUp 11 = .ok (.iconst (-1), 1) := by decide +kernel
theorem dX0_liftUp_12 : decode cX0_liftUp 12 = .ok (.invokestatic 73, 3) := by decide +kernel
theorem dX0_liftUp_15 : decode cX0_liftUp 15 = .ok (.aload_n 0, 1) := by decide +kernel
theorem dX0_liftUp_16 : decode cX0_liftUp 16 = .ok (.getfield 34, 3) := by decide +kernel
theorem dX0_liftUp_19 : decode cX0_liftUp 19 = .ok (.iload_n 2, 1) := by decide +kernel
theorem dX0_liftUp_20 : decode cX0_liftUp 20 = .ok (.aload_n 0, 1) := by decide +kernel
theorem dX0_liftUp_21 : decode cX0_liftUp 21 = .ok (.getfield 34, 3) := by decide +kernel
theorem dX0_liftUp_24 : decode cX0_liftUp 24 = .ok (.iload_n 2, 1) := by decide +kernel
theorem dX0_liftUp_25 : decode cX0_liftUp 25 = .ok (.invokestatic 62, 3) := by decide +kernel
theorem dX0_liftUp_28 : decode cX0_liftUp 28 = .ok (.aload_n 0, 1) := by decide +kernel
theorem dX0_liftUp_29 : decode cX0_liftUp 29 = .ok (.iload_n 1, 1) := by decide +kernel
theorem dX0_liftUp_30 : decode cX0_liftUp 30 = .ok (.invokevirtual 66, 3) := by decide +kernel
theorem dX0_liftUp_33 : decode cX0_liftUp 33 = .ok (.iconst (-1), 1) := by decide +kernel
theorem dX0_liftUp_34 : decode cX0_liftUp 34 = .ok (.ixor, 1) := by decide +kernel
theorem dX0_liftUp_35 : decode cX0_liftUp 35 = .ok (.iand, 1) := by decide +kernel
theorem dX0_liftUp_36 : decode cX0_liftUp 36 = .ok (.invokestatic 73, 3) := by decide +kernel
theorem dX0_liftUp_39 : decode cX0_liftUp 39 = .ok (.return_, 1) := by decide +kernel
theorem dX0_signOf_0 : decode cX0_signOf 0 = .ok (.aload_n 0, 1) := by decide +kernel
theorem dX0_signOf_1 : decode cX0_signOf 1 = .ok (.iload_n 1, 1) := by decide +kernel
theorem dX0_signOf_2 : decode cX0_signOf 2 = .ok (.invokevirtual 77, 3) := by decide +kernel
theorem dX0_signOf_5 : decode cX0_signOf 5 = .ok (.ifCond .eq 14, 3) := by decide +kernel
theorem dX0_signOf_8 : decode cX0_signOf 8 = .ok (.aload_n 0, 1) := by decide +kernel
theorem dX0_signOf_9 : decode cX0_signOf 9 = .ok (.getfield 22, 3) := by decide +kernel
theorem dX0_signOf_12 : decode cX0_signOf 12 = .ok (.iload_n 1, 1) := by decide +kernel
theorem dX0_signOf_13 : decode cX0_signOf 13 = .ok (.invokestatic 62, 3) := by decide +kernel
theorem dX0_signOf_16 : decode cX0_signOf 16 = .ok (.goto 5, 3) := by decide +kernel
theorem dX0_signOf_19 : decode cX0_signOf 19 = .ok (.bipush 46, 2) := by decide +kernel
theorem dX0_signOf_21 : decode cX0_signOf 21 = .ok (.ireturn, 1) := by decide +kernel
theorem dX0_giveSign_0 : decode cX0_giveSign 0 = .ok (.aload_n 0, 1) := by decide +kernel
theorem dX0_giveSign_1 : decode cX0_giveSign 1 = .ok (.iload_n 1, 1) := by decide +kernel
theorem dX0_giveSign_2 : decode cX0_giveSign 2 = .ok (.invokevirtual 81, 3) := by decide +kernel
theorem dX0_giveSign_5 : decode cX0_giveSign 5 = .ok (.istore_n 3, 1) := by decide +kernel
theorem dX0_giveSign_6 : decode cX0_giveSign 6 = .ok (.iload_n 3, 1) := by decide +kernel
theorem dX0_giveSign_7 : decode cX0_giveSign 7 = .ok (.iconst (-1), 1) := by decide +kernel
theorem dX0_giveSign_8 : decode cX0_giveSign 8 = .ok (.if_icmp .eq 12, 3) := by decide +kernel
theorem dX0_giveSign_11 : decode cX0_giveSign 11 = .ok (.aload_n 0, 1) := by decide +kernel
theorem dX0_giveSign_12 : decode cX0_giveSign 12 = .ok (.getfield 43, 3) := by decide +kernel
theorem dX0_giveSign_15 : decode cX0_giveSign 15 = .ok (.iload_n 3, 1) := by decide +kernel
theorem dX0_giveSign_16 : decode cX0_giveSign 16 = .ok (.iconst (-1), 1) := by decide +kernel
theorem dX0_giveSign_17 : decode cX0_giveSign 17 = .ok (.invokestatic 73, 3) := by decide +kernel
theorem dX0_giveSign_20 : decode cX0_giveSign 20 = .ok (.aload_n 0, 1) := by decide +kernel
theorem dX0_giveSign_21 : decode cX0_giveSign 21 = .ok (.getfield 22, 3) := by decide +kernel
theorem dX0_giveSign_24 : decode cX0_giveSign 24 = .ok (.iload_n 1, 1) := by decide +kernel
theorem dX0_giveSign_25 : decode cX0_giveSign 25 = .ok (.iload_n 2, 1) := by decide +kernel
theorem dX0_giveSign_26 : decode cX0_giveSign 26 = .ok (.invokestatic 73, 3) := by decide +kernel
theorem dX0_giveSign_29 : decode cX0_giveSign 29 = .ok (.return_, 1) := by decide +kernel
theorem dX0_shiftOf_0 : decode cX0_shiftOf 0 = .ok (.aload_n 0, 1) := by decide +kernel
theorem dX0_shiftOf_1 : decode cX0_shiftOf 1 = .ok (.getfield 43, 3) := by decide +kernel
theorem dX0_shiftOf_4 : decode cX0_shiftOf 4 = .ok (.iload_n 1, 1) := by decide +kernel
theorem dX0_shiftOf_5 : decode cX0_shiftOf 5 = .ok (.invokestatic 62, 3) := by decide +kernel
theorem dX0_shiftOf_8 : decode cX0_shiftOf 8 = .ok (.ireturn, 1) := by decide +kernel
theorem dX0_shiftOwner_0 : decode cX0_shiftOwner 0 = .ok (.aload_n 0, 1) := by decide +kernel
theorem dX0_shiftOwner_1 : decode cX0_shiftOwner 1 = .ok (.getfield 43, 3) := by decide +kernel
theorem dX0_shiftOwner_4 : decode cX0_shiftOwner 4 = .ok (.iconst 0, 1) := by decide +kernel
theorem dX0_shiftOwner_5 : decode cX0_shiftOwner 5 = .ok (.invokestatic 62, 3) := by decide +kernel
theorem dX0_shiftOwner_8 : decode cX0_shiftOwner 8 = .ok (.iload_n 1, 1) := by decide +kernel
theorem dX0_shiftOwner_9 : decode cX0_shiftOwner 9 = .ok (.if_icmp .ne 5, 3) := by decide +kernel
theorem dX0_shiftOwner_12 : decode cX0_shiftOwner 12 = .ok (.iconst 0, 1) := by decide +kernel
theorem dX0_shiftOwner_13 : decode cX0_shiftOwner 13 = .ok (.ireturn, 1) := by decide +kernel
theorem dX0_shiftOwner_14 : decode cX0_shiftOwner 14 = .ok (.aload_n 0, 1) := by decide +kernel
theorem dX0_shiftOwner_15 : decode cX0_shiftOwner 15 = .ok (.getfield 43, 3) := by decide +kernel
theorem dX0_shiftOwner_18 : decode cX0_shiftOwner 18 = .ok (.iconst 1, 1) := by decide +kernel
theorem dX0_shiftOwner_19 : decode cX0_shiftOwner 19 = .ok (.invokestatic 62, 3) := by decide +kernel
theorem dX0_shiftOwner_22 : decode cX0_shiftOwner 22 = .ok (.iload_n 1, 1) := by decide +kernel
theorem dX0_shiftOwner_23 : decode cX0_shiftOwner 23 = .ok (.if_icmp .ne 7, 3) := by decide +kernel
theorem dX0_shiftOwner_26 : decode cX0_shiftOwner 26 = .ok (.iconst 1, 1) := by decide +kernel
theorem dX0_shiftOwner_27 : decode cX0_shiftOwner 27 = .ok (.goto 4, 3) := by decide +kernel
theorem dX0_shiftOwner_30 : decode cX0_shiftOwner 30 = .ok (.iconst (-1), 1) := by decide +kernel
theorem dX0_shiftOwner_31 : decode cX0_shiftOwner 31 = .ok (.ireturn, 1) := by decide +kernel
theorem dX0_giveShift_0 : decode cX0_giveShift 0 = .ok (.aload_n 0, 1) := by decide +kernel
theorem dX0_giveShift_1 : decode cX0_giveShift 1 = .ok (.getfield 43, 3) := by decide +kernel
theorem dX0_giveShift_4 : decode cX0_giveShift 4 = .ok (.iload_n 1, 1) := by decide +kernel
theorem dX0_giveShift_5 : decode cX0_giveShift 5 = .ok (.iload_n 2, 1) := by decide +kernel
theorem dX0_giveShift_6 : decode cX0_giveShift 6 = .ok (.invokestatic 73, 3) := by decide +kernel
theorem dX0_giveShift_9 : decode cX0_giveShift 9 = .ok (.aload_n 0, 1) := by decide +kernel
theorem dX0_giveShift_10 : decode cX0_giveShift 10 = .ok (.getfield 22, 3) := by decide +kernel
theorem dX0_giveShift_13 : decode cX0_giveShift 13 = .ok (.iload_n 2, 1) := by decide +kernel
theorem dX0_giveShift_14 : decode cX0_giveShift 14 = .ok (.bipush 46, 2) := by decide +kernel
theorem dX0_giveShift_16 : decode cX0_giveShift 16 = .ok (.invokestatic 73, 3) := by decide +kernel
theorem dX0_giveShift_19 : decode cX0_giveShift 19 = .ok (.return_, 1) := by decide +kernel
theorem dX0_isShiftOn_0 : decode cX0_isShiftOn 0 = .ok (.aload_n 0, 1) := by decide +kernel
theorem dX0_isShiftOn_1 : decode cX0_isShiftOn 1 = .ok (.iload_n 1, 1) := by decide +kernel
theorem dX0_isShiftOn_2 : decode cX0_isShiftOn 2 = .ok (.invokevirtual 84, 3) := by decide +kernel
theorem dX0_isShiftOn_5 : decode cX0_isShiftOn 5 = .ok (.istore_n 2, 1) := by decide +kernel
theorem dX0_isShiftOn_6 : decode cX0_isShiftOn 6 = .ok (.iload_n 2, 1) := by decide +kernel
theorem dX0_isShiftOn_7 : decode cX0_isShiftOn 7 = .ok (.iconst (-1), 1) := by decide +kernel
theorem dX0_isShiftOn_8 : decode cX0_isShiftOn 8 = .ok (.if_icmp .eq 23, 3) := by decide +kernel
theorem dX0_isShiftOn_11 : decode cX0_isShiftOn 11 = .ok (.aload_n 0, 1) := by decide +kernel
theorem dX0_isShiftOn_12 : decode cX0_isShiftOn 12 = .ok (.iload_n 2, 1) := by decide +kernel
theorem dX0_isShiftOn_13 : decode cX0_isShiftOn 13 = .ok (.invokevirtual 87, 3) := by decide +kernel
theorem dX0_isShiftOn_16 : decode cX0_isShiftOn 16 = .ok (.ifCond .eq 15, 3) := by decide +kernel
theorem dX0_isShiftOn_19 : decode cX0_isShiftOn 19 = .ok (.aload_n 0, 1) := by decide +kernel
theorem dX0_isShiftOn_20 : decode cX0_isShiftOn 20 = .ok (.iload_n 2, 1) := by decide +kernel
theorem dX0_isShiftOn_21 : decode cX0_isShiftOn 21 = .ok (.invokevirtual 90, 3) := by decide +kernel
theorem dX0_isShiftOn_24 : decode cX0_isShiftOn 24 = .ok (.ifCond .ne 7, 3) := by decide +kernel
theorem dX0_isShiftOn_27 : decode cX0_isShiftOn 27 = .ok (.iconst 1, 1) := by decide +kernel
theorem dX0_isShiftOn_28 : decode cX0_isShiftOn 28 = .ok (.goto 4, 3) := by decide +kernel
theorem dX0_isShiftOn_31 : decode cX0_isShiftOn 31 = .ok (.iconst 0, 1) := by decide +kernel
theorem dX0_isShiftOn_32 : decode cX0_isShiftOn 32 = .ok (.ireturn, 1) := by decide +kernel
theorem dX0_joined_0 : decode cX0_joined 0 = .ok (.aload_n 0, 1) := by decide +kernel
theorem dX0_joined_1 : decode cX0_joined 1 = .ok (.getfield 34, 3) := by decide +kernel
theorem dX0_joined_4 : decode cX0_joined 4 = .ok (.iload_n 1, 1) := by decide +kernel
theorem dX0_joined_5 : decode cX0_joined 5 = .ok (.invokestatic 62, 3) := by decide +kernel
theorem dX0_joined_8 : decode cX0_joined 8 = .ok (.istore_n 3, 1) := by decide +kernel
theorem dX0_joined_9 : decode cX0_joined 9 = .ok (.iload_n 2, 1) := by decide +kernel
theorem dX0_joined_10 : decode cX0_joined 10 = .ok (.iconst (-1), 1) := by decide +kernel
theorem dX0_joined_11 : decode cX0_joined 11 = .ok (.if_icmp .eq 22, 3) := by decide +kernel
theorem dX0_joined_14 : decode cX0_joined 14 = .ok (.aload_n 0, 1) := by decide +kernel
theorem dX0_joined_15 : decode cX0_joined 15 = .ok (.iload_n 2, 1) := by decide +kernel
theorem dX0_joined_16 : decode cX0_joined 16 = .ok (.invokevirtual 58, 3) := by decide +kernel
theorem dX0_joined_19 : decode cX0_joined 19 = .ok (.iload_n 1, 1) := by decide +kernel
theorem dX0_joined_20 : decode cX0_joined 20 = .ok (.if_icmp .ne 13, 3) := by decide +kernel
theorem dX0_joined_23 : decode cX0_joined 23 = .ok (.iload_n 3, 1) := by decide +kernel
theorem dX0_joined_24 : decode cX0_joined 24 = .ok (.aload_n 0, 1) := by decide +kernel
theorem dX0_joined_25 : decode cX0_joined 25 = .ok (.iload_n 2, 1) := by decide +kernel
theorem dX0_joined_26 : decode cX0_joined 26 = .ok (.invokevirtual 66, 3) := by decide +kernel
theorem dX0_joined_29 : decode cX0_joined 29 = .ok (.ixor, 1) := by decide +kernel
theorem dX0_joined_30 : decode cX0_joined 30 = .ok (.goto 4, 3) := by decide +kernel
theorem dX0_joined_33 : decode cX0_joined 33 = .ok (.iload_n 3, 1) := by decide +kernel
theorem dX0_joined_34 : decode cX0_joined 34 = .ok (.ireturn, 1) := by decide +kernel
theorem dX0_sensed_0 : decode cX0_sensed 0 = .ok (.aload_n 0, 1) := by decide +kernel
theorem dX0_sensed_1 : decode cX0_sensed 1 = .ok (.iload_n 1, 1) := by decide +kernel
theorem dX0_sensed_2 : decode cX0_sensed 2 = .ok (.iload_n 2, 1) := by decide +kernel
theorem dX0_sensed_3 : decode cX0_sensed 3 = .ok (.invokevirtual 93, 3) := by decide +kernel
theorem dX0_sensed_6 : decode cX0_sensed 6 = .ok (.istore_n 3, 1) := by decide +kernel
theorem dX0_sensed_7 : decode cX0_sensed 7 = .ok (.iconst 0, 1) := by decide +kernel
theorem dX0_sensed_8 : decode cX0_sensed 8 = .ok (.istore 4, 2) := by decide +kernel
theorem dX0_sensed_10 : decode cX0_sensed 10 = .ok (.iconst 0, 1) := by decide +kernel
theorem dX0_sensed_11 : decode cX0_sensed 11 = .ok (.istore 5, 2) := by decide +kernel
theorem dX0_sensed_13 : decode cX0_sensed 13 = .ok (.iload 5, 2) := by decide +kernel
theorem dX0_sensed_15 : decode cX0_sensed 15 = .ok (.aload_n 0, 1) := by decide +kernel
theorem dX0_sensed_16 : decode cX0_sensed 16 = .ok (.getfield 9, 3) := by decide +kernel
theorem dX0_sensed_19 : decode cX0_sensed 19 = .ok (.if_icmp .ge 57, 3) := by decide +kernel
theorem dX0_sensed_22 : decode cX0_sensed 22 = .ok (.iload_n 3, 1) := by decide +kernel
theorem dX0_sensed_23 : decode cX0_sensed 23 = .ok (.iload 4, 2) := by decide +kernel
theorem dX0_sensed_25 : decode cX0_sensed 25 = .ok (.if_icmp .eq 51, 3) := by decide +kernel
theorem dX0_sensed_28 : decode cX0_sensed 28 = .ok (.iload_n 3, 1) := by decide +kernel
theorem dX0_sensed_29 : decode cX0_sensed 29 = .ok (.istore 4, 2) := by decide +kernel
theorem dX0_sensed_31 : decode cX0_sensed 31 = .ok (.iconst 0, 1) := by decide +kernel
theorem dX0_sensed_32 : decode cX0_sensed 32 = .ok (.istore 6, 2) := by decide +kernel
theorem dX0_sensed_34 : decode cX0_sensed 34 = .ok (.iload 6, 2) := by decide +kernel
theorem dX0_sensed_36 : decode cX0_sensed 36 = .ok (.aload_n 0, 1) := by decide +kernel
theorem dX0_sensed_37 : decode cX0_sensed 37 = .ok (.getfield 9, 3) := by decide +kernel
theorem dX0_sensed_40 : decode cX0_sensed 40 = .ok (.if_icmp .ge 30, 3) := by decide +kernel
theorem dX0_sensed_43 : decode cX0_sensed 43 = .ok (.aload_n 0, 1) := by decide +kernel
theorem dX0_sensed_44 : decode cX0_sensed 44 = .ok (.iload 6, 2) := by decide +kernel
theorem dX0_sensed_46 : decode cX0_sensed 46 = .ok (.iload_n 2, 1) := by decide +kernel
theorem dX0_sensed_47 : decode cX0_sensed 47 = .ok (.invokevirtual 93, 3) := by decide +kernel
theorem dX0_sensed_50 : decode cX0_sensed 50 = .ok (.istore 7, 2) := by decide +kernel
theorem dX0_sensed_52 : decode cX0_sensed 52 = .ok (.iload 7, 2) := by decide +kernel
theorem dX0_sensed_54 : decode cX0_sensed 54 = .ok (.iload_n 3, 1) := by decide +kernel
theorem dX0_sensed_55 : decode cX0_sensed 55 = .ok (.iand, 1) := by decide +kernel
theorem dX0_sensed_56 : decode cX0_sensed 56 = .ok (.ifCond .eq 8, 3) := by decide +kernel
theorem dX0_sensed_59 : decode cX0_sensed 59 = .ok (.iload_n 3, 1) := by decide +kernel
theorem dX0_sensed_60 : decode cX0_sensed 60 = .ok (.iload 7, 2) := by decide +kernel
theorem dX0_sensed_62 : decode cX0_sensed 62 = .ok (.ior, 1) := by decide +kernel
theorem dX0_sensed_63 : decode cX0_sensed 63 = .ok (.istore_n 3, 1) := by decide +kernel
theorem dX0_sensed_64 : decode cX0_sensed 64 = .ok (.iinc 6 1, 3) := by decide +kernel
theorem dX0_sensed_67 : decode cX0_sensed 67 = .ok (.goto (-33), 3) := by decide +kernel
theorem dX0_sensed_70 : decode cX0_sensed 70 = .ok (.iinc 5 1, 3) := by decide +kernel
theorem dX0_sensed_73 : decode cX0_sensed 73 = .ok (.goto (-60), 3) := by decide +kernel
theorem dX0_sensed_76 : decode cX0_sensed 76 = .ok (.iload_n 3, 1) := by decide +kernel
theorem dX0_sensed_77 : decode cX0_sensed 77 = .ok (.ireturn, 1) := by decide +kernel
theorem dX0_ghostsBeside_0 : decode cX0_ghostsBeside 0 = .ok (.iconst 0, 1) := by decide +kernel
theorem dX0_ghostsBeside_1 : decode cX0_ghostsBeside 1 = .ok (.istore_n 3, 1) := by decide +kernel
theorem dX0_ghostsBeside_2 : decode cX0_ghostsBeside 2 = .ok (.iconst 0, 1) := by decide +kernel
theorem dX0_ghostsBeside_3 : decode cX0_ghostsBeside 3 = .ok (.istore 4, 2) := by decide +kernel
theorem dX0_ghostsBeside_5 : decode cX0_ghostsBeside 5 = .ok (.iload 4, 2) := by decide +kernel
theorem dX0_ghostsBeside_7 : decode cX0_ghostsBeside 7 = .ok (.aload_n 0, 1) := by decide +kernel
theorem dX0_ghostsBeside_8 : decode cX0_ghostsBeside 8 = .ok (.getfield 9, 3) := by decide +kernel
theorem dX0_ghostsBeside_11 : decode cX0_ghostsBeside 11 = .ok (.if_icmp .ge 60, 3) := by decide +kernel
theorem dX0_ghostsBeside_14 : decode cX0_ghostsBeside 14 = .ok (.aload_n 0, 1) := by decide +kernel
theorem dX0_ghostsBeside_15 : decode cX0_ghostsBeside 15 = .ok (.getfield 34, 3) := by decide +kernel
theorem dX0_ghostsBeside_18 : decode cX0_ghostsBeside 18 = .ok (.iload 4, 2) := by decide +kernel
theorem dX0_ghostsBeside_20 : decode cX0_ghostsBeside 20 = .ok (.invokestatic 62, 3) := by decide +kernel
theorem dX0_ghostsBeside_23 : decode cX0_ghostsBeside 23 = .ok (.iconst (-1), 1) := by decide +kernel
theorem dX0_ghostsBeside_24 : decode cX0_ghostsBeside 24 = .ok (.ixor, 1) := by decide +kernel
theorem dX0_ghostsBeside_25 : decode cX0_ghostsBeside 25 = .ok (.istore 5, 2) := by decide +kernel
theorem dX0_ghostsBeside_27 : decode cX0_ghostsBeside 27 = .ok (.iload 4, 2) := by decide +kernel
theorem dX0_ghostsBeside_29 : decode cX0_ghostsBeside 29 = .ok (.aload_n 0, 1) := by decide +kernel
theorem dX0_ghostsBeside_30 : decode cX0_ghostsBeside 30 = .ok (.iload_n 1, 1) := by decide +kernel
theorem dX0_ghostsBeside_31 : decode cX0_ghostsBeside 31 = .ok (.invokevirtual 58, 3) := by decide +kernel
theorem dX0_ghostsBeside_34 : decode cX0_ghostsBeside 34 = .ok (.if_icmp .ne 15, 3) := by decide +kernel
theorem dX0_ghostsBeside_37 : decode cX0_ghostsBeside 37 = .ok (.iload 5, 2) := by decide +kernel
theorem dX0_ghostsBeside_39 : decode cX0_ghostsBeside 39 = .ok (.aload_n 0, 1) := by decide +kernel
theorem dX0_ghostsBeside_40 : decode cX0_ghostsBeside 40 = .ok (.iload_n 1, 1) := by decide +kernel
theorem dX0_ghostsBeside_41 : decode cX0_ghostsBeside 41 = .ok (.invokevirtual 66, 3) := by decide +kernel
theorem dX0_ghostsBeside_44 : decode cX0_ghostsBeside 44 = .ok (.iconst (-1), 1) := by decide +kernel
theorem dX0_ghostsBeside_45 : decode cX0_ghostsBeside 45 = .ok (.ixor, 1) := by decide +kernel
theorem dX0_ghostsBeside_46 : decode cX0_ghostsBeside 46 = .ok (.iand, 1) := by decide +kernel
theorem dX0_ghostsBeside_47 : decode cX0_ghostsBeside 47 = .ok (.istore 5, 2) := by decide +kernel
theorem dX0_ghostsBeside_49 : decode cX0_ghostsBeside 49 = .ok (.iload_n 3, 1) := by decide +kernel
theorem dX0_ghostsBeside_50 : decode cX0_ghostsBeside 50 = .ok (.aload_n 0, 1) := by decide +kernel
theorem dX0_ghostsBeside_51 : decode cX0_ghostsBeside 51 = .ok (.iload 4, 2) := by decide +kernel
theorem dX0_ghostsBeside_53 : decode cX0_ghostsBeside 53 = .ok (.iload_n 2, 1) := by decide +kernel
theorem dX0_ghostsBeside_54 : decode cX0_ghostsBeside 54 = .ok (.invokevirtual 97, 3) := by decide +kernel
theorem dX0_ghostsBeside_57 : decode cX0_ghostsBeside 57 = .ok (.iload 5, 2) := by decide +kernel
theorem dX0_ghostsBeside_59 : decode cX0_ghostsBeside 59 = .ok (.iand, 1) := by decide +kernel
theorem dX0_ghostsBeside_60 : decode cX0_ghostsBeside 60 = .ok (.invokestatic 100, 3) := by decide +kernel
theorem dX0_ghostsBeside_63 : decode cX0_ghostsBeside 63 = .ok (.iadd, 1) := by decide +kernel
theorem dX0_ghostsBeside_64 : decode cX0_ghostsBeside 64 = .ok (.istore_n 3, 1) := by decide +kernel
theorem dX0_ghostsBeside_65 : decode cX0_ghostsBeside 65 = .ok (.iinc 4 1, 3) := by decide +kernel
theorem dX0_ghostsBeside_68 : decode cX0_ghostsBeside 68 = .ok (.goto (-63), 3) := by decide +kernel
theorem dX0_ghostsBeside_71 : decode cX0_ghostsBeside 71 = .ok (.iload_n 3, 1) := by decide +kernel
theorem dX0_ghostsBeside_72 : decode cX0_ghostsBeside 72 = .ok (.ireturn, 1) := by decide +kernel
theorem dX0_see_0 : decode cX0_see 0 = .ok (.aload_n 0, 1) := by decide +kernel
theorem dX0_see_1 : decode cX0_see 1 = .ok (.getfield 37, 3) := by decide +kernel
theorem dX0_see_4 : decode cX0_see 4 = .ok (.iload_n 1, 1) := by decide +kernel
theorem dX0_see_5 : decode cX0_see 5 = .ok (.aload_n 0, 1) := by decide +kernel
theorem dX0_see_6 : decode cX0_see 6 = .ok (.getfield 37, 3) := by decide +kernel
theorem dX0_see_9 : decode cX0_see 9 = .ok (.iload_n 1, 1) := by decide +kernel
theorem dX0_see_10 : decode cX0_see 10 = .ok (.invokestatic 62, 3) := by decide +kernel
theorem dX0_see_13 : decode cX0_see 13 = .ok (.iload_n 2, 1) := by decide +kernel
theorem dX0_see_14 : decode cX0_see 14 = .ok (.ior, 1) := by decide +kernel
theorem dX0_see_15 : decode cX0_see 15 = .ok (.invokestatic 73, 3) := by decide +kernel
theorem dX0_see_18 : decode cX0_see 18 = .ok (.iconst 0, 1) := by decide +kernel
theorem dX0_see_19 : decode cX0_see 19 = .ok (.istore 4, 2) := by decide +kernel
theorem dX0_see_21 : decode cX0_see 21 = .ok (.iload 4, 2) := by decide +kernel
theorem dX0_see_23 : decode cX0_see 23 = .ok (.aload_n 0, 1) := by decide +kernel
theorem dX0_see_24 : decode cX0_see 24 = .ok (.getfield 15, 3) := by decide +kernel
theorem dX0_see_27 : decode cX0_see 27 = .ok (.if_icmp .ge 68, 3) := by decide +kernel
theorem dX0_see_30 : decode cX0_see 30 = .ok (.iload_n 2, 1) := by decide +kernel
theorem dX0_see_31 : decode cX0_see 31 = .ok (.iload 4, 2) := by decide +kernel
theorem dX0_see_33 : decode cX0_see 33 = .ok (.ishr, 1) := by decide +kernel
theorem dX0_see_34 : decode cX0_see 34 = .ok (.iconst 1, 1) := by decide +kernel
theorem dX0_see_35 : decode cX0_see 35 = .ok (.iand, 1) := by decide +kernel
theorem dX0_see_36 : decode cX0_see 36 = .ok (.ifCond .eq 53, 3) := by decide +kernel
theorem dX0_see_39 : decode cX0_see 39 = .ok (.aload_n 0, 1) := by decide +kernel
theorem dX0_see_40 : decode cX0_see 40 = .ok (.getfield 25, 3) := by decide +kernel
theorem dX0_see_43 : decode cX0_see 43 = .ok (.iload_n 1, 1) := by decide +kernel
theorem dX0_see_44 : decode cX0_see 44 = .ok (.aload_n 0, 1) := by decide +kernel
theorem dX0_see_45 : decode cX0_see 45 = .ok (.getfield 15, 3) := by decide +kernel
theorem dX0_see_48 : decode cX0_see 48 = .ok (.imul, 1) := by decide +kernel
theorem dX0_see_49 : decode cX0_see 49 = .ok (.iload 4, 2) := by decide +kernel
theorem dX0_see_51 : decode cX0_see 51 = .ok (.iadd, 1) := by decide +kernel
theorem dX0_see_52 : decode cX0_see 52 = .ok (.iload_n 3, 1) := by decide +kernel
theorem dX0_see_53 : decode cX0_see 53 = .ok (.invokestatic 73, 3) := by decide +kernel
theorem dX0_see_56 : decode cX0_see 56 = .ok (.aload_n 0, 1) := by decide +kernel
theorem dX0_see_57 : decode cX0_see 57 = .ok (.iload_n 1, 1) := by decide +kernel
theorem dX0_see_58 : decode cX0_see 58 = .ok (.iconst 1, 1) := by decide +kernel
theorem dX0_see_59 : decode cX0_see 59 = .ok (.iload 4, 2) := by decide +kernel
theorem dX0_see_61 : decode cX0_see 61 = .ok (.ishl, 1) := by decide +kernel
theorem dX0_see_62 : decode cX0_see 62 = .ok (.invokevirtual 105, 3) := by decide +kernel
theorem dX0_see_65 : decode cX0_see 65 = .ok (.ifCond .eq 24, 3) := by decide +kernel
theorem dX0_see_68 : decode cX0_see 68 = .ok (.aload_n 0, 1) := by decide +kernel
theorem dX0_see_69 : decode cX0_see 69 = .ok (.getfield 40, 3) := by decide +kernel
theorem dX0_see_72 : decode cX0_see 72 = .ok (.iload_n 1, 1) := by decide +kernel
theorem dX0_see_73 : decode cX0_see 73 = .ok (.aload_n 0, 1) := by decide +kernel
theorem dX0_see_74 : decode cX0_see 74 = .ok (.getfield 40, 3) := by decide +kernel
theorem dX0_see_77 : decode cX0_see 77 = .ok (.iload_n 1, 1) := by decide +kernel
theorem dX0_see_78 : decode cX0_see 78 = .ok (.invokestatic 62, 3) := by decide +kernel
theorem dX0_see_81 : decode cX0_see 81 = .ok (.iconst 1, 1) := by decide +kernel
theorem dX0_see_82 : decode cX0_see 82 = .ok (.iload 4, 2) := by decide +kernel
theorem dX0_see_84 : decode cX0_see 84 = .ok (.ishl, 1) := by decide +kernel
theorem dX0_see_85 : decode cX0_see 85 = .ok (.ior, 1) := by decide +kernel
theorem dX0_see_86 : decode cX0_see 86 = .ok (.invokestatic 73, 3) := by decide +kernel
theorem dX0_see_89 : decode cX0_see 89 = .ok (.iinc 4 1, 3) := by decide +kernel
theorem dX0_see_92 : decode cX0_see 92 = .ok (.goto (-71), 3) := by decide +kernel
theorem dX0_see_95 : decode cX0_see 95 = .ok (.aload_n 0, 1) := by decide +kernel
theorem dX0_see_96 : decode cX0_see 96 = .ok (.iconst 0, 1) := by decide +kernel
theorem dX0_see_97 : decode cX0_see 97 = .ok (.invokevirtual 109, 3) := by decide +kernel
theorem dX0_see_100 : decode cX0_see 100 = .ok (.ifCond .eq 7, 3) := by decide +kernel
theorem dX0_see_103 : decode cX0_see 103 = .ok (.iconst 1, 1) := by decide +kernel
theorem dX0_see_104 : decode cX0_see 104 = .ok (.goto 4, 3) := by decide +kernel
theorem dX0_see_107 : decode cX0_see 107 = .ok (.iconst 0, 1) := by decide +kernel
theorem dX0_see_108 : decode cX0_see 108 = .ok (.aload_n 0, 1) := by decide +kernel
theorem dX0_see_109 : decode cX0_see 109 = .ok (.iconst 1, 1) := by decide +kernel
theorem dX0_see_110 : decode cX0_see 110 = .ok (.invokevirtual 109, 3) := by decide +kernel
theorem dX0_see_113 : decode cX0_see 113 = .ok (.ifCond .eq 7, 3) := by decide +kernel
theorem dX0_see_116 : decode cX0_see 116 = .ok (.iconst 2, 1) := by decide +kernel
theorem dX0_see_117 : decode cX0_see 117 = .ok (.goto 4, 3) := by decide +kernel
theorem dX0_see_120 : decode cX0_see 120 = .ok (.iconst 0, 1) := by decide +kernel
theorem dX0_see_121 : decode cX0_see 121 = .ok (.iadd, 1) := by decide +kernel
theorem dX0_see_122 : decode cX0_see 122 = .ok (.istore 4, 2) := by decide +kernel
theorem dX0_see_124 : decode cX0_see 124 = .ok (.iconst 0, 1) := by decide +kernel
theorem dX0_see_125 : decode cX0_see 125 = .ok (.istore 5, 2) := by decide +kernel
theorem dX0_see_127 : decode cX0_see 127 = .ok (.iload 5, 2) := by decide +kernel
theorem dX0_see_129 : decode cX0_see 129 = .ok (.aload_n 0, 1) := by decide +kernel
theorem dX0_see_130 : decode cX0_see 130 = .ok (.getfield 15, 3) := by decide +kernel
theorem dX0_see_133 : decode cX0_see 133 = .ok (.if_icmp .ge 58, 3) := by decide +kernel
theorem dX0_see_136 : decode cX0_see 136 = .ok (.iload_n 2, 1) := by decide +kernel
theorem dX0_see_137 : decode cX0_see 137 = .ok (.iload 5, 2) := by decide +kernel
theorem dX0_see_139 : decode cX0_see 139 = .ok (.ishr, 1) := by decide +kernel
theorem dX0_see_140 : decode cX0_see 140 = .ok (.iconst 1, 1) := by decide +kernel
theorem dX0_see_141 : decode cX0_see 141 = .ok (.iand, 1) := by decide +kernel
theorem dX0_see_142 : decode cX0_see 142 = .ok (.ifCond .eq 43, 3) := by decide +kernel
theorem dX0_see_145 : decode cX0_see 145 = .ok (.iload_n 1, 1) := by decide +kernel
theorem dX0_see_146 : decode cX0_see 146 = .ok (.aload_n 0, 1) := by decide +kernel
theorem dX0_see_147 : decode cX0_see 147 = .ok (.getfield 15, 3) := by decide +kernel
theorem dX0_see_150 : decode cX0_see 150 = .ok (.imul, 1) := by decide +kernel
theorem dX0_see_151 : decode cX0_see 151 = .ok (.iload 5, 2) := by decide +kernel
theorem dX0_see_153 : decode cX0_see 153 = .ok (.iadd, 1) := by decide +kernel
theorem dX0_see_154 : decode cX0_see 154 = .ok (.istore 6, 2) := by decide +kernel
theorem dX0_see_156 : decode cX0_see 156 = .ok (.aload_n 0, 1) := by decide +kernel
theorem dX0_see_157 : decode cX0_see 157 = .ok (.getfield 28, 3) := by decide +kernel
theorem dX0_see_160 : decode cX0_see 160 = .ok (.iload 6, 2) := by decide +kernel
theorem dX0_see_162 : decode cX0_see 162 = .ok (.iload 4, 2) := by decide +kernel
theorem dX0_see_164 : decode cX0_see 164 = .ok (.invokestatic 73, 3) := by decide +kernel
theorem dX0_see_167 : decode cX0_see 167 = .ok (.aload_n 0, 1) := by decide +kernel
theorem dX0_see_168 : decode cX0_see 168 = .ok (.getfield 31, 3) := by decide +kernel
theorem dX0_see_171 : decode cX0_see 171 = .ok (.iload 6, 2) := by decide +kernel
theorem dX0_see_173 : decode cX0_see 173 = .ok (.aload_n 0, 1) := by decide +kernel
theorem dX0_see_174 : decode cX0_see 174 = .ok (.getfield 18, 3) := by decide +kernel
theorem dX0_see_177 : decode cX0_see 177 = .ok (.iload 6, 2) := by decide +kernel
theorem dX0_see_179 : decode cX0_see 179 = .ok (.invokestatic 62, 3) := by decide +kernel
theorem dX0_see_182 : decode cX0_see 182 = .ok (.invokestatic 73, 3) := by decide +kernel
theorem dX0_see_185 : decode cX0_see 185 = .ok (.iinc 5 1, 3) := by decide +kernel
theorem dX0_see_188 : decode cX0_see 188 = .ok (.goto (-61), 3) := by decide +kernel
theorem dX0_see_191 : decode cX0_see 191 = .ok (.return_, 1) := by decide +kernel
theorem dX0_closesCorner_0 : decode cX0_closesCorner 0 = .ok (.aload_n 0, 1) := by decide +kernel
theorem dX0_closesCorner_1 : decode cX0_closesCorner 1 = .ok (.getfield 37, 3) := by decide +kernel
theorem dX0_closesCorner_4 : decode cX0_closesCorner 4 = .ok (.iload_n 1, 1) := by decide +kernel
theorem dX0_closesCorner_5 : decode cX0_closesCorner 5 = .ok (.invokestatic 62, 3) := by decide +kernel
theorem dX0_closesCorner_8 : decode cX0_closesCorner 8 = .ok (.iload_n 2, 1) := by decide +kernel
theorem dX0_closesCorner_9 : decode cX0_closesCorner 9 = .ok (.iconst (-1), 1) := by decide +kernel
theorem dX0_closesCorner_10 : decode cX0_closesCorner 10 = .ok (.ixor, 1) := by decide +kernel
theorem dX0_closesCorner_11 : decode cX0_closesCorner 11 = .ok (.iand, 1) := by decide +kernel
theorem dX0_closesCorner_12 : decode cX0_closesCorner 12 = .ok (.istore_n 3, 1) := by decide +kernel
theorem dX0_closesCorner_13 : decode cX0_closesCorner 13 = .ok (.iconst 0, 1) := by decide +kernel
theorem dX0_closesCorner_14 : decode cX0_closesCorner 14 = .ok (.istore 4, 2) := by decide +kernel
theorem dX0_closesCorner_16 : decode cX0_closesCorner 16 = .ok (.iload 4, 2) := by decide +kernel
theorem dX0_closesCorner_18 : decode cX0_closesCorner 18 = .ok (.aload_n 0, 1) := by decide +kernel
theorem dX0_closesCorner_19 : decode cX0_closesCorner 19 = .ok (.getfield 9, 3) := by decide +kernel
theorem dX0_closesCorner_22 : decode cX0_closesCorner 22 = .ok (.if_icmp .ge 42, 3) := by decide +kernel
theorem dX0_closesCorner_25 : decode cX0_closesCorner 25 = .ok (.aload_n 0, 1) := by decide +kernel
theorem dX0_closesCorner_26 : decode cX0_closesCorner 26 = .ok (.getfield 37, 3) := by decide +kernel
theorem dX0_closesCorner_29 : decode cX0_closesCorner 29 = .ok (.iload 4, 2) := by decide +kernel
theorem dX0_closesCorner_31 : decode cX0_closesCorner 31 = .ok (.invokestatic 62, 3) := by decide +kernel
theorem dX0_closesCorner_34 : decode cX0_closesCorner 34 = .ok (.istore 5, 2) := by decide +kernel
theorem dX0_closesCorner_36 : decode cX0_closesCorner 36 = .ok (.iload 4, 2) := by decide +kernel
theorem dX0_closesCorner_38 : decode cX0_closesCorner 38 = .ok (.iload_n 1, 1) := by decide +kernel
theorem dX0_closesCorner_39 : decode cX0_closesCorner 39 = .ok (.if_icmp .eq 19, 3) := by decide +kernel
theorem dX0_closesCorner_42 : decode cX0_closesCorner 42 = .ok (.iload 5, 2) := by decide +kernel
theorem dX0_closesCorner_44 : decode cX0_closesCorner 44 = .ok (.iload_n 2, 1) := by decide +kernel
theorem dX0_closesCorner_45 : decode cX0_closesCorner 45 = .ok (.iand, 1) := by decide +kernel
theorem dX0_closesCorner_46 : decode cX0_closesCorner 46 = .ok (.ifCond .eq 12, 3) := by decide +kernel
theorem dX0_closesCorner_49 : decode cX0_closesCorner 49 = .ok (.iload 5, 2) := by decide +kernel
theorem dX0_closesCorner_51 : decode cX0_closesCorner 51 = .ok (.iload_n 3, 1) := by decide +kernel
theorem dX0_closesCorner_52 : decode cX0_closesCorner 52 = .ok (.iand, 1) := by decide +kernel
theorem dX0_closesCorner_53 : decode cX0_closesCorner 53 = .ok (.ifCond .eq 5, 3) := by decide +kernel
theorem dX0_closesCorner_56 : decode cX0_closesCorner 56 = .ok (.iconst 1, 1) := by decide +kernel
theorem dX0_closesCorner_57 : decode cX0_closesCorner 57 = .ok (.ireturn, 1) := by decide +kernel
theorem dX0_closesCorner_58 : decode cX0_closesCorner 58 = .ok (.iinc 4 1, 3) := by decide +kernel
theorem dX0_closesCorner_61 : decode cX0_closesCorner 61 = .ok (.goto (-45), 3) := by decide +kernel
theorem dX0_closesCorner_64 : decode cX0_closesCorner 64 = .ok (.iconst 0, 1) := by decide +kernel
theorem dX0_closesCorner_65 : decode cX0_closesCorner 65 = .ok (.ireturn, 1) := by decide +kernel
theorem dX0_loseSight_0 : decode cX0_loseSight 0 = .ok (.aload_n 0, 1) := by decide +kernel
theorem dX0_loseSight_1 : decode cX0_loseSight 1 = .ok (.iload_n 1, 1) := by decide +kernel
theorem dX0_loseSight_2 : decode cX0_loseSight 2 = .ok (.invokevirtual 58, 3) := by decide +kernel
theorem dX0_loseSight_5 : decode cX0_loseSight 5 = .ok (.istore_n 2, 1) := by decide +kernel
theorem dX0_loseSight_6 : decode cX0_loseSight 6 = .ok (.aload_n 0, 1) := by decide +kernel
theorem dX0_loseSight_7 : decode cX0_loseSight 7 = .ok (.getfield 37, 3) := by decide +kernel
theorem dX0_loseSight_10 : decode cX0_loseSight 10 = .ok (.iload_n 2, 1) := by decide +kernel
theorem dX0_loseSight_11 : decode cX0_loseSight 11 = .ok (.aload_n 0, 1) := by decide +kernel
theorem dX0_loseSight_12 : decode cX0_loseSight 12 = .ok (.getfield 37, 3) := by decide +kernel
theorem dX0_loseSight_15 : decode cX0_loseSight 15 = .ok (.iload_n 2, 1) := by decide +kernel
theorem dX0_loseSight_16 : decode cX0_loseSight 16 = .ok (.invokestatic 62, 3) := by decide +kernel
theorem dX0_loseSight_19 : decode cX0_loseSight 19 = .ok (.aload_n 0, 1) := by decide +kernel
theorem dX0_loseSight_20 : decode cX0_loseSight 20 = .ok (.iload_n 1, 1) := by decide +kernel
theorem dX0_loseSight_21 : decode cX0_loseSight 21 = .ok (.invokevirtual 66, 3) := by decide +kernel
theorem dX0_loseSight_24 : decode cX0_loseSight 24 = .ok (.iconst (-1), 1) := by decide +kernel
theorem dX0_loseSight_25 : decode cX0_loseSight 25 = .ok (.ixor, 1) := by decide +kernel
theorem dX0_loseSight_26 : decode cX0_loseSight 26 = .ok (.iand, 1) := by decide +kernel
theorem dX0_loseSight_27 : decode cX0_loseSight 27 = .ok (.invokestatic 73, 3) := by decide +kernel
theorem dX0_loseSight_30 : decode cX0_loseSight 30 = .ok (.aload_n 0, 1) := by decide +kernel
theorem dX0_loseSight_31 : decode cX0_loseSight 31 = .ok (.getfield 40, 3) := by decide +kernel
theorem dX0_loseSight_34 : decode cX0_loseSight 34 = .ok (.iload_n 2, 1) := by decide +kernel
theorem dX0_loseSight_35 : decode cX0_loseSight 35 = .ok (.aload_n 0, 1) := by decide +kernel
theorem dX0_loseSight_36 : decode cX0_loseSight 36 = .ok (.getfield 40, 3) := by decide +kernel
theorem dX0_loseSight_39 : decode cX0_loseSight 39 = .ok (.iload_n 2, 1) := by decide +kernel
theorem dX0_loseSight_40 : decode cX0_loseSight 40 = .ok (.invokestatic 62, 3) := by decide +kernel
theorem dX0_loseSight_43 : decode cX0_loseSight 43 = .ok (.aload_n 0, 1) := by decide +kernel
theorem dX0_loseSight_44 : decode cX0_loseSight 44 = .ok (.iload_n 1, 1) := by decide +kernel
theorem dX0_loseSight_45 : decode cX0_loseSight 45 = .ok (.invokevirtual 66, 3) := by decide +kernel
theorem dX0_loseSight_48 : decode cX0_loseSight 48 = .ok (.iconst (-1), 1) := by decide +kernel
theorem dX0_loseSight_49 : decode cX0_loseSight 49 = .ok (.ixor, 1) := by decide +kernel
theorem dX0_loseSight_50 : decode cX0_loseSight 50 = .ok (.iand, 1) := by decide +kernel
theorem dX0_loseSight_51 : decode cX0_loseSight 51 = .ok (.invokestatic 73, 3) := by decide +kernel
theorem dX0_loseSight_54 : decode cX0_loseSight 54 = .ok (.return_, 1) := by decide +kernel
theorem dX0_sinceOf_0 : decode cX0_sinceOf 0 = .ok (.aload_n 0, 1) := by decide +kernel
theorem dX0_sinceOf_1 : decode cX0_sinceOf 1 = .ok (.getfield 25, 3) := by decide +kernel
theorem dX0_sinceOf_4 : decode cX0_sinceOf 4 = .ok (.iload_n 1, 1) := by decide +kernel
theorem dX0_sinceOf_5 : decode cX0_sinceOf 5 = .ok (.invokestatic 62, 3) := by decide +kernel
theorem dX0_sinceOf_8 : decode cX0_sinceOf 8 = .ok (.ireturn, 1) := by decide +kernel
theorem dX0_notedFor_0 : decode cX0_notedFor 0 = .ok (.aload_n 0, 1) := by decide +kernel
theorem dX0_notedFor_1 : decode cX0_notedFor 1 = .ok (.getfield 28, 3) := by decide +kernel
theorem dX0_notedFor_4 : decode cX0_notedFor 4 = .ok (.iload_n 1, 1) := by decide +kernel
theorem dX0_notedFor_5 : decode cX0_notedFor 5 = .ok (.invokestatic 62, 3) := by decide +kernel
theorem dX0_notedFor_8 : decode cX0_notedFor 8 = .ok (.ireturn, 1) := by decide +kernel
theorem dX0_trueHolderOf_0 : decode cX0_trueHolderOf 0 = .ok (.aload_n 0, 1) := by decide +kernel
theorem dX0_trueHolderOf_1 : decode cX0_trueHolderOf 1 = .ok (.getfield 31, 3) := by decide +kernel
theorem dX0_trueHolderOf_4 : decode cX0_trueHolderOf 4 = .ok (.iload_n 1, 1) := by decide +kernel
theorem dX0_trueHolderOf_5 : decode cX0_trueHolderOf 5 = .ok (.invokestatic 62, 3) := by decide +kernel
theorem dX0_trueHolderOf_8 : decode cX0_trueHolderOf 8 = .ok (.ireturn, 1) := by decide +kernel
theorem dX1_at_0 : decode cX1_at 0 = .ok (.iload_n 1, 1) := by decide +kernel
theorem dX1_at_1 : decode cX1_at 1 = .ok (.ifCond .lt 15, 3) := by decide +kernel
theorem dX1_at_4 : decode cX1_at 4 = .ok (.iload_n 1, 1) := by decide +kernel
theorem dX1_at_5 : decode cX1_at 5 = .ok (.aload_n 0, 1) := by decide +kernel
theorem dX1_at_6 : decode cX1_at 6 = .ok (.arraylength, 1) := by decide +kernel
theorem dX1_at_7 : decode cX1_at 7 = .ok (.if_icmp .ge 9, 3) := by decide +kernel
theorem dX1_at_10 : decode cX1_at 10 = .ok (.aload_n 0, 1) := by decide +kernel
theorem dX1_at_11 : decode cX1_at 11 = .ok (.iload_n 1, 1) := by decide +kernel
theorem dX1_at_12 : decode cX1_at 12 = .ok (.iaload, 1) := by decide +kernel
theorem dX1_at_13 : decode cX1_at 13 = .ok (.goto 4, 3) := by decide +kernel
theorem dX1_at_16 : decode cX1_at 16 = .ok (.iconst 0, 1) := by decide +kernel
theorem dX1_at_17 : decode cX1_at 17 = .ok (.ireturn, 1) := by decide +kernel
theorem dX1_put_0 : decode cX1_put 0 = .ok (.iload_n 1, 1) := by decide +kernel
theorem dX1_put_1 : decode cX1_put 1 = .ok (.ifCond .lt 13, 3) := by decide +kernel
theorem dX1_put_4 : decode cX1_put 4 = .ok (.iload_n 1, 1) := by decide +kernel
theorem dX1_put_5 : decode cX1_put 5 = .ok (.aload_n 0, 1) := by decide +kernel
theorem dX1_put_6 : decode cX1_put 6 = .ok (.arraylength, 1) := by decide +kernel
theorem dX1_put_7 : decode cX1_put 7 = .ok (.if_icmp .ge 7, 3) := by decide +kernel
theorem dX1_put_10 : decode cX1_put 10 = .ok (.aload_n 0, 1) := by decide +kernel
theorem dX1_put_11 : decode cX1_put 11 = .ok (.iload_n 1, 1) := by decide +kernel
theorem dX1_put_12 : decode cX1_put 12 = .ok (.iload_n 2, 1) := by decide +kernel
theorem dX1_put_13 : decode cX1_put 13 = .ok (.iastore, 1) := by decide +kernel
theorem dX1_put_14 : decode cX1_put 14 = .ok (.return_, 1) := by decide +kernel
theorem dX1_copy_0 : decode cX1_copy 0 = .ok (.aload_n 0, 1) := by decide +kernel
theorem dX1_copy_1 : decode cX1_copy 1 = .ok (.iconst 0, 1) := by decide +kernel
theorem dX1_copy_2 : decode cX1_copy 2 = .ok (.aload_n 1, 1) := by decide +kernel
theorem dX1_copy_3 : decode cX1_copy 3 = .ok (.iconst 0, 1) := by decide +kernel
theorem dX1_copy_4 : decode cX1_copy 4 = .ok (.aload_n 0, 1) := by decide +kernel
theorem dX1_copy_5 : decode cX1_copy 5 = .ok (.arraylength, 1) := by decide +kernel
theorem dX1_copy_6 : decode cX1_copy 6 = .ok (.aload_n 1, 1) := by decide +kernel
theorem dX1_copy_7 : decode cX1_copy 7 = .ok (.arraylength, 1) := by decide +kernel
theorem dX1_copy_8 : decode cX1_copy 8 = .ok (.invokestatic 7, 3) := by decide +kernel
theorem dX1_copy_11 : decode cX1_copy 11 = .ok (.invokestatic 13, 3) := by decide +kernel
theorem dX1_copy_14 : decode cX1_copy 14 = .ok (.return_, 1) := by decide +kernel
theorem dX1_bitsIn_0 : decode cX1_bitsIn 0 = .ok (.iconst 0, 1) := by decide +kernel
theorem dX1_bitsIn_1 : decode cX1_bitsIn 1 = .ok (.istore_n 1, 1) := by decide +kernel
theorem dX1_bitsIn_2 : decode cX1_bitsIn 2 = .ok (.aload_n 0, 1) := by decide +kernel
theorem dX1_bitsIn_3 : decode cX1_bitsIn 3 = .ok (.astore_n 2, 1) := by decide +kernel
theorem dX1_bitsIn_4 : decode cX1_bitsIn 4 = .ok (.aload_n 2, 1) := by decide +kernel
theorem dX1_bitsIn_5 : decode cX1_bitsIn 5 = .ok (.arraylength, 1) := by decide +kernel
theorem dX1_bitsIn_6 : decode cX1_bitsIn 6 = .ok (.istore_n 3, 1) := by decide +kernel
theorem dX1_bitsIn_7 : decode cX1_bitsIn 7 = .ok (.iconst 0, 1) := by decide +kernel
theorem dX1_bitsIn_8 : decode cX1_bitsIn 8 = .ok (.istore 4, 2) := by decide +kernel
theorem dX1_bitsIn_10 : decode cX1_bitsIn 10 = .ok (.iload 4, 2) := by decide +kernel
theorem dX1_bitsIn_12 : decode cX1_bitsIn 12 = .ok (.iload_n 3, 1) := by decide +kernel
theorem dX1_bitsIn_13 : decode cX1_bitsIn 13 = .ok (.if_icmp .ge 23, 3) := by decide +kernel
theorem dX1_bitsIn_16 : decode cX1_bitsIn 16 = .ok (.aload_n 2, 1) := by decide +kernel
theorem dX1_bitsIn_17 : decode cX1_bitsIn 17 = .ok (.iload 4, 2) := by decide +kernel
theorem dX1_bitsIn_19 : decode cX1_bitsIn 19 = .ok (.iaload, 1) := by decide +kernel
theorem dX1_bitsIn_20 : decode cX1_bitsIn 20 = .ok (.istore 5, 2) := by decide +kernel
theorem dX1_bitsIn_22 : decode cX1_bitsIn 22 = .ok (.iload_n 1, 1) := by decide +kernel
theorem dX1_bitsIn_23 : decode cX1_bitsIn 23 = .ok (.iload 5, 2) := by decide +kernel
theorem dX1_bitsIn_25 : decode cX1_bitsIn 25 = .ok (.invokestatic 19, 3) := by decide +kernel
theorem dX1_bitsIn_28 : decode cX1_bitsIn 28 = .ok (.iadd, 1) := by decide +kernel
theorem dX1_bitsIn_29 : decode cX1_bitsIn 29 = .ok (.istore_n 1, 1) := by decide +kernel
theorem dX1_bitsIn_30 : decode cX1_bitsIn 30 = .ok (.iinc 4 1, 3) := by decide +kernel
theorem dX1_bitsIn_33 : decode cX1_bitsIn 33 = .ok (.goto (-23), 3) := by decide +kernel
theorem dX1_bitsIn_36 : decode cX1_bitsIn 36 = .ok (.iload_n 1, 1) := by decide +kernel
theorem dX1_bitsIn_37 : decode cX1_bitsIn 37 = .ok (.ireturn, 1) := by decide +kernel
theorem dX2_init_0 : decode cX2_init 0 = .ok (.aload_n 0, 1) := by decide +kernel
theorem dX2_init_1 : decode cX2_init 1 = .ok (.invokespecial 3, 3) := by decide +kernel
theorem dX2_init_4 : decode cX2_init 4 = .ok (.aload_n 0, 1) := by decide +kernel
theorem dX2_init_5 : decode cX2_init 5 = .ok (.new 9, 3) := by decide +kernel
theorem dX2_init_8 : decode cX2_init 8 = .ok (.dup, 1) := by decide +kernel
theorem dX2_init_9 : decode cX2_init 9 = .ok (.invokespecial 11, 3) := by decide +kernel
theorem dX2_init_12 : decode cX2_init 12 = .ok (.putfield 12, 3) := by decide +kernel
theorem dX2_init_15 : decode cX2_init 15 = .ok (.aload_n 0, 1) := by decide +kernel
theorem dX2_init_16 : decode cX2_init 16 = .ok (.new 9, 3) := by decide +kernel
theorem dX2_init_19 : decode cX2_init 19 = .ok (.dup, 1) := by decide +kernel
theorem dX2_init_20 : decode cX2_init 20 = .ok (.invokespecial 11, 3) := by decide +kernel
theorem dX2_init_23 : decode cX2_init 23 = .ok (.putfield 18, 3) := by decide +kernel
theorem dX2_init_26 : decode cX2_init 26 = .ok (.aload_n 0, 1) := by decide +kernel
theorem dX2_init_27 : decode cX2_init 27 = .ok (.new 9, 3) := by decide +kernel
theorem dX2_init_30 : decode cX2_init 30 = .ok (.dup, 1) := by decide +kernel
theorem dX2_init_31 : decode cX2_init 31 = .ok (.invokespecial 11, 3) := by decide +kernel
theorem dX2_init_34 : decode cX2_init 34 = .ok (.putfield 21, 3) := by decide +kernel
theorem dX2_init_37 : decode cX2_init 37 = .ok (.aload_n 0, 1) := by decide +kernel
theorem dX2_init_38 : decode cX2_init 38 = .ok (.new 9, 3) := by decide +kernel
theorem dX2_init_41 : decode cX2_init 41 = .ok (.dup, 1) := by decide +kernel
theorem dX2_init_42 : decode cX2_init 42 = .ok (.invokespecial 11, 3) := by decide +kernel
theorem dX2_init_45 : decode cX2_init 45 = .ok (.putfield 24, 3) := by decide +kernel
theorem dX2_init_48 : decode cX2_init 48 = .ok (.return_, 1) := by decide +kernel
theorem dX2_remember_0 : decode cX2_remember 0 = .ok (.aload_n 0, 1) := by decide +kernel
theorem dX2_remember_1 : decode cX2_remember 1 = .ok (.getfield 24, 3) := by decide +kernel
theorem dX2_remember_4 : decode cX2_remember 4 = .ok (.astore_n 2, 1) := by decide +kernel
theorem dX2_remember_5 : decode cX2_remember 5 = .ok (.aload_n 0, 1) := by decide +kernel
theorem dX2_remember_6 : decode cX2_remember 6 = .ok (.aload_n 0, 1) := by decide +kernel
theorem dX2_remember_7 : decode cX2_remember 7 = .ok (.getfield 21, 3) := by decide +kernel
theorem dX2_remember_10 : decode cX2_remember 10 = .ok (.putfield 24, 3) := by decide +kernel
theorem dX2_remember_13 : decode cX2_remember 13 = .ok (.aload_n 0, 1) := by decide +kernel
theorem dX2_remember_14 : decode cX2_remember 14 = .ok (.aload_n 0, 1) := by decide +kernel
theorem dX2_remember_15 : decode cX2_remember 15 = .ok (.getfield 18, 3) := by decide +kernel
theorem dX2_remember_18 : decode cX2_remember 18 = .ok (.putfield 21, 3) := by decide +kernel
theorem dX2_remember_21 : decode cX2_remember 21 = .ok (.aload_n 0, 1) := by decide +kernel
theorem dX2_remember_22 : decode cX2_remember 22 = .ok (.aload_n 0, 1) := by decide +kernel
theorem dX2_remember_23 : decode cX2_remember 23 = .ok (.getfield 12, 3) := by decide +kernel
theorem dX2_remember_26 : decode cX2_remember 26 = .ok (.putfield 18, 3) := by decide +kernel
theorem dX2_remember_29 : decode cX2_remember 29 = .ok (.aload_n 0, 1) := by decide +kernel
theorem dX2_remember_30 : decode cX2_remember 30 = .ok (.aload_n 2, 1) := by decide +kernel
theorem dX2_remember_31 : decode cX2_remember 31 = .ok (.putfield 12, 3) := by decide +kernel
theorem dX2_remember_34 : decode cX2_remember 34 = .ok (.aload_n 0, 1) := by decide +kernel
theorem dX2_remember_35 : decode cX2_remember 35 = .ok (.getfield 12, 3) := by decide +kernel
theorem dX2_remember_38 : decode cX2_remember 38 = .ok (.aload_n 1, 1) := by decide +kernel
theorem dX2_remember_39 : decode cX2_remember 39 = .ok (.invokevirtual 27, 3) := by decide +kernel
theorem dX2_remember_42 : decode cX2_remember 42 = .ok (.aload_n 0, 1) := by decide +kernel
theorem dX2_remember_43 : decode cX2_remember 43 = .ok (.aload_n 0, 1) := by decide +kernel
theorem dX2_remember_44 : decode cX2_remember 44 = .ok (.getfield 31, 3) := by decide +kernel
theorem dX2_remember_47 : decode cX2_remember 47 = .ok (.iconst 1, 1) := by decide +kernel
theorem dX2_remember_48 : decode cX2_remember 48 = .ok (.iadd, 1) := by decide +kernel
theorem dX2_remember_49 : decode cX2_remember 49 = .ok (.iconst 4, 1) := by decide +kernel
theorem dX2_remember_50 : decode cX2_remember 50 = .ok (.invokestatic 35, 3) := by decide +kernel
theorem dX2_remember_53 : decode cX2_remember 53 = .ok (.putfield 31, 3) := by decide +kernel
theorem dX2_remember_56 : decode cX2_remember 56 = .ok (.return_, 1) := by decide +kernel
theorem dX2_takeBack_0 : decode cX2_takeBack 0 = .ok (.aload_n 0, 1) := by decide +kernel
theorem dX2_takeBack_1 : decode cX2_takeBack 1 = .ok (.getfield 12, 3) := by decide +kernel
theorem dX2_takeBack_4 : decode cX2_takeBack 4 = .ok (.astore_n 2, 1) := by decide +kernel
theorem dX2_takeBack_5 : decode cX2_takeBack 5 = .ok (.aload_n 1, 1) := by decide +kernel
theorem dX2_takeBack_6 : decode cX2_takeBack 6 = .ok (.aload_n 2, 1) := by decide +kernel
theorem dX2_takeBack_7 : decode cX2_takeBack 7 = .ok (.invokevirtual 27, 3) := by decide +kernel
theorem dX2_takeBack_10 : decode cX2_takeBack 10 = .ok (.aload_n 0, 1) := by decide +kernel
theorem dX2_takeBack_11 : decode cX2_takeBack 11 = .ok (.aload_n 0, 1) := by decide +kernel
theorem dX2_takeBack_12 : decode cX2_takeBack 12 = .ok (.getfield 18, 3) := by decide +kernel
theorem dX2_takeBack_15 : decode cX2_takeBack 15 = .ok (.putfield 12, 3) := by decide +kernel
theorem dX2_takeBack_18 : decode cX2_takeBack 18 = .ok (.aload_n 0, 1) := by decide +kernel
theorem dX2_takeBack_19 : decode cX2_takeBack 19 = .ok (.aload_n 0, 1) := by decide +kernel
theorem dX2_takeBack_20 : decode cX2_takeBack 20 = .ok (.getfield 21, 3) := by decide +kernel
theorem dX2_takeBack_23 : decode cX2_takeBack 23 = .ok (.putfield 18, 3) := by decide +kernel
theorem dX2_takeBack_26 : decode cX2_takeBack 26 = .ok (.aload_n 0, 1) := by decide +kernel
theorem dX2_takeBack_27 : decode cX2_takeBack 27 = .ok (.aload_n 0, 1) := by decide +kernel
theorem dX2_takeBack_28 : decode cX2_takeBack 28 = .ok (.getfield 24, 3) := by decide +kernel
theorem dX2_takeBack_31 : decode cX2_takeBack 31 = .ok (.putfield 21, 3) := by decide +kernel
theorem dX2_takeBack_34 : decode cX2_takeBack 34 = .ok (.aload_n 0, 1) := by decide +kernel
theorem dX2_takeBack_35 : decode cX2_takeBack 35 = .ok (.aload_n 2, 1) := by decide +kernel
theorem dX2_takeBack_36 : decode cX2_takeBack 36 = .ok (.putfield 24, 3) := by decide +kernel
theorem dX2_takeBack_39 : decode cX2_takeBack 39 = .ok (.aload_n 0, 1) := by decide +kernel
theorem dX2_takeBack_40 : decode cX2_takeBack 40 = .ok (.dup, 1) := by decide +kernel
theorem dX2_takeBack_41 : decode cX2_takeBack 41 = .ok (.getfield 31, 3) := by decide +kernel
theorem dX2_takeBack_44 : decode cX2_takeBack 44 = .ok (.iconst 1, 1) := by decide +kernel
theorem dX2_takeBack_45 : decode cX2_takeBack 45 = .ok (.isub, 1) := by decide +kernel
theorem dX2_takeBack_46 : decode cX2_takeBack 46 = .ok (.putfield 31, 3) := by decide +kernel
theorem dX2_takeBack_49 : decode cX2_takeBack 49 = .ok (.return_, 1) := by decide +kernel
theorem dX3_init_0 : decode cX3_init 0 = .ok (.aload_n 0, 1) := by decide +kernel
theorem dX3_init_1 : decode cX3_init 1 = .ok (.invokespecial 3, 3) := by decide +kernel
theorem dX3_init_4 : decode cX3_init 4 = .ok (.aload_n 0, 1) := by decide +kernel
theorem dX3_init_5 : decode cX3_init 5 = .ok (.bipush 60, 2) := by decide +kernel
theorem dX3_init_7 : decode cX3_init 7 = .ok (.newarray .char, 2) := by decide +kernel
theorem dX3_init_9 : decode cX3_init 9 = .ok (.putfield 9, 3) := by decide +kernel
theorem dX3_init_12 : decode cX3_init 12 = .ok (.return_, 1) := by decide +kernel
theorem dX3_append_0 : decode cX3_append 0 = .ok (.aload_n 0, 1) := by decide +kernel
theorem dX3_append_1 : decode cX3_append 1 = .ok (.getfield 15, 3) := by decide +kernel
theorem dX3_append_4 : decode cX3_append 4 = .ok (.ifCond .lt 15, 3) := by decide +kernel
theorem dX3_append_7 : decode cX3_append 7 = .ok (.aload_n 0, 1) := by decide +kernel
theorem dX3_append_8 : decode cX3_append 8 = .ok (.getfield 15, 3) := by decide +kernel
theorem dX3_append_11 : decode cX3_append 11 = .ok (.aload_n 0, 1) := by decide +kernel
theorem dX3_append_12 : decode cX3_append 12 = .ok (.getfield 9, 3) := by decide +kernel
theorem dX3_append_15 : decode cX3_append 15 = .ok (.arraylength, 1) := by decide +kernel
theorem dX3_append_16 : decode cX3_append 16 = .ok (.if_icmp .lt 5, 3) := by decide +kernel
theorem dX3_append_19 : decode cX3_append 19 = .ok (.iconst 0, 1) := by decide +kernel
theorem dX3_append_20 : decode cX3_append 20 = .ok (.ireturn, 1) := by decide +kernel
theorem dX3_append_21 : decode cX3_append 21 = .ok (.aload_n 0, 1) := by decide +kernel
theorem dX3_append_22 : decode cX3_append 22 = .ok (.getfield 9, 3) := by decide +kernel
theorem dX3_append_25 : decode cX3_append 25 = .ok (.aload_n 0, 1) := by decide +kernel
theorem dX3_append_26 : decode cX3_append 26 = .ok (.getfield 15, 3) := by decide +kernel
theorem dX3_append_29 : decode cX3_append 29 = .ok (.iload_n 1, 1) := by decide +kernel
theorem dX3_append_30 : decode cX3_append 30 = .ok (.castore, 1) := by decide +kernel
theorem dX3_append_31 : decode cX3_append 31 = .ok (.aload_n 0, 1) := by decide +kernel
theorem dX3_append_32 : decode cX3_append 32 = .ok (.dup, 1) := by decide +kernel
theorem dX3_append_33 : decode cX3_append 33 = .ok (.getfield 15, 3) := by decide +kernel
theorem dX3_append_36 : decode cX3_append 36 = .ok (.iconst 1, 1) := by decide +kernel
theorem dX3_append_37 : decode cX3_append 37 = .ok (.iadd, 1) := by decide +kernel
theorem dX3_append_38 : decode cX3_append 38 = .ok (.putfield 15, 3) := by decide +kernel
theorem dX3_append_41 : decode cX3_append 41 = .ok (.iconst 1, 1) := by decide +kernel
theorem dX3_append_42 : decode cX3_append 42 = .ok (.ireturn, 1) := by decide +kernel
theorem dX3_characterAt_0 : decode cX3_characterAt 0 = .ok (.iload_n 1, 1) := by decide +kernel
theorem dX3_characterAt_1 : decode cX3_characterAt 1 = .ok (.ifCond .lt 29, 3) := by decide +kernel
theorem dX3_characterAt_4 : decode cX3_characterAt 4 = .ok (.iload_n 1, 1) := by decide +kernel
theorem dX3_characterAt_5 : decode cX3_characterAt 5 = .ok (.aload_n 0, 1) := by decide +kernel
theorem dX3_characterAt_6 : decode cX3_characterAt 6 = .ok (.getfield 15, 3) := by decide +kernel
theorem dX3_characterAt_9 : decode cX3_characterAt 9 = .ok (.if_icmp .ge 21, 3) := by decide +kernel
theorem dX3_characterAt_12 : decode cX3_characterAt 12 = .ok (.iload_n 1, 1) := by decide +kernel
theorem dX3_characterAt_13 : decode cX3_characterAt 13 = .ok (.aload_n 0, 1) := by decide +kernel
theorem dX3_characterAt_14 : decode cX3_characterAt 14 = .ok (.getfield 9, 3) := by decide +kernel
theorem dX3_characterAt_17 : decode cX3_characterAt 17 = .ok (.arraylength, 1) := by decide +kernel
theorem dX3_characterAt_18 : decode cX3_characterAt 18 = .ok (.if_icmp .ge 12, 3) := by decide +kernel
theorem dX3_characterAt_21 : decode cX3_characterAt 21 = .ok (.aload_n 0, 1) := by decide +kernel
theorem dX3_characterAt_22 : decode cX3_characterAt 22 = .ok (.getfield 9, 3) := by decide +kernel
theorem dX3_characterAt_25 : decode cX3_characterAt 25 = .ok (.iload_n 1, 1) := by decide +kernel
theorem dX3_characterAt_26 : decode cX3_characterAt 26 = .ok (.caload, 1) := by decide +kernel
theorem dX3_characterAt_27 : decode cX3_characterAt 27 = .ok (.goto 4, 3) := by decide +kernel
theorem dX3_characterAt_30 : decode cX3_characterAt 30 = .ok (.iconst 0, 1) := by decide +kernel
theorem dX3_characterAt_31 : decode cX3_characterAt 31 = .ok (.ireturn, 1) := by decide +kernel
theorem dX3_fault_0 : decode cX3_fault 0 = .ok (.iconst 0, 1) := by decide +kernel
theorem dX3_fault_1 : decode cX3_fault 1 = .ok (.istore_n 1, 1) := by decide +kernel
theorem dX3_fault_2 : decode cX3_fault 2 = .ok (.iconst 0, 1) := by decide +kernel
theorem dX3_fault_3 : decode cX3_fault 3 = .ok (.istore_n 2, 1) := by decide +kernel
theorem dX3_fault_4 : decode cX3_fault 4 = .ok (.iload_n 2, 1) := by decide +kernel
theorem dX3_fault_5 : decode cX3_fault 5 = .ok (.aload_n 0, 1) := by decide +kernel
theorem dX3_fault_6 : decode cX3_fault 6 = .ok (.getfield 15, 3) := by decide +kernel
theorem dX3_fault_9 : decode cX3_fault 9 = .ok (.if_icmp .ge 26, 3) := by decide +kernel
theorem dX3_fault_12 : decode cX3_fault 12 = .ok (.iload_n 1, 1) := by decide +kernel
theorem dX3_fault_13 : decode cX3_fault 13 = .ok (.aload_n 0, 1) := by decide +kernel
theorem dX3_fault_14 : decode cX3_fault 14 = .ok (.iload_n 2, 1) := by decide +kernel
theorem dX3_fault_15 : decode cX3_fault 15 = .ok (.invokevirtual 19, 3) := by decide +kernel
theorem dX3_fault_18 : decode cX3_fault 18 = .ok (.invokestatic 23, 3) := by decide +kernel
theorem dX3_fault_21 : decode cX3_fault 21 = .ok (.istore_n 1, 1) := by decide +kernel
theorem dX3_fault_22 : decode cX3_fault 22 = .ok (.iload_n 1, 1) := by decide +kernel
theorem dX3_fault_23 : decode cX3_fault 23 = .ok (.iconst (-1), 1) := by decide +kernel
theorem dX3_fault_24 : decode cX3_fault 24 = .ok (.if_icmp .ne 5, 3) := by decide +kernel
theorem dX3_fault_27 : decode cX3_fault 27 = .ok (.iload_n 2, 1) := by decide +kernel
theorem dX3_fault_28 : decode cX3_fault 28 = .ok (.ireturn, 1) := by decide +kernel
theorem dX3_fault_29 : decode cX3_fault 29 = .ok (.iinc 2 1, 3) := by decide +kernel
theorem dX3_fault_32 : decode cX3_fault 32 = .ok (.goto (-28), 3) := by decide +kernel
theorem dX3_fault_35 : decode cX3_fault 35 = .ok (.iload_n 1, 1) := by decide +kernel
theorem dX3_fault_36 : decode cX3_fault 36 = .ok (.iconst 4, 1) := by decide +kernel
theorem dX3_fault_37 : decode cX3_fault 37 = .ok (.if_icmp .eq 8, 3) := by decide +kernel
theorem dX3_fault_40 : decode cX3_fault 40 = .ok (.iload_n 1, 1) := by decide +kernel
theorem dX3_fault_41 : decode cX3_fault 41 = .ok (.iconst 5, 1) := by decide +kernel
theorem dX3_fault_42 : decode cX3_fault 42 = .ok (.if_icmp .ne 7, 3) := by decide +kernel
theorem dX3_fault_45 : decode cX3_fault 45 = .ok (.iconst (-1), 1) := by decide +kernel
theorem dX3_fault_46 : decode cX3_fault 46 = .ok (.goto 7, 3) := by decide +kernel
theorem dX3_fault_49 : decode cX3_fault 49 = .ok (.aload_n 0, 1) := by decide +kernel
theorem dX3_fault_50 : decode cX3_fault 50 = .ok (.getfield 15, 3) := by decide +kernel
theorem dX3_fault_53 : decode cX3_fault 53 = .ok (.ireturn, 1) := by decide +kernel
theorem dX3_placeAfter_0 : decode cX3_placeAfter 0 = .ok (.iload_n 0, 1) := by decide +kernel
theorem dX3_placeAfter_1 : decode cX3_placeAfter 1 = .ok (.tableswitch 140 0 4 #[35, 61, 79, 100, 119], 35) := by decide +kernel
theorem dX3_placeAfter_36 : decode cX3_placeAfter 36 = .ok (.iload_n 1, 1) := by decide +kernel
theorem dX3_placeAfter_37 : decode cX3_placeAfter 37 = .ok (.bipush 116, 2) := by decide +kernel
theorem dX3_placeAfter_39 : decode cX3_placeAfter 39 = .ok (.if_icmp .ne 5, 3) := by decide +kernel
theorem dX3_placeAfter_42 : decode cX3_placeAfter 42 = .ok (.iconst 3, 1) := by decide +kernel
theorem dX3_placeAfter_43 : decode cX3_placeAfter 43 = .ok (.ireturn, 1) := by decide +kernel
theorem dX3_placeAfter_44 : decode cX3_placeAfter 44 = .ok (.iload_n 1, 1) := by decide +kernel
theorem dX3_placeAfter_45 : decode cX3_placeAfter 45 = .ok (.bipush 48, 2) := by decide +kernel
theorem dX3_placeAfter_47 : decode cX3_placeAfter 47 = .ok (.if_icmp .eq 9, 3) := by decide +kernel
theorem dX3_placeAfter_50 : decode cX3_placeAfter 50 = .ok (.iload_n 1, 1) := by decide +kernel
theorem dX3_placeAfter_51 : decode cX3_placeAfter 51 = .ok (.bipush 49, 2) := by decide +kernel
theorem dX3_placeAfter_53 : decode cX3_placeAfter 53 = .ok (.if_icmp .ne 7, 3) := by decide +kernel
theorem dX3_placeAfter_56 : decode cX3_placeAfter 56 = .ok (.iconst 1, 1) := by decide +kernel
theorem dX3_placeAfter_57 : decode cX3_placeAfter 57 = .ok (.goto 4, 3) := by decide +kernel
theorem dX3_placeAfter_60 : decode cX3_placeAfter 60 = .ok (.iconst (-1), 1) := by decide +kernel
theorem dX3_placeAfter_61 : decode cX3_placeAfter 61 = .ok (.ireturn, 1) := by decide +kernel
theorem dX3_placeAfter_62 : decode cX3_placeAfter 62 = .ok (.iload_n 1, 1) := by decide +kernel
theorem dX3_placeAfter_63 : decode cX3_placeAfter 63 = .ok (.bipush 100, 2) := by decide +kernel
theorem dX3_placeAfter_65 : decode cX3_placeAfter 65 = .ok (.if_icmp .eq 9, 3) := by decide +kernel
theorem dX3_placeAfter_68 : decode cX3_placeAfter 68 = .ok (.iload_n 1, 1) := by decide +kernel
theorem dX3_placeAfter_69 : decode cX3_placeAfter 69 = .ok (.bipush 117, 2) := by decide +kernel
theorem dX3_placeAfter_71 : decode cX3_placeAfter 71 = .ok (.if_icmp .ne 7, 3) := by decide +kernel
theorem dX3_placeAfter_74 : decode cX3_placeAfter 74 = .ok (.iconst 2, 1) := by decide +kernel
theorem dX3_placeAfter_75 : decode cX3_placeAfter 75 = .ok (.goto 4, 3) := by decide +kernel
theorem dX3_placeAfter_78 : decode cX3_placeAfter 78 = .ok (.iconst (-1), 1) := by decide +kernel
theorem dX3_placeAfter_79 : decode cX3_placeAfter 79 = .ok (.ireturn, 1) := by decide +kernel
theorem dX3_placeAfter_80 : decode cX3_placeAfter 80 = .ok (.iload_n 1, 1) := by decide +kernel
theorem dX3_placeAfter_81 : decode cX3_placeAfter 81 = .ok (.bipush 48, 2) := by decide +kernel
theorem dX3_placeAfter_83 : decode cX3_placeAfter 83 = .ok (.if_icmp .ne 5, 3) := by decide +kernel
theorem dX3_placeAfter_86 : decode cX3_placeAfter 86 = .ok (.iconst 5, 1) := by decide +kernel
theorem dX3_placeAfter_87 : decode cX3_placeAfter 87 = .ok (.ireturn, 1) := by decide +kernel
theorem dX3_placeAfter_88 : decode cX3_placeAfter 88 = .ok (.iload_n 1, 1) := by decide +kernel
theorem dX3_placeAfter_89 : decode cX3_placeAfter 89 = .ok (.invokestatic 27, 3) := by decide +kernel
theorem dX3_placeAfter_92 : decode cX3_placeAfter 92 = .ok (.ifCond .eq 7, 3) := by decide +kernel
theorem dX3_placeAfter_95 : decode cX3_placeAfter 95 = .ok (.iconst 4, 1) := by decide +kernel
theorem dX3_placeAfter_96 : decode cX3_placeAfter 96 = .ok (.goto 4, 3) := by decide +kernel
theorem dX3_placeAfter_99 : decode cX3_placeAfter 99 = .ok (.iconst (-1), 1) := by decide +kernel
theorem dX3_placeAfter_100 : decode cX3_placeAfter 100 = .ok (.ireturn, 1) := by decide +kernel
theorem dX3_placeAfter_101 : decode cX3_placeAfter 101 = .ok (.iload_n 1, 1) := by decide +kernel
theorem dX3_placeAfter_102 : decode cX3_placeAfter 102 = .ok (.invokestatic 27, 3) := by decide +kernel
theorem dX3_placeAfter_105 : decode cX3_placeAfter 105 = .ok (.ifCond .eq 13, 3) := by decide +kernel
theorem dX3_placeAfter_108 : decode cX3_placeAfter 108 = .ok (.iload_n 1, 1) := by decide +kernel
theorem dX3_placeAfter_109 : decode cX3_placeAfter 109 = .ok (.bipush 48, 2) := by decide +kernel
theorem dX3_placeAfter_111 : decode cX3_placeAfter 111 = .ok (.if_icmp .eq 7, 3) := by decide +kernel
theorem dX3_placeAfter_114 : decode cX3_placeAfter 114 = .ok (.iconst 4, 1) := by decide +kernel
theorem dX3_placeAfter_115 : decode cX3_placeAfter 115 = .ok (.goto 4, 3) := by decide +kernel
theorem dX3_placeAfter_118 : decode cX3_placeAfter 118 = .ok (.iconst (-1), 1) := by decide +kernel
theorem dX3_placeAfter_119 : decode cX3_placeAfter 119 = .ok (.ireturn, 1) := by decide +kernel
theorem dX3_placeAfter_120 : decode cX3_placeAfter 120 = .ok (.iload_n 1, 1) := by decide +kernel
theorem dX3_placeAfter_121 : decode cX3_placeAfter 121 = .ok (.invokestatic 27, 3) := by decide +kernel
theorem dX3_placeAfter_124 : decode cX3_placeAfter 124 = .ok (.ifCond .eq 5, 3) := by decide +kernel
theorem dX3_placeAfter_127 : decode cX3_placeAfter 127 = .ok (.iconst 5, 1) := by decide +kernel
theorem dX3_placeAfter_128 : decode cX3_placeAfter 128 = .ok (.ireturn, 1) := by decide +kernel
theorem dX3_placeAfter_129 : decode cX3_placeAfter 129 = .ok (.iload_n 1, 1) := by decide +kernel
theorem dX3_placeAfter_130 : decode cX3_placeAfter 130 = .ok (.bipush 59, 2) := by decide +kernel
theorem dX3_placeAfter_132 : decode cX3_placeAfter 132 = .ok (.if_icmp .ne 7, 3) := by decide +kernel
theorem dX3_placeAfter_135 : decode cX3_placeAfter 135 = .ok (.iconst 0, 1) := by decide +kernel
theorem dX3_placeAfter_136 : decode cX3_placeAfter 136 = .ok (.goto 4, 3) := by decide +kernel
theorem dX3_placeAfter_139 : decode cX3_placeAfter 139 = .ok (.iconst (-1), 1) := by decide +kernel
theorem dX3_placeAfter_140 : decode cX3_placeAfter 140 = .ok (.ireturn, 1) := by decide +kernel
theorem dX3_placeAfter_141 : decode cX3_placeAfter 141 = .ok (.iload_n 1, 1) := by decide +kernel
theorem dX3_placeAfter_142 : decode cX3_placeAfter 142 = .ok (.bipush 59, 2) := by decide +kernel
theorem dX3_placeAfter_144 : decode cX3_placeAfter 144 = .ok (.if_icmp .ne 7, 3) := by decide +kernel
theorem dX3_placeAfter_147 : decode cX3_placeAfter 147 = .ok (.iconst 0, 1) := by decide +kernel
theorem dX3_placeAfter_148 : decode cX3_placeAfter 148 = .ok (.goto 4, 3) := by decide +kernel
theorem dX3_placeAfter_151 : decode cX3_placeAfter 151 = .ok (.iconst (-1), 1) := by decide +kernel
theorem dX3_placeAfter_152 : decode cX3_placeAfter 152 = .ok (.ireturn, 1) := by decide +kernel
theorem dX3_isDigit_0 : decode cX3_isDigit 0 = .ok (.iload_n 0, 1) := by decide +kernel
theorem dX3_isDigit_1 : decode cX3_isDigit 1 = .ok (.bipush 48, 2) := by decide +kernel
theorem dX3_isDigit_3 : decode cX3_isDigit 3 = .ok (.if_icmp .lt 13, 3) := by decide +kernel
theorem dX3_isDigit_6 : decode cX3_isDigit 6 = .ok (.iload_n 0, 1) := by decide +kernel
theorem dX3_isDigit_7 : decode cX3_isDigit 7 = .ok (.bipush 57, 2) := by decide +kernel
theorem dX3_isDigit_9 : decode cX3_isDigit 9 = .ok (.if_icmp .gt 7, 3) := by decide +kernel
theorem dX3_isDigit_12 : decode cX3_isDigit 12 = .ok (.iconst 1, 1) := by decide +kernel
theorem dX3_isDigit_13 : decode cX3_isDigit 13 = .ok (.goto 4, 3) := by decide +kernel
theorem dX3_isDigit_16 : decode cX3_isDigit 16 = .ok (.iconst 0, 1) := by decide +kernel
theorem dX3_isDigit_17 : decode cX3_isDigit 17 = .ok (.ireturn, 1) := by decide +kernel
theorem dX3_isMoveEnd_0 : decode cX3_isMoveEnd 0 = .ok (.iload_n 1, 1) := by decide +kernel
theorem dX3_isMoveEnd_1 : decode cX3_isMoveEnd 1 = .ok (.aload_n 0, 1) := by decide +kernel
theorem dX3_isMoveEnd_2 : decode cX3_isMoveEnd 2 = .ok (.getfield 15, 3) := by decide +kernel
theorem dX3_isMoveEnd_5 : decode cX3_isMoveEnd 5 = .ok (.if_icmp .eq 13, 3) := by decide +kernel
theorem dX3_isMoveEnd_8 : decode cX3_isMoveEnd 8 = .ok (.aload_n 0, 1) := by decide +kernel
theorem dX3_isMoveEnd_9 : decode cX3_isMoveEnd 9 = .ok (.iload_n 1, 1) := by decide +kernel
theorem dX3_isMoveEnd_10 : decode cX3_isMoveEnd 10 = .ok (.invokevirtual 19, 3) := by decide +kernel
theorem dX3_isMoveEnd_13 : decode cX3_isMoveEnd 13 = .ok (.bipush 59, 2) := by decide +kernel
theorem dX3_isMoveEnd_15 : decode cX3_isMoveEnd 15 = .ok (.if_icmp .ne 7, 3) := by decide +kernel
theorem dX3_isMoveEnd_18 : decode cX3_isMoveEnd 18 = .ok (.iconst 1, 1) := by decide +kernel
theorem dX3_isMoveEnd_19 : decode cX3_isMoveEnd 19 = .ok (.goto 4, 3) := by decide +kernel
theorem dX3_isMoveEnd_22 : decode cX3_isMoveEnd 22 = .ok (.iconst 0, 1) := by decide +kernel
theorem dX3_isMoveEnd_23 : decode cX3_isMoveEnd 23 = .ok (.ireturn, 1) := by decide +kernel
theorem dX3_number_0 : decode cX3_number 0 = .ok (.iconst 0, 1) := by decide +kernel
theorem dX3_number_1 : decode cX3_number 1 = .ok (.istore_n 3, 1) := by decide +kernel
theorem dX3_number_2 : decode cX3_number 2 = .ok (.iload_n 1, 1) := by decide +kernel
theorem dX3_number_3 : decode cX3_number 3 = .ok (.istore 4, 2) := by decide +kernel
theorem dX3_number_5 : decode cX3_number 5 = .ok (.iload 4, 2) := by decide +kernel
theorem dX3_number_7 : decode cX3_number 7 = .ok (.iload_n 2, 1) := by decide +kernel
theorem dX3_number_8 : decode cX3_number 8 = .ok (.if_icmp .ge 24, 3) := by decide +kernel
theorem dX3_number_11 : decode cX3_number 11 = .ok (.iload_n 3, 1) := by decide +kernel
theorem dX3_number_12 : decode cX3_number 12 = .ok (.bipush 10, 2) := by decide +kernel
theorem dX3_number_14 : decode cX3_number 14 = .ok (.imul, 1) := by decide +kernel
theorem dX3_number_15 : decode cX3_number 15 = .ok (.aload_n 0, 1) := by decide +kernel
theorem dX3_number_16 : decode cX3_number 16 = .ok (.iload 4, 2) := by decide +kernel
theorem dX3_number_18 : decode cX3_number 18 = .ok (.invokevirtual 19, 3) := by decide +kernel
theorem dX3_number_21 : decode cX3_number 21 = .ok (.bipush 48, 2) := by decide +kernel
theorem dX3_number_23 : decode cX3_number 23 = .ok (.isub, 1) := by decide +kernel
theorem dX3_number_24 : decode cX3_number 24 = .ok (.iadd, 1) := by decide +kernel
theorem dX3_number_25 : decode cX3_number 25 = .ok (.istore_n 3, 1) := by decide +kernel
theorem dX3_number_26 : decode cX3_number 26 = .ok (.iinc 4 1, 3) := by decide +kernel
theorem dX3_number_29 : decode cX3_number 29 = .ok (.goto (-24), 3) := by decide +kernel
theorem dX3_number_32 : decode cX3_number 32 = .ok (.iload_n 3, 1) := by decide +kernel
theorem dX3_number_33 : decode cX3_number 33 = .ok (.ireturn, 1) := by decide +kernel
theorem dX4_init_0 : decode cX4_init 0 = .ok (.aload_n 0, 1) := by decide +kernel
theorem dX4_init_1 : decode cX4_init 1 = .ok (.invokespecial 3, 3) := by decide +kernel
theorem dX4_init_4 : decode cX4_init 4 = .ok (.aload_n 0, 1) := by decide +kernel
theorem dX4_init_5 : decode cX4_init 5 = .ok (.iconst 3, 1) := by decide +kernel
theorem dX4_init_6 : decode cX4_init 6 = .ok (.newarray .int, 2) := by decide +kernel
theorem dX4_init_8 : decode cX4_init 8 = .ok (.dup, 1) := by decide +kernel
theorem dX4_init_9 : decode cX4_init 9 = .ok (.iconst 0, 1) := by decide +kernel
theorem dX4_init_10 : decode cX4_init 10 = .ok (.ldc 9, 2) := by decide +kernel
theorem dX4_init_12 : decode cX4_init 12 = .ok (.iastore, 1) := by decide +kernel
theorem dX4_init_13 : decode cX4_init 13 = .ok (.dup, 1) := by decide +kernel
theorem dX4_init_14 : decode cX4_init 14 = .ok (.iconst 1, 1) := by decide +kernel
theorem dX4_init_15 : decode cX4_init 15 = .ok (.ldc 10, 2) := by decide +kernel
theorem dX4_init_17 : decode cX4_init 17 = .ok (.iastore, 1) := by decide +kernel
theorem dX4_init_18 : decode cX4_init 18 = .ok (.dup, 1) := by decide +kernel
theorem dX4_init_19 : decode cX4_init 19 = .ok (.iconst 2, 1) := by decide +kernel
theorem dX4_init_20 : decode cX4_init 20 = .ok (.ldc 11, 2) := by decide +kernel
theorem dX4_init_22 : decode cX4_init 22 = .ok (.iastore, 1) := by decide +kernel
theorem dX4_init_23 : decode cX4_init 23 = .ok (.putfield 12, 3) := by decide +kernel
theorem dX4_init_26 : decode cX4_init 26 = .ok (.aload_n 0, 1) := by decide +kernel
theorem dX4_init_27 : decode cX4_init 27 = .ok (.ldc 16, 2) := by decide +kernel
theorem dX4_init_29 : decode cX4_init 29 = .ok (.putfield 17, 3) := by decide +kernel
theorem dX4_init_32 : decode cX4_init 32 = .ok (.aload_n 0, 1) := by decide +kernel
theorem dX4_init_33 : decode cX4_init 33 = .ok (.ldc 21, 2) := by decide +kernel
theorem dX4_init_35 : decode cX4_init 35 = .ok (.putfield 22, 3) := by decide +kernel
theorem dX4_init_38 : decode cX4_init 38 = .ok (.aload_n 0, 1) := by decide +kernel
theorem dX4_init_39 : decode cX4_init 39 = .ok (.ldc 25, 2) := by decide +kernel
theorem dX4_init_41 : decode cX4_init 41 = .ok (.putfield 26, 3) := by decide +kernel
theorem dX4_init_44 : decode cX4_init 44 = .ok (.return_, 1) := by decide +kernel
theorem dX4_copyFrom_0 : decode cX4_copyFrom 0 = .ok (.aload_n 1, 1) := by decide +kernel
theorem dX4_copyFrom_1 : decode cX4_copyFrom 1 = .ok (.getfield 12, 3) := by decide +kernel
theorem dX4_copyFrom_4 : decode cX4_copyFrom 4 = .ok (.aload_n 0, 1) := by decide +kernel
theorem dX4_copyFrom_5 : decode cX4_copyFrom 5 = .ok (.getfield 12, 3) := by decide +kernel
theorem dX4_copyFrom_8 : decode cX4_copyFrom 8 = .ok (.invokestatic 29, 3) := by decide +kernel
theorem dX4_copyFrom_11 : decode cX4_copyFrom 11 = .ok (.aload_n 0, 1) := by decide +kernel
theorem dX4_copyFrom_12 : decode cX4_copyFrom 12 = .ok (.aload_n 1, 1) := by decide +kernel
theorem dX4_copyFrom_13 : decode cX4_copyFrom 13 = .ok (.getfield 17, 3) := by decide +kernel
theorem dX4_copyFrom_16 : decode cX4_copyFrom 16 = .ok (.putfield 17, 3) := by decide +kernel
theorem dX4_copyFrom_19 : decode cX4_copyFrom 19 = .ok (.aload_n 0, 1) := by decide +kernel
theorem dX4_copyFrom_20 : decode cX4_copyFrom 20 = .ok (.aload_n 1, 1) := by decide +kernel
theorem dX4_copyFrom_21 : decode cX4_copyFrom 21 = .ok (.getfield 22, 3) := by decide +kernel
theorem dX4_copyFrom_24 : decode cX4_copyFrom 24 = .ok (.putfield 22, 3) := by decide +kernel
theorem dX4_copyFrom_27 : decode cX4_copyFrom 27 = .ok (.aload_n 0, 1) := by decide +kernel
theorem dX4_copyFrom_28 : decode cX4_copyFrom 28 = .ok (.aload_n 1, 1) := by decide +kernel
theorem dX4_copyFrom_29 : decode cX4_copyFrom 29 = .ok (.getfield 26, 3) := by decide +kernel
theorem dX4_copyFrom_32 : decode cX4_copyFrom 32 = .ok (.putfield 26, 3) := by decide +kernel
theorem dX4_copyFrom_35 : decode cX4_copyFrom 35 = .ok (.return_, 1) := by decide +kernel
theorem dX4_accepts_0 : decode cX4_accepts 0 = .ok (.iload_n 0, 1) := by decide +kernel
theorem dX4_accepts_1 : decode cX4_accepts 1 = .ok (.ifCond .lt 28, 3) := by decide +kernel
theorem dX4_accepts_4 : decode cX4_accepts 4 = .ok (.iload_n 0, 1) := by decide +kernel
theorem dX4_accepts_5 : decode cX4_accepts 5 = .ok (.getstatic 35, 3) := by decide +kernel
theorem dX4_accepts_8 : decode cX4_accepts 8 = .ok (.arraylength, 1) := by decide +kernel
theorem dX4_accepts_9 : decode cX4_accepts 9 = .ok (.if_icmp .ge 20, 3) := by decide +kernel
theorem dX4_accepts_12 : decode cX4_accepts 12 = .ok (.iload_n 1, 1) := by decide +kernel
theorem dX4_accepts_13 : decode cX4_accepts 13 = .ok (.ifCond .lt 16, 3) := by decide +kernel
theorem dX4_accepts_16 : decode cX4_accepts 16 = .ok (.iload_n 1, 1) := by decide +kernel
theorem dX4_accepts_17 : decode cX4_accepts 17 = .ok (.getstatic 35, 3) := by decide +kernel
theorem dX4_accepts_20 : decode cX4_accepts 20 = .ok (.iload_n 0, 1) := by decide +kernel
theorem dX4_accepts_21 : decode cX4_accepts 21 = .ok (.iaload, 1) := by decide +kernel
theorem dX4_accepts_22 : decode cX4_accepts 22 = .ok (.if_icmp .ge 7, 3) := by decide +kernel
theorem dX4_accepts_25 : decode cX4_accepts 25 = .ok (.iconst 1, 1) := by decide +kernel
theorem dX4_accepts_26 : decode cX4_accepts 26 = .ok (.goto 4, 3) := by decide +kernel
theorem dX4_accepts_29 : decode cX4_accepts 29 = .ok (.iconst 0, 1) := by decide +kernel
theorem dX4_accepts_30 : decode cX4_accepts 30 = .ok (.ireturn, 1) := by decide +kernel
theorem dX4_bitsOf_0 : decode cX4_bitsOf 0 = .ok (.aload_n 0, 1) := by decide +kernel
theorem dX4_bitsOf_1 : decode cX4_bitsOf 1 = .ok (.getfield 12, 3) := by decide +kernel
theorem dX4_bitsOf_4 : decode cX4_bitsOf 4 = .ok (.iload_n 1, 1) := by decide +kernel
theorem dX4_bitsOf_5 : decode cX4_bitsOf 5 = .ok (.invokestatic 38, 3) := by decide +kernel
theorem dX4_bitsOf_8 : decode cX4_bitsOf 8 = .ok (.ireturn, 1) := by decide +kernel
theorem dX4_change_0 : decode cX4_change 0 = .ok (.aload_n 0, 1) := by decide +kernel
theorem dX4_change_1 : decode cX4_change 1 = .ok (.getfield 12, 3) := by decide +kernel
theorem dX4_change_4 : decode cX4_change 4 = .ok (.iload_n 1, 1) := by decide +kernel
theorem dX4_change_5 : decode cX4_change 5 = .ok (.iload_n 2, 1) := by decide +kernel
theorem dX4_change_6 : decode cX4_change 6 = .ok (.invokestatic 42, 3) := by decide +kernel
theorem dX4_change_9 : decode cX4_change 9 = .ok (.iload_n 2, 1) := by decide +kernel
theorem dX4_change_10 : decode cX4_change 10 = .ok (.invokestatic 46, 3) := by decide +kernel
theorem dX4_change_13 : decode cX4_change 13 = .ok (.fstore_n 3, 1) := by decide +kernel
theorem dX4_change_14 : decode cX4_change 14 = .ok (.iload_n 1, 1) := by decide +kernel
theorem dX4_change_15 : decode cX4_change 15 = .ok (.lookupswitch 41 #[(0, 25), (1, 33)], 25) := by decide +kernel
theorem dX4_change_40 : decode cX4_change 40 = .ok (.aload_n 0, 1) := by decide +kernel
theorem dX4_change_41 : decode cX4_change 41 = .ok (.fload_n 3, 1) := by decide +kernel
theorem dX4_change_42 : decode cX4_change 42 = .ok (.putfield 17, 3) := by decide +kernel
theorem dX4_change_45 : decode cX4_change 45 = .ok (.goto 16, 3) := by decide +kernel
theorem dX4_change_48 : decode cX4_change 48 = .ok (.aload_n 0, 1) := by decide +kernel
theorem dX4_change_49 : decode cX4_change 49 = .ok (.fload_n 3, 1) := by decide +kernel
theorem dX4_change_50 : decode cX4_change 50 = .ok (.putfield 22, 3) := by decide +kernel
theorem dX4_change_53 : decode cX4_change 53 = .ok (.goto 8, 3) := by decide +kernel
theorem dX4_change_56 : decode cX4_change 56 = .ok (.aload_n 0, 1) := by decide +kernel
theorem dX4_change_57 : decode cX4_change 57 = .ok (.fload_n 3, 1) := by decide +kernel
theorem dX4_change_58 : decode cX4_change 58 = .ok (.putfield 26, 3) := by decide +kernel
theorem dX4_change_61 : decode cX4_change 61 = .ok (.return_, 1) := by decide +kernel
theorem dX4_valueOf_0 : decode cX4_valueOf 0 = .ok (.iload_n 0, 1) := by decide +kernel
theorem dX4_valueOf_1 : decode cX4_valueOf 1 = .ok (.bipush 23, 2) := by decide +kernel
theorem dX4_valueOf_3 : decode cX4_valueOf 3 = .ok (.ishr, 1) := by decide +kernel
theorem dX4_valueOf_4 : decode cX4_valueOf 4 = .ok (.istore_n 1, 1) := by decide +kernel
theorem dX4_valueOf_5 : decode cX4_valueOf 5 = .ok (.iload_n 0, 1) := by decide +kernel
theorem dX4_valueOf_6 : decode cX4_valueOf 6 = .ok (.ldc 50, 2) := by decide +kernel
theorem dX4_valueOf_8 : decode cX4_valueOf 8 = .ok (.iand, 1) := by decide +kernel
theorem dX4_valueOf_9 : decode cX4_valueOf 9 = .ok (.istore_n 2, 1) := by decide +kernel
theorem dX4_valueOf_10 : decode cX4_valueOf 10 = .ok (.iload_n 1, 1) := by decide +kernel
theorem dX4_valueOf_11 : decode cX4_valueOf 11 = .ok (.ifCond .ne 7, 3) := by decide +kernel
theorem dX4_valueOf_14 : decode cX4_valueOf 14 = .ok (.iload_n 2, 1) := by decide +kernel
theorem dX4_valueOf_15 : decode cX4_valueOf 15 = .ok (.goto 7, 3) := by decide +kernel
theorem dX4_valueOf_18 : decode cX4_valueOf 18 = .ok (.iload_n 2, 1) := by decide +kernel
theorem dX4_valueOf_19 : decode cX4_valueOf 19 = .ok (.ldc 51, 2) := by decide +kernel
theorem dX4_valueOf_21 : decode cX4_valueOf 21 = .ok (.iadd, 1) := by decide +kernel
theorem dX4_valueOf_22 : decode cX4_valueOf 22 = .ok (.i2f, 1) := by decide +kernel
theorem dX4_valueOf_23 : decode cX4_valueOf 23 = .ok (.fstore_n 3, 1) := by decide +kernel
theorem dX4_valueOf_24 : decode cX4_valueOf 24 = .ok (.sipush 150, 3) := by decide +kernel
theorem dX4_valueOf_27 : decode cX4_valueOf 27 = .ok (.iload_n 1, 1) := by decide +kernel
theorem dX4_valueOf_28 : decode cX4_valueOf 28 = .ok (.ifCond .ne 7, 3) := by decide +kernel
theorem dX4_valueOf_31 : decode cX4_valueOf 31 = .ok (.iconst 1, 1) := by decide +kernel
theorem dX4_valueOf_32 : decode cX4_valueOf 32 = .ok (.goto 4, 3) := by decide +kernel
theorem dX4_valueOf_35 : decode cX4_valueOf 35 = .ok (.iload_n 1, 1) := by decide +kernel
theorem dX4_valueOf_36 : decode cX4_valueOf 36 = .ok (.isub, 1) := by decide +kernel
theorem dX4_valueOf_37 : decode cX4_valueOf 37 = .ok (.istore 4, 2) := by decide +kernel
theorem dX4_valueOf_39 : decode cX4_valueOf 39 = .ok (.iconst 0, 1) := by decide +kernel
theorem dX4_valueOf_40 : decode cX4_valueOf 40 = .ok (.istore 5, 2) := by decide +kernel
theorem dX4_valueOf_42 : decode cX4_valueOf 42 = .ok (.iload 5, 2) := by decide +kernel
theorem dX4_valueOf_44 : decode cX4_valueOf 44 = .ok (.iload 4, 2) := by decide +kernel
theorem dX4_valueOf_46 : decode cX4_valueOf 46 = .ok (.if_icmp .ge 14, 3) := by decide +kernel
theorem dX4_valueOf_49 : decode cX4_valueOf 49 = .ok (.fload_n 3, 1) := by decide +kernel
theorem dX4_valueOf_50 : decode cX4_valueOf 50 = .ok (.ldc 21, 2) := by decide +kernel
theorem dX4_valueOf_52 : decode cX4_valueOf 52 = .ok (.fmul, 1) := by decide +kernel
theorem dX4_valueOf_53 : decode cX4_valueOf 53 = .ok (.fstore_n 3, 1) := by decide +kernel
theorem dX4_valueOf_54 : decode cX4_valueOf 54 = .ok (.iinc 5 1, 3) := by decide +kernel
theorem dX4_valueOf_57 : decode cX4_valueOf 57 = .ok (.goto (-15), 3) := by decide +kernel
theorem dX4_valueOf_60 : decode cX4_valueOf 60 = .ok (.fload_n 3, 1) := by decide +kernel
theorem dX4_valueOf_61 : decode cX4_valueOf 61 = .ok (.freturn, 1) := by decide +kernel
theorem dX5_init_0 : decode cX5_init 0 = .ok (.aload_n 0, 1) := by decide +kernel
theorem dX5_init_1 : decode cX5_init 1 = .ok (.invokespecial 3, 3) := by decide +kernel
theorem dX5_init_4 : decode cX5_init 4 = .ok (.aload_n 0, 1) := by decide +kernel
theorem dX5_init_5 : decode cX5_init 5 = .ok (.new 9, 3) := by decide +kernel
theorem dX5_init_8 : decode cX5_init 8 = .ok (.dup, 1) := by decide +kernel
theorem dX5_init_9 : decode cX5_init 9 = .ok (.invokespecial 11, 3) := by decide +kernel
theorem dX5_init_12 : decode cX5_init 12 = .ok (.putfield 12, 3) := by decide +kernel
theorem dX5_init_15 : decode cX5_init 15 = .ok (.aload_n 0, 1) := by decide +kernel
theorem dX5_init_16 : decode cX5_init 16 = .ok (.new 18, 3) := by decide +kernel
theorem dX5_init_19 : decode cX5_init 19 = .ok (.dup, 1) := by decide +kernel
theorem dX5_init_20 : decode cX5_init 20 = .ok (.ldc 20, 2) := by decide +kernel
theorem dX5_init_22 : decode cX5_init 22 = .ok (.ldc 21, 2) := by decide +kernel
theorem dX5_init_24 : decode cX5_init 24 = .ok (.invokespecial 22, 3) := by decide +kernel
theorem dX5_init_27 : decode cX5_init 27 = .ok (.putfield 25, 3) := by decide +kernel
theorem dX5_init_30 : decode cX5_init 30 = .ok (.aload_n 0, 1) := by decide +kernel
theorem dX5_init_31 : decode cX5_init 31 = .ok (.new 18, 3) := by decide +kernel
theorem dX5_init_34 : decode cX5_init 34 = .ok (.dup, 1) := by decide +kernel
theorem dX5_init_35 : decode cX5_init 35 = .ok (.ldc 29, 2) := by decide +kernel
theorem dX5_init_37 : decode cX5_init 37 = .ok (.ldc 30, 2) := by decide +kernel
theorem dX5_init_39 : decode cX5_init 39 = .ok (.invokespecial 22, 3) := by decide +kernel
theorem dX5_init_42 : decode cX5_init 42 = .ok (.putfield 31, 3) := by decide +kernel
theorem dX5_init_45 : decode cX5_init 45 = .ok (.aload_n 0, 1) := by decide +kernel
theorem dX5_init_46 : decode cX5_init 46 = .ok (.new 34, 3) := by decide +kernel
theorem dX5_init_49 : decode cX5_init 49 = .ok (.dup, 1) := by decide +kernel
theorem dX5_init_50 : decode cX5_init 50 = .ok (.invokespecial 36, 3) := by decide +kernel
theorem dX5_init_53 : decode cX5_init 53 = .ok (.putfield 37, 3) := by decide +kernel
theorem dX5_init_56 : decode cX5_init 56 = .ok (.aload_n 0, 1) := by decide +kernel
theorem dX5_init_57 : decode cX5_init 57 = .ok (.new 34, 3) := by decide +kernel
theorem dX5_init_60 : decode cX5_init 60 = .ok (.dup, 1) := by decide +kernel
theorem dX5_init_61 : decode cX5_init 61 = .ok (.invokespecial 36, 3) := by decide +kernel
theorem dX5_init_64 : decode cX5_init 64 = .ok (.putfield 41, 3) := by decide +kernel
theorem dX5_init_67 : decode cX5_init 67 = .ok (.aload_n 0, 1) := by decide +kernel
theorem dX5_init_68 : decode cX5_init 68 = .ok (.new 44, 3) := by decide +kernel
theorem dX5_init_71 : decode cX5_init 71 = .ok (.dup, 1) := by decide +kernel
theorem dX5_init_72 : decode cX5_init 72 = .ok (.invokespecial 46, 3) := by decide +kernel
theorem dX5_init_75 : decode cX5_init 75 = .ok (.putfield 47, 3) := by decide +kernel
theorem dX5_init_78 : decode cX5_init 78 = .ok (.return_, 1) := by decide +kernel
theorem dX5_copyFrom_0 : decode cX5_copyFrom 0 = .ok (.aload_n 0, 1) := by decide +kernel
theorem dX5_copyFrom_1 : decode cX5_copyFrom 1 = .ok (.getfield 12, 3) := by decide +kernel
theorem dX5_copyFrom_4 : decode cX5_copyFrom 4 = .ok (.aload_n 1, 1) := by decide +kernel
theorem dX5_copyFrom_5 : decode cX5_copyFrom 5 = .ok (.getfield 12, 3) := by decide +kernel
theorem dX5_copyFrom_8 : decode cX5_copyFrom 8 = .ok (.invokevirtual 51, 3) := by decide +kernel
theorem dX5_copyFrom_11 : decode cX5_copyFrom 11 = .ok (.aload_n 0, 1) := by decide +kernel
theorem dX5_copyFrom_12 : decode cX5_copyFrom 12 = .ok (.getfield 25, 3) := by decide +kernel
theorem dX5_copyFrom_15 : decode cX5_copyFrom 15 = .ok (.aload_n 1, 1) := by decide +kernel
theorem dX5_copyFrom_16 : decode cX5_copyFrom 16 = .ok (.getfield 25, 3) := by decide +kernel
theorem dX5_copyFrom_19 : decode cX5_copyFrom 19 = .ok (.invokevirtual 55, 3) := by decide +kernel
theorem dX5_copyFrom_22 : decode cX5_copyFrom 22 = .ok (.aload_n 0, 1) := by decide +kernel
theorem dX5_copyFrom_23 : decode cX5_copyFrom 23 = .ok (.getfield 31, 3) := by decide +kernel
theorem dX5_copyFrom_26 : decode cX5_copyFrom 26 = .ok (.aload_n 1, 1) := by decide +kernel
theorem dX5_copyFrom_27 : decode cX5_copyFrom 27 = .ok (.getfield 31, 3) := by decide +kernel
theorem dX5_copyFrom_30 : decode cX5_copyFrom 30 = .ok (.invokevirtual 55, 3) := by decide +kernel
theorem dX5_copyFrom_33 : decode cX5_copyFrom 33 = .ok (.aload_n 0, 1) := by decide +kernel
theorem dX5_copyFrom_34 : decode cX5_copyFrom 34 = .ok (.getfield 37, 3) := by decide +kernel
theorem dX5_copyFrom_37 : decode cX5_copyFrom 37 = .ok (.aload_n 1, 1) := by decide +kernel
theorem dX5_copyFrom_38 : decode cX5_copyFrom 38 = .ok (.getfield 37, 3) := by decide +kernel
theorem dX5_copyFrom_41 : decode cX5_copyFrom 41 = .ok (.invokevirtual 58, 3) := by decide +kernel
theorem dX5_copyFrom_44 : decode cX5_copyFrom 44 = .ok (.aload_n 0, 1) := by decide +kernel
theorem dX5_copyFrom_45 : decode cX5_copyFrom 45 = .ok (.getfield 41, 3) := by decide +kernel
theorem dX5_copyFrom_48 : decode cX5_copyFrom 48 = .ok (.aload_n 1, 1) := by decide +kernel
theorem dX5_copyFrom_49 : decode cX5_copyFrom 49 = .ok (.getfield 41, 3) := by decide +kernel
theorem dX5_copyFrom_52 : decode cX5_copyFrom 52 = .ok (.invokevirtual 58, 3) := by decide +kernel
theorem dX5_copyFrom_55 : decode cX5_copyFrom 55 = .ok (.aload_n 0, 1) := by decide +kernel
theorem dX5_copyFrom_56 : decode cX5_copyFrom 56 = .ok (.getfield 47, 3) := by decide +kernel
theorem dX5_copyFrom_59 : decode cX5_copyFrom 59 = .ok (.aload_n 1, 1) := by decide +kernel
theorem dX5_copyFrom_60 : decode cX5_copyFrom 60 = .ok (.getfield 47, 3) := by decide +kernel
theorem dX5_copyFrom_63 : decode cX5_copyFrom 63 = .ok (.invokevirtual 61, 3) := by decide +kernel
theorem dX5_copyFrom_66 : decode cX5_copyFrom 66 = .ok (.aload_n 0, 1) := by decide +kernel
theorem dX5_copyFrom_67 : decode cX5_copyFrom 67 = .ok (.aload_n 1, 1) := by decide +kernel
theorem dX5_copyFrom_68 : decode cX5_copyFrom 68 = .ok (.getfield 64, 3) := by decide +kernel
theorem dX5_copyFrom_71 : decode cX5_copyFrom 71 = .ok (.putfield 64, 3) := by decide +kernel
theorem dX5_copyFrom_74 : decode cX5_copyFrom 74 = .ok (.aload_n 0, 1) := by decide +kernel
theorem dX5_copyFrom_75 : decode cX5_copyFrom 75 = .ok (.aload_n 1, 1) := by decide +kernel
theorem dX5_copyFrom_76 : decode cX5_copyFrom 76 = .ok (.getfield 68, 3) := by decide +kernel
theorem dX5_copyFrom_79 : decode cX5_copyFrom 79 = .ok (.putfield 68, 3) := by decide +kernel
theorem dX5_copyFrom_82 : decode cX5_copyFrom 82 = .ok (.aload_n 0, 1) := by decide +kernel
theorem dX5_copyFrom_83 : decode cX5_copyFrom 83 = .ok (.aload_n 1, 1) := by decide +kernel
theorem dX5_copyFrom_84 : decode cX5_copyFrom 84 = .ok (.getfield 71, 3) := by decide +kernel
theorem dX5_copyFrom_87 : decode cX5_copyFrom 87 = .ok (.putfield 71, 3) := by decide +kernel
theorem dX5_copyFrom_90 : decode cX5_copyFrom 90 = .ok (.aload_n 0, 1) := by decide +kernel
theorem dX5_copyFrom_91 : decode cX5_copyFrom 91 = .ok (.aload_n 1, 1) := by decide +kernel
theorem dX5_copyFrom_92 : decode cX5_copyFrom 92 = .ok (.getfield 74, 3) := by decide +kernel
theorem dX5_copyFrom_95 : decode cX5_copyFrom 95 = .ok (.putfield 74, 3) := by decide +kernel
theorem dX5_copyFrom_98 : decode cX5_copyFrom 98 = .ok (.return_, 1) := by decide +kernel
theorem dX5_isTypist_0 : decode cX5_isTypist 0 = .ok (.iload_n 0, 1) := by decide +kernel
theorem dX5_isTypist_1 : decode cX5_isTypist 1 = .ok (.ifCond .eq 8, 3) := by decide +kernel
theorem dX5_isTypist_4 : decode cX5_isTypist 4 = .ok (.iload_n 0, 1) := by decide +kernel
theorem dX5_isTypist_5 : decode cX5_isTypist 5 = .ok (.iconst 1, 1) := by decide +kernel
theorem dX5_isTypist_6 : decode cX5_isTypist 6 = .ok (.if_icmp .ne 7, 3) := by decide +kernel
theorem dX5_isTypist_9 : decode cX5_isTypist 9 = .ok (.iconst 1, 1) := by decide +kernel
theorem dX5_isTypist_10 : decode cX5_isTypist 10 = .ok (.goto 4, 3) := by decide +kernel
theorem dX5_isTypist_13 : decode cX5_isTypist 13 = .ok (.iconst 0, 1) := by decide +kernel
theorem dX5_isTypist_14 : decode cX5_isTypist 14 = .ok (.ireturn, 1) := by decide +kernel
theorem dX5_typistOf_0 : decode cX5_typistOf 0 = .ok (.iload_n 1, 1) := by decide +kernel
theorem dX5_typistOf_1 : decode cX5_typistOf 1 = .ok (.ifCond .ne 10, 3) := by decide +kernel
theorem dX5_typistOf_4 : decode cX5_typistOf 4 = .ok (.aload_n 0, 1) := by decide +kernel
theorem dX5_typistOf_5 : decode cX5_typistOf 5 = .ok (.getfield 25, 3) := by decide +kernel
theorem dX5_typistOf_8 : decode cX5_typistOf 8 = .ok (.goto 7, 3) := by decide +kernel
theorem dX5_typistOf_11 : decode cX5_typistOf 11 = .ok (.aload_n 0, 1) := by decide +kernel
theorem dX5_typistOf_12 : decode cX5_typistOf 12 = .ok (.getfield 31, 3) := by decide +kernel
theorem dX5_typistOf_15 : decode cX5_typistOf 15 = .ok (.areturn, 1) := by decide +kernel
theorem dX5_hasDispute_0 : decode cX5_hasDispute 0 = .ok (.iload_n 1, 1) := by decide +kernel
theorem dX5_hasDispute_1 : decode cX5_hasDispute 1 = .ok (.ifCond .lt 18, 3) := by decide +kernel
theorem dX5_hasDispute_4 : decode cX5_hasDispute 4 = .ok (.iload_n 1, 1) := by decide +kernel
theorem dX5_hasDispute_5 : decode cX5_hasDispute 5 = .ok (.aload_n 0, 1) := by decide +kernel
theorem dX5_hasDispute_6 : decode cX5_hasDispute 6 = .ok (.getfield 41, 3) := by decide +kernel
theorem dX5_hasDispute_9 : decode cX5_hasDispute 9 = .ok (.getfield 77, 3) := by decide +kernel
theorem dX5_hasDispute_12 : decode cX5_hasDispute 12 = .ok (.if_icmp .ge 7, 3) := by decide +kernel
theorem dX5_hasDispute_15 : decode cX5_hasDispute 15 = .ok (.iconst 1, 1) := by decide +kernel
theorem dX5_hasDispute_16 : decode cX5_hasDispute 16 = .ok (.goto 4, 3) := by decide +kernel
theorem dX5_hasDispute_19 : decode cX5_hasDispute 19 = .ok (.iconst 0, 1) := by decide +kernel
theorem dX5_hasDispute_20 : decode cX5_hasDispute 20 = .ok (.ireturn, 1) := by decide +kernel
theorem dX5_pressError_0 : decode cX5_pressError 0 = .ok (.iload_n 1, 1) := by decide +kernel
theorem dX5_pressError_1 : decode cX5_pressError 1 = .ok (.invokestatic 80, 3) := by decide +kernel
theorem dX5_pressError_4 : decode cX5_pressError 4 = .ok (.ifCond .eq 14, 3) := by decide +kernel
theorem dX5_pressError_7 : decode cX5_pressError 7 = .ok (.aload_n 0, 1) := by decide +kernel
theorem dX5_pressError_8 : decode cX5_pressError 8 = .ok (.getfield 12, 3) := by decide +kernel
theorem dX5_pressError_11 : decode cX5_pressError 11 = .ok (.iload_n 2, 1) := by decide +kernel
theorem dX5_pressError_12 : decode cX5_pressError 12 = .ok (.invokevirtual 84, 3) := by decide +kernel
theorem dX5_pressError_15 : decode cX5_pressError 15 = .ok (.ifCond .ne 5, 3) := by decide +kernel
theorem dX5_pressError_18 : decode cX5_pressError 18 = .ok (.iconst (-1), 1) := by decide +kernel
theorem dX5_pressError_19 : decode cX5_pressError 19 = .ok (.ireturn, 1) := by decide +kernel
theorem dX5_pressError_20 : decode cX5_pressError 20 = .ok (.aload_n 0, 1) := by decide +kernel
theorem dX5_pressError_21 : decode cX5_pressError 21 = .ok (.getfield 12, 3) := by decide +kernel
theorem dX5_pressError_24 : decode cX5_pressError 24 = .ok (.iload_n 2, 1) := by decide +kernel
theorem dX5_pressError_25 : decode cX5_pressError 25 = .ok (.invokevirtual 87, 3) := by decide +kernel
theorem dX5_pressError_28 : decode cX5_pressError 28 = .ok (.ifCond .eq 6, 3) := by decide +kernel
theorem dX5_pressError_31 : decode cX5_pressError 31 = .ok (.bipush (-4), 2) := by decide +kernel
theorem dX5_pressError_33 : decode cX5_pressError 33 = .ok (.ireturn, 1) := by decide +kernel
theorem dX5_pressError_34 : decode cX5_pressError 34 = .ok (.aload_n 0, 1) := by decide +kernel
theorem dX5_pressError_35 : decode cX5_pressError 35 = .ok (.getfield 12, 3) := by decide +kernel
theorem dX5_pressError_38 : decode cX5_pressError 38 = .ok (.iload_n 1, 1) := by decide +kernel
theorem dX5_pressError_39 : decode cX5_pressError 39 = .ok (.invokevirtual 90, 3) := by decide +kernel
theorem dX5_pressError_42 : decode cX5_pressError 42 = .ok (.iconst 5, 1) := by decide +kernel
theorem dX5_pressError_43 : decode cX5_pressError 43 = .ok (.if_icmp .lt 8, 3) := by decide +kernel
theorem dX5_pressError_46 : decode cX5_pressError 46 = .ok (.bipush (-3), 2) := by decide +kernel
theorem dX5_pressError_48 : decode cX5_pressError 48 = .ok (.goto 4, 3) := by decide +kernel
theorem dX5_pressError_51 : decode cX5_pressError 51 = .ok (.iconst 0, 1) := by decide +kernel
theorem dX5_pressError_52 : decode cX5_pressError 52 = .ok (.ireturn, 1) := by decide +kernel
theorem dX5_releaseError_0 : decode cX5_releaseError 0 = .ok (.iload_n 1, 1) := by decide +kernel
theorem dX5_releaseError_1 : decode cX5_releaseError 1 = .ok (.invokestatic 80, 3) := by decide +kernel
theorem dX5_releaseError_4 : decode cX5_releaseError 4 = .ok (.ifCond .eq 14, 3) := by decide +kernel
theorem dX5_releaseError_7 : decode cX5_releaseError 7 = .ok (.aload_n 0, 1) := by decide +kernel
theorem dX5_releaseError_8 : decode cX5_releaseError 8 = .ok (.getfield 12, 3) := by decide +kernel
theorem dX5_releaseError_11 : decode cX5_releaseError 11 = .ok (.iload_n 2, 1) := by decide +kernel
theorem dX5_releaseError_12 : decode cX5_releaseError 12 = .ok (.invokevirtual 84, 3) := by decide +kernel
theorem dX5_releaseError_15 : decode cX5_releaseError 15 = .ok (.ifCond .ne 5, 3) := by decide +kernel
theorem dX5_releaseError_18 : decode cX5_releaseError 18 = .ok (.iconst (-1), 1) := by decide +kernel
theorem dX5_releaseError_19 : decode cX5_releaseError 19 = .ok (.ireturn, 1) := by decide +kernel
theorem dX5_releaseError_20 : decode cX5_releaseError 20 = .ok (.aload_n 0, 1) := by decide +kernel
theorem dX5_releaseError_21 : decode cX5_releaseError 21 = .ok (.getfield 12, 3) := by decide +kernel
theorem dX5_releaseError_24 : decode cX5_releaseError 24 = .ok (.iload_n 2, 1) := by decide +kernel
theorem dX5_releaseError_25 : decode cX5_releaseError 25 = .ok (.invokevirtual 94, 3) := by decide +kernel
theorem dX5_releaseError_28 : decode cX5_releaseError 28 = .ok (.iload_n 1, 1) := by decide +kernel
theorem dX5_releaseError_29 : decode cX5_releaseError 29 = .ok (.if_icmp .ne 7, 3) := by decide +kernel
theorem dX5_releaseError_32 : decode cX5_releaseError 32 = .ok (.iconst 0, 1) := by decide +kernel
theorem dX5_releaseError_33 : decode cX5_releaseError 33 = .ok (.goto 5, 3) := by decide +kernel
theorem dX5_releaseError_36 : decode cX5_releaseError 36 = .ok (.bipush (-4), 2) := by decide +kernel
theorem dX5_releaseError_38 : decode cX5_releaseError 38 = .ok (.ireturn, 1) := by decide +kernel
theorem dX5_drivenRow_0 : decode cX5_drivenRow 0 = .ok (.aload_n 0, 1) := by decide +kernel
theorem dX5_drivenRow_1 : decode cX5_drivenRow 1 = .ok (.getfield 12, 3) := by decide +kernel
theorem dX5_drivenRow_4 : decode cX5_drivenRow 4 = .ok (.getfield 97, 3) := by decide +kernel
theorem dX5_drivenRow_7 : decode cX5_drivenRow 7 = .ok (.ifCond .le 20, 3) := by decide +kernel
theorem dX5_drivenRow_10 : decode cX5_drivenRow 10 = .ok (.aload_n 0, 1) := by decide +kernel
theorem dX5_drivenRow_11 : decode cX5_drivenRow 11 = .ok (.getfield 64, 3) := by decide +kernel
theorem dX5_drivenRow_14 : decode cX5_drivenRow 14 = .ok (.aload_n 0, 1) := by decide +kernel
theorem dX5_drivenRow_15 : decode cX5_drivenRow 15 = .ok (.getfield 12, 3) := by decide +kernel
theorem dX5_drivenRow_18 : decode cX5_drivenRow 18 = .ok (.getfield 97, 3) := by decide +kernel
theorem dX5_drivenRow_21 : decode cX5_drivenRow 21 = .ok (.invokestatic 100, 3) := by decide +kernel
theorem dX5_drivenRow_24 : decode cX5_drivenRow 24 = .ok (.goto 4, 3) := by decide +kernel
theorem dX5_drivenRow_27 : decode cX5_drivenRow 27 = .ok (.iconst 0, 1) := by decide +kernel
theorem dX5_drivenRow_28 : decode cX5_drivenRow 28 = .ok (.ireturn, 1) := by decide +kernel
theorem dX5_pass_0 : decode cX5_pass 0 = .ok (.aload_n 0, 1) := by decide +kernel
theorem dX5_pass_1 : decode cX5_pass 1 = .ok (.getfield 37, 3) := by decide +kernel
theorem dX5_pass_4 : decode cX5_pass 4 = .ok (.getfield 77, 3) := by decide +kernel
theorem dX5_pass_7 : decode cX5_pass 7 = .ok (.istore_n 2, 1) := by decide +kernel
theorem dX5_pass_8 : decode cX5_pass 8 = .ok (.iconst 0, 1) := by decide +kernel
theorem dX5_pass_9 : decode cX5_pass 9 = .ok (.istore_n 3, 1) := by decide +kernel
theorem dX5_pass_10 : decode cX5_pass 10 = .ok (.iload_n 3, 1) := by decide +kernel
theorem dX5_pass_11 : decode cX5_pass 11 = .ok (.iload_n 1, 1) := by decide +kernel
theorem dX5_pass_12 : decode cX5_pass 12 = .ok (.if_icmp .ge 134, 3) := by decide +kernel
theorem dX5_pass_15 : decode cX5_pass 15 = .ok (.aload_n 0, 1) := by decide +kernel
theorem dX5_pass_16 : decode cX5_pass 16 = .ok (.invokevirtual 106, 3) := by decide +kernel
theorem dX5_pass_19 : decode cX5_pass 19 = .ok (.istore 4, 2) := by decide +kernel
theorem dX5_pass_21 : decode cX5_pass 21 = .ok (.aload_n 0, 1) := by decide +kernel
theorem dX5_pass_22 : decode cX5_pass 22 = .ok (.getfield 12, 3) := by decide +kernel
theorem dX5_pass_25 : decode cX5_pass 25 = .ok (.getfield 110, 3) := by decide +kernel
theorem dX5_pass_28 : decode cX5_pass 28 = .ok (.iload 4, 2) := by decide +kernel
theorem dX5_pass_30 : decode cX5_pass 30 = .ok (.invokestatic 114, 3) := by decide +kernel
theorem dX5_pass_33 : decode cX5_pass 33 = .ok (.istore 5, 2) := by decide +kernel
theorem dX5_pass_35 : decode cX5_pass 35 = .ok (.aload_n 0, 1) := by decide +kernel
theorem dX5_pass_36 : decode cX5_pass 36 = .ok (.getfield 12, 3) := by decide +kernel
theorem dX5_pass_39 : decode cX5_pass 39 = .ok (.iload 4, 2) := by decide +kernel
theorem dX5_pass_41 : decode cX5_pass 41 = .ok (.iconst (-1), 1) := by decide +kernel
theorem dX5_pass_42 : decode cX5_pass 42 = .ok (.invokevirtual 120, 3) := by decide +kernel
theorem dX5_pass_45 : decode cX5_pass 45 = .ok (.istore 6, 2) := by decide +kernel
theorem dX5_pass_47 : decode cX5_pass 47 = .ok (.iconst 0, 1) := by decide +kernel
theorem dX5_pass_48 : decode cX5_pass 48 = .ok (.istore 7, 2) := by decide +kernel
theorem dX5_pass_50 : decode cX5_pass 50 = .ok (.iload 7, 2) := by decide +kernel
theorem dX5_pass_52 : decode cX5_pass 52 = .ok (.aload_n 0, 1) := by decide +kernel
theorem dX5_pass_53 : decode cX5_pass 53 = .ok (.getfield 12, 3) := by decide +kernel
theorem dX5_pass_56 : decode cX5_pass 56 = .ok (.getfield 123, 3) := by decide +kernel
theorem dX5_pass_59 : decode cX5_pass 59 = .ok (.if_icmp .ge 41, 3) := by decide +kernel
theorem dX5_pass_62 : decode cX5_pass 62 = .ok (.iload 5, 2) := by decide +kernel
theorem dX5_pass_64 : decode cX5_pass 64 = .ok (.iload 6, 2) := by decide +kernel
theorem dX5_pass_66 : decode cX5_pass 66 = .ok (.iconst (-1), 1) := by decide +kernel
theorem dX5_pass_67 : decode cX5_pass 67 = .ok (.ixor, 1) := by decide +kernel
theorem dX5_pass_68 : decode cX5_pass 68 = .ok (.iand, 1) := by decide +kernel
theorem dX5_pass_69 : decode cX5_pass 69 = .ok (.iconst 1, 1) := by decide +kernel
theorem dX5_pass_70 : decode cX5_pass 70 = .ok (.iload 7, 2) := by decide +kernel
theorem dX5_pass_72 : decode cX5_pass 72 = .ok (.ishl, 1) := by decide +kernel
theorem dX5_pass_73 : decode cX5_pass 73 = .ok (.iand, 1) := by decide +kernel
theorem dX5_pass_74 : decode cX5_pass 74 = .ok (.ifCond .eq 20, 3) := by decide +kernel
theorem dX5_pass_77 : decode cX5_pass 77 = .ok (.aload_n 0, 1) := by decide +kernel
theorem dX5_pass_78 : decode cX5_pass 78 = .ok (.iload 4, 2) := by decide +kernel
theorem dX5_pass_80 : decode cX5_pass 80 = .ok (.aload_n 0, 1) := by decide +kernel
theorem dX5_pass_81 : decode cX5_pass 81 = .ok (.getfield 12, 3) := by decide +kernel
theorem dX5_pass_84 : decode cX5_pass 84 = .ok (.getfield 123, 3) := by decide +kernel
theorem dX5_pass_87 : decode cX5_pass 87 = .ok (.imul, 1) := by decide +kernel
theorem dX5_pass_88 : decode cX5_pass 88 = .ok (.iload 7, 2) := by decide +kernel
theorem dX5_pass_90 : decode cX5_pass 90 = .ok (.iadd, 1) := by decide +kernel
theorem dX5_pass_91 : decode cX5_pass 91 = .ok (.invokevirtual 126, 3) := by decide +kernel
theorem dX5_pass_94 : decode cX5_pass 94 = .ok (.iinc 7 1, 3) := by decide +kernel
theorem dX5_pass_97 : decode cX5_pass 97 = .ok (.goto (-47), 3) := by decide +kernel
theorem dX5_pass_100 : decode cX5_pass 100 = .ok (.iload 6, 2) := by decide +kernel
theorem dX5_pass_102 : decode cX5_pass 102 = .ok (.iload 5, 2) := by decide +kernel
theorem dX5_pass_104 : decode cX5_pass 104 = .ok (.iconst (-1), 1) := by decide +kernel
theorem dX5_pass_105 : decode cX5_pass 105 = .ok (.ixor, 1) := by decide +kernel
theorem dX5_pass_106 : decode cX5_pass 106 = .ok (.iand, 1) := by decide +kernel
theorem dX5_pass_107 : decode cX5_pass 107 = .ok (.ifCond .eq 23, 3) := by decide +kernel
theorem dX5_pass_110 : decode cX5_pass 110 = .ok (.aload_n 0, 1) := by decide +kernel
theorem dX5_pass_111 : decode cX5_pass 111 = .ok (.getfield 12, 3) := by decide +kernel
theorem dX5_pass_114 : decode cX5_pass 114 = .ok (.iload 4, 2) := by decide +kernel
theorem dX5_pass_116 : decode cX5_pass 116 = .ok (.iload 6, 2) := by decide +kernel
theorem dX5_pass_118 : decode cX5_pass 118 = .ok (.iload 5, 2) := by decide +kernel
theorem dX5_pass_120 : decode cX5_pass 120 = .ok (.iconst (-1), 1) := by decide +kernel
theorem dX5_pass_121 : decode cX5_pass 121 = .ok (.ixor, 1) := by decide +kernel
theorem dX5_pass_122 : decode cX5_pass 122 = .ok (.iand, 1) := by decide +kernel
theorem dX5_pass_123 : decode cX5_pass 123 = .ok (.aload_n 0, 1) := by decide +kernel
theorem dX5_pass_124 : decode cX5_pass 124 = .ok (.getfield 64, 3) := by decide +kernel
theorem dX5_pass_127 : decode cX5_pass 127 = .ok (.invokevirtual 130, 3) := by decide +kernel
theorem dX5_pass_130 : decode cX5_pass 130 = .ok (.aload_n 0, 1) := by decide +kernel
theorem dX5_pass_131 : decode cX5_pass 131 = .ok (.dup, 1) := by decide +kernel
theorem dX5_pass_132 : decode cX5_pass 132 = .ok (.getfield 64, 3) := by decide +kernel
theorem dX5_pass_135 : decode cX5_pass 135 = .ok (.iconst 1, 1) := by decide +kernel
theorem dX5_pass_136 : decode cX5_pass 136 = .ok (.iadd, 1) := by decide +kernel
theorem dX5_pass_137 : decode cX5_pass 137 = .ok (.putfield 64, 3) := by decide +kernel
theorem dX5_pass_140 : decode cX5_pass 140 = .ok (.iinc 3 1, 3) := by decide +kernel
theorem dX5_pass_143 : decode cX5_pass 143 = .ok (.goto (-133), 3) := by decide +kernel
theorem dX5_pass_146 : decode cX5_pass 146 = .ok (.aload_n 0, 1) := by decide +kernel
theorem dX5_pass_147 : decode cX5_pass 147 = .ok (.getfield 37, 3) := by decide +kernel
theorem dX5_pass_150 : decode cX5_pass 150 = .ok (.getfield 77, 3) := by decide +kernel
theorem dX5_pass_153 : decode cX5_pass 153 = .ok (.iload_n 2, 1) := by decide +kernel
theorem dX5_pass_154 : decode cX5_pass 154 = .ok (.isub, 1) := by decide +kernel
theorem dX5_pass_155 : decode cX5_pass 155 = .ok (.ireturn, 1) := by decide +kernel
theorem dX5_fateNow_0 : decode cX5_fateNow 0 = .ok (.aload_n 0, 1) := by decide +kernel
theorem dX5_fateNow_1 : decode cX5_fateNow 1 = .ok (.getfield 12, 3) := by decide +kernel
theorem dX5_fateNow_4 : decode cX5_fateNow 4 = .ok (.iload_n 1, 1) := by decide +kernel
theorem dX5_fateNow_5 : decode cX5_fateNow 5 = .ok (.invokevirtual 134, 3) := by decide +kernel
theorem dX5_fateNow_8 : decode cX5_fateNow 8 = .ok (.istore_n 2, 1) := by decide +kernel
theorem dX5_fateNow_9 : decode cX5_fateNow 9 = .ok (.aload_n 0, 1) := by decide +kernel
theorem dX5_fateNow_10 : decode cX5_fateNow 10 = .ok (.getfield 12, 3) := by decide +kernel
theorem dX5_fateNow_13 : decode cX5_fateNow 13 = .ok (.iload_n 1, 1) := by decide +kernel
theorem dX5_fateNow_14 : decode cX5_fateNow 14 = .ok (.invokevirtual 137, 3) := by decide +kernel
theorem dX5_fateNow_17 : decode cX5_fateNow 17 = .ok (.istore_n 3, 1) := by decide +kernel
theorem dX5_fateNow_18 : decode cX5_fateNow 18 = .ok (.iload_n 3, 1) := by decide +kernel
theorem dX5_fateNow_19 : decode cX5_fateNow 19 = .ok (.iconst (-1), 1) := by decide +kernel
theorem dX5_fateNow_20 : decode cX5_fateNow 20 = .ok (.if_icmp .eq 13, 3) := by decide +kernel
theorem dX5_fateNow_23 : decode cX5_fateNow 23 = .ok (.iload_n 2, 1) := by decide +kernel
theorem dX5_fateNow_24 : decode cX5_fateNow 24 = .ok (.ifCond .eq 7, 3) := by decide +kernel
theorem dX5_fateNow_27 : decode cX5_fateNow 27 = .ok (.iconst 2, 1) := by decide +kernel
theorem dX5_fateNow_28 : decode cX5_fateNow 28 = .ok (.goto 4, 3) := by decide +kernel
theorem dX5_fateNow_31 : decode cX5_fateNow 31 = .ok (.iload_n 3, 1) := by decide +kernel
theorem dX5_fateNow_32 : decode cX5_fateNow 32 = .ok (.ireturn, 1) := by decide +kernel
theorem dX5_fateNow_33 : decode cX5_fateNow 33 = .ok (.aload_n 0, 1) := by decide +kernel
theorem dX5_fateNow_34 : decode cX5_fateNow 34 = .ok (.getfield 12, 3) := by decide +kernel
theorem dX5_fateNow_37 : decode cX5_fateNow 37 = .ok (.iload_n 1, 1) := by decide +kernel
theorem dX5_fateNow_38 : decode cX5_fateNow 38 = .ok (.invokevirtual 140, 3) := by decide +kernel
theorem dX5_fateNow_41 : decode cX5_fateNow 41 = .ok (.istore 4, 2) := by decide +kernel
theorem dX5_fateNow_43 : decode cX5_fateNow 43 = .ok (.aload_n 0, 1) := by decide +kernel
theorem dX5_fateNow_44 : decode cX5_fateNow 44 = .ok (.getfield 25, 3) := by decide +kernel
theorem dX5_fateNow_47 : decode cX5_fateNow 47 = .ok (.iload 4, 2) := by decide +kernel
theorem dX5_fateNow_49 : decode cX5_fateNow 49 = .ok (.aload_n 0, 1) := by decide +kernel
theorem dX5_fateNow_50 : decode cX5_fateNow 50 = .ok (.getfield 64, 3) := by decide +kernel
theorem dX5_fateNow_53 : decode cX5_fateNow 53 = .ok (.iload 4, 2) := by decide +kernel
theorem dX5_fateNow_55 : decode cX5_fateNow 55 = .ok (.isub, 1) := by decide +kernel
theorem dX5_fateNow_56 : decode cX5_fateNow 56 = .ok (.invokevirtual 143, 3) := by decide +kernel
theorem dX5_fateNow_59 : decode cX5_fateNow 59 = .ok (.fstore 5, 2) := by decide +kernel
theorem dX5_fateNow_61 : decode cX5_fateNow 61 = .ok (.aload_n 0, 1) := by decide +kernel
theorem dX5_fateNow_62 : decode cX5_fateNow 62 = .ok (.getfield 31, 3) := by decide +kernel
theorem dX5_fateNow_65 : decode cX5_fateNow 65 = .ok (.iload 4, 2) := by decide +kernel
theorem dX5_fateNow_67 : decode cX5_fateNow 67 = .ok (.aload_n 0, 1) := by decide +kernel
theorem dX5_fateNow_68 : decode cX5_fateNow 68 = .ok (.getfield 64, 3) := by decide +kernel
theorem dX5_fateNow_71 : decode cX5_fateNow 71 = .ok (.iload 4, 2) := by decide +kernel
theorem dX5_fateNow_73 : decode cX5_fateNow 73 = .ok (.isub, 1) := by decide +kernel
theorem dX5_fateNow_74 : decode cX5_fateNow 74 = .ok (.invokevirtual 143, 3) := by decide +kernel
theorem dX5_fateNow_77 : decode cX5_fateNow 77 = .ok (.fstore 6, 2) := by decide +kernel
theorem dX5_fateNow_79 : decode cX5_fateNow 79 = .ok (.fload 6, 2) := by decide +kernel
theorem dX5_fateNow_81 : decode cX5_fateNow 81 = .ok (.fload 5, 2) := by decide +kernel
theorem dX5_fateNow_83 : decode cX5_fateNow 83 = .ok (.fcmp .g, 1) := by decide +kernel
theorem dX5_fateNow_84 : decode cX5_fateNow 84 = .ok (.ifCond .ge 7, 3) := by decide +kernel
theorem dX5_fateNow_87 : decode cX5_fateNow 87 = .ok (.iconst 1, 1) := by decide +kernel
theorem dX5_fateNow_88 : decode cX5_fateNow 88 = .ok (.goto 4, 3) := by decide +kernel
theorem dX5_fateNow_91 : decode cX5_fateNow 91 = .ok (.iconst 0, 1) := by decide +kernel
theorem dX5_fateNow_92 : decode cX5_fateNow 92 = .ok (.istore 7, 2) := by decide +kernel
theorem dX5_fateNow_94 : decode cX5_fateNow 94 = .ok (.iload_n 2, 1) := by decide +kernel
theorem dX5_fateNow_95 : decode cX5_fateNow 95 = .ok (.ifCond .eq 37, 3) := by decide +kernel
theorem dX5_fateNow_98 : decode cX5_fateNow 98 = .ok (.iload 7, 2) := by decide +kernel
theorem dX5_fateNow_100 : decode cX5_fateNow 100 = .ok (.ifCond .ne 8, 3) := by decide +kernel
theorem dX5_fateNow_103 : decode cX5_fateNow 103 = .ok (.fload 5, 2) := by decide +kernel
theorem dX5_fateNow_105 : decode cX5_fateNow 105 = .ok (.goto 5, 3) := by decide +kernel
theorem dX5_fateNow_108 : decode cX5_fateNow 108 = .ok (.fload 6, 2) := by decide +kernel
theorem dX5_fateNow_110 : decode cX5_fateNow 110 = .ok (.fstore 8, 2) := by decide +kernel
theorem dX5_fateNow_112 : decode cX5_fateNow 112 = .ok (.fload 8, 2) := by decide +kernel
theorem dX5_fateNow_114 : decode cX5_fateNow 114 = .ok (.aload_n 0, 1) := by decide +kernel
theorem dX5_fateNow_115 : decode cX5_fateNow 115 = .ok (.getfield 47, 3) := by decide +kernel
theorem dX5_fateNow_118 : decode cX5_fateNow 118 = .ok (.getfield 147, 3) := by decide +kernel
theorem dX5_fateNow_121 : decode cX5_fateNow 121 = .ok (.fcmp .g, 1) := by decide +kernel
theorem dX5_fateNow_122 : decode cX5_fateNow 122 = .ok (.ifCond .gt 8, 3) := by decide +kernel
theorem dX5_fateNow_125 : decode cX5_fateNow 125 = .ok (.iload 7, 2) := by decide +kernel
theorem dX5_fateNow_127 : decode cX5_fateNow 127 = .ok (.goto 4, 3) := by decide +kernel
theorem dX5_fateNow_130 : decode cX5_fateNow 130 = .ok (.iconst 2, 1) := by decide +kernel
theorem dX5_fateNow_131 : decode cX5_fateNow 131 = .ok (.ireturn, 1) := by decide +kernel
theorem dX5_fateNow_132 : decode cX5_fateNow 132 = .ok (.fload 5, 2) := by decide +kernel
theorem dX5_fateNow_134 : decode cX5_fateNow 134 = .ok (.fload 6, 2) := by decide +kernel
theorem dX5_fateNow_136 : decode cX5_fateNow 136 = .ok (.fsub, 1) := by decide +kernel
theorem dX5_fateNow_137 : decode cX5_fateNow 137 = .ok (.invokestatic 151, 3) := by decide +kernel
theorem dX5_fateNow_140 : decode cX5_fateNow 140 = .ok (.aload_n 0, 1) := by decide +kernel
theorem dX5_fateNow_141 : decode cX5_fateNow 141 = .ok (.getfield 47, 3) := by decide +kernel
theorem dX5_fateNow_144 : decode cX5_fateNow 144 = .ok (.getfield 155, 3) := by decide +kernel
theorem dX5_fateNow_147 : decode cX5_fateNow 147 = .ok (.fcmp .g, 1) := by decide +kernel
theorem dX5_fateNow_148 : decode cX5_fateNow 148 = .ok (.ifCond .ge 21, 3) := by decide +kernel
theorem dX5_fateNow_151 : decode cX5_fateNow 151 = .ok (.aload_n 0, 1) := by decide +kernel
theorem dX5_fateNow_152 : decode cX5_fateNow 152 = .ok (.getfield 41, 3) := by decide +kernel
theorem dX5_fateNow_155 : decode cX5_fateNow 155 = .ok (.getfield 77, 3) := by decide +kernel
theorem dX5_fateNow_158 : decode cX5_fateNow 158 = .ok (.bipush 20, 2) := by decide +kernel
theorem dX5_fateNow_160 : decode cX5_fateNow 160 = .ok (.if_icmp .ge 7, 3) := by decide +kernel
theorem dX5_fateNow_163 : decode cX5_fateNow 163 = .ok (.iconst 3, 1) := by decide +kernel
theorem dX5_fateNow_164 : decode cX5_fateNow 164 = .ok (.goto 4, 3) := by decide +kernel
theorem dX5_fateNow_167 : decode cX5_fateNow 167 = .ok (.iconst 2, 1) := by decide +kernel
theorem dX5_fateNow_168 : decode cX5_fateNow 168 = .ok (.ireturn, 1) := by decide +kernel
theorem dX5_fateNow_169 : decode cX5_fateNow 169 = .ok (.iload 7, 2) := by decide +kernel
theorem dX5_fateNow_171 : decode cX5_fateNow 171 = .ok (.ireturn, 1) := by decide +kernel
theorem dX5_endStroke_0 : decode cX5_endStroke 0 = .ok (.aload_n 0, 1) := by decide +kernel
theorem dX5_endStroke_1 : decode cX5_endStroke 1 = .ok (.iload_n 1, 1) := by decide +kernel
theorem dX5_endStroke_2 : decode cX5_endStroke 2 = .ok (.invokevirtual 158, 3) := by decide +kernel
theorem dX5_endStroke_5 : decode cX5_endStroke 5 = .ok (.istore_n 2, 1) := by decide +kernel
theorem dX5_endStroke_6 : decode cX5_endStroke 6 = .ok (.aload_n 0, 1) := by decide +kernel
theorem dX5_endStroke_7 : decode cX5_endStroke 7 = .ok (.getfield 37, 3) := by decide +kernel
theorem dX5_endStroke_10 : decode cX5_endStroke 10 = .ok (.aload_n 0, 1) := by decide +kernel
theorem dX5_endStroke_11 : decode cX5_endStroke 11 = .ok (.getfield 12, 3) := by decide +kernel
theorem dX5_endStroke_14 : decode cX5_endStroke 14 = .ok (.iload_n 1, 1) := by decide +kernel
theorem dX5_endStroke_15 : decode cX5_endStroke 15 = .ok (.aload_n 0, 1) := by decide +kernel
theorem dX5_endStroke_16 : decode cX5_endStroke 16 = .ok (.getfield 64, 3) := by decide +kernel
theorem dX5_endStroke_19 : decode cX5_endStroke 19 = .ok (.iload_n 2, 1) := by decide +kernel
theorem dX5_endStroke_20 : decode cX5_endStroke 20 = .ok (.invokevirtual 161, 3) := by decide +kernel
theorem dX5_endStroke_23 : decode cX5_endStroke 23 = .ok (.aload_n 0, 1) := by decide +kernel
theorem dX5_endStroke_24 : decode cX5_endStroke 24 = .ok (.getfield 12, 3) := by decide +kernel
theorem dX5_endStroke_27 : decode cX5_endStroke 27 = .ok (.iload_n 1, 1) := by decide +kernel
theorem dX5_endStroke_28 : decode cX5_endStroke 28 = .ok (.invokevirtual 165, 3) := by decide +kernel
theorem dX5_endStroke_31 : decode cX5_endStroke 31 = .ok (.iload_n 2, 1) := by decide +kernel
theorem dX5_endStroke_32 : decode cX5_endStroke 32 = .ok (.iconst 3, 1) := by decide +kernel
theorem dX5_endStroke_33 : decode cX5_endStroke 33 = .ok (.if_icmp .ne 27, 3) := by decide +kernel
theorem dX5_endStroke_36 : decode cX5_endStroke 36 = .ok (.aload_n 0, 1) := by decide +kernel
theorem dX5_endStroke_37 : decode cX5_endStroke 37 = .ok (.getfield 41, 3) := by decide +kernel
theorem dX5_endStroke_40 : decode cX5_endStroke 40 = .ok (.aload_n 0, 1) := by decide +kernel
theorem dX5_endStroke_41 : decode cX5_endStroke 41 = .ok (.getfield 37, 3) := by decide +kernel
theorem dX5_endStroke_44 : decode cX5_endStroke 44 = .ok (.invokevirtual 168, 3) := by decide +kernel
theorem dX5_endStroke_47 : decode cX5_endStroke 47 = .ok (.aload_n 0, 1) := by decide +kernel
theorem dX5_endStroke_48 : decode cX5_endStroke 48 = .ok (.dup, 1) := by decide +kernel
theorem dX5_endStroke_49 : decode cX5_endStroke 49 = .ok (.getfield 74, 3) := by decide +kernel
theorem dX5_endStroke_52 : decode cX5_endStroke 52 = .ok (.iconst 1, 1) := by decide +kernel
theorem dX5_endStroke_53 : decode cX5_endStroke 53 = .ok (.iadd, 1) := by decide +kernel
theorem dX5_endStroke_54 : decode cX5_endStroke 54 = .ok (.putfield 74, 3) := by decide +kernel
theorem dX5_endStroke_57 : decode cX5_endStroke 57 = .ok (.goto 38, 3) := by decide +kernel
theorem dX5_endStroke_60 : decode cX5_endStroke 60 = .ok (.aload_n 0, 1) := by decide +kernel
theorem dX5_endStroke_61 : decode cX5_endStroke 61 = .ok (.aload_n 0, 1) := by decide +kernel
theorem dX5_endStroke_62 : decode cX5_endStroke 62 = .ok (.getfield 37, 3) := by decide +kernel
theorem dX5_endStroke_65 : decode cX5_endStroke 65 = .ok (.aload_n 0, 1) := by decide +kernel
theorem dX5_endStroke_66 : decode cX5_endStroke 66 = .ok (.getfield 37, 3) := by decide +kernel
theorem dX5_endStroke_69 : decode cX5_endStroke 69 = .ok (.getfield 77, 3) := by decide +kernel
theorem dX5_endStroke_72 : decode cX5_endStroke 72 = .ok (.iconst 1, 1) := by decide +kernel
theorem dX5_endStroke_73 : decode cX5_endStroke 73 = .ok (.isub, 1) := by decide +kernel
theorem dX5_endStroke_74 : decode cX5_endStroke 74 = .ok (.iload_n 2, 1) := by decide +kernel
theorem dX5_endStroke_75 : decode cX5_endStroke 75 = .ok (.aload_n 0, 1) := by decide +kernel
theorem dX5_endStroke_76 : decode cX5_endStroke 76 = .ok (.getfield 12, 3) := by decide +kernel
theorem dX5_endStroke_79 : decode cX5_endStroke 79 = .ok (.iload_n 1, 1) := by decide +kernel
theorem dX5_endStroke_80 : decode cX5_endStroke 80 = .ok (.invokevirtual 137, 3) := by decide +kernel
theorem dX5_endStroke_83 : decode cX5_endStroke 83 = .ok (.iconst (-1), 1) := by decide +kernel
theorem dX5_endStroke_84 : decode cX5_endStroke 84 = .ok (.if_icmp .ne 7, 3) := by decide +kernel
theorem dX5_endStroke_87 : decode cX5_endStroke 87 = .ok (.iconst 1, 1) := by decide +kernel
theorem dX5_endStroke_88 : decode cX5_endStroke 88 = .ok (.goto 4, 3) := by decide +kernel
theorem dX5_endStroke_91 : decode cX5_endStroke 91 = .ok (.iconst 0, 1) := by decide +kernel
theorem dX5_endStroke_92 : decode cX5_endStroke 92 = .ok (.invokevirtual 171, 3) := by decide +kernel
theorem dX5_endStroke_95 : decode cX5_endStroke 95 = .ok (.return_, 1) := by decide +kernel
theorem dX5_settleByHand_0 : decode cX5_settleByHand 0 = .ok (.aload_n 0, 1) := by decide +kernel
theorem dX5_settleByHand_1 : decode cX5_settleByHand 1 = .ok (.getfield 41, 3) := by decide +kernel
theorem dX5_settleByHand_4 : decode cX5_settleByHand 4 = .ok (.iload_n 1, 1) := by decide +kernel
theorem dX5_settleByHand_5 : decode cX5_settleByHand 5 = .ok (.iload_n 2, 1) := by decide +kernel
theorem dX5_settleByHand_6 : decode cX5_settleByHand 6 = .ok (.invokevirtual 175, 3) := by decide +kernel
theorem dX5_settleByHand_9 : decode cX5_settleByHand 9 = .ok (.aload_n 0, 1) := by decide +kernel
theorem dX5_settleByHand_10 : decode cX5_settleByHand 10 = .ok (.getfield 37, 3) := by decide +kernel
theorem dX5_settleByHand_13 : decode cX5_settleByHand 13 = .ok (.aload_n 0, 1) := by decide +kernel
theorem dX5_settleByHand_14 : decode cX5_settleByHand 14 = .ok (.getfield 41, 3) := by decide +kernel
theorem dX5_settleByHand_17 : decode cX5_settleByHand 17 = .ok (.iload_n 1, 1) := by decide +kernel
theorem dX5_settleByHand_18 : decode cX5_settleByHand 18 = .ok (.invokevirtual 179, 3) := by decide +kernel
theorem dX5_settleByHand_21 : decode cX5_settleByHand 21 = .ok (.iload_n 2, 1) := by decide +kernel
theorem dX5_settleByHand_22 : decode cX5_settleByHand 22 = .ok (.invokevirtual 175, 3) := by decide +kernel
theorem dX5_settleByHand_25 : decode cX5_settleByHand 25 = .ok (.aload_n 0, 1) := by decide +kernel
theorem dX5_settleByHand_26 : decode cX5_settleByHand 26 = .ok (.dup, 1) := by decide +kernel
theorem dX5_settleByHand_27 : decode cX5_settleByHand 27 = .ok (.getfield 74, 3) := by decide +kernel
theorem dX5_settleByHand_30 : decode cX5_settleByHand 30 = .ok (.iconst 1, 1) := by decide +kernel
theorem dX5_settleByHand_31 : decode cX5_settleByHand 31 = .ok (.isub, 1) := by decide +kernel
theorem dX5_settleByHand_32 : decode cX5_settleByHand 32 = .ok (.putfield 74, 3) := by decide +kernel
theorem dX5_settleByHand_35 : decode cX5_settleByHand 35 = .ok (.aload_n 0, 1) := by decide +kernel
theorem dX5_settleByHand_36 : decode cX5_settleByHand 36 = .ok (.aload_n 0, 1) := by decide +kernel
theorem dX5_settleByHand_37 : decode cX5_settleByHand 37 = .ok (.getfield 41, 3) := by decide +kernel
theorem dX5_settleByHand_40 : decode cX5_settleByHand 40 = .ok (.iload_n 1, 1) := by decide +kernel
theorem dX5_settleByHand_41 : decode cX5_settleByHand 41 = .ok (.iload_n 2, 1) := by decide +kernel
theorem dX5_settleByHand_42 : decode cX5_settleByHand 42 = .ok (.iconst 1, 1) := by decide +kernel
theorem dX5_settleByHand_43 : decode cX5_settleByHand 43 = .ok (.invokevirtual 171, 3) := by decide +kernel
theorem dX5_settleByHand_46 : decode cX5_settleByHand 46 = .ok (.return_, 1) := by decide +kernel
theorem dX5_finish_0 : decode cX5_finish 0 = .ok (.aload_n 1, 1) := by decide +kernel
theorem dX5_finish_1 : decode cX5_finish 1 = .ok (.iload_n 2, 1) := by decide +kernel
theorem dX5_finish_2 : decode cX5_finish 2 = .ok (.invokevirtual 182, 3) := by decide +kernel
theorem dX5_finish_5 : decode cX5_finish 5 = .ok (.istore 5, 2) := by decide +kernel
theorem dX5_finish_7 : decode cX5_finish 7 = .ok (.iload_n 3, 1) := by decide +kernel
theorem dX5_finish_8 : decode cX5_finish 8 = .ok (.iconst 2, 1) := by decide +kernel
theorem dX5_finish_9 : decode cX5_finish 9 = .ok (.if_icmp .ne 34, 3) := by decide +kernel
theorem dX5_finish_12 : decode cX5_finish 12 = .ok (.aload_n 0, 1) := by decide +kernel
theorem dX5_finish_13 : decode cX5_finish 13 = .ok (.dup, 1) := by decide +kernel
theorem dX5_finish_14 : decode cX5_finish 14 = .ok (.getfield 68, 3) := by decide +kernel
theorem dX5_finish_17 : decode cX5_finish 17 = .ok (.iconst 1, 1) := by decide +kernel
theorem dX5_finish_18 : decode cX5_finish 18 = .ok (.iadd, 1) := by decide +kernel
theorem dX5_finish_19 : decode cX5_finish 19 = .ok (.putfield 68, 3) := by decide +kernel
theorem dX5_finish_22 : decode cX5_finish 22 = .ok (.aload_n 0, 1) := by decide +kernel
theorem dX5_finish_23 : decode cX5_finish 23 = .ok (.dup, 1) := by decide +kernel
theorem dX5_finish_24 : decode cX5_finish 24 = .ok (.getfield 71, 3) := by decide +kernel
theorem dX5_finish_27 : decode cX5_finish 27 = .ok (.iload 5, 2) := by decide +kernel
theorem dX5_finish_29 : decode cX5_finish 29 = .ok (.iconst (-1), 1) := by decide +kernel
theorem dX5_finish_30 : decode cX5_finish 30 = .ok (.if_icmp .ne 7, 3) := by decide +kernel
theorem dX5_finish_33 : decode cX5_finish 33 = .ok (.iconst 1, 1) := by decide +kernel
theorem dX5_finish_34 : decode cX5_finish 34 = .ok (.goto 4, 3) := by decide +kernel
theorem dX5_finish_37 : decode cX5_finish 37 = .ok (.iconst 0, 1) := by decide +kernel
theorem dX5_finish_38 : decode cX5_finish 38 = .ok (.iadd, 1) := by decide +kernel
theorem dX5_finish_39 : decode cX5_finish 39 = .ok (.putfield 71, 3) := by decide +kernel
theorem dX5_finish_42 : decode cX5_finish 42 = .ok (.return_, 1) := by decide +kernel
theorem dX5_finish_43 : decode cX5_finish 43 = .ok (.aload_n 0, 1) := by decide +kernel
theorem dX5_finish_44 : decode cX5_finish 44 = .ok (.iload_n 3, 1) := by decide +kernel
theorem dX5_finish_45 : decode cX5_finish 45 = .ok (.invokevirtual 183, 3) := by decide +kernel
theorem dX5_finish_48 : decode cX5_finish 48 = .ok (.astore 6, 2) := by decide +kernel
theorem dX5_finish_50 : decode cX5_finish 50 = .ok (.aload 6, 2) := by decide +kernel
theorem dX5_finish_52 : decode cX5_finish 52 = .ok (.dup, 1) := by decide +kernel
theorem dX5_finish_53 : decode cX5_finish 53 = .ok (.getfield 187, 3) := by decide +kernel
theorem dX5_finish_56 : decode cX5_finish 56 = .ok (.iconst 1, 1) := by decide +kernel
theorem dX5_finish_57 : decode cX5_finish 57 = .ok (.iadd, 1) := by decide +kernel
theorem dX5_finish_58 : decode cX5_finish 58 = .ok (.putfield 187, 3) := by decide +kernel
theorem dX5_finish_61 : decode cX5_finish 61 = .ok (.aload 6, 2) := by decide +kernel
theorem dX5_finish_63 : decode cX5_finish 63 = .ok (.dup, 1) := by decide +kernel
theorem dX5_finish_64 : decode cX5_finish 64 = .ok (.getfield 190, 3) := by decide +kernel
theorem dX5_finish_67 : decode cX5_finish 67 = .ok (.iload 5, 2) := by decide +kernel
theorem dX5_finish_69 : decode cX5_finish 69 = .ok (.iload_n 3, 1) := by decide +kernel
theorem dX5_finish_70 : decode cX5_finish 70 = .ok (.if_icmp .ne 7, 3) := by decide +kernel
theorem dX5_finish_73 : decode cX5_finish 73 = .ok (.iconst 1, 1) := by decide +kernel
theorem dX5_finish_74 : decode cX5_finish 74 = .ok (.goto 4, 3) := by decide +kernel
theorem dX5_finish_77 : decode cX5_finish 77 = .ok (.iconst 0, 1) := by decide +kernel
theorem dX5_finish_78 : decode cX5_finish 78 = .ok (.iadd, 1) := by decide +kernel
theorem dX5_finish_79 : decode cX5_finish 79 = .ok (.putfield 190, 3) := by decide +kernel
theorem dX5_finish_82 : decode cX5_finish 82 = .ok (.iload 4, 2) := by decide +kernel
theorem dX5_finish_84 : decode cX5_finish 84 = .ok (.ifCond .eq 25, 3) := by decide +kernel
theorem dX5_finish_87 : decode cX5_finish 87 = .ok (.aload 6, 2) := by decide +kernel
theorem dX5_finish_89 : decode cX5_finish 89 = .ok (.aload_n 1, 1) := by decide +kernel
theorem dX5_finish_90 : decode cX5_finish 90 = .ok (.iload_n 2, 1) := by decide +kernel
theorem dX5_finish_91 : decode cX5_finish 91 = .ok (.invokevirtual 193, 3) := by decide +kernel
theorem dX5_finish_94 : decode cX5_finish 94 = .ok (.aload_n 1, 1) := by decide +kernel
theorem dX5_finish_95 : decode cX5_finish 95 = .ok (.iload_n 2, 1) := by decide +kernel
theorem dX5_finish_96 : decode cX5_finish 96 = .ok (.invokevirtual 194, 3) := by decide +kernel
theorem dX5_finish_99 : decode cX5_finish 99 = .ok (.aload_n 0, 1) := by decide +kernel
theorem dX5_finish_100 : decode cX5_finish 100 = .ok (.getfield 47, 3) := by decide +kernel
theorem dX5_finish_103 : decode cX5_finish 103 = .ok (.getfield 197, 3) := by decide +kernel
theorem dX5_finish_106 : decode cX5_finish 106 = .ok (.invokevirtual 200, 3) := by decide +kernel
theorem dX5_finish_109 : decode cX5_finish 109 = .ok (.aload_n 0, 1) := by decide +kernel
theorem dX5_finish_110 : decode cX5_finish 110 = .ok (.getfield 12, 3) := by decide +kernel
theorem dX5_finish_113 : decode cX5_finish 113 = .ok (.aload_n 1, 1) := by decide +kernel
theorem dX5_finish_114 : decode cX5_finish 114 = .ok (.iload_n 2, 1) := by decide +kernel
theorem dX5_finish_115 : decode cX5_finish 115 = .ok (.invokevirtual 204, 3) := by decide +kernel
theorem dX5_finish_118 : decode cX5_finish 118 = .ok (.invokevirtual 207, 3) := by decide +kernel
theorem dX5_finish_121 : decode cX5_finish 121 = .ok (.istore 7, 2) := by decide +kernel
theorem dX5_finish_123 : decode cX5_finish 123 = .ok (.iload 7, 2) := by decide +kernel
theorem dX5_finish_125 : decode cX5_finish 125 = .ok (.bipush 46, 2) := by decide +kernel
theorem dX5_finish_127 : decode cX5_finish 127 = .ok (.if_icmp .eq 58, 3) := by decide +kernel
theorem dX5_finish_130 : decode cX5_finish 130 = .ok (.aload 6, 2) := by decide +kernel
theorem dX5_finish_132 : decode cX5_finish 132 = .ok (.getfield 210, 3) := by decide +kernel
theorem dX5_finish_135 : decode cX5_finish 135 = .ok (.ifCond .eq 7, 3) := by decide +kernel
theorem dX5_finish_138 : decode cX5_finish 138 = .ok (.iconst 3, 1) := by decide +kernel
theorem dX5_finish_139 : decode cX5_finish 139 = .ok (.goto 6, 3) := by decide +kernel
theorem dX5_finish_142 : decode cX5_finish 142 = .ok (.iconst 1, 1) := by decide +kernel
theorem dX5_finish_143 : decode cX5_finish 143 = .ok (.iload_n 3, 1) := by decide +kernel
theorem dX5_finish_144 : decode cX5_finish 144 = .ok (.ishl, 1) := by decide +kernel
theorem dX5_finish_145 : decode cX5_finish 145 = .ok (.istore 8, 2) := by decide +kernel
theorem dX5_finish_147 : decode cX5_finish 147 = .ok (.aload_n 1, 1) := by decide +kernel
theorem dX5_finish_148 : decode cX5_finish 148 = .ok (.iload_n 2, 1) := by decide +kernel
theorem dX5_finish_149 : decode cX5_finish 149 = .ok (.invokevirtual 214, 3) := by decide +kernel
theorem dX5_finish_152 : decode cX5_finish 152 = .ok (.iload 8, 2) := by decide +kernel
theorem dX5_finish_154 : decode cX5_finish 154 = .ok (.iand, 1) := by decide +kernel
theorem dX5_finish_155 : decode cX5_finish 155 = .ok (.ifCond .eq 7, 3) := by decide +kernel
theorem dX5_finish_158 : decode cX5_finish 158 = .ok (.iconst 1, 1) := by decide +kernel
theorem dX5_finish_159 : decode cX5_finish 159 = .ok (.goto 4, 3) := by decide +kernel
theorem dX5_finish_162 : decode cX5_finish 162 = .ok (.iconst 0, 1) := by decide +kernel
theorem dX5_finish_163 : decode cX5_finish 163 = .ok (.istore 9, 2) := by decide +kernel
theorem dX5_finish_165 : decode cX5_finish 165 = .ok (.aload 6, 2) := by decide +kernel
theorem dX5_finish_167 : decode cX5_finish 167 = .ok (.iload 9, 2) := by decide +kernel
theorem dX5_finish_169 : decode cX5_finish 169 = .ok (.ifCond .eq 11, 3) := by decide +kernel
theorem dX5_finish_172 : decode cX5_finish 172 = .ok (.iload 7, 2) := by decide +kernel
theorem dX5_finish_174 : decode cX5_finish 174 = .ok (.bipush 32, 2) := by decide +kernel
theorem dX5_finish_176 : decode cX5_finish 176 = .ok (.isub, 1) := by decide +kernel
theorem dX5_finish_177 : decode cX5_finish 177 = .ok (.goto 5, 3) := by decide +kernel
theorem dX5_finish_180 : decode cX5_finish 180 = .ok (.iload 7, 2) := by decide +kernel
theorem dX5_finish_182 : decode cX5_finish 182 = .ok (.invokevirtual 217, 3) := by decide +kernel
theorem dX5_finish_185 : decode cX5_finish 185 = .ok (.return_, 1) := by decide +kernel
theorem dX6_init_0 : decode cX6_init 0 = .ok (.aload_n 0, 1) := by decide +kernel
theorem dX6_init_1 : decode cX6_init 1 = .ok (.invokespecial 3, 3) := by decide +kernel
theorem dX6_init_4 : decode cX6_init 4 = .ok (.aload_n 0, 1) := by decide +kernel
theorem dX6_init_5 : decode cX6_init 5 = .ok (.bipush 20, 2) := by decide +kernel
theorem dX6_init_7 : decode cX6_init 7 = .ok (.newarray .int, 2) := by decide +kernel
theorem dX6_init_9 : decode cX6_init 9 = .ok (.putfield 11, 3) := by decide +kernel
theorem dX6_init_12 : decode cX6_init 12 = .ok (.aload_n 0, 1) := by decide +kernel
theorem dX6_init_13 : decode cX6_init 13 = .ok (.bipush 20, 2) := by decide +kernel
theorem dX6_init_15 : decode cX6_init 15 = .ok (.newarray .int, 2) := by decide +kernel
theorem dX6_init_17 : decode cX6_init 17 = .ok (.putfield 15, 3) := by decide +kernel
theorem dX6_init_20 : decode cX6_init 20 = .ok (.aload_n 0, 1) := by decide +kernel
theorem dX6_init_21 : decode cX6_init 21 = .ok (.bipush 20, 2) := by decide +kernel
theorem dX6_init_23 : decode cX6_init 23 = .ok (.newarray .int, 2) := by decide +kernel
theorem dX6_init_25 : decode cX6_init 25 = .ok (.putfield 18, 3) := by decide +kernel
theorem dX6_init_28 : decode cX6_init 28 = .ok (.aload_n 0, 1) := by decide +kernel
theorem dX6_init_29 : decode cX6_init 29 = .ok (.bipush 20, 2) := by decide +kernel
theorem dX6_init_31 : decode cX6_init 31 = .ok (.newarray .int, 2) := by decide +kernel
theorem dX6_init_33 : decode cX6_init 33 = .ok (.putfield 21, 3) := by decide +kernel
theorem dX6_init_36 : decode cX6_init 36 = .ok (.aload_n 0, 1) := by decide +kernel
theorem dX6_init_37 : decode cX6_init 37 = .ok (.bipush 20, 2) := by decide +kernel
theorem dX6_init_39 : decode cX6_init 39 = .ok (.newarray .int, 2) := by decide +kernel
theorem dX6_init_41 : decode cX6_init 41 = .ok (.putfield 24, 3) := by decide +kernel
theorem dX6_init_44 : decode cX6_init 44 = .ok (.aload_n 0, 1) := by decide +kernel
theorem dX6_init_45 : decode cX6_init 45 = .ok (.bipush 20, 2) := by decide +kernel
theorem dX6_init_47 : decode cX6_init 47 = .ok (.newarray .int, 2) := by decide +kernel
theorem dX6_init_49 : decode cX6_init 49 = .ok (.putfield 27, 3) := by decide +kernel
theorem dX6_init_52 : decode cX6_init 52 = .ok (.aload_n 0, 1) := by decide +kernel
theorem dX6_init_53 : decode cX6_init 53 = .ok (.bipush 20, 2) := by decide +kernel
theorem dX6_init_55 : decode cX6_init 55 = .ok (.newarray .int, 2) := by decide +kernel
theorem dX6_init_57 : decode cX6_init 57 = .ok (.putfield 30, 3) := by decide +kernel
theorem dX6_init_60 : decode cX6_init 60 = .ok (.return_, 1) := by decide +kernel
theorem dX6_copyFrom_0 : decode cX6_copyFrom 0 = .ok (.aload_n 0, 1) := by decide +kernel
theorem dX6_copyFrom_1 : decode cX6_copyFrom 1 = .ok (.aload_n 1, 1) := by decide +kernel
theorem dX6_copyFrom_2 : decode cX6_copyFrom 2 = .ok (.getfield 33, 3) := by decide +kernel
theorem dX6_copyFrom_5 : decode cX6_copyFrom 5 = .ok (.putfield 33, 3) := by decide +kernel
theorem dX6_copyFrom_8 : decode cX6_copyFrom 8 = .ok (.aload_n 1, 1) := by decide +kernel
theorem dX6_copyFrom_9 : decode cX6_copyFrom 9 = .ok (.getfield 11, 3) := by decide +kernel
theorem dX6_copyFrom_12 : decode cX6_copyFrom 12 = .ok (.aload_n 0, 1) := by decide +kernel
theorem dX6_copyFrom_13 : decode cX6_copyFrom 13 = .ok (.getfield 11, 3) := by decide +kernel
theorem dX6_copyFrom_16 : decode cX6_copyFrom 16 = .ok (.invokestatic 37, 3) := by decide +kernel
theorem dX6_copyFrom_19 : decode cX6_copyFrom 19 = .ok (.aload_n 1, 1) := by decide +kernel
theorem dX6_copyFrom_20 : decode cX6_copyFrom 20 = .ok (.getfield 15, 3) := by decide +kernel
theorem dX6_copyFrom_23 : decode cX6_copyFrom 23 = .ok (.aload_n 0, 1) := by decide +kernel
theorem dX6_copyFrom_24 : decode cX6_copyFrom 24 = .ok (.getfield 15, 3) := by decide +kernel
theorem dX6_copyFrom_27 : decode cX6_copyFrom 27 = .ok (.invokestatic 37, 3) := by decide +kernel
theorem dX6_copyFrom_30 : decode cX6_copyFrom 30 = .ok (.aload_n 1, 1) := by decide +kernel
theorem dX6_copyFrom_31 : decode cX6_copyFrom 31 = .ok (.getfield 18, 3) := by decide +kernel
theorem dX6_copyFrom_34 : decode cX6_copyFrom 34 = .ok (.aload_n 0, 1) := by decide +kernel
theorem dX6_copyFrom_35 : decode cX6_copyFrom 35 = .ok (.getfield 18, 3) := by decide +kernel
theorem dX6_copyFrom_38 : decode cX6_copyFrom 38 = .ok (.invokestatic 37, 3) := by decide +kernel
theorem dX6_copyFrom_41 : decode cX6_copyFrom 41 = .ok (.aload_n 1, 1) := by decide +kernel
theorem dX6_copyFrom_42 : decode cX6_copyFrom 42 = .ok (.getfield 21, 3) := by decide +kernel
theorem dX6_copyFrom_45 : decode cX6_copyFrom 45 = .ok (.aload_n 0, 1) := by decide +kernel
theorem dX6_copyFrom_46 : decode cX6_copyFrom 46 = .ok (.getfield 21, 3) := by decide +kernel
theorem dX6_copyFrom_49 : decode cX6_copyFrom 49 = .ok (.invokestatic 37, 3) := by decide +kernel
theorem dX6_copyFrom_52 : decode cX6_copyFrom 52 = .ok (.aload_n 1, 1) := by decide +kernel
theorem dX6_copyFrom_53 : decode cX6_copyFrom 53 = .ok (.getfield 24, 3) := by decide +kernel
theorem dX6_copyFrom_56 : decode cX6_copyFrom 56 = .ok (.aload_n 0, 1) := by decide +kernel
theorem dX6_copyFrom_57 : decode cX6_copyFrom 57 = .ok (.getfield 24, 3) := by decide +kernel
theorem dX6_copyFrom_60 : decode cX6_copyFrom 60 = .ok (.invokestatic 37, 3) := by decide +kernel
theorem dX6_copyFrom_63 : decode cX6_copyFrom 63 = .ok (.aload_n 1, 1) := by decide +kernel
theorem dX6_copyFrom_64 : decode cX6_copyFrom 64 = .ok (.getfield 27, 3) := by decide +kernel
theorem dX6_copyFrom_67 : decode cX6_copyFrom 67 = .ok (.aload_n 0, 1) := by decide +kernel
theorem dX6_copyFrom_68 : decode cX6_copyFrom 68 = .ok (.getfield 27, 3) := by decide +kernel
theorem dX6_copyFrom_71 : decode cX6_copyFrom 71 = .ok (.invokestatic 37, 3) := by decide +kernel
theorem dX6_copyFrom_74 : decode cX6_copyFrom 74 = .ok (.aload_n 1, 1) := by decide +kernel
theorem dX6_copyFrom_75 : decode cX6_copyFrom 75 = .ok (.getfield 30, 3) := by decide +kernel
theorem dX6_copyFrom_78 : decode cX6_copyFrom 78 = .ok (.aload_n 0, 1) := by decide +kernel
theorem dX6_copyFrom_79 : decode cX6_copyFrom 79 = .ok (.getfield 30, 3) := by decide +kernel
theorem dX6_copyFrom_82 : decode cX6_copyFrom 82 = .ok (.invokestatic 37, 3) := by decide +kernel
theorem dX6_copyFrom_85 : decode cX6_copyFrom 85 = .ok (.return_, 1) := by decide +kernel
theorem dX6_slot_0 : decode cX6_slot 0 = .ok (.iload_n 0, 1) := by decide +kernel
theorem dX6_slot_1 : decode cX6_slot 1 = .ok (.ifCond .ge 7, 3) := by decide +kernel
theorem dX6_slot_4 : decode cX6_slot 4 = .ok (.iconst 0, 1) := by decide +kernel
theorem dX6_slot_5 : decode cX6_slot 5 = .ok (.goto 7, 3) := by decide +kernel
theorem dX6_slot_8 : decode cX6_slot 8 = .ok (.iload_n 0, 1) := by decide +kernel
theorem dX6_slot_9 : decode cX6_slot 9 = .ok (.bipush 20, 2) := by decide +kernel
theorem dX6_slot_11 : decode cX6_slot 11 = .ok (.irem, 1) := by decide +kernel
theorem dX6_slot_12 : decode cX6_slot 12 = .ok (.ireturn, 1) := by decide +kernel
theorem dX6_holds_0 : decode cX6_holds 0 = .ok (.iload_n 1, 1) := by decide +kernel
theorem dX6_holds_1 : decode cX6_holds 1 = .ok (.ifCond .lt 26, 3) := by decide +kernel
theorem dX6_holds_4 : decode cX6_holds 4 = .ok (.iload_n 1, 1) := by decide +kernel
theorem dX6_holds_5 : decode cX6_holds 5 = .ok (.aload_n 0, 1) := by decide +kernel
theorem dX6_holds_6 : decode cX6_holds 6 = .ok (.getfield 33, 3) := by decide +kernel
theorem dX6_holds_9 : decode cX6_holds 9 = .ok (.if_icmp .ge 18, 3) := by decide +kernel
theorem dX6_holds_12 : decode cX6_holds 12 = .ok (.iload_n 1, 1) := by decide +kernel
theorem dX6_holds_13 : decode cX6_holds 13 = .ok (.aload_n 0, 1) := by decide +kernel
theorem dX6_holds_14 : decode cX6_holds 14 = .ok (.getfield 33, 3) := by decide +kernel
theorem dX6_holds_17 : decode cX6_holds 17 = .ok (.bipush 20, 2) := by decide +kernel
theorem dX6_holds_19 : decode cX6_holds 19 = .ok (.isub, 1) := by decide +kernel
theorem dX6_holds_20 : decode cX6_holds 20 = .ok (.if_icmp .lt 7, 3) := by decide +kernel
theorem dX6_holds_23 : decode cX6_holds 23 = .ok (.iconst 1, 1) := by decide +kernel
theorem dX6_holds_24 : decode cX6_holds 24 = .ok (.goto 4, 3) := by decide +kernel
theorem dX6_holds_27 : decode cX6_holds 27 = .ok (.iconst 0, 1) := by decide +kernel
theorem dX6_holds_28 : decode cX6_holds 28 = .ok (.ireturn, 1) := by decide +kernel
theorem dX6_addFrom_0 : decode cX6_addFrom 0 = .ok (.aload_n 0, 1) := by decide +kernel
theorem dX6_addFrom_1 : decode cX6_addFrom 1 = .ok (.getfield 33, 3) := by decide +kernel
theorem dX6_addFrom_4 : decode cX6_addFrom 4 = .ok (.invokestatic 43, 3) := by decide +kernel
theorem dX6_addFrom_7 : decode cX6_addFrom 7 = .ok (.istore 5, 2) := by decide +kernel
theorem dX6_addFrom_9 : decode cX6_addFrom 9 = .ok (.aload_n 0, 1) := by decide +kernel
theorem dX6_addFrom_10 : decode cX6_addFrom 10 = .ok (.getfield 11, 3) := by decide +kernel
theorem dX6_addFrom_13 : decode cX6_addFrom 13 = .ok (.iload 5, 2) := by decide +kernel
theorem dX6_addFrom_15 : decode cX6_addFrom 15 = .ok (.iload_n 2, 1) := by decide +kernel
theorem dX6_addFrom_16 : decode cX6_addFrom 16 = .ok (.invokestatic 47, 3) := by decide +kernel
theorem dX6_addFrom_19 : decode cX6_addFrom 19 = .ok (.aload_n 0, 1) := by decide +kernel
theorem dX6_addFrom_20 : decode cX6_addFrom 20 = .ok (.getfield 15, 3) := by decide +kernel
theorem dX6_addFrom_23 : decode cX6_addFrom 23 = .ok (.iload 5, 2) := by decide +kernel
theorem dX6_addFrom_25 : decode cX6_addFrom 25 = .ok (.aload_n 1, 1) := by decide +kernel
theorem dX6_addFrom_26 : decode cX6_addFrom 26 = .ok (.iload_n 2, 1) := by decide +kernel
theorem dX6_addFrom_27 : decode cX6_addFrom 27 = .ok (.invokevirtual 51, 3) := by decide +kernel
theorem dX6_addFrom_30 : decode cX6_addFrom 30 = .ok (.invokestatic 47, 3) := by decide +kernel
theorem dX6_addFrom_33 : decode cX6_addFrom 33 = .ok (.aload_n 0, 1) := by decide +kernel
theorem dX6_addFrom_34 : decode cX6_addFrom 34 = .ok (.getfield 18, 3) := by decide +kernel
theorem dX6_addFrom_37 : decode cX6_addFrom 37 = .ok (.iload 5, 2) := by decide +kernel
theorem dX6_addFrom_39 : decode cX6_addFrom 39 = .ok (.iload_n 3, 1) := by decide +kernel
theorem dX6_addFrom_40 : decode cX6_addFrom 40 = .ok (.aload_n 1, 1) := by decide +kernel
theorem dX6_addFrom_41 : decode cX6_addFrom 41 = .ok (.iload_n 2, 1) := by decide +kernel
theorem dX6_addFrom_42 : decode cX6_addFrom 42 = .ok (.invokevirtual 51, 3) := by decide +kernel
theorem dX6_addFrom_45 : decode cX6_addFrom 45 = .ok (.isub, 1) := by decide +kernel
theorem dX6_addFrom_46 : decode cX6_addFrom 46 = .ok (.invokestatic 47, 3) := by decide +kernel
theorem dX6_addFrom_49 : decode cX6_addFrom 49 = .ok (.aload_n 0, 1) := by decide +kernel
theorem dX6_addFrom_50 : decode cX6_addFrom 50 = .ok (.getfield 21, 3) := by decide +kernel
theorem dX6_addFrom_53 : decode cX6_addFrom 53 = .ok (.iload 5, 2) := by decide +kernel
theorem dX6_addFrom_55 : decode cX6_addFrom 55 = .ok (.iload 4, 2) := by decide +kernel
theorem dX6_addFrom_57 : decode cX6_addFrom 57 = .ok (.invokestatic 47, 3) := by decide +kernel
theorem dX6_addFrom_60 : decode cX6_addFrom 60 = .ok (.aload_n 0, 1) := by decide +kernel
theorem dX6_addFrom_61 : decode cX6_addFrom 61 = .ok (.getfield 24, 3) := by decide +kernel
theorem dX6_addFrom_64 : decode cX6_addFrom 64 = .ok (.iload 5, 2) := by decide +kernel
theorem dX6_addFrom_66 : decode cX6_addFrom 66 = .ok (.aload_n 1, 1) := by decide +kernel
theorem dX6_addFrom_67 : decode cX6_addFrom 67 = .ok (.iload_n 2, 1) := by decide +kernel
theorem dX6_addFrom_68 : decode cX6_addFrom 68 = .ok (.invokevirtual 56, 3) := by decide +kernel
theorem dX6_addFrom_71 : decode cX6_addFrom 71 = .ok (.invokestatic 47, 3) := by decide +kernel
theorem dX6_addFrom_74 : decode cX6_addFrom 74 = .ok (.aload_n 0, 1) := by decide +kernel
theorem dX6_addFrom_75 : decode cX6_addFrom 75 = .ok (.getfield 27, 3) := by decide +kernel
theorem dX6_addFrom_78 : decode cX6_addFrom 78 = .ok (.iload 5, 2) := by decide +kernel
theorem dX6_addFrom_80 : decode cX6_addFrom 80 = .ok (.aload_n 1, 1) := by decide +kernel
theorem dX6_addFrom_81 : decode cX6_addFrom 81 = .ok (.iload_n 2, 1) := by decide +kernel
theorem dX6_addFrom_82 : decode cX6_addFrom 82 = .ok (.invokevirtual 59, 3) := by decide +kernel
theorem dX6_addFrom_85 : decode cX6_addFrom 85 = .ok (.invokestatic 47, 3) := by decide +kernel
theorem dX6_addFrom_88 : decode cX6_addFrom 88 = .ok (.aload_n 0, 1) := by decide +kernel
theorem dX6_addFrom_89 : decode cX6_addFrom 89 = .ok (.dup, 1) := by decide +kernel
theorem dX6_addFrom_90 : decode cX6_addFrom 90 = .ok (.getfield 33, 3) := by decide +kernel
theorem dX6_addFrom_93 : decode cX6_addFrom 93 = .ok (.iconst 1, 1) := by decide +kernel
theorem dX6_addFrom_94 : decode cX6_addFrom 94 = .ok (.iadd, 1) := by decide +kernel
theorem dX6_addFrom_95 : decode cX6_addFrom 95 = .ok (.putfield 33, 3) := by decide +kernel
theorem dX6_addFrom_98 : decode cX6_addFrom 98 = .ok (.return_, 1) := by decide +kernel
theorem dX6_addLatestOf_0 : decode cX6_addLatestOf 0 = .ok (.aload_n 0, 1) := by decide +kernel
theorem dX6_addLatestOf_1 : decode cX6_addLatestOf 1 = .ok (.getfield 33, 3) := by decide +kernel
theorem dX6_addLatestOf_4 : decode cX6_addLatestOf 4 = .ok (.invokestatic 43, 3) := by decide +kernel
theorem dX6_addLatestOf_7 : decode cX6_addLatestOf 7 = .ok (.istore_n 2, 1) := by decide +kernel
theorem dX6_addLatestOf_8 : decode cX6_addLatestOf 8 = .ok (.aload_n 1, 1) := by decide +kernel
theorem dX6_addLatestOf_9 : decode cX6_addLatestOf 9 = .ok (.getfield 33, 3) := by decide +kernel
theorem dX6_addLatestOf_12 : decode cX6_addLatestOf 12 = .ok (.iconst 1, 1) := by decide +kernel
theorem dX6_addLatestOf_13 : decode cX6_addLatestOf 13 = .ok (.isub, 1) := by decide +kernel
theorem dX6_addLatestOf_14 : decode cX6_addLatestOf 14 = .ok (.istore_n 3, 1) := by decide +kernel
theorem dX6_addLatestOf_15 : decode cX6_addLatestOf 15 = .ok (.aload_n 0, 1) := by decide +kernel
theorem dX6_addLatestOf_16 : decode cX6_addLatestOf 16 = .ok (.getfield 11, 3) := by decide +kernel
theorem dX6_addLatestOf_19 : decode cX6_addLatestOf 19 = .ok (.iload_n 2, 1) := by decide +kernel
theorem dX6_addLatestOf_20 : decode cX6_addLatestOf 20 = .ok (.aload_n 1, 1) := by decide +kernel
theorem dX6_addLatestOf_21 : decode cX6_addLatestOf 21 = .ok (.iload_n 3, 1) := by decide +kernel
theorem dX6_addLatestOf_22 : decode cX6_addLatestOf 22 = .ok (.invokevirtual 62, 3) := by decide +kernel
theorem dX6_addLatestOf_25 : decode cX6_addLatestOf 25 = .ok (.invokestatic 47, 3) := by decide +kernel
theorem dX6_addLatestOf_28 : decode cX6_addLatestOf 28 = .ok (.aload_n 0, 1) := by decide +kernel
theorem dX6_addLatestOf_29 : decode cX6_addLatestOf 29 = .ok (.getfield 15, 3) := by decide +kernel
theorem dX6_addLatestOf_32 : decode cX6_addLatestOf 32 = .ok (.iload_n 2, 1) := by decide +kernel
theorem dX6_addLatestOf_33 : decode cX6_addLatestOf 33 = .ok (.aload_n 1, 1) := by decide +kernel
theorem dX6_addLatestOf_34 : decode cX6_addLatestOf 34 = .ok (.iload_n 3, 1) := by decide +kernel
theorem dX6_addLatestOf_35 : decode cX6_addLatestOf 35 = .ok (.invokevirtual 65, 3) := by decide +kernel
theorem dX6_addLatestOf_38 : decode cX6_addLatestOf 38 = .ok (.invokestatic 47, 3) := by decide +kernel
theorem dX6_addLatestOf_41 : decode cX6_addLatestOf 41 = .ok (.aload_n 0, 1) := by decide +kernel
theorem dX6_addLatestOf_42 : decode cX6_addLatestOf 42 = .ok (.getfield 18, 3) := by decide +kernel
theorem dX6_addLatestOf_45 : decode cX6_addLatestOf 45 = .ok (.iload_n 2, 1) := by decide +kernel
theorem dX6_addLatestOf_46 : decode cX6_addLatestOf 46 = .ok (.aload_n 1, 1) := by decide +kernel
theorem dX6_addLatestOf_47 : decode cX6_addLatestOf 47 = .ok (.iload_n 3, 1) := by decide +kernel
theorem dX6_addLatestOf_48 : decode cX6_addLatestOf 48 = .ok (.invokevirtual 66, 3) := by decide +kernel
theorem dX6_addLatestOf_51 : decode cX6_addLatestOf 51 = .ok (.invokestatic 47, 3) := by decide +kernel
theorem dX6_addLatestOf_54 : decode cX6_addLatestOf 54 = .ok (.aload_n 0, 1) := by decide +kernel
theorem dX6_addLatestOf_55 : decode cX6_addLatestOf 55 = .ok (.getfield 21, 3) := by decide +kernel
theorem dX6_addLatestOf_58 : decode cX6_addLatestOf 58 = .ok (.iload_n 2, 1) := by decide +kernel
theorem dX6_addLatestOf_59 : decode cX6_addLatestOf 59 = .ok (.aload_n 1, 1) := by decide +kernel
theorem dX6_addLatestOf_60 : decode cX6_addLatestOf 60 = .ok (.iload_n 3, 1) := by decide +kernel
theorem dX6_addLatestOf_61 : decode cX6_addLatestOf 61 = .ok (.invokevirtual 69, 3) := by decide +kernel
theorem dX6_addLatestOf_64 : decode cX6_addLatestOf 64 = .ok (.invokestatic 47, 3) := by decide +kernel
theorem dX6_addLatestOf_67 : decode cX6_addLatestOf 67 = .ok (.aload_n 0, 1) := by decide +kernel
theorem dX6_addLatestOf_68 : decode cX6_addLatestOf 68 = .ok (.getfield 24, 3) := by decide +kernel
theorem dX6_addLatestOf_71 : decode cX6_addLatestOf 71 = .ok (.iload_n 2, 1) := by decide +kernel
theorem dX6_addLatestOf_72 : decode cX6_addLatestOf 72 = .ok (.aload_n 1, 1) := by decide +kernel
theorem dX6_addLatestOf_73 : decode cX6_addLatestOf 73 = .ok (.iload_n 3, 1) := by decide +kernel
theorem dX6_addLatestOf_74 : decode cX6_addLatestOf 74 = .ok (.invokevirtual 72, 3) := by decide +kernel
theorem dX6_addLatestOf_77 : decode cX6_addLatestOf 77 = .ok (.invokestatic 47, 3) := by decide +kernel
theorem dX6_addLatestOf_80 : decode cX6_addLatestOf 80 = .ok (.aload_n 0, 1) := by decide +kernel
theorem dX6_addLatestOf_81 : decode cX6_addLatestOf 81 = .ok (.getfield 27, 3) := by decide +kernel
theorem dX6_addLatestOf_84 : decode cX6_addLatestOf 84 = .ok (.iload_n 2, 1) := by decide +kernel
theorem dX6_addLatestOf_85 : decode cX6_addLatestOf 85 = .ok (.aload_n 1, 1) := by decide +kernel
theorem dX6_addLatestOf_86 : decode cX6_addLatestOf 86 = .ok (.iload_n 3, 1) := by decide +kernel
theorem dX6_addLatestOf_87 : decode cX6_addLatestOf 87 = .ok (.invokevirtual 75, 3) := by decide +kernel
theorem dX6_addLatestOf_90 : decode cX6_addLatestOf 90 = .ok (.invokestatic 47, 3) := by decide +kernel
theorem dX6_addLatestOf_93 : decode cX6_addLatestOf 93 = .ok (.aload_n 0, 1) := by decide +kernel
theorem dX6_addLatestOf_94 : decode cX6_addLatestOf 94 = .ok (.getfield 30, 3) := by decide +kernel
theorem dX6_addLatestOf_97 : decode cX6_addLatestOf 97 = .ok (.iload_n 2, 1) := by decide +kernel
theorem dX6_addLatestOf_98 : decode cX6_addLatestOf 98 = .ok (.iload_n 3, 1) := by decide +kernel
theorem dX6_addLatestOf_99 : decode cX6_addLatestOf 99 = .ok (.invokestatic 47, 3) := by decide +kernel
theorem dX6_addLatestOf_102 : decode cX6_addLatestOf 102 = .ok (.aload_n 0, 1) := by decide +kernel
theorem dX6_addLatestOf_103 : decode cX6_addLatestOf 103 = .ok (.dup, 1) := by decide +kernel
theorem dX6_addLatestOf_104 : decode cX6_addLatestOf 104 = .ok (.getfield 33, 3) := by decide +kernel
theorem dX6_addLatestOf_107 : decode cX6_addLatestOf 107 = .ok (.iconst 1, 1) := by decide +kernel
theorem dX6_addLatestOf_108 : decode cX6_addLatestOf 108 = .ok (.iadd, 1) := by decide +kernel
theorem dX6_addLatestOf_109 : decode cX6_addLatestOf 109 = .ok (.putfield 33, 3) := by decide +kernel
theorem dX6_addLatestOf_112 : decode cX6_addLatestOf 112 = .ok (.return_, 1) := by decide +kernel
theorem dX6_keyOf_0 : decode cX6_keyOf 0 = .ok (.aload_n 0, 1) := by decide +kernel
theorem dX6_keyOf_1 : decode cX6_keyOf 1 = .ok (.getfield 11, 3) := by decide +kernel
theorem dX6_keyOf_4 : decode cX6_keyOf 4 = .ok (.iload_n 1, 1) := by decide +kernel
theorem dX6_keyOf_5 : decode cX6_keyOf 5 = .ok (.invokestatic 43, 3) := by decide +kernel
theorem dX6_keyOf_8 : decode cX6_keyOf 8 = .ok (.invokestatic 78, 3) := by decide +kernel
theorem dX6_keyOf_11 : decode cX6_keyOf 11 = .ok (.ireturn, 1) := by decide +kernel
theorem dX6_sinceOf_0 : decode cX6_sinceOf 0 = .ok (.aload_n 0, 1) := by decide +kernel
theorem dX6_sinceOf_1 : decode cX6_sinceOf 1 = .ok (.getfield 15, 3) := by decide +kernel
theorem dX6_sinceOf_4 : decode cX6_sinceOf 4 = .ok (.iload_n 1, 1) := by decide +kernel
theorem dX6_sinceOf_5 : decode cX6_sinceOf 5 = .ok (.invokestatic 43, 3) := by decide +kernel
theorem dX6_sinceOf_8 : decode cX6_sinceOf 8 = .ok (.invokestatic 78, 3) := by decide +kernel
theorem dX6_sinceOf_11 : decode cX6_sinceOf 11 = .ok (.ireturn, 1) := by decide +kernel
theorem dX6_dwellOf_0 : decode cX6_dwellOf 0 = .ok (.aload_n 0, 1) := by decide +kernel
theorem dX6_dwellOf_1 : decode cX6_dwellOf 1 = .ok (.getfield 18, 3) := by decide +kernel
theorem dX6_dwellOf_4 : decode cX6_dwellOf 4 = .ok (.iload_n 1, 1) := by decide +kernel
theorem dX6_dwellOf_5 : decode cX6_dwellOf 5 = .ok (.invokestatic 43, 3) := by decide +kernel
theorem dX6_dwellOf_8 : decode cX6_dwellOf 8 = .ok (.invokestatic 78, 3) := by decide +kernel
theorem dX6_dwellOf_11 : decode cX6_dwellOf 11 = .ok (.ireturn, 1) := by decide +kernel
theorem dX6_fateOf_0 : decode cX6_fateOf 0 = .ok (.aload_n 0, 1) := by decide +kernel
theorem dX6_fateOf_1 : decode cX6_fateOf 1 = .ok (.getfield 21, 3) := by decide +kernel
theorem dX6_fateOf_4 : decode cX6_fateOf 4 = .ok (.iload_n 1, 1) := by decide +kernel
theorem dX6_fateOf_5 : decode cX6_fateOf 5 = .ok (.invokestatic 43, 3) := by decide +kernel
theorem dX6_fateOf_8 : decode cX6_fateOf 8 = .ok (.invokestatic 78, 3) := by decide +kernel
theorem dX6_fateOf_11 : decode cX6_fateOf 11 = .ok (.ireturn, 1) := by decide +kernel
theorem dX6_holderOf_0 : decode cX6_holderOf 0 = .ok (.aload_n 0, 1) := by decide +kernel
theorem dX6_holderOf_1 : decode cX6_holderOf 1 = .ok (.getfield 24, 3) := by decide +kernel
theorem dX6_holderOf_4 : decode cX6_holderOf 4 = .ok (.iload_n 1, 1) := by decide +kernel
theorem dX6_holderOf_5 : decode cX6_holderOf 5 = .ok (.invokestatic 43, 3) := by decide +kernel
theorem dX6_holderOf_8 : decode cX6_holderOf 8 = .ok (.invokestatic 78, 3) := by decide +kernel
theorem dX6_holderOf_11 : decode cX6_holderOf 11 = .ok (.ireturn, 1) := by decide +kernel
theorem dX6_notedOf_0 : decode cX6_notedOf 0 = .ok (.aload_n 0, 1) := by decide +kernel
theorem dX6_notedOf_1 : decode cX6_notedOf 1 = .ok (.getfield 27, 3) := by decide +kernel
theorem dX6_notedOf_4 : decode cX6_notedOf 4 = .ok (.iload_n 1, 1) := by decide +kernel
theorem dX6_notedOf_5 : decode cX6_notedOf 5 = .ok (.invokestatic 43, 3) := by decide +kernel
theorem dX6_notedOf_8 : decode cX6_notedOf 8 = .ok (.invokestatic 78, 3) := by decide +kernel
theorem dX6_notedOf_11 : decode cX6_notedOf 11 = .ok (.ireturn, 1) := by decide +kernel
theorem dX6_originOf_0 : decode cX6_originOf 0 = .ok (.aload_n 0, 1) := by decide +kernel
theorem dX6_originOf_1 : decode cX6_originOf 1 = .ok (.getfield 30, 3) := by decide +kernel
theorem dX6_originOf_4 : decode cX6_originOf 4 = .ok (.iload_n 1, 1) := by decide +kernel
theorem dX6_originOf_5 : decode cX6_originOf 5 = .ok (.invokestatic 43, 3) := by decide +kernel
theorem dX6_originOf_8 : decode cX6_originOf 8 = .ok (.invokestatic 78, 3) := by decide +kernel
theorem dX6_originOf_11 : decode cX6_originOf 11 = .ok (.ireturn, 1) := by decide +kernel
theorem dX6_changeFate_0 : decode cX6_changeFate 0 = .ok (.aload_n 0, 1) := by decide +kernel
theorem dX6_changeFate_1 : decode cX6_changeFate 1 = .ok (.iload_n 1, 1) := by decide +kernel
theorem dX6_changeFate_2 : decode cX6_changeFate 2 = .ok (.invokevirtual 82, 3) := by decide +kernel
theorem dX6_changeFate_5 : decode cX6_changeFate 5 = .ok (.ifCond .eq 15, 3) := by decide +kernel
theorem dX6_changeFate_8 : decode cX6_changeFate 8 = .ok (.aload_n 0, 1) := by decide +kernel
theorem dX6_changeFate_9 : decode cX6_changeFate 9 = .ok (.getfield 21, 3) := by decide +kernel
theorem dX6_changeFate_12 : decode cX6_changeFate 12 = .ok (.iload_n 1, 1) := by decide +kernel
theorem dX6_changeFate_13 : decode cX6_changeFate 13 = .ok (.invokestatic 43, 3) := by decide +kernel
theorem dX6_changeFate_16 : decode cX6_changeFate 16 = .ok (.iload_n 2, 1) := by decide +kernel
theorem dX6_changeFate_17 : decode cX6_changeFate 17 = .ok (.invokestatic 47, 3) := by decide +kernel
theorem dX6_changeFate_20 : decode cX6_changeFate 20 = .ok (.return_, 1) := by decide +kernel
theorem dX7_init_0 : decode cX7_init 0 = .ok (.aload_n 0, 1) := by decide +kernel
theorem dX7_init_1 : decode cX7_init 1 = .ok (.invokespecial 3, 3) := by decide +kernel
theorem dX7_init_4 : decode cX7_init 4 = .ok (.aload_n 0, 1) := by decide +kernel
theorem dX7_init_5 : decode cX7_init 5 = .ok (.iconst (-1), 1) := by decide +kernel
theorem dX7_init_6 : decode cX7_init 6 = .ok (.putfield 9, 3) := by decide +kernel
theorem dX7_init_9 : decode cX7_init 9 = .ok (.aload_n 0, 1) := by decide +kernel
theorem dX7_init_10 : decode cX7_init 10 = .ok (.bipush 24, 2) := by decide +kernel
theorem dX7_init_12 : decode cX7_init 12 = .ok (.newarray .int, 2) := by decide +kernel
theorem dX7_init_14 : decode cX7_init 14 = .ok (.putfield 15, 3) := by decide +kernel
theorem dX7_init_17 : decode cX7_init 17 = .ok (.aload_n 0, 1) := by decide +kernel
theorem dX7_init_18 : decode cX7_init 18 = .ok (.fload_n 1, 1) := by decide +kernel
theorem dX7_init_19 : decode cX7_init 19 = .ok (.putfield 19, 3) := by decide +kernel
theorem dX7_init_22 : decode cX7_init 22 = .ok (.aload_n 0, 1) := by decide +kernel
theorem dX7_init_23 : decode cX7_init 23 = .ok (.fload_n 2, 1) := by decide +kernel
theorem dX7_init_24 : decode cX7_init 24 = .ok (.putfield 23, 3) := by decide +kernel
theorem dX7_init_27 : decode cX7_init 27 = .ok (.return_, 1) := by decide +kernel
theorem dX7_copyFrom_0 : decode cX7_copyFrom 0 = .ok (.aload_n 0, 1) := by decide +kernel
theorem dX7_copyFrom_1 : decode cX7_copyFrom 1 = .ok (.aload_n 1, 1) := by decide +kernel
theorem dX7_copyFrom_2 : decode cX7_copyFrom 2 = .ok (.getfield 19, 3) := by decide +kernel
theorem dX7_copyFrom_5 : decode cX7_copyFrom 5 = .ok (.putfield 19, 3) := by decide +kernel
theorem dX7_copyFrom_8 : decode cX7_copyFrom 8 = .ok (.aload_n 0, 1) := by decide +kernel
theorem dX7_copyFrom_9 : decode cX7_copyFrom 9 = .ok (.aload_n 1, 1) := by decide +kernel
theorem dX7_copyFrom_10 : decode cX7_copyFrom 10 = .ok (.getfield 23, 3) := by decide +kernel
theorem dX7_copyFrom_13 : decode cX7_copyFrom 13 = .ok (.putfield 23, 3) := by decide +kernel
theorem dX7_copyFrom_16 : decode cX7_copyFrom 16 = .ok (.aload_n 0, 1) := by decide +kernel
theorem dX7_copyFrom_17 : decode cX7_copyFrom 17 = .ok (.aload_n 1, 1) := by decide +kernel
theorem dX7_copyFrom_18 : decode cX7_copyFrom 18 = .ok (.getfield 9, 3) := by decide +kernel
theorem dX7_copyFrom_21 : decode cX7_copyFrom 21 = .ok (.putfield 9, 3) := by decide +kernel
theorem dX7_copyFrom_24 : decode cX7_copyFrom 24 = .ok (.aload_n 0, 1) := by decide +kernel
theorem dX7_copyFrom_25 : decode cX7_copyFrom 25 = .ok (.aload_n 1, 1) := by decide +kernel
theorem dX7_copyFrom_26 : decode cX7_copyFrom 26 = .ok (.getfield 26, 3) := by decide +kernel
theorem dX7_copyFrom_29 : decode cX7_copyFrom 29 = .ok (.putfield 26, 3) := by decide +kernel
theorem dX7_copyFrom_32 : decode cX7_copyFrom 32 = .ok (.aload_n 0, 1) := by decide +kernel
theorem dX7_copyFrom_33 : decode cX7_copyFrom 33 = .ok (.aload_n 1, 1) := by decide +kernel
theorem dX7_copyFrom_34 : decode cX7_copyFrom 34 = .ok (.getfield 30, 3) := by decide +kernel
theorem dX7_copyFrom_37 : decode cX7_copyFrom 37 = .ok (.putfield 30, 3) := by decide +kernel
theorem dX7_copyFrom_40 : decode cX7_copyFrom 40 = .ok (.aload_n 0, 1) := by decide +kernel
theorem dX7_copyFrom_41 : decode cX7_copyFrom 41 = .ok (.aload_n 1, 1) := by decide +kernel
theorem dX7_copyFrom_42 : decode cX7_copyFrom 42 = .ok (.getfield 33, 3) := by decide +kernel
theorem dX7_copyFrom_45 : decode cX7_copyFrom 45 = .ok (.putfield 33, 3) := by decide +kernel
theorem dX7_copyFrom_48 : decode cX7_copyFrom 48 = .ok (.aload_n 0, 1) := by decide +kernel
theorem dX7_copyFrom_49 : decode cX7_copyFrom 49 = .ok (.aload_n 1, 1) := by decide +kernel
theorem dX7_copyFrom_50 : decode cX7_copyFrom 50 = .ok (.getfield 36, 3) := by decide +kernel
theorem dX7_copyFrom_53 : decode cX7_copyFrom 53 = .ok (.putfield 36, 3) := by decide +kernel
theorem dX7_copyFrom_56 : decode cX7_copyFrom 56 = .ok (.aload_n 1, 1) := by decide +kernel
theorem dX7_copyFrom_57 : decode cX7_copyFrom 57 = .ok (.getfield 15, 3) := by decide +kernel
theorem dX7_copyFrom_60 : decode cX7_copyFrom 60 = .ok (.aload_n 0, 1) := by decide +kernel
theorem dX7_copyFrom_61 : decode cX7_copyFrom 61 = .ok (.getfield 15, 3) := by decide +kernel
theorem dX7_copyFrom_64 : decode cX7_copyFrom 64 = .ok (.invokestatic 39, 3) := by decide +kernel
theorem dX7_copyFrom_67 : decode cX7_copyFrom 67 = .ok (.return_, 1) := by decide +kernel
theorem dX7_distanceOf_0 : decode cX7_distanceOf 0 = .ok (.iload_n 2, 1) := by decide +kernel
theorem dX7_distanceOf_1 : decode cX7_distanceOf 1 = .ok (.i2f, 1) := by decide +kernel
theorem dX7_distanceOf_2 : decode cX7_distanceOf 2 = .ok (.aload_n 0, 1) := by decide +kernel
theorem dX7_distanceOf_3 : decode cX7_distanceOf 3 = .ok (.getfield 19, 3) := by decide +kernel
theorem dX7_distanceOf_6 : decode cX7_distanceOf 6 = .ok (.fsub, 1) := by decide +kernel
theorem dX7_distanceOf_7 : decode cX7_distanceOf 7 = .ok (.invokestatic 45, 3) := by decide +kernel
theorem dX7_distanceOf_10 : decode cX7_distanceOf 10 = .ok (.aload_n 0, 1) := by decide +kernel
theorem dX7_distanceOf_11 : decode cX7_distanceOf 11 = .ok (.getfield 19, 3) := by decide +kernel
theorem dX7_distanceOf_14 : decode cX7_distanceOf 14 = .ok (.fdiv, 1) := by decide +kernel
theorem dX7_distanceOf_15 : decode cX7_distanceOf 15 = .ok (.fstore_n 3, 1) := by decide +kernel
theorem dX7_distanceOf_16 : decode cX7_distanceOf 16 = .ok (.aload_n 0, 1) := by decide +kernel
theorem dX7_distanceOf_17 : decode cX7_distanceOf 17 = .ok (.getfield 9, 3) := by decide +kernel
theorem dX7_distanceOf_20 : decode cX7_distanceOf 20 = .ok (.iconst (-1), 1) := by decide +kernel
theorem dX7_distanceOf_21 : decode cX7_distanceOf 21 = .ok (.if_icmp .ne 5, 3) := by decide +kernel
theorem dX7_distanceOf_24 : decode cX7_distanceOf 24 = .ok (.fload_n 3, 1) := by decide +kernel
theorem dX7_distanceOf_25 : decode cX7_distanceOf 25 = .ok (.freturn, 1) := by decide +kernel
theorem dX7_distanceOf_26 : decode cX7_distanceOf 26 = .ok (.fload_n 3, 1) := by decide +kernel
theorem dX7_distanceOf_27 : decode cX7_distanceOf 27 = .ok (.iload_n 1, 1) := by decide +kernel
theorem dX7_distanceOf_28 : decode cX7_distanceOf 28 = .ok (.aload_n 0, 1) := by decide +kernel
theorem dX7_distanceOf_29 : decode cX7_distanceOf 29 = .ok (.getfield 9, 3) := by decide +kernel
theorem dX7_distanceOf_32 : decode cX7_distanceOf 32 = .ok (.isub, 1) := by decide +kernel
theorem dX7_distanceOf_33 : decode cX7_distanceOf 33 = .ok (.invokestatic 49, 3) := by decide +kernel
theorem dX7_distanceOf_36 : decode cX7_distanceOf 36 = .ok (.i2f, 1) := by decide +kernel
theorem dX7_distanceOf_37 : decode cX7_distanceOf 37 = .ok (.aload_n 0, 1) := by decide +kernel
theorem dX7_distanceOf_38 : decode cX7_distanceOf 38 = .ok (.getfield 23, 3) := by decide +kernel
theorem dX7_distanceOf_41 : decode cX7_distanceOf 41 = .ok (.fsub, 1) := by decide +kernel
theorem dX7_distanceOf_42 : decode cX7_distanceOf 42 = .ok (.invokestatic 45, 3) := by decide +kernel
theorem dX7_distanceOf_45 : decode cX7_distanceOf 45 = .ok (.aload_n 0, 1) := by decide +kernel
theorem dX7_distanceOf_46 : decode cX7_distanceOf 46 = .ok (.getfield 23, 3) := by decide +kernel
theorem dX7_distanceOf_49 : decode cX7_distanceOf 49 = .ok (.fdiv, 1) := by decide +kernel
theorem dX7_distanceOf_50 : decode cX7_distanceOf 50 = .ok (.ldc 55, 2) := by decide +kernel
theorem dX7_distanceOf_52 : decode cX7_distanceOf 52 = .ok (.fmul, 1) := by decide +kernel
theorem dX7_distanceOf_53 : decode cX7_distanceOf 53 = .ok (.fadd, 1) := by decide +kernel
theorem dX7_distanceOf_54 : decode cX7_distanceOf 54 = .ok (.freturn, 1) := by decide +kernel
theorem dX7_learn_0 : decode cX7_learn 0 = .ok (.aload_n 0, 1) := by decide +kernel
theorem dX7_learn_1 : decode cX7_learn 1 = .ok (.aload_n 0, 1) := by decide +kernel
theorem dX7_learn_2 : decode cX7_learn 2 = .ok (.getfield 19, 3) := by decide +kernel
theorem dX7_learn_5 : decode cX7_learn 5 = .ok (.iload_n 2, 1) := by decide +kernel
theorem dX7_learn_6 : decode cX7_learn 6 = .ok (.i2f, 1) := by decide +kernel
theorem dX7_learn_7 : decode cX7_learn 7 = .ok (.aload_n 0, 1) := by decide +kernel
theorem dX7_learn_8 : decode cX7_learn 8 = .ok (.getfield 19, 3) := by decide +kernel
theorem dX7_learn_11 : decode cX7_learn 11 = .ok (.fsub, 1) := by decide +kernel
theorem dX7_learn_12 : decode cX7_learn 12 = .ok (.fload_n 3, 1) := by decide +kernel
theorem dX7_learn_13 : decode cX7_learn 13 = .ok (.fmul, 1) := by decide +kernel
theorem dX7_learn_14 : decode cX7_learn 14 = .ok (.fadd, 1) := by decide +kernel
theorem dX7_learn_15 : decode cX7_learn 15 = .ok (.invokestatic 56, 3) := by decide +kernel
theorem dX7_learn_18 : decode cX7_learn 18 = .ok (.putfield 19, 3) := by decide +kernel
theorem dX7_learn_21 : decode cX7_learn 21 = .ok (.aload_n 0, 1) := by decide +kernel
theorem dX7_learn_22 : decode cX7_learn 22 = .ok (.getfield 9, 3) := by decide +kernel
theorem dX7_learn_25 : decode cX7_learn 25 = .ok (.iconst (-1), 1) := by decide +kernel
theorem dX7_learn_26 : decode cX7_learn 26 = .ok (.if_icmp .eq 32, 3) := by decide +kernel
theorem dX7_learn_29 : decode cX7_learn 29 = .ok (.aload_n 0, 1) := by decide +kernel
theorem dX7_learn_30 : decode cX7_learn 30 = .ok (.aload_n 0, 1) := by decide +kernel
theorem dX7_learn_31 : decode cX7_learn 31 = .ok (.getfield 23, 3) := by decide +kernel
theorem dX7_learn_34 : decode cX7_learn 34 = .ok (.iload_n 1, 1) := by decide +kernel
theorem dX7_learn_35 : decode cX7_learn 35 = .ok (.aload_n 0, 1) := by decide +kernel
theorem dX7_learn_36 : decode cX7_learn 36 = .ok (.getfield 9, 3) := by decide +kernel
theorem dX7_learn_39 : decode cX7_learn 39 = .ok (.isub, 1) := by decide +kernel
theorem dX7_learn_40 : decode cX7_learn 40 = .ok (.invokestatic 49, 3) := by decide +kernel
theorem dX7_learn_43 : decode cX7_learn 43 = .ok (.i2f, 1) := by decide +kernel
theorem dX7_learn_44 : decode cX7_learn 44 = .ok (.aload_n 0, 1) := by decide +kernel
theorem dX7_learn_45 : decode cX7_learn 45 = .ok (.getfield 23, 3) := by decide +kernel
theorem dX7_learn_48 : decode cX7_learn 48 = .ok (.fsub, 1) := by decide +kernel
theorem dX7_learn_49 : decode cX7_learn 49 = .ok (.fload_n 3, 1) := by decide +kernel
theorem dX7_learn_50 : decode cX7_learn 50 = .ok (.fmul, 1) := by decide +kernel
theorem dX7_learn_51 : decode cX7_learn 51 = .ok (.fadd, 1) := by decide +kernel
theorem dX7_learn_52 : decode cX7_learn 52 = .ok (.invokestatic 56, 3) := by decide +kernel
theorem dX7_learn_55 : decode cX7_learn 55 = .ok (.putfield 23, 3) := by decide +kernel
theorem dX7_learn_58 : decode cX7_learn 58 = .ok (.aload_n 0, 1) := by decide +kernel
theorem dX7_learn_59 : decode cX7_learn 59 = .ok (.iload_n 1, 1) := by decide +kernel
theorem dX7_learn_60 : decode cX7_learn 60 = .ok (.putfield 9, 3) := by decide +kernel
theorem dX7_learn_63 : decode cX7_learn 63 = .ok (.return_, 1) := by decide +kernel
theorem dX7_unsigned_0 : decode cX7_unsigned 0 = .ok (.fload_n 0, 1) := by decide +kernel
theorem dX7_unsigned_1 : decode cX7_unsigned 1 = .ok (.fconst 0, 1) := by decide +kernel
theorem dX7_unsigned_2 : decode cX7_unsigned 2 = .ok (.fcmp .g, 1) := by decide +kernel
theorem dX7_unsigned_3 : decode cX7_unsigned 3 = .ok (.ifCond .ge 8, 3) := by decide +kernel
theorem dX7_unsigned_6 : decode cX7_unsigned 6 = .ok (.fload_n 0, 1) := by decide +kernel
theorem dX7_unsigned_7 : decode cX7_unsigned 7 = .ok (.fneg, 1) := by decide +kernel
theorem dX7_unsigned_8 : decode cX7_unsigned 8 = .ok (.goto 4, 3) := by decide +kernel
theorem dX7_unsigned_11 : decode cX7_unsigned 11 = .ok (.fload_n 0, 1) := by decide +kernel
theorem dX7_unsigned_12 : decode cX7_unsigned 12 = .ok (.freturn, 1) := by decide +kernel
theorem dX7_atLeastHalf_0 : decode cX7_atLeastHalf 0 = .ok (.fload_n 0, 1) := by decide +kernel
theorem dX7_atLeastHalf_1 : decode cX7_atLeastHalf 1 = .ok (.ldc 55, 2) := by decide +kernel
theorem dX7_atLeastHalf_3 : decode cX7_atLeastHalf 3 = .ok (.fcmp .g, 1) := by decide +kernel
theorem dX7_atLeastHalf_4 : decode cX7_atLeastHalf 4 = .ok (.ifCond .ge 8, 3) := by decide +kernel
theorem dX7_atLeastHalf_7 : decode cX7_atLeastHalf 7 = .ok (.ldc 55, 2) := by decide +kernel
theorem dX7_atLeastHalf_9 : decode cX7_atLeastHalf 9 = .ok (.goto 4, 3) := by decide +kernel
theorem dX7_atLeastHalf_12 : decode cX7_atLeastHalf 12 = .ok (.fload_n 0, 1) := by decide +kernel
theorem dX7_atLeastHalf_13 : decode cX7_atLeastHalf 13 = .ok (.freturn, 1) := by decide +kernel
theorem dX7_addSign_0 : decode cX7_addSign 0 = .ok (.aload_n 0, 1) := by decide +kernel
theorem dX7_addSign_1 : decode cX7_addSign 1 = .ok (.getfield 15, 3) := by decide +kernel
theorem dX7_addSign_4 : decode cX7_addSign 4 = .ok (.aload_n 0, 1) := by decide +kernel
theorem dX7_addSign_5 : decode cX7_addSign 5 = .ok (.getfield 36, 3) := by decide +kernel
theorem dX7_addSign_8 : decode cX7_addSign 8 = .ok (.bipush 24, 2) := by decide +kernel
theorem dX7_addSign_10 : decode cX7_addSign 10 = .ok (.invokestatic 59, 3) := by decide +kernel
theorem dX7_addSign_13 : decode cX7_addSign 13 = .ok (.iload_n 1, 1) := by decide +kernel
theorem dX7_addSign_14 : decode cX7_addSign 14 = .ok (.invokestatic 63, 3) := by decide +kernel
theorem dX7_addSign_17 : decode cX7_addSign 17 = .ok (.aload_n 0, 1) := by decide +kernel
theorem dX7_addSign_18 : decode cX7_addSign 18 = .ok (.dup, 1) := by decide +kernel
theorem dX7_addSign_19 : decode cX7_addSign 19 = .ok (.getfield 36, 3) := by decide +kernel
theorem dX7_addSign_22 : decode cX7_addSign 22 = .ok (.iconst 1, 1) := by decide +kernel
theorem dX7_addSign_23 : decode cX7_addSign 23 = .ok (.iadd, 1) := by decide +kernel
theorem dX7_addSign_24 : decode cX7_addSign 24 = .ok (.putfield 36, 3) := by decide +kernel
theorem dX7_addSign_27 : decode cX7_addSign 27 = .ok (.return_, 1) := by decide +kernel
theorem dX7_signBack_0 : decode cX7_signBack 0 = .ok (.aload_n 0, 1) := by decide +kernel
theorem dX7_signBack_1 : decode cX7_signBack 1 = .ok (.getfield 15, 3) := by decide +kernel
theorem dX7_signBack_4 : decode cX7_signBack 4 = .ok (.aload_n 0, 1) := by decide +kernel
theorem dX7_signBack_5 : decode cX7_signBack 5 = .ok (.getfield 36, 3) := by decide +kernel
theorem dX7_signBack_8 : decode cX7_signBack 8 = .ok (.iconst 1, 1) := by decide +kernel
theorem dX7_signBack_9 : decode cX7_signBack 9 = .ok (.isub, 1) := by decide +kernel
theorem dX7_signBack_10 : decode cX7_signBack 10 = .ok (.iload_n 1, 1) := by decide +kernel
theorem dX7_signBack_11 : decode cX7_signBack 11 = .ok (.isub, 1) := by decide +kernel
theorem dX7_signBack_12 : decode cX7_signBack 12 = .ok (.bipush 24, 2) := by decide +kernel
theorem dX7_signBack_14 : decode cX7_signBack 14 = .ok (.invokestatic 59, 3) := by decide +kernel
theorem dX7_signBack_17 : decode cX7_signBack 17 = .ok (.invokestatic 67, 3) := by decide +kernel
theorem dX7_signBack_20 : decode cX7_signBack 20 = .ok (.ireturn, 1) := by decide +kernel
end
section
theorem dX8_init_0 : decode cX8_init 0 = .ok (.aload_n 0, 1) := by decide +kernel
theorem dX8_init_1 : decode cX8_init 1 = .ok (.invokespecial 3, 3) := by decide +kernel
theorem dX8_init_4 : decode cX8_init 4 = .ok (.aload_n 0, 1) := by decide +kernel
theorem dX8_init_5 : decode cX8_init 5 = .ok (.new 9, 3) := by decide +kernel
theorem dX8_init_8 : decode cX8_init 8 = .ok (.dup, 1) := by decide +kernel
theorem dX8_init_9 : decode cX8_init 9 = .ok (.invokespecial 11, 3) := by decide +kernel
theorem dX8_init_12 : decode cX8_init 12 = .ok (.putfield 12, 3) := by decide +kernel
theorem dX8_init_15 : decode cX8_init 15 = .ok (.aload_n 0, 1) := by decide +kernel
theorem dX8_init_16 : decode cX8_init 16 = .ok (.new 9, 3) := by decide +kernel
theorem dX8_init_19 : decode cX8_init 19 = .ok (.dup, 1) := by decide +kernel
theorem dX8_init_20 : decode cX8_init 20 = .ok (.invokespecial 11, 3) := by decide +kernel
theorem dX8_init_23 : decode cX8_init 23 = .ok (.putfield 16, 3) := by decide +kernel
theorem dX8_init_26 : decode cX8_init 26 = .ok (.aload_n 0, 1) := by decide +kernel
theorem dX8_init_27 : decode cX8_init 27 = .ok (.new 9, 3) := by decide +kernel
theorem dX8_init_30 : decode cX8_init 30 = .ok (.dup, 1) := by decide +kernel
theorem dX8_init_31 : decode cX8_init 31 = .ok (.invokespecial 11, 3) := by decide +kernel
theorem dX8_init_34 : decode cX8_init 34 = .ok (.putfield 19, 3) := by decide +kernel
theorem dX8_init_37 : decode cX8_init 37 = .ok (.aload_n 0, 1) := by decide +kernel
theorem dX8_init_38 : decode cX8_init 38 = .ok (.new 22, 3) := by decide +kernel
theorem dX8_init_41 : decode cX8_init 41 = .ok (.dup, 1) := by decide +kernel
theorem dX8_init_42 : decode cX8_init 42 = .ok (.invokespecial 24, 3) := by decide +kernel
theorem dX8_init_45 : decode cX8_init 45 = .ok (.putfield 25, 3) := by decide +kernel
theorem dX8_init_48 : decode cX8_init 48 = .ok (.aload_n 0, 1) := by decide +kernel
theorem dX8_init_49 : decode cX8_init 49 = .ok (.new 29, 3) := by decide +kernel
theorem dX8_init_52 : decode cX8_init 52 = .ok (.dup, 1) := by decide +kernel
theorem dX8_init_53 : decode cX8_init 53 = .ok (.invokespecial 31, 3) := by decide +kernel
theorem dX8_init_56 : decode cX8_init 56 = .ok (.putfield 32, 3) := by decide +kernel
theorem dX8_init_59 : decode cX8_init 59 = .ok (.aload_n 0, 1) := by decide +kernel
theorem dX8_init_60 : decode cX8_init 60 = .ok (.iconst 0, 1) := by decide +kernel
theorem dX8_init_61 : decode cX8_init 61 = .ok (.putfield 36, 3) := by decide +kernel
theorem dX8_init_64 : decode cX8_init 64 = .ok (.return_, 1) := by decide +kernel
theorem dX8_build_0 : decode cX8_build 0 = .ok (.iload_n 1, 1) := by decide +kernel
theorem dX8_build_1 : decode cX8_build 1 = .ok (.iconst 2, 1) := by decide +kernel
theorem dX8_build_2 : decode cX8_build 2 = .ok (.if_icmp .lt 20, 3) := by decide +kernel
theorem dX8_build_5 : decode cX8_build 5 = .ok (.iload_n 1, 1) := by decide +kernel
theorem dX8_build_6 : decode cX8_build 6 = .ok (.bipush 6, 2) := by decide +kernel
theorem dX8_build_8 : decode cX8_build 8 = .ok (.if_icmp .gt 14, 3) := by decide +kernel
theorem dX8_build_11 : decode cX8_build 11 = .ok (.iload_n 2, 1) := by decide +kernel
theorem dX8_build_12 : decode cX8_build 12 = .ok (.iconst 2, 1) := by decide +kernel
theorem dX8_build_13 : decode cX8_build 13 = .ok (.if_icmp .lt 9, 3) := by decide +kernel
theorem dX8_build_16 : decode cX8_build 16 = .ok (.iload_n 2, 1) := by decide +kernel
theorem dX8_build_17 : decode cX8_build 17 = .ok (.bipush 8, 2) := by decide +kernel
theorem dX8_build_19 : decode cX8_build 19 = .ok (.if_icmp .le 6, 3) := by decide +kernel
theorem dX8_build_22 : decode cX8_build 22 = .ok (.bipush (-2), 2) := by decide +kernel
theorem dX8_build_24 : decode cX8_build 24 = .ok (.ireturn, 1) := by decide +kernel
theorem dX8_build_25 : decode cX8_build 25 = .ok (.aload_n 0, 1) := by decide +kernel
theorem dX8_build_26 : decode cX8_build 26 = .ok (.getfield 12, 3) := by decide +kernel
theorem dX8_build_29 : decode cX8_build 29 = .ok (.getfield 40, 3) := by decide +kernel
theorem dX8_build_32 : decode cX8_build 32 = .ok (.astore_n 3, 1) := by decide +kernel
theorem dX8_build_33 : decode cX8_build 33 = .ok (.aload_n 3, 1) := by decide +kernel
theorem dX8_build_34 : decode cX8_build 34 = .ok (.invokevirtual 44, 3) := by decide +kernel
theorem dX8_build_37 : decode cX8_build 37 = .ok (.ifCond .gt 10, 3) := by decide +kernel
theorem dX8_build_40 : decode cX8_build 40 = .ok (.aload_n 3, 1) := by decide +kernel
theorem dX8_build_41 : decode cX8_build 41 = .ok (.invokevirtual 50, 3) := by decide +kernel
theorem dX8_build_44 : decode cX8_build 44 = .ok (.ifCond .le 6, 3) := by decide +kernel
theorem dX8_build_47 : decode cX8_build 47 = .ok (.bipush (-4), 2) := by decide +kernel
theorem dX8_build_49 : decode cX8_build 49 = .ok (.ireturn, 1) := by decide +kernel
theorem dX8_build_50 : decode cX8_build 50 = .ok (.aload_n 3, 1) := by decide +kernel
theorem dX8_build_51 : decode cX8_build 51 = .ok (.getfield 53, 3) := by decide +kernel
theorem dX8_build_54 : decode cX8_build 54 = .ok (.iload_n 1, 1) := by decide +kernel
theorem dX8_build_55 : decode cX8_build 55 = .ok (.if_icmp .ne 14, 3) := by decide +kernel
theorem dX8_build_58 : decode cX8_build 58 = .ok (.aload_n 3, 1) := by decide +kernel
theorem dX8_build_59 : decode cX8_build 59 = .ok (.getfield 57, 3) := by decide +kernel
theorem dX8_build_62 : decode cX8_build 62 = .ok (.iload_n 2, 1) := by decide +kernel
theorem dX8_build_63 : decode cX8_build 63 = .ok (.if_icmp .ne 6, 3) := by decide +kernel
theorem dX8_build_66 : decode cX8_build 66 = .ok (.bipush (-5), 2) := by decide +kernel
theorem dX8_build_68 : decode cX8_build 68 = .ok (.ireturn, 1) := by decide +kernel
theorem dX8_build_69 : decode cX8_build 69 = .ok (.aload_n 0, 1) := by decide +kernel
theorem dX8_build_70 : decode cX8_build 70 = .ok (.getfield 25, 3) := by decide +kernel
theorem dX8_build_73 : decode cX8_build 73 = .ok (.aload_n 0, 1) := by decide +kernel
theorem dX8_build_74 : decode cX8_build 74 = .ok (.getfield 12, 3) := by decide +kernel
theorem dX8_build_77 : decode cX8_build 77 = .ok (.invokevirtual 60, 3) := by decide +kernel
theorem dX8_build_80 : decode cX8_build 80 = .ok (.aload_n 3, 1) := by decide +kernel
theorem dX8_build_81 : decode cX8_build 81 = .ok (.iload_n 1, 1) := by decide +kernel
theorem dX8_build_82 : decode cX8_build 82 = .ok (.iload_n 2, 1) := by decide +kernel
theorem dX8_build_83 : decode cX8_build 83 = .ok (.invokevirtual 64, 3) := by decide +kernel
theorem dX8_build_86 : decode cX8_build 86 = .ok (.aload_n 3, 1) := by decide +kernel
theorem dX8_build_87 : decode cX8_build 87 = .ok (.invokevirtual 68, 3) := by decide +kernel
theorem dX8_build_90 : decode cX8_build 90 = .ok (.ireturn, 1) := by decide +kernel
theorem dX8_setSign_0 : decode cX8_setSign 0 = .ok (.aload_n 0, 1) := by decide +kernel
theorem dX8_setSign_1 : decode cX8_setSign 1 = .ok (.getfield 12, 3) := by decide +kernel
theorem dX8_setSign_4 : decode cX8_setSign 4 = .ok (.getfield 40, 3) := by decide +kernel
theorem dX8_setSign_7 : decode cX8_setSign 7 = .ok (.astore_n 3, 1) := by decide +kernel
theorem dX8_setSign_8 : decode cX8_setSign 8 = .ok (.aload_n 3, 1) := by decide +kernel
theorem dX8_setSign_9 : decode cX8_setSign 9 = .ok (.iload_n 1, 1) := by decide +kernel
theorem dX8_setSign_10 : decode cX8_setSign 10 = .ok (.invokevirtual 71, 3) := by decide +kernel
theorem dX8_setSign_13 : decode cX8_setSign 13 = .ok (.ifCond .ne 5, 3) := by decide +kernel
theorem dX8_setSign_16 : decode cX8_setSign 16 = .ok (.iconst (-1), 1) := by decide +kernel
theorem dX8_setSign_17 : decode cX8_setSign 17 = .ok (.ireturn, 1) := by decide +kernel
theorem dX8_setSign_18 : decode cX8_setSign 18 = .ok (.iload_n 2, 1) := by decide +kernel
theorem dX8_setSign_19 : decode cX8_setSign 19 = .ok (.bipush 46, 2) := by decide +kernel
theorem dX8_setSign_21 : decode cX8_setSign 21 = .ok (.if_icmp .eq 18, 3) := by decide +kernel
theorem dX8_setSign_24 : decode cX8_setSign 24 = .ok (.iload_n 2, 1) := by decide +kernel
theorem dX8_setSign_25 : decode cX8_setSign 25 = .ok (.bipush 97, 2) := by decide +kernel
theorem dX8_setSign_27 : decode cX8_setSign 27 = .ok (.if_icmp .lt 9, 3) := by decide +kernel
theorem dX8_setSign_30 : decode cX8_setSign 30 = .ok (.iload_n 2, 1) := by decide +kernel
theorem dX8_setSign_31 : decode cX8_setSign 31 = .ok (.bipush 122, 2) := by decide +kernel
theorem dX8_setSign_33 : decode cX8_setSign 33 = .ok (.if_icmp .le 6, 3) := by decide +kernel
theorem dX8_setSign_36 : decode cX8_setSign 36 = .ok (.bipush (-2), 2) := by decide +kernel
theorem dX8_setSign_38 : decode cX8_setSign 38 = .ok (.ireturn, 1) := by decide +kernel
theorem dX8_setSign_39 : decode cX8_setSign 39 = .ok (.aload_n 3, 1) := by decide +kernel
theorem dX8_setSign_40 : decode cX8_setSign 40 = .ok (.iload_n 1, 1) := by decide +kernel
theorem dX8_setSign_41 : decode cX8_setSign 41 = .ok (.invokevirtual 75, 3) := by decide +kernel
theorem dX8_setSign_44 : decode cX8_setSign 44 = .ok (.istore 4, 2) := by decide +kernel
theorem dX8_setSign_46 : decode cX8_setSign 46 = .ok (.iload 4, 2) := by decide +kernel
theorem dX8_setSign_48 : decode cX8_setSign 48 = .ok (.iload_n 2, 1) := by decide +kernel
theorem dX8_setSign_49 : decode cX8_setSign 49 = .ok (.if_icmp .ne 15, 3) := by decide +kernel
theorem dX8_setSign_52 : decode cX8_setSign 52 = .ok (.aload_n 3, 1) := by decide +kernel
theorem dX8_setSign_53 : decode cX8_setSign 53 = .ok (.iload_n 1, 1) := by decide +kernel
theorem dX8_setSign_54 : decode cX8_setSign 54 = .ok (.invokevirtual 79, 3) := by decide +kernel
theorem dX8_setSign_57 : decode cX8_setSign 57 = .ok (.iconst (-1), 1) := by decide +kernel
theorem dX8_setSign_58 : decode cX8_setSign 58 = .ok (.if_icmp .ne 6, 3) := by decide +kernel
theorem dX8_setSign_61 : decode cX8_setSign 61 = .ok (.bipush (-5), 2) := by decide +kernel
theorem dX8_setSign_63 : decode cX8_setSign 63 = .ok (.ireturn, 1) := by decide +kernel
theorem dX8_setSign_64 : decode cX8_setSign 64 = .ok (.aload_n 0, 1) := by decide +kernel
theorem dX8_setSign_65 : decode cX8_setSign 65 = .ok (.getfield 25, 3) := by decide +kernel
theorem dX8_setSign_68 : decode cX8_setSign 68 = .ok (.aload_n 0, 1) := by decide +kernel
theorem dX8_setSign_69 : decode cX8_setSign 69 = .ok (.getfield 12, 3) := by decide +kernel
theorem dX8_setSign_72 : decode cX8_setSign 72 = .ok (.invokevirtual 60, 3) := by decide +kernel
theorem dX8_setSign_75 : decode cX8_setSign 75 = .ok (.aload_n 3, 1) := by decide +kernel
theorem dX8_setSign_76 : decode cX8_setSign 76 = .ok (.iload_n 1, 1) := by decide +kernel
theorem dX8_setSign_77 : decode cX8_setSign 77 = .ok (.iload_n 2, 1) := by decide +kernel
theorem dX8_setSign_78 : decode cX8_setSign 78 = .ok (.invokevirtual 82, 3) := by decide +kernel
theorem dX8_setSign_81 : decode cX8_setSign 81 = .ok (.iload 4, 2) := by decide +kernel
theorem dX8_setSign_83 : decode cX8_setSign 83 = .ok (.ireturn, 1) := by decide +kernel
theorem dX8_setShift_0 : decode cX8_setShift 0 = .ok (.aload_n 0, 1) := by decide +kernel
theorem dX8_setShift_1 : decode cX8_setShift 1 = .ok (.getfield 12, 3) := by decide +kernel
theorem dX8_setShift_4 : decode cX8_setShift 4 = .ok (.getfield 40, 3) := by decide +kernel
theorem dX8_setShift_7 : decode cX8_setShift 7 = .ok (.astore_n 3, 1) := by decide +kernel
theorem dX8_setShift_8 : decode cX8_setShift 8 = .ok (.iload_n 1, 1) := by decide +kernel
theorem dX8_setShift_9 : decode cX8_setShift 9 = .ok (.invokestatic 86, 3) := by decide +kernel
theorem dX8_setShift_12 : decode cX8_setShift 12 = .ok (.ifCond .eq 11, 3) := by decide +kernel
theorem dX8_setShift_15 : decode cX8_setShift 15 = .ok (.aload_n 3, 1) := by decide +kernel
theorem dX8_setShift_16 : decode cX8_setShift 16 = .ok (.iload_n 2, 1) := by decide +kernel
theorem dX8_setShift_17 : decode cX8_setShift 17 = .ok (.invokevirtual 71, 3) := by decide +kernel
theorem dX8_setShift_20 : decode cX8_setShift 20 = .ok (.ifCond .ne 5, 3) := by decide +kernel
theorem dX8_setShift_23 : decode cX8_setShift 23 = .ok (.iconst (-1), 1) := by decide +kernel
theorem dX8_setShift_24 : decode cX8_setShift 24 = .ok (.ireturn, 1) := by decide +kernel
theorem dX8_setShift_25 : decode cX8_setShift 25 = .ok (.aload_n 3, 1) := by decide +kernel
theorem dX8_setShift_26 : decode cX8_setShift 26 = .ok (.iload_n 2, 1) := by decide +kernel
theorem dX8_setShift_27 : decode cX8_setShift 27 = .ok (.invokevirtual 79, 3) := by decide +kernel
theorem dX8_setShift_30 : decode cX8_setShift 30 = .ok (.istore 4, 2) := by decide +kernel
theorem dX8_setShift_32 : decode cX8_setShift 32 = .ok (.iload 4, 2) := by decide +kernel
theorem dX8_setShift_34 : decode cX8_setShift 34 = .ok (.iload_n 1, 1) := by decide +kernel
theorem dX8_setShift_35 : decode cX8_setShift 35 = .ok (.if_icmp .ne 6, 3) := by decide +kernel
theorem dX8_setShift_38 : decode cX8_setShift 38 = .ok (.bipush (-5), 2) := by decide +kernel
theorem dX8_setShift_40 : decode cX8_setShift 40 = .ok (.ireturn, 1) := by decide +kernel
theorem dX8_setShift_41 : decode cX8_setShift 41 = .ok (.iload 4, 2) := by decide +kernel
theorem dX8_setShift_43 : decode cX8_setShift 43 = .ok (.iconst (-1), 1) := by decide +kernel
theorem dX8_setShift_44 : decode cX8_setShift 44 = .ok (.if_icmp .eq 6, 3) := by decide +kernel
theorem dX8_setShift_47 : decode cX8_setShift 47 = .ok (.bipush (-4), 2) := by decide +kernel
theorem dX8_setShift_49 : decode cX8_setShift 49 = .ok (.ireturn, 1) := by decide +kernel
theorem dX8_setShift_50 : decode cX8_setShift 50 = .ok (.aload_n 0, 1) := by decide +kernel
theorem dX8_setShift_51 : decode cX8_setShift 51 = .ok (.getfield 25, 3) := by decide +kernel
theorem dX8_setShift_54 : decode cX8_setShift 54 = .ok (.aload_n 0, 1) := by decide +kernel
theorem dX8_setShift_55 : decode cX8_setShift 55 = .ok (.getfield 12, 3) := by decide +kernel
theorem dX8_setShift_58 : decode cX8_setShift 58 = .ok (.invokevirtual 60, 3) := by decide +kernel
theorem dX8_setShift_61 : decode cX8_setShift 61 = .ok (.aload_n 3, 1) := by decide +kernel
theorem dX8_setShift_62 : decode cX8_setShift 62 = .ok (.iload_n 1, 1) := by decide +kernel
theorem dX8_setShift_63 : decode cX8_setShift 63 = .ok (.invokevirtual 89, 3) := by decide +kernel
theorem dX8_setShift_66 : decode cX8_setShift 66 = .ok (.istore 5, 2) := by decide +kernel
theorem dX8_setShift_68 : decode cX8_setShift 68 = .ok (.aload_n 3, 1) := by decide +kernel
theorem dX8_setShift_69 : decode cX8_setShift 69 = .ok (.iload_n 1, 1) := by decide +kernel
theorem dX8_setShift_70 : decode cX8_setShift 70 = .ok (.iload_n 2, 1) := by decide +kernel
theorem dX8_setShift_71 : decode cX8_setShift 71 = .ok (.invokevirtual 92, 3) := by decide +kernel
theorem dX8_setShift_74 : decode cX8_setShift 74 = .ok (.iload 5, 2) := by decide +kernel
theorem dX8_setShift_76 : decode cX8_setShift 76 = .ok (.iconst (-1), 1) := by decide +kernel
theorem dX8_setShift_77 : decode cX8_setShift 77 = .ok (.if_icmp .ne 7, 3) := by decide +kernel
theorem dX8_setShift_80 : decode cX8_setShift 80 = .ok (.iload_n 2, 1) := by decide +kernel
theorem dX8_setShift_81 : decode cX8_setShift 81 = .ok (.goto 5, 3) := by decide +kernel
theorem dX8_setShift_84 : decode cX8_setShift 84 = .ok (.iload 5, 2) := by decide +kernel
theorem dX8_setShift_86 : decode cX8_setShift 86 = .ok (.ireturn, 1) := by decide +kernel
theorem dX8_borrow_0 : decode cX8_borrow 0 = .ok (.iload_n 1, 1) := by decide +kernel
theorem dX8_borrow_1 : decode cX8_borrow 1 = .ok (.invokestatic 86, 3) := by decide +kernel
theorem dX8_borrow_4 : decode cX8_borrow 4 = .ok (.ifCond .ne 5, 3) := by decide +kernel
theorem dX8_borrow_7 : decode cX8_borrow 7 = .ok (.iconst (-1), 1) := by decide +kernel
theorem dX8_borrow_8 : decode cX8_borrow 8 = .ok (.ireturn, 1) := by decide +kernel
theorem dX8_borrow_9 : decode cX8_borrow 9 = .ok (.aload_n 0, 1) := by decide +kernel
theorem dX8_borrow_10 : decode cX8_borrow 10 = .ok (.getfield 12, 3) := by decide +kernel
theorem dX8_borrow_13 : decode cX8_borrow 13 = .ok (.iload_n 1, 1) := by decide +kernel
theorem dX8_borrow_14 : decode cX8_borrow 14 = .ok (.invokevirtual 95, 3) := by decide +kernel
theorem dX8_borrow_17 : decode cX8_borrow 17 = .ok (.getfield 99, 3) := by decide +kernel
theorem dX8_borrow_20 : decode cX8_borrow 20 = .ok (.iload_n 2, 1) := by decide +kernel
theorem dX8_borrow_21 : decode cX8_borrow 21 = .ok (.if_icmp .ne 6, 3) := by decide +kernel
theorem dX8_borrow_24 : decode cX8_borrow 24 = .ok (.bipush (-5), 2) := by decide +kernel
theorem dX8_borrow_26 : decode cX8_borrow 26 = .ok (.ireturn, 1) := by decide +kernel
theorem dX8_borrow_27 : decode cX8_borrow 27 = .ok (.aload_n 0, 1) := by decide +kernel
theorem dX8_borrow_28 : decode cX8_borrow 28 = .ok (.getfield 25, 3) := by decide +kernel
theorem dX8_borrow_31 : decode cX8_borrow 31 = .ok (.aload_n 0, 1) := by decide +kernel
theorem dX8_borrow_32 : decode cX8_borrow 32 = .ok (.getfield 12, 3) := by decide +kernel
theorem dX8_borrow_35 : decode cX8_borrow 35 = .ok (.invokevirtual 60, 3) := by decide +kernel
theorem dX8_borrow_38 : decode cX8_borrow 38 = .ok (.aload_n 0, 1) := by decide +kernel
theorem dX8_borrow_39 : decode cX8_borrow 39 = .ok (.getfield 12, 3) := by decide +kernel
theorem dX8_borrow_42 : decode cX8_borrow 42 = .ok (.iload_n 1, 1) := by decide +kernel
theorem dX8_borrow_43 : decode cX8_borrow 43 = .ok (.invokevirtual 95, 3) := by decide +kernel
theorem dX8_borrow_46 : decode cX8_borrow 46 = .ok (.iload_n 2, 1) := by decide +kernel
theorem dX8_borrow_47 : decode cX8_borrow 47 = .ok (.putfield 99, 3) := by decide +kernel
theorem dX8_borrow_50 : decode cX8_borrow 50 = .ok (.aload_n 0, 1) := by decide +kernel
theorem dX8_borrow_51 : decode cX8_borrow 51 = .ok (.getfield 12, 3) := by decide +kernel
theorem dX8_borrow_54 : decode cX8_borrow 54 = .ok (.getfield 104, 3) := by decide +kernel
theorem dX8_borrow_57 : decode cX8_borrow 57 = .ok (.getfield 99, 3) := by decide +kernel
theorem dX8_borrow_60 : decode cX8_borrow 60 = .ok (.ifCond .eq 7, 3) := by decide +kernel
theorem dX8_borrow_63 : decode cX8_borrow 63 = .ok (.iconst 1, 1) := by decide +kernel
theorem dX8_borrow_64 : decode cX8_borrow 64 = .ok (.goto 4, 3) := by decide +kernel
theorem dX8_borrow_67 : decode cX8_borrow 67 = .ok (.iconst 0, 1) := by decide +kernel
theorem dX8_borrow_68 : decode cX8_borrow 68 = .ok (.aload_n 0, 1) := by decide +kernel
theorem dX8_borrow_69 : decode cX8_borrow 69 = .ok (.getfield 12, 3) := by decide +kernel
theorem dX8_borrow_72 : decode cX8_borrow 72 = .ok (.getfield 108, 3) := by decide +kernel
theorem dX8_borrow_75 : decode cX8_borrow 75 = .ok (.getfield 99, 3) := by decide +kernel
theorem dX8_borrow_78 : decode cX8_borrow 78 = .ok (.ifCond .eq 7, 3) := by decide +kernel
theorem dX8_borrow_81 : decode cX8_borrow 81 = .ok (.iconst 1, 1) := by decide +kernel
theorem dX8_borrow_82 : decode cX8_borrow 82 = .ok (.goto 4, 3) := by decide +kernel
theorem dX8_borrow_85 : decode cX8_borrow 85 = .ok (.iconst 0, 1) := by decide +kernel
theorem dX8_borrow_86 : decode cX8_borrow 86 = .ok (.iadd, 1) := by decide +kernel
theorem dX8_borrow_87 : decode cX8_borrow 87 = .ok (.ireturn, 1) := by decide +kernel
theorem dX8_set_0 : decode cX8_set 0 = .ok (.iload_n 1, 1) := by decide +kernel
theorem dX8_set_1 : decode cX8_set 1 = .ok (.iload_n 2, 1) := by decide +kernel
theorem dX8_set_2 : decode cX8_set 2 = .ok (.invokestatic 111, 3) := by decide +kernel
theorem dX8_set_5 : decode cX8_set 5 = .ok (.ifCond .ne 6, 3) := by decide +kernel
theorem dX8_set_8 : decode cX8_set 8 = .ok (.bipush (-2), 2) := by decide +kernel
theorem dX8_set_10 : decode cX8_set 10 = .ok (.ireturn, 1) := by decide +kernel
theorem dX8_set_11 : decode cX8_set 11 = .ok (.aload_n 0, 1) := by decide +kernel
theorem dX8_set_12 : decode cX8_set 12 = .ok (.getfield 12, 3) := by decide +kernel
theorem dX8_set_15 : decode cX8_set 15 = .ok (.getfield 117, 3) := by decide +kernel
theorem dX8_set_18 : decode cX8_set 18 = .ok (.iload_n 1, 1) := by decide +kernel
theorem dX8_set_19 : decode cX8_set 19 = .ok (.invokevirtual 121, 3) := by decide +kernel
theorem dX8_set_22 : decode cX8_set 22 = .ok (.istore_n 3, 1) := by decide +kernel
theorem dX8_set_23 : decode cX8_set 23 = .ok (.iload_n 3, 1) := by decide +kernel
theorem dX8_set_24 : decode cX8_set 24 = .ok (.iload_n 2, 1) := by decide +kernel
theorem dX8_set_25 : decode cX8_set 25 = .ok (.if_icmp .ne 6, 3) := by decide +kernel
theorem dX8_set_28 : decode cX8_set 28 = .ok (.bipush (-5), 2) := by decide +kernel
theorem dX8_set_30 : decode cX8_set 30 = .ok (.ireturn, 1) := by decide +kernel
theorem dX8_set_31 : decode cX8_set 31 = .ok (.aload_n 0, 1) := by decide +kernel
theorem dX8_set_32 : decode cX8_set 32 = .ok (.getfield 25, 3) := by decide +kernel
theorem dX8_set_35 : decode cX8_set 35 = .ok (.aload_n 0, 1) := by decide +kernel
theorem dX8_set_36 : decode cX8_set 36 = .ok (.getfield 12, 3) := by decide +kernel
theorem dX8_set_39 : decode cX8_set 39 = .ok (.invokevirtual 60, 3) := by decide +kernel
theorem dX8_set_42 : decode cX8_set 42 = .ok (.aload_n 0, 1) := by decide +kernel
theorem dX8_set_43 : decode cX8_set 43 = .ok (.getfield 12, 3) := by decide +kernel
theorem dX8_set_46 : decode cX8_set 46 = .ok (.getfield 117, 3) := by decide +kernel
theorem dX8_set_49 : decode cX8_set 49 = .ok (.iload_n 1, 1) := by decide +kernel
theorem dX8_set_50 : decode cX8_set 50 = .ok (.iload_n 2, 1) := by decide +kernel
theorem dX8_set_51 : decode cX8_set 51 = .ok (.invokevirtual 124, 3) := by decide +kernel
theorem dX8_set_54 : decode cX8_set 54 = .ok (.iload_n 3, 1) := by decide +kernel
theorem dX8_set_55 : decode cX8_set 55 = .ok (.ireturn, 1) := by decide +kernel
theorem dX8_press_0 : decode cX8_press 0 = .ok (.aload_n 0, 1) := by decide +kernel
theorem dX8_press_1 : decode cX8_press 1 = .ok (.getfield 12, 3) := by decide +kernel
theorem dX8_press_4 : decode cX8_press 4 = .ok (.iload_n 1, 1) := by decide +kernel
theorem dX8_press_5 : decode cX8_press 5 = .ok (.iload_n 2, 1) := by decide +kernel
theorem dX8_press_6 : decode cX8_press 6 = .ok (.invokevirtual 127, 3) := by decide +kernel
theorem dX8_press_9 : decode cX8_press 9 = .ok (.istore_n 3, 1) := by decide +kernel
theorem dX8_press_10 : decode cX8_press 10 = .ok (.iload_n 3, 1) := by decide +kernel
theorem dX8_press_11 : decode cX8_press 11 = .ok (.ifCond .eq 5, 3) := by decide +kernel
theorem dX8_press_14 : decode cX8_press 14 = .ok (.iload_n 3, 1) := by decide +kernel
theorem dX8_press_15 : decode cX8_press 15 = .ok (.ireturn, 1) := by decide +kernel
theorem dX8_press_16 : decode cX8_press 16 = .ok (.aload_n 0, 1) := by decide +kernel
theorem dX8_press_17 : decode cX8_press 17 = .ok (.getfield 25, 3) := by decide +kernel
theorem dX8_press_20 : decode cX8_press 20 = .ok (.aload_n 0, 1) := by decide +kernel
theorem dX8_press_21 : decode cX8_press 21 = .ok (.getfield 12, 3) := by decide +kernel
theorem dX8_press_24 : decode cX8_press 24 = .ok (.invokevirtual 60, 3) := by decide +kernel
theorem dX8_press_27 : decode cX8_press 27 = .ok (.aload_n 0, 1) := by decide +kernel
theorem dX8_press_28 : decode cX8_press 28 = .ok (.getfield 12, 3) := by decide +kernel
theorem dX8_press_31 : decode cX8_press 31 = .ok (.getfield 40, 3) := by decide +kernel
theorem dX8_press_34 : decode cX8_press 34 = .ok (.iload_n 1, 1) := by decide +kernel
theorem dX8_press_35 : decode cX8_press 35 = .ok (.iload_n 2, 1) := by decide +kernel
theorem dX8_press_36 : decode cX8_press 36 = .ok (.invokevirtual 131, 3) := by decide +kernel
theorem dX8_press_39 : decode cX8_press 39 = .ok (.aload_n 0, 1) := by decide +kernel
theorem dX8_press_40 : decode cX8_press 40 = .ok (.getfield 12, 3) := by decide +kernel
theorem dX8_press_43 : decode cX8_press 43 = .ok (.getfield 40, 3) := by decide +kernel
theorem dX8_press_46 : decode cX8_press 46 = .ok (.iload_n 1, 1) := by decide +kernel
theorem dX8_press_47 : decode cX8_press 47 = .ok (.invokevirtual 134, 3) := by decide +kernel
theorem dX8_press_50 : decode cX8_press 50 = .ok (.ireturn, 1) := by decide +kernel
theorem dX8_release_0 : decode cX8_release 0 = .ok (.aload_n 0, 1) := by decide +kernel
theorem dX8_release_1 : decode cX8_release 1 = .ok (.getfield 12, 3) := by decide +kernel
theorem dX8_release_4 : decode cX8_release 4 = .ok (.iload_n 1, 1) := by decide +kernel
theorem dX8_release_5 : decode cX8_release 5 = .ok (.iload_n 2, 1) := by decide +kernel
theorem dX8_release_6 : decode cX8_release 6 = .ok (.invokevirtual 137, 3) := by decide +kernel
theorem dX8_release_9 : decode cX8_release 9 = .ok (.istore_n 3, 1) := by decide +kernel
theorem dX8_release_10 : decode cX8_release 10 = .ok (.iload_n 3, 1) := by decide +kernel
theorem dX8_release_11 : decode cX8_release 11 = .ok (.ifCond .eq 5, 3) := by decide +kernel
theorem dX8_release_14 : decode cX8_release 14 = .ok (.iload_n 3, 1) := by decide +kernel
theorem dX8_release_15 : decode cX8_release 15 = .ok (.ireturn, 1) := by decide +kernel
theorem dX8_release_16 : decode cX8_release 16 = .ok (.aload_n 0, 1) := by decide +kernel
theorem dX8_release_17 : decode cX8_release 17 = .ok (.getfield 25, 3) := by decide +kernel
theorem dX8_release_20 : decode cX8_release 20 = .ok (.aload_n 0, 1) := by decide +kernel
theorem dX8_release_21 : decode cX8_release 21 = .ok (.getfield 12, 3) := by decide +kernel
theorem dX8_release_24 : decode cX8_release 24 = .ok (.invokevirtual 60, 3) := by decide +kernel
theorem dX8_release_27 : decode cX8_release 27 = .ok (.aload_n 0, 1) := by decide +kernel
theorem dX8_release_28 : decode cX8_release 28 = .ok (.getfield 12, 3) := by decide +kernel
theorem dX8_release_31 : decode cX8_release 31 = .ok (.getfield 40, 3) := by decide +kernel
theorem dX8_release_34 : decode cX8_release 34 = .ok (.iload_n 2, 1) := by decide +kernel
theorem dX8_release_35 : decode cX8_release 35 = .ok (.invokevirtual 140, 3) := by decide +kernel
theorem dX8_release_38 : decode cX8_release 38 = .ok (.aload_n 0, 1) := by decide +kernel
theorem dX8_release_39 : decode cX8_release 39 = .ok (.getfield 12, 3) := by decide +kernel
theorem dX8_release_42 : decode cX8_release 42 = .ok (.getfield 40, 3) := by decide +kernel
theorem dX8_release_45 : decode cX8_release 45 = .ok (.iload_n 1, 1) := by decide +kernel
theorem dX8_release_46 : decode cX8_release 46 = .ok (.invokevirtual 134, 3) := by decide +kernel
theorem dX8_release_49 : decode cX8_release 49 = .ok (.ireturn, 1) := by decide +kernel
theorem dX8_tick_0 : decode cX8_tick 0 = .ok (.iload_n 1, 1) := by decide +kernel
theorem dX8_tick_1 : decode cX8_tick 1 = .ok (.iconst 1, 1) := by decide +kernel
theorem dX8_tick_2 : decode cX8_tick 2 = .ok (.if_icmp .lt 9, 3) := by decide +kernel
theorem dX8_tick_5 : decode cX8_tick 5 = .ok (.iload_n 1, 1) := by decide +kernel
theorem dX8_tick_6 : decode cX8_tick 6 = .ok (.bipush 99, 2) := by decide +kernel
theorem dX8_tick_8 : decode cX8_tick 8 = .ok (.if_icmp .le 6, 3) := by decide +kernel
theorem dX8_tick_11 : decode cX8_tick 11 = .ok (.bipush (-2), 2) := by decide +kernel
theorem dX8_tick_13 : decode cX8_tick 13 = .ok (.ireturn, 1) := by decide +kernel
theorem dX8_tick_14 : decode cX8_tick 14 = .ok (.aload_n 0, 1) := by decide +kernel
theorem dX8_tick_15 : decode cX8_tick 15 = .ok (.getfield 25, 3) := by decide +kernel
theorem dX8_tick_18 : decode cX8_tick 18 = .ok (.aload_n 0, 1) := by decide +kernel
theorem dX8_tick_19 : decode cX8_tick 19 = .ok (.getfield 12, 3) := by decide +kernel
theorem dX8_tick_22 : decode cX8_tick 22 = .ok (.invokevirtual 60, 3) := by decide +kernel
theorem dX8_tick_25 : decode cX8_tick 25 = .ok (.aload_n 0, 1) := by decide +kernel
theorem dX8_tick_26 : decode cX8_tick 26 = .ok (.getfield 12, 3) := by decide +kernel
theorem dX8_tick_29 : decode cX8_tick 29 = .ok (.iload_n 1, 1) := by decide +kernel
theorem dX8_tick_30 : decode cX8_tick 30 = .ok (.invokevirtual 144, 3) := by decide +kernel
theorem dX8_tick_33 : decode cX8_tick 33 = .ok (.ireturn, 1) := by decide +kernel
theorem dX8_settle_0 : decode cX8_settle 0 = .ok (.aload_n 0, 1) := by decide +kernel
theorem dX8_settle_1 : decode cX8_settle 1 = .ok (.getfield 12, 3) := by decide +kernel
theorem dX8_settle_4 : decode cX8_settle 4 = .ok (.iload_n 1, 1) := by decide +kernel
theorem dX8_settle_5 : decode cX8_settle 5 = .ok (.invokevirtual 147, 3) := by decide +kernel
theorem dX8_settle_8 : decode cX8_settle 8 = .ok (.ifCond .ne 5, 3) := by decide +kernel
theorem dX8_settle_11 : decode cX8_settle 11 = .ok (.iconst (-1), 1) := by decide +kernel
theorem dX8_settle_12 : decode cX8_settle 12 = .ok (.ireturn, 1) := by decide +kernel
theorem dX8_settle_13 : decode cX8_settle 13 = .ok (.iload_n 2, 1) := by decide +kernel
theorem dX8_settle_14 : decode cX8_settle 14 = .ok (.ifCond .lt 8, 3) := by decide +kernel
theorem dX8_settle_17 : decode cX8_settle 17 = .ok (.iload_n 2, 1) := by decide +kernel
theorem dX8_settle_18 : decode cX8_settle 18 = .ok (.iconst 2, 1) := by decide +kernel
theorem dX8_settle_19 : decode cX8_settle 19 = .ok (.if_icmp .le 6, 3) := by decide +kernel
theorem dX8_settle_22 : decode cX8_settle 22 = .ok (.bipush (-2), 2) := by decide +kernel
theorem dX8_settle_24 : decode cX8_settle 24 = .ok (.ireturn, 1) := by decide +kernel
theorem dX8_settle_25 : decode cX8_settle 25 = .ok (.aload_n 0, 1) := by decide +kernel
theorem dX8_settle_26 : decode cX8_settle 26 = .ok (.getfield 12, 3) := by decide +kernel
theorem dX8_settle_29 : decode cX8_settle 29 = .ok (.getfield 150, 3) := by decide +kernel
theorem dX8_settle_32 : decode cX8_settle 32 = .ok (.iload_n 1, 1) := by decide +kernel
theorem dX8_settle_33 : decode cX8_settle 33 = .ok (.invokevirtual 154, 3) := by decide +kernel
theorem dX8_settle_36 : decode cX8_settle 36 = .ok (.iconst 3, 1) := by decide +kernel
theorem dX8_settle_37 : decode cX8_settle 37 = .ok (.if_icmp .eq 6, 3) := by decide +kernel
theorem dX8_settle_40 : decode cX8_settle 40 = .ok (.bipush (-4), 2) := by decide +kernel
theorem dX8_settle_42 : decode cX8_settle 42 = .ok (.ireturn, 1) := by decide +kernel
theorem dX8_settle_43 : decode cX8_settle 43 = .ok (.aload_n 0, 1) := by decide +kernel
theorem dX8_settle_44 : decode cX8_settle 44 = .ok (.getfield 25, 3) := by decide +kernel
theorem dX8_settle_47 : decode cX8_settle 47 = .ok (.aload_n 0, 1) := by decide +kernel
theorem dX8_settle_48 : decode cX8_settle 48 = .ok (.getfield 12, 3) := by decide +kernel
theorem dX8_settle_51 : decode cX8_settle 51 = .ok (.invokevirtual 60, 3) := by decide +kernel
theorem dX8_settle_54 : decode cX8_settle 54 = .ok (.aload_n 0, 1) := by decide +kernel
theorem dX8_settle_55 : decode cX8_settle 55 = .ok (.getfield 12, 3) := by decide +kernel
theorem dX8_settle_58 : decode cX8_settle 58 = .ok (.iload_n 1, 1) := by decide +kernel
theorem dX8_settle_59 : decode cX8_settle 59 = .ok (.iload_n 2, 1) := by decide +kernel
theorem dX8_settle_60 : decode cX8_settle 60 = .ok (.invokevirtual 159, 3) := by decide +kernel
theorem dX8_settle_63 : decode cX8_settle 63 = .ok (.aload_n 0, 1) := by decide +kernel
theorem dX8_settle_64 : decode cX8_settle 64 = .ok (.getfield 12, 3) := by decide +kernel
theorem dX8_settle_67 : decode cX8_settle 67 = .ok (.getfield 150, 3) := by decide +kernel
theorem dX8_settle_70 : decode cX8_settle 70 = .ok (.iload_n 1, 1) := by decide +kernel
theorem dX8_settle_71 : decode cX8_settle 71 = .ok (.invokevirtual 162, 3) := by decide +kernel
theorem dX8_settle_74 : decode cX8_settle 74 = .ok (.ireturn, 1) := by decide +kernel
theorem dX8_type_0 : decode cX8_type 0 = .ok (.aload_n 0, 1) := by decide +kernel
theorem dX8_type_1 : decode cX8_type 1 = .ok (.getfield 32, 3) := by decide +kernel
theorem dX8_type_4 : decode cX8_type 4 = .ok (.iload_n 1, 1) := by decide +kernel
theorem dX8_type_5 : decode cX8_type 5 = .ok (.invokevirtual 165, 3) := by decide +kernel
theorem dX8_type_8 : decode cX8_type 8 = .ok (.ifCond .eq 13, 3) := by decide +kernel
theorem dX8_type_11 : decode cX8_type 11 = .ok (.aload_n 0, 1) := by decide +kernel
theorem dX8_type_12 : decode cX8_type 12 = .ok (.getfield 32, 3) := by decide +kernel
theorem dX8_type_15 : decode cX8_type 15 = .ok (.getfield 169, 3) := by decide +kernel
theorem dX8_type_18 : decode cX8_type 18 = .ok (.goto 5, 3) := by decide +kernel
theorem dX8_type_21 : decode cX8_type 21 = .ok (.bipush (-3), 2) := by decide +kernel
theorem dX8_type_23 : decode cX8_type 23 = .ok (.ireturn, 1) := by decide +kernel
theorem dX8_clearText_0 : decode cX8_clearText 0 = .ok (.aload_n 0, 1) := by decide +kernel
theorem dX8_clearText_1 : decode cX8_clearText 1 = .ok (.getfield 32, 3) := by decide +kernel
theorem dX8_clearText_4 : decode cX8_clearText 4 = .ok (.getfield 169, 3) := by decide +kernel
theorem dX8_clearText_7 : decode cX8_clearText 7 = .ok (.istore_n 1, 1) := by decide +kernel
theorem dX8_clearText_8 : decode cX8_clearText 8 = .ok (.aload_n 0, 1) := by decide +kernel
theorem dX8_clearText_9 : decode cX8_clearText 9 = .ok (.getfield 32, 3) := by decide +kernel
theorem dX8_clearText_12 : decode cX8_clearText 12 = .ok (.iconst 0, 1) := by decide +kernel
theorem dX8_clearText_13 : decode cX8_clearText 13 = .ok (.putfield 169, 3) := by decide +kernel
theorem dX8_clearText_16 : decode cX8_clearText 16 = .ok (.iload_n 1, 1) := by decide +kernel
theorem dX8_clearText_17 : decode cX8_clearText 17 = .ok (.ireturn, 1) := by decide +kernel
theorem dX8_perform_0 : decode cX8_perform 0 = .ok (.aload_n 0, 1) := by decide +kernel
theorem dX8_perform_1 : decode cX8_perform 1 = .ok (.getfield 32, 3) := by decide +kernel
theorem dX8_perform_4 : decode cX8_perform 4 = .ok (.invokevirtual 172, 3) := by decide +kernel
theorem dX8_perform_7 : decode cX8_perform 7 = .ok (.istore_n 1, 1) := by decide +kernel
theorem dX8_perform_8 : decode cX8_perform 8 = .ok (.iload_n 1, 1) := by decide +kernel
theorem dX8_perform_9 : decode cX8_perform 9 = .ok (.iconst (-1), 1) := by decide +kernel
theorem dX8_perform_10 : decode cX8_perform 10 = .ok (.if_icmp .eq 8, 3) := by decide +kernel
theorem dX8_perform_13 : decode cX8_perform 13 = .ok (.bipush (-100), 2) := by decide +kernel
theorem dX8_perform_15 : decode cX8_perform 15 = .ok (.iload_n 1, 1) := by decide +kernel
theorem dX8_perform_16 : decode cX8_perform 16 = .ok (.isub, 1) := by decide +kernel
theorem dX8_perform_17 : decode cX8_perform 17 = .ok (.ireturn, 1) := by decide +kernel
theorem dX8_perform_18 : decode cX8_perform 18 = .ok (.aload_n 0, 1) := by decide +kernel
theorem dX8_perform_19 : decode cX8_perform 19 = .ok (.getfield 16, 3) := by decide +kernel
theorem dX8_perform_22 : decode cX8_perform 22 = .ok (.aload_n 0, 1) := by decide +kernel
theorem dX8_perform_23 : decode cX8_perform 23 = .ok (.getfield 12, 3) := by decide +kernel
theorem dX8_perform_26 : decode cX8_perform 26 = .ok (.invokevirtual 175, 3) := by decide +kernel
theorem dX8_perform_29 : decode cX8_perform 29 = .ok (.iconst 0, 1) := by decide +kernel
theorem dX8_perform_30 : decode cX8_perform 30 = .ok (.istore_n 2, 1) := by decide +kernel
theorem dX8_perform_31 : decode cX8_perform 31 = .ok (.iconst 0, 1) := by decide +kernel
theorem dX8_perform_32 : decode cX8_perform 32 = .ok (.istore_n 3, 1) := by decide +kernel
theorem dX8_perform_33 : decode cX8_perform 33 = .ok (.iconst 0, 1) := by decide +kernel
theorem dX8_perform_34 : decode cX8_perform 34 = .ok (.istore 4, 2) := by decide +kernel
theorem dX8_perform_36 : decode cX8_perform 36 = .ok (.iload 4, 2) := by decide +kernel
theorem dX8_perform_38 : decode cX8_perform 38 = .ok (.aload_n 0, 1) := by decide +kernel
theorem dX8_perform_39 : decode cX8_perform 39 = .ok (.getfield 32, 3) := by decide +kernel
theorem dX8_perform_42 : decode cX8_perform 42 = .ok (.getfield 169, 3) := by decide +kernel
theorem dX8_perform_45 : decode cX8_perform 45 = .ok (.if_icmp .gt 59, 3) := by decide +kernel
theorem dX8_perform_48 : decode cX8_perform 48 = .ok (.aload_n 0, 1) := by decide +kernel
theorem dX8_perform_49 : decode cX8_perform 49 = .ok (.getfield 32, 3) := by decide +kernel
theorem dX8_perform_52 : decode cX8_perform 52 = .ok (.iload 4, 2) := by decide +kernel
theorem dX8_perform_54 : decode cX8_perform 54 = .ok (.invokevirtual 178, 3) := by decide +kernel
theorem dX8_perform_57 : decode cX8_perform 57 = .ok (.ifCond .eq 41, 3) := by decide +kernel
theorem dX8_perform_60 : decode cX8_perform 60 = .ok (.aload_n 0, 1) := by decide +kernel
theorem dX8_perform_61 : decode cX8_perform 61 = .ok (.iload_n 3, 1) := by decide +kernel
theorem dX8_perform_62 : decode cX8_perform 62 = .ok (.iload 4, 2) := by decide +kernel
theorem dX8_perform_64 : decode cX8_perform 64 = .ok (.invokevirtual 181, 3) := by decide +kernel
theorem dX8_perform_67 : decode cX8_perform 67 = .ok (.istore 5, 2) := by decide +kernel
theorem dX8_perform_69 : decode cX8_perform 69 = .ok (.iload 5, 2) := by decide +kernel
theorem dX8_perform_71 : decode cX8_perform 71 = .ok (.ifCond .ge 17, 3) := by decide +kernel
theorem dX8_perform_74 : decode cX8_perform 74 = .ok (.aload_n 0, 1) := by decide +kernel
theorem dX8_perform_75 : decode cX8_perform 75 = .ok (.getfield 12, 3) := by decide +kernel
theorem dX8_perform_78 : decode cX8_perform 78 = .ok (.aload_n 0, 1) := by decide +kernel
theorem dX8_perform_79 : decode cX8_perform 79 = .ok (.getfield 16, 3) := by decide +kernel
theorem dX8_perform_82 : decode cX8_perform 82 = .ok (.invokevirtual 175, 3) := by decide +kernel
theorem dX8_perform_85 : decode cX8_perform 85 = .ok (.iload 5, 2) := by decide +kernel
theorem dX8_perform_87 : decode cX8_perform 87 = .ok (.ireturn, 1) := by decide +kernel
theorem dX8_perform_88 : decode cX8_perform 88 = .ok (.iload_n 2, 1) := by decide +kernel
theorem dX8_perform_89 : decode cX8_perform 89 = .ok (.iload 5, 2) := by decide +kernel
theorem dX8_perform_91 : decode cX8_perform 91 = .ok (.iadd, 1) := by decide +kernel
theorem dX8_perform_92 : decode cX8_perform 92 = .ok (.istore_n 2, 1) := by decide +kernel
theorem dX8_perform_93 : decode cX8_perform 93 = .ok (.iload 4, 2) := by decide +kernel
theorem dX8_perform_95 : decode cX8_perform 95 = .ok (.iconst 1, 1) := by decide +kernel
theorem dX8_perform_96 : decode cX8_perform 96 = .ok (.iadd, 1) := by decide +kernel
theorem dX8_perform_97 : decode cX8_perform 97 = .ok (.istore_n 3, 1) := by decide +kernel
theorem dX8_perform_98 : decode cX8_perform 98 = .ok (.iinc 4 1, 3) := by decide +kernel
theorem dX8_perform_101 : decode cX8_perform 101 = .ok (.goto (-65), 3) := by decide +kernel
theorem dX8_perform_104 : decode cX8_perform 104 = .ok (.aload_n 0, 1) := by decide +kernel
theorem dX8_perform_105 : decode cX8_perform 105 = .ok (.getfield 25, 3) := by decide +kernel
theorem dX8_perform_108 : decode cX8_perform 108 = .ok (.aload_n 0, 1) := by decide +kernel
theorem dX8_perform_109 : decode cX8_perform 109 = .ok (.getfield 16, 3) := by decide +kernel
theorem dX8_perform_112 : decode cX8_perform 112 = .ok (.invokevirtual 60, 3) := by decide +kernel
theorem dX8_perform_115 : decode cX8_perform 115 = .ok (.iload_n 2, 1) := by decide +kernel
theorem dX8_perform_116 : decode cX8_perform 116 = .ok (.ireturn, 1) := by decide +kernel
theorem dX8_move_0 : decode cX8_move 0 = .ok (.aload_n 0, 1) := by decide +kernel
theorem dX8_move_1 : decode cX8_move 1 = .ok (.getfield 32, 3) := by decide +kernel
theorem dX8_move_4 : decode cX8_move 4 = .ok (.iload_n 1, 1) := by decide +kernel
theorem dX8_move_5 : decode cX8_move 5 = .ok (.invokevirtual 184, 3) := by decide +kernel
theorem dX8_move_8 : decode cX8_move 8 = .ok (.istore_n 3, 1) := by decide +kernel
theorem dX8_move_9 : decode cX8_move 9 = .ok (.iload_n 3, 1) := by decide +kernel
theorem dX8_move_10 : decode cX8_move 10 = .ok (.bipush 116, 2) := by decide +kernel
theorem dX8_move_12 : decode cX8_move 12 = .ok (.if_icmp .ne 22, 3) := by decide +kernel
theorem dX8_move_15 : decode cX8_move 15 = .ok (.aload_n 0, 1) := by decide +kernel
theorem dX8_move_16 : decode cX8_move 16 = .ok (.getfield 12, 3) := by decide +kernel
theorem dX8_move_19 : decode cX8_move 19 = .ok (.aload_n 0, 1) := by decide +kernel
theorem dX8_move_20 : decode cX8_move 20 = .ok (.getfield 32, 3) := by decide +kernel
theorem dX8_move_23 : decode cX8_move 23 = .ok (.iload_n 1, 1) := by decide +kernel
theorem dX8_move_24 : decode cX8_move 24 = .ok (.iconst 1, 1) := by decide +kernel
theorem dX8_move_25 : decode cX8_move 25 = .ok (.iadd, 1) := by decide +kernel
theorem dX8_move_26 : decode cX8_move 26 = .ok (.iload_n 2, 1) := by decide +kernel
theorem dX8_move_27 : decode cX8_move 27 = .ok (.invokevirtual 188, 3) := by decide +kernel
theorem dX8_move_30 : decode cX8_move 30 = .ok (.invokevirtual 144, 3) := by decide +kernel
theorem dX8_move_33 : decode cX8_move 33 = .ok (.ireturn, 1) := by decide +kernel
theorem dX8_move_34 : decode cX8_move 34 = .ok (.iload_n 3, 1) := by decide +kernel
theorem dX8_move_35 : decode cX8_move 35 = .ok (.bipush 48, 2) := by decide +kernel
theorem dX8_move_37 : decode cX8_move 37 = .ok (.isub, 1) := by decide +kernel
theorem dX8_move_38 : decode cX8_move 38 = .ok (.istore 4, 2) := by decide +kernel
theorem dX8_move_40 : decode cX8_move 40 = .ok (.aload_n 0, 1) := by decide +kernel
theorem dX8_move_41 : decode cX8_move 41 = .ok (.getfield 32, 3) := by decide +kernel
theorem dX8_move_44 : decode cX8_move 44 = .ok (.iload_n 1, 1) := by decide +kernel
theorem dX8_move_45 : decode cX8_move 45 = .ok (.iconst 2, 1) := by decide +kernel
theorem dX8_move_46 : decode cX8_move 46 = .ok (.iadd, 1) := by decide +kernel
theorem dX8_move_47 : decode cX8_move 47 = .ok (.iload_n 2, 1) := by decide +kernel
theorem dX8_move_48 : decode cX8_move 48 = .ok (.invokevirtual 188, 3) := by decide +kernel
theorem dX8_move_51 : decode cX8_move 51 = .ok (.istore 5, 2) := by decide +kernel
theorem dX8_move_53 : decode cX8_move 53 = .ok (.aload_n 0, 1) := by decide +kernel
theorem dX8_move_54 : decode cX8_move 54 = .ok (.getfield 32, 3) := by decide +kernel
theorem dX8_move_57 : decode cX8_move 57 = .ok (.iload_n 1, 1) := by decide +kernel
theorem dX8_move_58 : decode cX8_move 58 = .ok (.iconst 1, 1) := by decide +kernel
theorem dX8_move_59 : decode cX8_move 59 = .ok (.iadd, 1) := by decide +kernel
theorem dX8_move_60 : decode cX8_move 60 = .ok (.invokevirtual 184, 3) := by decide +kernel
theorem dX8_move_63 : decode cX8_move 63 = .ok (.bipush 100, 2) := by decide +kernel
theorem dX8_move_65 : decode cX8_move 65 = .ok (.if_icmp .ne 7, 3) := by decide +kernel
theorem dX8_move_68 : decode cX8_move 68 = .ok (.iconst 1, 1) := by decide +kernel
theorem dX8_move_69 : decode cX8_move 69 = .ok (.goto 4, 3) := by decide +kernel
theorem dX8_move_72 : decode cX8_move 72 = .ok (.iconst 0, 1) := by decide +kernel
theorem dX8_move_73 : decode cX8_move 73 = .ok (.istore 6, 2) := by decide +kernel
theorem dX8_move_75 : decode cX8_move 75 = .ok (.iload 6, 2) := by decide +kernel
theorem dX8_move_77 : decode cX8_move 77 = .ok (.ifCond .eq 17, 3) := by decide +kernel
theorem dX8_move_80 : decode cX8_move 80 = .ok (.aload_n 0, 1) := by decide +kernel
theorem dX8_move_81 : decode cX8_move 81 = .ok (.getfield 12, 3) := by decide +kernel
theorem dX8_move_84 : decode cX8_move 84 = .ok (.iload 4, 2) := by decide +kernel
theorem dX8_move_86 : decode cX8_move 86 = .ok (.iload 5, 2) := by decide +kernel
theorem dX8_move_88 : decode cX8_move 88 = .ok (.invokevirtual 127, 3) := by decide +kernel
theorem dX8_move_91 : decode cX8_move 91 = .ok (.goto 14, 3) := by decide +kernel
theorem dX8_move_94 : decode cX8_move 94 = .ok (.aload_n 0, 1) := by decide +kernel
theorem dX8_move_95 : decode cX8_move 95 = .ok (.getfield 12, 3) := by decide +kernel
theorem dX8_move_98 : decode cX8_move 98 = .ok (.iload 4, 2) := by decide +kernel
theorem dX8_move_100 : decode cX8_move 100 = .ok (.iload 5, 2) := by decide +kernel
theorem dX8_move_102 : decode cX8_move 102 = .ok (.invokevirtual 137, 3) := by decide +kernel
theorem dX8_move_105 : decode cX8_move 105 = .ok (.istore 7, 2) := by decide +kernel
theorem dX8_move_107 : decode cX8_move 107 = .ok (.iload 7, 2) := by decide +kernel
theorem dX8_move_109 : decode cX8_move 109 = .ok (.ifCond .eq 6, 3) := by decide +kernel
theorem dX8_move_112 : decode cX8_move 112 = .ok (.iload 7, 2) := by decide +kernel
theorem dX8_move_114 : decode cX8_move 114 = .ok (.ireturn, 1) := by decide +kernel
theorem dX8_move_115 : decode cX8_move 115 = .ok (.iload 6, 2) := by decide +kernel
theorem dX8_move_117 : decode cX8_move 117 = .ok (.ifCond .eq 20, 3) := by decide +kernel
theorem dX8_move_120 : decode cX8_move 120 = .ok (.aload_n 0, 1) := by decide +kernel
theorem dX8_move_121 : decode cX8_move 121 = .ok (.getfield 12, 3) := by decide +kernel
theorem dX8_move_124 : decode cX8_move 124 = .ok (.getfield 40, 3) := by decide +kernel
theorem dX8_move_127 : decode cX8_move 127 = .ok (.iload 4, 2) := by decide +kernel
theorem dX8_move_129 : decode cX8_move 129 = .ok (.iload 5, 2) := by decide +kernel
theorem dX8_move_131 : decode cX8_move 131 = .ok (.invokevirtual 131, 3) := by decide +kernel
theorem dX8_move_134 : decode cX8_move 134 = .ok (.goto 15, 3) := by decide +kernel
theorem dX8_move_137 : decode cX8_move 137 = .ok (.aload_n 0, 1) := by decide +kernel
theorem dX8_move_138 : decode cX8_move 138 = .ok (.getfield 12, 3) := by decide +kernel
theorem dX8_move_141 : decode cX8_move 141 = .ok (.getfield 40, 3) := by decide +kernel
theorem dX8_move_144 : decode cX8_move 144 = .ok (.iload 5, 2) := by decide +kernel
theorem dX8_move_146 : decode cX8_move 146 = .ok (.invokevirtual 140, 3) := by decide +kernel
theorem dX8_move_149 : decode cX8_move 149 = .ok (.iconst 0, 1) := by decide +kernel
theorem dX8_move_150 : decode cX8_move 150 = .ok (.ireturn, 1) := by decide +kernel
theorem dX8_undo_0 : decode cX8_undo 0 = .ok (.aload_n 0, 1) := by decide +kernel
theorem dX8_undo_1 : decode cX8_undo 1 = .ok (.getfield 25, 3) := by decide +kernel
theorem dX8_undo_4 : decode cX8_undo 4 = .ok (.getfield 191, 3) := by decide +kernel
theorem dX8_undo_7 : decode cX8_undo 7 = .ok (.ifCond .ne 6, 3) := by decide +kernel
theorem dX8_undo_10 : decode cX8_undo 10 = .ok (.bipush (-5), 2) := by decide +kernel
theorem dX8_undo_12 : decode cX8_undo 12 = .ok (.ireturn, 1) := by decide +kernel
theorem dX8_undo_13 : decode cX8_undo 13 = .ok (.aload_n 0, 1) := by decide +kernel
theorem dX8_undo_14 : decode cX8_undo 14 = .ok (.getfield 25, 3) := by decide +kernel
theorem dX8_undo_17 : decode cX8_undo 17 = .ok (.aload_n 0, 1) := by decide +kernel
theorem dX8_undo_18 : decode cX8_undo 18 = .ok (.getfield 12, 3) := by decide +kernel
theorem dX8_undo_21 : decode cX8_undo 21 = .ok (.invokevirtual 194, 3) := by decide +kernel
theorem dX8_undo_24 : decode cX8_undo 24 = .ok (.aload_n 0, 1) := by decide +kernel
theorem dX8_undo_25 : decode cX8_undo 25 = .ok (.getfield 25, 3) := by decide +kernel
theorem dX8_undo_28 : decode cX8_undo 28 = .ok (.getfield 191, 3) := by decide +kernel
theorem dX8_undo_31 : decode cX8_undo 31 = .ok (.ireturn, 1) := by decide +kernel
theorem dX8_keep_0 : decode cX8_keep 0 = .ok (.aload_n 0, 1) := by decide +kernel
theorem dX8_keep_1 : decode cX8_keep 1 = .ok (.getfield 19, 3) := by decide +kernel
theorem dX8_keep_4 : decode cX8_keep 4 = .ok (.aload_n 0, 1) := by decide +kernel
theorem dX8_keep_5 : decode cX8_keep 5 = .ok (.getfield 12, 3) := by decide +kernel
theorem dX8_keep_8 : decode cX8_keep 8 = .ok (.invokevirtual 175, 3) := by decide +kernel
theorem dX8_keep_11 : decode cX8_keep 11 = .ok (.aload_n 0, 1) := by decide +kernel
theorem dX8_keep_12 : decode cX8_keep 12 = .ok (.iconst 1, 1) := by decide +kernel
theorem dX8_keep_13 : decode cX8_keep 13 = .ok (.putfield 36, 3) := by decide +kernel
theorem dX8_keep_16 : decode cX8_keep 16 = .ok (.aload_n 0, 1) := by decide +kernel
theorem dX8_keep_17 : decode cX8_keep 17 = .ok (.getfield 12, 3) := by decide +kernel
theorem dX8_keep_20 : decode cX8_keep 20 = .ok (.getfield 197, 3) := by decide +kernel
theorem dX8_keep_23 : decode cX8_keep 23 = .ok (.ireturn, 1) := by decide +kernel
theorem dX8_restore_0 : decode cX8_restore 0 = .ok (.aload_n 0, 1) := by decide +kernel
theorem dX8_restore_1 : decode cX8_restore 1 = .ok (.getfield 36, 3) := by decide +kernel
theorem dX8_restore_4 : decode cX8_restore 4 = .ok (.ifCond .ne 6, 3) := by decide +kernel
theorem dX8_restore_7 : decode cX8_restore 7 = .ok (.bipush (-5), 2) := by decide +kernel
theorem dX8_restore_9 : decode cX8_restore 9 = .ok (.ireturn, 1) := by decide +kernel
theorem dX8_restore_10 : decode cX8_restore 10 = .ok (.aload_n 0, 1) := by decide +kernel
theorem dX8_restore_11 : decode cX8_restore 11 = .ok (.getfield 25, 3) := by decide +kernel
theorem dX8_restore_14 : decode cX8_restore 14 = .ok (.aload_n 0, 1) := by decide +kernel
theorem dX8_restore_15 : decode cX8_restore 15 = .ok (.getfield 12, 3) := by decide +kernel
theorem dX8_restore_18 : decode cX8_restore 18 = .ok (.invokevirtual 60, 3) := by decide +kernel
theorem dX8_restore_21 : decode cX8_restore 21 = .ok (.aload_n 0, 1) := by decide +kernel
theorem dX8_restore_22 : decode cX8_restore 22 = .ok (.getfield 12, 3) := by decide +kernel
theorem dX8_restore_25 : decode cX8_restore 25 = .ok (.aload_n 0, 1) := by decide +kernel
theorem dX8_restore_26 : decode cX8_restore 26 = .ok (.getfield 19, 3) := by decide +kernel
theorem dX8_restore_29 : decode cX8_restore 29 = .ok (.invokevirtual 175, 3) := by decide +kernel
theorem dX8_restore_32 : decode cX8_restore 32 = .ok (.aload_n 0, 1) := by decide +kernel
theorem dX8_restore_33 : decode cX8_restore 33 = .ok (.getfield 12, 3) := by decide +kernel
theorem dX8_restore_36 : decode cX8_restore 36 = .ok (.getfield 197, 3) := by decide +kernel
theorem dX8_restore_39 : decode cX8_restore 39 = .ok (.ireturn, 1) := by decide +kernel
theorem dX8_key_0 : decode cX8_key 0 = .ok (.aload_n 0, 1) := by decide +kernel
theorem dX8_key_1 : decode cX8_key 1 = .ok (.getfield 12, 3) := by decide +kernel
theorem dX8_key_4 : decode cX8_key 4 = .ok (.getfield 40, 3) := by decide +kernel
theorem dX8_key_7 : decode cX8_key 7 = .ok (.astore_n 3, 1) := by decide +kernel
theorem dX8_key_8 : decode cX8_key 8 = .ok (.aload_n 3, 1) := by decide +kernel
theorem dX8_key_9 : decode cX8_key 9 = .ok (.iload_n 1, 1) := by decide +kernel
theorem dX8_key_10 : decode cX8_key 10 = .ok (.invokevirtual 71, 3) := by decide +kernel
theorem dX8_key_13 : decode cX8_key 13 = .ok (.ifCond .ne 5, 3) := by decide +kernel
theorem dX8_key_16 : decode cX8_key 16 = .ok (.iconst (-1), 1) := by decide +kernel
theorem dX8_key_17 : decode cX8_key 17 = .ok (.ireturn, 1) := by decide +kernel
theorem dX8_key_18 : decode cX8_key 18 = .ok (.iload_n 2, 1) := by decide +kernel
theorem dX8_key_19 : decode cX8_key 19 = .ok (.tableswitch 137 0 6 #[41, 50, 64, 83, 97, 103, 112], 41) := by decide +kernel
theorem dX8_key_60 : decode cX8_key 60 = .ok (.aload_n 3, 1) := by decide +kernel
theorem dX8_key_61 : decode cX8_key 61 = .ok (.iload_n 1, 1) := by decide +kernel
theorem dX8_key_62 : decode cX8_key 62 = .ok (.invokevirtual 200, 3) := by decide +kernel
theorem dX8_key_65 : decode cX8_key 65 = .ok (.invokestatic 203, 3) := by decide +kernel
theorem dX8_key_68 : decode cX8_key 68 = .ok (.ireturn, 1) := by decide +kernel
theorem dX8_key_69 : decode cX8_key 69 = .ok (.aload_n 3, 1) := by decide +kernel
theorem dX8_key_70 : decode cX8_key 70 = .ok (.iload_n 1, 1) := by decide +kernel
theorem dX8_key_71 : decode cX8_key 71 = .ok (.invokevirtual 206, 3) := by decide +kernel
theorem dX8_key_74 : decode cX8_key 74 = .ok (.ifCond .eq 7, 3) := by decide +kernel
theorem dX8_key_77 : decode cX8_key 77 = .ok (.iconst 1, 1) := by decide +kernel
theorem dX8_key_78 : decode cX8_key 78 = .ok (.goto 4, 3) := by decide +kernel
theorem dX8_key_81 : decode cX8_key 81 = .ok (.iconst 0, 1) := by decide +kernel
theorem dX8_key_82 : decode cX8_key 82 = .ok (.ireturn, 1) := by decide +kernel
theorem dX8_key_83 : decode cX8_key 83 = .ok (.aload_n 3, 1) := by decide +kernel
theorem dX8_key_84 : decode cX8_key 84 = .ok (.iload_n 1, 1) := by decide +kernel
theorem dX8_key_85 : decode cX8_key 85 = .ok (.invokevirtual 206, 3) := by decide +kernel
theorem dX8_key_88 : decode cX8_key 88 = .ok (.ifCond .eq 11, 3) := by decide +kernel
theorem dX8_key_91 : decode cX8_key 91 = .ok (.aload_n 3, 1) := by decide +kernel
theorem dX8_key_92 : decode cX8_key 92 = .ok (.iload_n 1, 1) := by decide +kernel
theorem dX8_key_93 : decode cX8_key 93 = .ok (.invokevirtual 209, 3) := by decide +kernel
theorem dX8_key_96 : decode cX8_key 96 = .ok (.goto 5, 3) := by decide +kernel
theorem dX8_key_99 : decode cX8_key 99 = .ok (.bipush (-5), 2) := by decide +kernel
theorem dX8_key_101 : decode cX8_key 101 = .ok (.ireturn, 1) := by decide +kernel
theorem dX8_key_102 : decode cX8_key 102 = .ok (.aload_n 3, 1) := by decide +kernel
theorem dX8_key_103 : decode cX8_key 103 = .ok (.iload_n 1, 1) := by decide +kernel
theorem dX8_key_104 : decode cX8_key 104 = .ok (.invokevirtual 212, 3) := by decide +kernel
theorem dX8_key_107 : decode cX8_key 107 = .ok (.ifCond .eq 7, 3) := by decide +kernel
theorem dX8_key_110 : decode cX8_key 110 = .ok (.iconst 1, 1) := by decide +kernel
theorem dX8_key_111 : decode cX8_key 111 = .ok (.goto 4, 3) := by decide +kernel
theorem dX8_key_114 : decode cX8_key 114 = .ok (.iconst 0, 1) := by decide +kernel
theorem dX8_key_115 : decode cX8_key 115 = .ok (.ireturn, 1) := by decide +kernel
theorem dX8_key_116 : decode cX8_key 116 = .ok (.aload_n 3, 1) := by decide +kernel
theorem dX8_key_117 : decode cX8_key 117 = .ok (.iload_n 1, 1) := by decide +kernel
theorem dX8_key_118 : decode cX8_key 118 = .ok (.invokevirtual 75, 3) := by decide +kernel
theorem dX8_key_121 : decode cX8_key 121 = .ok (.ireturn, 1) := by decide +kernel
theorem dX8_key_122 : decode cX8_key 122 = .ok (.aload_n 3, 1) := by decide +kernel
theorem dX8_key_123 : decode cX8_key 123 = .ok (.iload_n 1, 1) := by decide +kernel
theorem dX8_key_124 : decode cX8_key 124 = .ok (.invokevirtual 79, 3) := by decide +kernel
theorem dX8_key_127 : decode cX8_key 127 = .ok (.invokestatic 203, 3) := by decide +kernel
theorem dX8_key_130 : decode cX8_key 130 = .ok (.ireturn, 1) := by decide +kernel
theorem dX8_key_131 : decode cX8_key 131 = .ok (.aload_n 3, 1) := by decide +kernel
theorem dX8_key_132 : decode cX8_key 132 = .ok (.aload_n 3, 1) := by decide +kernel
theorem dX8_key_133 : decode cX8_key 133 = .ok (.iload_n 1, 1) := by decide +kernel
theorem dX8_key_134 : decode cX8_key 134 = .ok (.invokevirtual 215, 3) := by decide +kernel
theorem dX8_key_137 : decode cX8_key 137 = .ok (.iconst (-1), 1) := by decide +kernel
theorem dX8_key_138 : decode cX8_key 138 = .ok (.invokevirtual 218, 3) := by decide +kernel
theorem dX8_key_141 : decode cX8_key 141 = .ok (.aload_n 3, 1) := by decide +kernel
theorem dX8_key_142 : decode cX8_key 142 = .ok (.iload_n 1, 1) := by decide +kernel
theorem dX8_key_143 : decode cX8_key 143 = .ok (.invokevirtual 221, 3) := by decide +kernel
theorem dX8_key_146 : decode cX8_key 146 = .ok (.iand, 1) := by decide +kernel
theorem dX8_key_147 : decode cX8_key 147 = .ok (.ifCond .eq 7, 3) := by decide +kernel
theorem dX8_key_150 : decode cX8_key 150 = .ok (.iconst 1, 1) := by decide +kernel
theorem dX8_key_151 : decode cX8_key 151 = .ok (.goto 4, 3) := by decide +kernel
theorem dX8_key_154 : decode cX8_key 154 = .ok (.iconst 0, 1) := by decide +kernel
theorem dX8_key_155 : decode cX8_key 155 = .ok (.ireturn, 1) := by decide +kernel
theorem dX8_key_156 : decode cX8_key 156 = .ok (.bipush (-2), 2) := by decide +kernel
theorem dX8_key_158 : decode cX8_key 158 = .ok (.ireturn, 1) := by decide +kernel
theorem dX8_typist_0 : decode cX8_typist 0 = .ok (.iload_n 1, 1) := by decide +kernel
theorem dX8_typist_1 : decode cX8_typist 1 = .ok (.invokestatic 86, 3) := by decide +kernel
theorem dX8_typist_4 : decode cX8_typist 4 = .ok (.ifCond .ne 5, 3) := by decide +kernel
theorem dX8_typist_7 : decode cX8_typist 7 = .ok (.iconst (-1), 1) := by decide +kernel
theorem dX8_typist_8 : decode cX8_typist 8 = .ok (.ireturn, 1) := by decide +kernel
theorem dX8_typist_9 : decode cX8_typist 9 = .ok (.aload_n 0, 1) := by decide +kernel
theorem dX8_typist_10 : decode cX8_typist 10 = .ok (.getfield 12, 3) := by decide +kernel
theorem dX8_typist_13 : decode cX8_typist 13 = .ok (.iload_n 1, 1) := by decide +kernel
theorem dX8_typist_14 : decode cX8_typist 14 = .ok (.invokevirtual 95, 3) := by decide +kernel
theorem dX8_typist_17 : decode cX8_typist 17 = .ok (.astore_n 3, 1) := by decide +kernel
theorem dX8_typist_18 : decode cX8_typist 18 = .ok (.iload_n 2, 1) := by decide +kernel
theorem dX8_typist_19 : decode cX8_typist 19 = .ok (.tableswitch 128 0 7 #[45, 57, 72, 92, 105, 110, 115, 120], 45) := by decide +kernel
theorem dX8_typist_64 : decode cX8_typist 64 = .ok (.aload_n 0, 1) := by decide +kernel
theorem dX8_typist_65 : decode cX8_typist 65 = .ok (.getfield 12, 3) := by decide +kernel
theorem dX8_typist_68 : decode cX8_typist 68 = .ok (.getfield 40, 3) := by decide +kernel
theorem dX8_typist_71 : decode cX8_typist 71 = .ok (.iload_n 1, 1) := by decide +kernel
theorem dX8_typist_72 : decode cX8_typist 72 = .ok (.invokevirtual 134, 3) := by decide +kernel
theorem dX8_typist_75 : decode cX8_typist 75 = .ok (.ireturn, 1) := by decide +kernel
theorem dX8_typist_76 : decode cX8_typist 76 = .ok (.aload_n 0, 1) := by decide +kernel
theorem dX8_typist_77 : decode cX8_typist 77 = .ok (.getfield 12, 3) := by decide +kernel
theorem dX8_typist_80 : decode cX8_typist 80 = .ok (.getfield 40, 3) := by decide +kernel
theorem dX8_typist_83 : decode cX8_typist 83 = .ok (.iload_n 1, 1) := by decide +kernel
theorem dX8_typist_84 : decode cX8_typist 84 = .ok (.invokevirtual 89, 3) := by decide +kernel
theorem dX8_typist_87 : decode cX8_typist 87 = .ok (.invokestatic 203, 3) := by decide +kernel
theorem dX8_typist_90 : decode cX8_typist 90 = .ok (.ireturn, 1) := by decide +kernel
theorem dX8_typist_91 : decode cX8_typist 91 = .ok (.aload_n 0, 1) := by decide +kernel
theorem dX8_typist_92 : decode cX8_typist 92 = .ok (.getfield 12, 3) := by decide +kernel
theorem dX8_typist_95 : decode cX8_typist 95 = .ok (.getfield 40, 3) := by decide +kernel
theorem dX8_typist_98 : decode cX8_typist 98 = .ok (.iload_n 1, 1) := by decide +kernel
theorem dX8_typist_99 : decode cX8_typist 99 = .ok (.invokevirtual 224, 3) := by decide +kernel
theorem dX8_typist_102 : decode cX8_typist 102 = .ok (.ifCond .eq 7, 3) := by decide +kernel
theorem dX8_typist_105 : decode cX8_typist 105 = .ok (.iconst 1, 1) := by decide +kernel
theorem dX8_typist_106 : decode cX8_typist 106 = .ok (.goto 4, 3) := by decide +kernel
theorem dX8_typist_109 : decode cX8_typist 109 = .ok (.iconst 0, 1) := by decide +kernel
theorem dX8_typist_110 : decode cX8_typist 110 = .ok (.ireturn, 1) := by decide +kernel
theorem dX8_typist_111 : decode cX8_typist 111 = .ok (.aload_n 3, 1) := by decide +kernel
theorem dX8_typist_112 : decode cX8_typist 112 = .ok (.getfield 99, 3) := by decide +kernel
theorem dX8_typist_115 : decode cX8_typist 115 = .ok (.ifCond .eq 7, 3) := by decide +kernel
theorem dX8_typist_118 : decode cX8_typist 118 = .ok (.iconst 1, 1) := by decide +kernel
theorem dX8_typist_119 : decode cX8_typist 119 = .ok (.goto 4, 3) := by decide +kernel
theorem dX8_typist_122 : decode cX8_typist 122 = .ok (.iconst 0, 1) := by decide +kernel
theorem dX8_typist_123 : decode cX8_typist 123 = .ok (.ireturn, 1) := by decide +kernel
theorem dX8_typist_124 : decode cX8_typist 124 = .ok (.aload_n 3, 1) := by decide +kernel
theorem dX8_typist_125 : decode cX8_typist 125 = .ok (.getfield 227, 3) := by decide +kernel
theorem dX8_typist_128 : decode cX8_typist 128 = .ok (.ireturn, 1) := by decide +kernel
theorem dX8_typist_129 : decode cX8_typist 129 = .ok (.aload_n 3, 1) := by decide +kernel
theorem dX8_typist_130 : decode cX8_typist 130 = .ok (.getfield 230, 3) := by decide +kernel
theorem dX8_typist_133 : decode cX8_typist 133 = .ok (.ireturn, 1) := by decide +kernel
theorem dX8_typist_134 : decode cX8_typist 134 = .ok (.aload_n 3, 1) := by decide +kernel
theorem dX8_typist_135 : decode cX8_typist 135 = .ok (.getfield 233, 3) := by decide +kernel
theorem dX8_typist_138 : decode cX8_typist 138 = .ok (.ireturn, 1) := by decide +kernel
theorem dX8_typist_139 : decode cX8_typist 139 = .ok (.aload_n 3, 1) := by decide +kernel
theorem dX8_typist_140 : decode cX8_typist 140 = .ok (.getfield 236, 3) := by decide +kernel
theorem dX8_typist_143 : decode cX8_typist 143 = .ok (.invokestatic 203, 3) := by decide +kernel
theorem dX8_typist_146 : decode cX8_typist 146 = .ok (.ireturn, 1) := by decide +kernel
theorem dX8_typist_147 : decode cX8_typist 147 = .ok (.bipush (-2), 2) := by decide +kernel
theorem dX8_typist_149 : decode cX8_typist 149 = .ok (.ireturn, 1) := by decide +kernel
theorem dX8_style_0 : decode cX8_style 0 = .ok (.iload_n 1, 1) := by decide +kernel
theorem dX8_style_1 : decode cX8_style 1 = .ok (.invokestatic 86, 3) := by decide +kernel
theorem dX8_style_4 : decode cX8_style 4 = .ok (.ifCond .eq 10, 3) := by decide +kernel
theorem dX8_style_7 : decode cX8_style 7 = .ok (.iload_n 2, 1) := by decide +kernel
theorem dX8_style_8 : decode cX8_style 8 = .ok (.invokestatic 239, 3) := by decide +kernel
theorem dX8_style_11 : decode cX8_style 11 = .ok (.ifCond .ne 6, 3) := by decide +kernel
theorem dX8_style_14 : decode cX8_style 14 = .ok (.ldc 242, 2) := by decide +kernel
theorem dX8_style_16 : decode cX8_style 16 = .ok (.freturn, 1) := by decide +kernel
theorem dX8_style_17 : decode cX8_style 17 = .ok (.aload_n 0, 1) := by decide +kernel
theorem dX8_style_18 : decode cX8_style 18 = .ok (.iload_n 1, 1) := by decide +kernel
theorem dX8_style_19 : decode cX8_style 19 = .ok (.iload_n 2, 1) := by decide +kernel
theorem dX8_style_20 : decode cX8_style 20 = .ok (.invokevirtual 243, 3) := by decide +kernel
theorem dX8_style_23 : decode cX8_style 23 = .ok (.freturn, 1) := by decide +kernel
theorem dX8_hundredths_0 : decode cX8_hundredths 0 = .ok (.iload_n 1, 1) := by decide +kernel
theorem dX8_hundredths_1 : decode cX8_hundredths 1 = .ok (.invokestatic 86, 3) := by decide +kernel
theorem dX8_hundredths_4 : decode cX8_hundredths 4 = .ok (.ifCond .ne 5, 3) := by decide +kernel
theorem dX8_hundredths_7 : decode cX8_hundredths 7 = .ok (.iconst (-1), 1) := by decide +kernel
theorem dX8_hundredths_8 : decode cX8_hundredths 8 = .ok (.ireturn, 1) := by decide +kernel
theorem dX8_hundredths_9 : decode cX8_hundredths 9 = .ok (.iload_n 2, 1) := by decide +kernel
theorem dX8_hundredths_10 : decode cX8_hundredths 10 = .ok (.invokestatic 239, 3) := by decide +kernel
theorem dX8_hundredths_13 : decode cX8_hundredths 13 = .ok (.ifCond .ne 6, 3) := by decide +kernel
theorem dX8_hundredths_16 : decode cX8_hundredths 16 = .ok (.bipush (-2), 2) := by decide +kernel
theorem dX8_hundredths_18 : decode cX8_hundredths 18 = .ok (.ireturn, 1) := by decide +kernel
theorem dX8_hundredths_19 : decode cX8_hundredths 19 = .ok (.aload_n 0, 1) := by decide +kernel
theorem dX8_hundredths_20 : decode cX8_hundredths 20 = .ok (.iload_n 1, 1) := by decide +kernel
theorem dX8_hundredths_21 : decode cX8_hundredths 21 = .ok (.iload_n 2, 1) := by decide +kernel
theorem dX8_hundredths_22 : decode cX8_hundredths 22 = .ok (.invokevirtual 243, 3) := by decide +kernel
theorem dX8_hundredths_25 : decode cX8_hundredths 25 = .ok (.ldc 247, 2) := by decide +kernel
theorem dX8_hundredths_27 : decode cX8_hundredths 27 = .ok (.fmul, 1) := by decide +kernel
theorem dX8_hundredths_28 : decode cX8_hundredths 28 = .ok (.f2i, 1) := by decide +kernel
theorem dX8_hundredths_29 : decode cX8_hundredths 29 = .ok (.ireturn, 1) := by decide +kernel
theorem dX8_typed_0 : decode cX8_typed 0 = .ok (.iload_n 1, 1) := by decide +kernel
theorem dX8_typed_1 : decode cX8_typed 1 = .ok (.invokestatic 86, 3) := by decide +kernel
theorem dX8_typed_4 : decode cX8_typed 4 = .ok (.ifCond .ne 5, 3) := by decide +kernel
theorem dX8_typed_7 : decode cX8_typed 7 = .ok (.iconst (-1), 1) := by decide +kernel
theorem dX8_typed_8 : decode cX8_typed 8 = .ok (.ireturn, 1) := by decide +kernel
theorem dX8_typed_9 : decode cX8_typed 9 = .ok (.iload_n 2, 1) := by decide +kernel
theorem dX8_typed_10 : decode cX8_typed 10 = .ok (.ifCond .ge 6, 3) := by decide +kernel
theorem dX8_typed_13 : decode cX8_typed 13 = .ok (.bipush (-2), 2) := by decide +kernel
theorem dX8_typed_15 : decode cX8_typed 15 = .ok (.ireturn, 1) := by decide +kernel
theorem dX8_typed_16 : decode cX8_typed 16 = .ok (.aload_n 0, 1) := by decide +kernel
theorem dX8_typed_17 : decode cX8_typed 17 = .ok (.getfield 12, 3) := by decide +kernel
theorem dX8_typed_20 : decode cX8_typed 20 = .ok (.iload_n 1, 1) := by decide +kernel
theorem dX8_typed_21 : decode cX8_typed 21 = .ok (.invokevirtual 95, 3) := by decide +kernel
theorem dX8_typed_24 : decode cX8_typed 24 = .ok (.astore_n 3, 1) := by decide +kernel
theorem dX8_typed_25 : decode cX8_typed 25 = .ok (.iload_n 2, 1) := by decide +kernel
theorem dX8_typed_26 : decode cX8_typed 26 = .ok (.aload_n 3, 1) := by decide +kernel
theorem dX8_typed_27 : decode cX8_typed 27 = .ok (.getfield 233, 3) := by decide +kernel
theorem dX8_typed_30 : decode cX8_typed 30 = .ok (.if_icmp .ge 9, 3) := by decide +kernel
theorem dX8_typed_33 : decode cX8_typed 33 = .ok (.iload_n 2, 1) := by decide +kernel
theorem dX8_typed_34 : decode cX8_typed 34 = .ok (.bipush 24, 2) := by decide +kernel
theorem dX8_typed_36 : decode cX8_typed 36 = .ok (.if_icmp .lt 6, 3) := by decide +kernel
theorem dX8_typed_39 : decode cX8_typed 39 = .ok (.bipush (-5), 2) := by decide +kernel
theorem dX8_typed_41 : decode cX8_typed 41 = .ok (.ireturn, 1) := by decide +kernel
theorem dX8_typed_42 : decode cX8_typed 42 = .ok (.aload_n 3, 1) := by decide +kernel
theorem dX8_typed_43 : decode cX8_typed 43 = .ok (.iload_n 2, 1) := by decide +kernel
theorem dX8_typed_44 : decode cX8_typed 44 = .ok (.invokevirtual 248, 3) := by decide +kernel
theorem dX8_typed_47 : decode cX8_typed 47 = .ok (.ireturn, 1) := by decide +kernel
theorem dX8_stroke_0 : decode cX8_stroke 0 = .ok (.iload_n 1, 1) := by decide +kernel
theorem dX8_stroke_1 : decode cX8_stroke 1 = .ok (.ifCond .lt 12, 3) := by decide +kernel
theorem dX8_stroke_4 : decode cX8_stroke 4 = .ok (.iload_n 2, 1) := by decide +kernel
theorem dX8_stroke_5 : decode cX8_stroke 5 = .ok (.ifCond .lt 8, 3) := by decide +kernel
theorem dX8_stroke_8 : decode cX8_stroke 8 = .ok (.iload_n 2, 1) := by decide +kernel
theorem dX8_stroke_9 : decode cX8_stroke 9 = .ok (.iconst 5, 1) := by decide +kernel
theorem dX8_stroke_10 : decode cX8_stroke 10 = .ok (.if_icmp .le 6, 3) := by decide +kernel
theorem dX8_stroke_13 : decode cX8_stroke 13 = .ok (.bipush (-2), 2) := by decide +kernel
theorem dX8_stroke_15 : decode cX8_stroke 15 = .ok (.ireturn, 1) := by decide +kernel
theorem dX8_stroke_16 : decode cX8_stroke 16 = .ok (.aload_n 0, 1) := by decide +kernel
theorem dX8_stroke_17 : decode cX8_stroke 17 = .ok (.getfield 12, 3) := by decide +kernel
theorem dX8_stroke_20 : decode cX8_stroke 20 = .ok (.getfield 251, 3) := by decide +kernel
theorem dX8_stroke_23 : decode cX8_stroke 23 = .ok (.astore_n 3, 1) := by decide +kernel
theorem dX8_stroke_24 : decode cX8_stroke 24 = .ok (.iload_n 1, 1) := by decide +kernel
theorem dX8_stroke_25 : decode cX8_stroke 25 = .ok (.aload_n 3, 1) := by decide +kernel
theorem dX8_stroke_26 : decode cX8_stroke 26 = .ok (.getfield 254, 3) := by decide +kernel
theorem dX8_stroke_29 : decode cX8_stroke 29 = .ok (.if_icmp .ge 9, 3) := by decide +kernel
theorem dX8_stroke_32 : decode cX8_stroke 32 = .ok (.iload_n 1, 1) := by decide +kernel
theorem dX8_stroke_33 : decode cX8_stroke 33 = .ok (.bipush 16, 2) := by decide +kernel
theorem dX8_stroke_35 : decode cX8_stroke 35 = .ok (.if_icmp .lt 6, 3) := by decide +kernel
theorem dX8_stroke_38 : decode cX8_stroke 38 = .ok (.bipush (-5), 2) := by decide +kernel
theorem dX8_stroke_40 : decode cX8_stroke 40 = .ok (.ireturn, 1) := by decide +kernel
theorem dX8_stroke_41 : decode cX8_stroke 41 = .ok (.aload_n 3, 1) := by decide +kernel
theorem dX8_stroke_42 : decode cX8_stroke 42 = .ok (.getfield 254, 3) := by decide +kernel
theorem dX8_stroke_45 : decode cX8_stroke 45 = .ok (.iconst 1, 1) := by decide +kernel
theorem dX8_stroke_46 : decode cX8_stroke 46 = .ok (.isub, 1) := by decide +kernel
theorem dX8_stroke_47 : decode cX8_stroke 47 = .ok (.iload_n 1, 1) := by decide +kernel
theorem dX8_stroke_48 : decode cX8_stroke 48 = .ok (.isub, 1) := by decide +kernel
theorem dX8_stroke_49 : decode cX8_stroke 49 = .ok (.istore 4, 2) := by decide +kernel
theorem dX8_stroke_51 : decode cX8_stroke 51 = .ok (.iload_n 2, 1) := by decide +kernel
theorem dX8_stroke_52 : decode cX8_stroke 52 = .ok (.tableswitch 74 0 4 #[36, 43, 50, 57, 64], 36) := by decide +kernel
theorem dX8_stroke_88 : decode cX8_stroke 88 = .ok (.aload_n 3, 1) := by decide +kernel
theorem dX8_stroke_89 : decode cX8_stroke 89 = .ok (.iload 4, 2) := by decide +kernel
theorem dX8_stroke_91 : decode cX8_stroke 91 = .ok (.invokevirtual 162, 3) := by decide +kernel
theorem dX8_stroke_94 : decode cX8_stroke 94 = .ok (.ireturn, 1) := by decide +kernel
theorem dX8_stroke_95 : decode cX8_stroke 95 = .ok (.aload_n 3, 1) := by decide +kernel
theorem dX8_stroke_96 : decode cX8_stroke 96 = .ok (.iload 4, 2) := by decide +kernel
theorem dX8_stroke_98 : decode cX8_stroke 98 = .ok (.invokevirtual 257, 3) := by decide +kernel
theorem dX8_stroke_101 : decode cX8_stroke 101 = .ok (.ireturn, 1) := by decide +kernel
theorem dX8_stroke_102 : decode cX8_stroke 102 = .ok (.aload_n 3, 1) := by decide +kernel
theorem dX8_stroke_103 : decode cX8_stroke 103 = .ok (.iload 4, 2) := by decide +kernel
theorem dX8_stroke_105 : decode cX8_stroke 105 = .ok (.invokevirtual 258, 3) := by decide +kernel
theorem dX8_stroke_108 : decode cX8_stroke 108 = .ok (.ireturn, 1) := by decide +kernel
theorem dX8_stroke_109 : decode cX8_stroke 109 = .ok (.aload_n 3, 1) := by decide +kernel
theorem dX8_stroke_110 : decode cX8_stroke 110 = .ok (.iload 4, 2) := by decide +kernel
theorem dX8_stroke_112 : decode cX8_stroke 112 = .ok (.invokevirtual 154, 3) := by decide +kernel
theorem dX8_stroke_115 : decode cX8_stroke 115 = .ok (.ireturn, 1) := by decide +kernel
theorem dX8_stroke_116 : decode cX8_stroke 116 = .ok (.aload_n 3, 1) := by decide +kernel
theorem dX8_stroke_117 : decode cX8_stroke 117 = .ok (.iload 4, 2) := by decide +kernel
theorem dX8_stroke_119 : decode cX8_stroke 119 = .ok (.invokevirtual 261, 3) := by decide +kernel
theorem dX8_stroke_122 : decode cX8_stroke 122 = .ok (.invokestatic 203, 3) := by decide +kernel
theorem dX8_stroke_125 : decode cX8_stroke 125 = .ok (.ireturn, 1) := by decide +kernel
theorem dX8_stroke_126 : decode cX8_stroke 126 = .ok (.aload_n 3, 1) := by decide +kernel
theorem dX8_stroke_127 : decode cX8_stroke 127 = .ok (.iload 4, 2) := by decide +kernel
theorem dX8_stroke_129 : decode cX8_stroke 129 = .ok (.invokevirtual 262, 3) := by decide +kernel
theorem dX8_stroke_132 : decode cX8_stroke 132 = .ok (.ireturn, 1) := by decide +kernel
theorem dX8_dispute_0 : decode cX8_dispute 0 = .ok (.aload_n 0, 1) := by decide +kernel
theorem dX8_dispute_1 : decode cX8_dispute 1 = .ok (.getfield 12, 3) := by decide +kernel
theorem dX8_dispute_4 : decode cX8_dispute 4 = .ok (.iload_n 1, 1) := by decide +kernel
theorem dX8_dispute_5 : decode cX8_dispute 5 = .ok (.invokevirtual 147, 3) := by decide +kernel
theorem dX8_dispute_8 : decode cX8_dispute 8 = .ok (.ifCond .ne 5, 3) := by decide +kernel
theorem dX8_dispute_11 : decode cX8_dispute 11 = .ok (.iconst (-1), 1) := by decide +kernel
theorem dX8_dispute_12 : decode cX8_dispute 12 = .ok (.ireturn, 1) := by decide +kernel
theorem dX8_dispute_13 : decode cX8_dispute 13 = .ok (.aload_n 0, 1) := by decide +kernel
theorem dX8_dispute_14 : decode cX8_dispute 14 = .ok (.getfield 12, 3) := by decide +kernel
theorem dX8_dispute_17 : decode cX8_dispute 17 = .ok (.getfield 150, 3) := by decide +kernel
theorem dX8_dispute_20 : decode cX8_dispute 20 = .ok (.astore_n 3, 1) := by decide +kernel
theorem dX8_dispute_21 : decode cX8_dispute 21 = .ok (.iload_n 2, 1) := by decide +kernel
theorem dX8_dispute_22 : decode cX8_dispute 22 = .ok (.tableswitch 81 0 4 #[34, 40, 46, 52, 72], 34) := by decide +kernel
theorem dX8_dispute_56 : decode cX8_dispute 56 = .ok (.aload_n 3, 1) := by decide +kernel
theorem dX8_dispute_57 : decode cX8_dispute 57 = .ok (.iload_n 1, 1) := by decide +kernel
theorem dX8_dispute_58 : decode cX8_dispute 58 = .ok (.invokevirtual 162, 3) := by decide +kernel
theorem dX8_dispute_61 : decode cX8_dispute 61 = .ok (.ireturn, 1) := by decide +kernel
theorem dX8_dispute_62 : decode cX8_dispute 62 = .ok (.aload_n 3, 1) := by decide +kernel
theorem dX8_dispute_63 : decode cX8_dispute 63 = .ok (.iload_n 1, 1) := by decide +kernel
theorem dX8_dispute_64 : decode cX8_dispute 64 = .ok (.invokevirtual 257, 3) := by decide +kernel
theorem dX8_dispute_67 : decode cX8_dispute 67 = .ok (.ireturn, 1) := by decide +kernel
theorem dX8_dispute_68 : decode cX8_dispute 68 = .ok (.aload_n 3, 1) := by decide +kernel
theorem dX8_dispute_69 : decode cX8_dispute 69 = .ok (.iload_n 1, 1) := by decide +kernel
theorem dX8_dispute_70 : decode cX8_dispute 70 = .ok (.invokevirtual 258, 3) := by decide +kernel
theorem dX8_dispute_73 : decode cX8_dispute 73 = .ok (.ireturn, 1) := by decide +kernel
theorem dX8_dispute_74 : decode cX8_dispute 74 = .ok (.aload_n 3, 1) := by decide +kernel
theorem dX8_dispute_75 : decode cX8_dispute 75 = .ok (.iload_n 1, 1) := by decide +kernel
theorem dX8_dispute_76 : decode cX8_dispute 76 = .ok (.invokevirtual 154, 3) := by decide +kernel
theorem dX8_dispute_79 : decode cX8_dispute 79 = .ok (.iconst 3, 1) := by decide +kernel
theorem dX8_dispute_80 : decode cX8_dispute 80 = .ok (.if_icmp .ne 8, 3) := by decide +kernel
theorem dX8_dispute_83 : decode cX8_dispute 83 = .ok (.bipush (-5), 2) := by decide +kernel
theorem dX8_dispute_85 : decode cX8_dispute 85 = .ok (.goto 8, 3) := by decide +kernel
theorem dX8_dispute_88 : decode cX8_dispute 88 = .ok (.aload_n 3, 1) := by decide +kernel
theorem dX8_dispute_89 : decode cX8_dispute 89 = .ok (.iload_n 1, 1) := by decide +kernel
theorem dX8_dispute_90 : decode cX8_dispute 90 = .ok (.invokevirtual 154, 3) := by decide +kernel
theorem dX8_dispute_93 : decode cX8_dispute 93 = .ok (.ireturn, 1) := by decide +kernel
theorem dX8_dispute_94 : decode cX8_dispute 94 = .ok (.aload_n 3, 1) := by decide +kernel
theorem dX8_dispute_95 : decode cX8_dispute 95 = .ok (.iload_n 1, 1) := by decide +kernel
theorem dX8_dispute_96 : decode cX8_dispute 96 = .ok (.invokevirtual 261, 3) := by decide +kernel
theorem dX8_dispute_99 : decode cX8_dispute 99 = .ok (.invokestatic 203, 3) := by decide +kernel
theorem dX8_dispute_102 : decode cX8_dispute 102 = .ok (.ireturn, 1) := by decide +kernel
theorem dX8_dispute_103 : decode cX8_dispute 103 = .ok (.bipush (-2), 2) := by decide +kernel
theorem dX8_dispute_105 : decode cX8_dispute 105 = .ok (.ireturn, 1) := by decide +kernel
theorem dX8_distance_0 : decode cX8_distance 0 = .ok (.iload_n 1, 1) := by decide +kernel
theorem dX8_distance_1 : decode cX8_distance 1 = .ok (.invokestatic 86, 3) := by decide +kernel
theorem dX8_distance_4 : decode cX8_distance 4 = .ok (.ifCond .eq 18, 3) := by decide +kernel
theorem dX8_distance_7 : decode cX8_distance 7 = .ok (.iload_n 2, 1) := by decide +kernel
theorem dX8_distance_8 : decode cX8_distance 8 = .ok (.ifCond .lt 14, 3) := by decide +kernel
theorem dX8_distance_11 : decode cX8_distance 11 = .ok (.iload_n 3, 1) := by decide +kernel
theorem dX8_distance_12 : decode cX8_distance 12 = .ok (.ifCond .lt 10, 3) := by decide +kernel
theorem dX8_distance_15 : decode cX8_distance 15 = .ok (.iload_n 3, 1) := by decide +kernel
theorem dX8_distance_16 : decode cX8_distance 16 = .ok (.sipush 9999, 3) := by decide +kernel
theorem dX8_distance_19 : decode cX8_distance 19 = .ok (.if_icmp .le 6, 3) := by decide +kernel
theorem dX8_distance_22 : decode cX8_distance 22 = .ok (.ldc 242, 2) := by decide +kernel
theorem dX8_distance_24 : decode cX8_distance 24 = .ok (.freturn, 1) := by decide +kernel
theorem dX8_distance_25 : decode cX8_distance 25 = .ok (.aload_n 0, 1) := by decide +kernel
theorem dX8_distance_26 : decode cX8_distance 26 = .ok (.getfield 12, 3) := by decide +kernel
theorem dX8_distance_29 : decode cX8_distance 29 = .ok (.iload_n 1, 1) := by decide +kernel
theorem dX8_distance_30 : decode cX8_distance 30 = .ok (.invokevirtual 95, 3) := by decide +kernel
theorem dX8_distance_33 : decode cX8_distance 33 = .ok (.iload_n 2, 1) := by decide +kernel
theorem dX8_distance_34 : decode cX8_distance 34 = .ok (.iload_n 3, 1) := by decide +kernel
theorem dX8_distance_35 : decode cX8_distance 35 = .ok (.invokevirtual 265, 3) := by decide +kernel
theorem dX8_distance_38 : decode cX8_distance 38 = .ok (.freturn, 1) := by decide +kernel
theorem dX8_verdict_0 : decode cX8_verdict 0 = .ok (.aload_n 0, 1) := by decide +kernel
theorem dX8_verdict_1 : decode cX8_verdict 1 = .ok (.getfield 12, 3) := by decide +kernel
theorem dX8_verdict_4 : decode cX8_verdict 4 = .ok (.getfield 40, 3) := by decide +kernel
theorem dX8_verdict_7 : decode cX8_verdict 7 = .ok (.iload_n 1, 1) := by decide +kernel
theorem dX8_verdict_8 : decode cX8_verdict 8 = .ok (.invokevirtual 71, 3) := by decide +kernel
theorem dX8_verdict_11 : decode cX8_verdict 11 = .ok (.ifCond .ne 5, 3) := by decide +kernel
theorem dX8_verdict_14 : decode cX8_verdict 14 = .ok (.iconst (-1), 1) := by decide +kernel
theorem dX8_verdict_15 : decode cX8_verdict 15 = .ok (.ireturn, 1) := by decide +kernel
theorem dX8_verdict_16 : decode cX8_verdict 16 = .ok (.aload_n 0, 1) := by decide +kernel
theorem dX8_verdict_17 : decode cX8_verdict 17 = .ok (.getfield 12, 3) := by decide +kernel
theorem dX8_verdict_20 : decode cX8_verdict 20 = .ok (.getfield 40, 3) := by decide +kernel
theorem dX8_verdict_23 : decode cX8_verdict 23 = .ok (.iload_n 1, 1) := by decide +kernel
theorem dX8_verdict_24 : decode cX8_verdict 24 = .ok (.invokevirtual 206, 3) := by decide +kernel
theorem dX8_verdict_27 : decode cX8_verdict 27 = .ok (.ifCond .eq 14, 3) := by decide +kernel
theorem dX8_verdict_30 : decode cX8_verdict 30 = .ok (.aload_n 0, 1) := by decide +kernel
theorem dX8_verdict_31 : decode cX8_verdict 31 = .ok (.getfield 12, 3) := by decide +kernel
theorem dX8_verdict_34 : decode cX8_verdict 34 = .ok (.iload_n 1, 1) := by decide +kernel
theorem dX8_verdict_35 : decode cX8_verdict 35 = .ok (.invokevirtual 268, 3) := by decide +kernel
theorem dX8_verdict_38 : decode cX8_verdict 38 = .ok (.goto 5, 3) := by decide +kernel
theorem dX8_verdict_41 : decode cX8_verdict 41 = .ok (.bipush (-5), 2) := by decide +kernel
theorem dX8_verdict_43 : decode cX8_verdict 43 = .ok (.ireturn, 1) := by decide +kernel
theorem dX8_ghostsBy_0 : decode cX8_ghostsBy 0 = .ok (.aload_n 0, 1) := by decide +kernel
theorem dX8_ghostsBy_1 : decode cX8_ghostsBy 1 = .ok (.getfield 12, 3) := by decide +kernel
theorem dX8_ghostsBy_4 : decode cX8_ghostsBy 4 = .ok (.getfield 40, 3) := by decide +kernel
theorem dX8_ghostsBy_7 : decode cX8_ghostsBy 7 = .ok (.astore_n 2, 1) := by decide +kernel
theorem dX8_ghostsBy_8 : decode cX8_ghostsBy 8 = .ok (.aload_n 2, 1) := by decide +kernel
theorem dX8_ghostsBy_9 : decode cX8_ghostsBy 9 = .ok (.iload_n 1, 1) := by decide +kernel
theorem dX8_ghostsBy_10 : decode cX8_ghostsBy 10 = .ok (.invokevirtual 71, 3) := by decide +kernel
theorem dX8_ghostsBy_13 : decode cX8_ghostsBy 13 = .ok (.ifCond .ne 5, 3) := by decide +kernel
theorem dX8_ghostsBy_16 : decode cX8_ghostsBy 16 = .ok (.iconst (-1), 1) := by decide +kernel
theorem dX8_ghostsBy_17 : decode cX8_ghostsBy 17 = .ok (.ireturn, 1) := by decide +kernel
theorem dX8_ghostsBy_18 : decode cX8_ghostsBy 18 = .ok (.bipush 100, 2) := by decide +kernel
theorem dX8_ghostsBy_20 : decode cX8_ghostsBy 20 = .ok (.aload_n 2, 1) := by decide +kernel
theorem dX8_ghostsBy_21 : decode cX8_ghostsBy 21 = .ok (.iload_n 1, 1) := by decide +kernel
theorem dX8_ghostsBy_22 : decode cX8_ghostsBy 22 = .ok (.iconst (-1), 1) := by decide +kernel
theorem dX8_ghostsBy_23 : decode cX8_ghostsBy 23 = .ok (.invokevirtual 271, 3) := by decide +kernel
theorem dX8_ghostsBy_26 : decode cX8_ghostsBy 26 = .ok (.iadd, 1) := by decide +kernel
theorem dX8_ghostsBy_27 : decode cX8_ghostsBy 27 = .ok (.aload_n 2, 1) := by decide +kernel
theorem dX8_ghostsBy_28 : decode cX8_ghostsBy 28 = .ok (.iload_n 1, 1) := by decide +kernel
theorem dX8_ghostsBy_29 : decode cX8_ghostsBy 29 = .ok (.iload_n 1, 1) := by decide +kernel
theorem dX8_ghostsBy_30 : decode cX8_ghostsBy 30 = .ok (.invokevirtual 271, 3) := by decide +kernel
theorem dX8_ghostsBy_33 : decode cX8_ghostsBy 33 = .ok (.isub, 1) := by decide +kernel
theorem dX8_ghostsBy_34 : decode cX8_ghostsBy 34 = .ok (.ireturn, 1) := by decide +kernel
theorem dX8_count_0 : decode cX8_count 0 = .ok (.aload_n 0, 1) := by decide +kernel
theorem dX8_count_1 : decode cX8_count 1 = .ok (.getfield 12, 3) := by decide +kernel
theorem dX8_count_4 : decode cX8_count 4 = .ok (.getfield 40, 3) := by decide +kernel
theorem dX8_count_7 : decode cX8_count 7 = .ok (.astore_n 2, 1) := by decide +kernel
theorem dX8_count_8 : decode cX8_count 8 = .ok (.iload_n 1, 1) := by decide +kernel
theorem dX8_count_9 : decode cX8_count 9 = .ok (.tableswitch 226 0 15 #[79, 87, 92, 97, 102, 107, 112, 123, 145, 153, 161, 172, 194, 202, 210, 218], 79) := by decide +kernel
theorem dX8_count_88 : decode cX8_count 88 = .ok (.aload_n 0, 1) := by decide +kernel
theorem dX8_count_89 : decode cX8_count 89 = .ok (.getfield 12, 3) := by decide +kernel
theorem dX8_count_92 : decode cX8_count 92 = .ok (.getfield 197, 3) := by decide +kernel
theorem dX8_count_95 : decode cX8_count 95 = .ok (.ireturn, 1) := by decide +kernel
theorem dX8_count_96 : decode cX8_count 96 = .ok (.aload_n 2, 1) := by decide +kernel
theorem dX8_count_97 : decode cX8_count 97 = .ok (.getfield 53, 3) := by decide +kernel
theorem dX8_count_100 : decode cX8_count 100 = .ok (.ireturn, 1) := by decide +kernel
theorem dX8_count_101 : decode cX8_count 101 = .ok (.aload_n 2, 1) := by decide +kernel
theorem dX8_count_102 : decode cX8_count 102 = .ok (.getfield 57, 3) := by decide +kernel
theorem dX8_count_105 : decode cX8_count 105 = .ok (.ireturn, 1) := by decide +kernel
theorem dX8_count_106 : decode cX8_count 106 = .ok (.aload_n 2, 1) := by decide +kernel
theorem dX8_count_107 : decode cX8_count 107 = .ok (.invokevirtual 44, 3) := by decide +kernel
theorem dX8_count_110 : decode cX8_count 110 = .ok (.ireturn, 1) := by decide +kernel
theorem dX8_count_111 : decode cX8_count 111 = .ok (.aload_n 2, 1) := by decide +kernel
theorem dX8_count_112 : decode cX8_count 112 = .ok (.invokevirtual 50, 3) := by decide +kernel
theorem dX8_count_115 : decode cX8_count 115 = .ok (.ireturn, 1) := by decide +kernel
theorem dX8_count_116 : decode cX8_count 116 = .ok (.aload_n 2, 1) := by decide +kernel
theorem dX8_count_117 : decode cX8_count 117 = .ok (.invokevirtual 274, 3) := by decide +kernel
theorem dX8_count_120 : decode cX8_count 120 = .ok (.ireturn, 1) := by decide +kernel
theorem dX8_count_121 : decode cX8_count 121 = .ok (.aload_n 0, 1) := by decide +kernel
theorem dX8_count_122 : decode cX8_count 122 = .ok (.getfield 12, 3) := by decide +kernel
theorem dX8_count_125 : decode cX8_count 125 = .ok (.getfield 251, 3) := by decide +kernel
theorem dX8_count_128 : decode cX8_count 128 = .ok (.getfield 254, 3) := by decide +kernel
theorem dX8_count_131 : decode cX8_count 131 = .ok (.ireturn, 1) := by decide +kernel
theorem dX8_count_132 : decode cX8_count 132 = .ok (.aload_n 0, 1) := by decide +kernel
theorem dX8_count_133 : decode cX8_count 133 = .ok (.getfield 12, 3) := by decide +kernel
theorem dX8_count_136 : decode cX8_count 136 = .ok (.getfield 104, 3) := by decide +kernel
theorem dX8_count_139 : decode cX8_count 139 = .ok (.getfield 227, 3) := by decide +kernel
theorem dX8_count_142 : decode cX8_count 142 = .ok (.aload_n 0, 1) := by decide +kernel
theorem dX8_count_143 : decode cX8_count 143 = .ok (.getfield 12, 3) := by decide +kernel
theorem dX8_count_146 : decode cX8_count 146 = .ok (.getfield 108, 3) := by decide +kernel
theorem dX8_count_149 : decode cX8_count 149 = .ok (.getfield 227, 3) := by decide +kernel
theorem dX8_count_152 : decode cX8_count 152 = .ok (.iadd, 1) := by decide +kernel
theorem dX8_count_153 : decode cX8_count 153 = .ok (.ireturn, 1) := by decide +kernel
theorem dX8_count_154 : decode cX8_count 154 = .ok (.aload_n 0, 1) := by decide +kernel
theorem dX8_count_155 : decode cX8_count 155 = .ok (.getfield 12, 3) := by decide +kernel
theorem dX8_count_158 : decode cX8_count 158 = .ok (.getfield 277, 3) := by decide +kernel
theorem dX8_count_161 : decode cX8_count 161 = .ok (.ireturn, 1) := by decide +kernel
theorem dX8_count_162 : decode cX8_count 162 = .ok (.aload_n 0, 1) := by decide +kernel
theorem dX8_count_163 : decode cX8_count 163 = .ok (.getfield 12, 3) := by decide +kernel
theorem dX8_count_166 : decode cX8_count 166 = .ok (.getfield 280, 3) := by decide +kernel
theorem dX8_count_169 : decode cX8_count 169 = .ok (.ireturn, 1) := by decide +kernel
theorem dX8_count_170 : decode cX8_count 170 = .ok (.aload_n 0, 1) := by decide +kernel
theorem dX8_count_171 : decode cX8_count 171 = .ok (.getfield 12, 3) := by decide +kernel
theorem dX8_count_174 : decode cX8_count 174 = .ok (.getfield 150, 3) := by decide +kernel
theorem dX8_count_177 : decode cX8_count 177 = .ok (.getfield 254, 3) := by decide +kernel
theorem dX8_count_180 : decode cX8_count 180 = .ok (.ireturn, 1) := by decide +kernel
theorem dX8_count_181 : decode cX8_count 181 = .ok (.aload_n 0, 1) := by decide +kernel
theorem dX8_count_182 : decode cX8_count 182 = .ok (.getfield 12, 3) := by decide +kernel
theorem dX8_count_185 : decode cX8_count 185 = .ok (.getfield 104, 3) := by decide +kernel
theorem dX8_count_188 : decode cX8_count 188 = .ok (.getfield 230, 3) := by decide +kernel
theorem dX8_count_191 : decode cX8_count 191 = .ok (.aload_n 0, 1) := by decide +kernel
theorem dX8_count_192 : decode cX8_count 192 = .ok (.getfield 12, 3) := by decide +kernel
theorem dX8_count_195 : decode cX8_count 195 = .ok (.getfield 108, 3) := by decide +kernel
theorem dX8_count_198 : decode cX8_count 198 = .ok (.getfield 230, 3) := by decide +kernel
theorem dX8_count_201 : decode cX8_count 201 = .ok (.iadd, 1) := by decide +kernel
theorem dX8_count_202 : decode cX8_count 202 = .ok (.ireturn, 1) := by decide +kernel
theorem dX8_count_203 : decode cX8_count 203 = .ok (.aload_n 0, 1) := by decide +kernel
theorem dX8_count_204 : decode cX8_count 204 = .ok (.getfield 12, 3) := by decide +kernel
theorem dX8_count_207 : decode cX8_count 207 = .ok (.getfield 283, 3) := by decide +kernel
theorem dX8_count_210 : decode cX8_count 210 = .ok (.ireturn, 1) := by decide +kernel
theorem dX8_count_211 : decode cX8_count 211 = .ok (.aload_n 0, 1) := by decide +kernel
theorem dX8_count_212 : decode cX8_count 212 = .ok (.getfield 12, 3) := by decide +kernel
theorem dX8_count_215 : decode cX8_count 215 = .ok (.invokevirtual 286, 3) := by decide +kernel
theorem dX8_count_218 : decode cX8_count 218 = .ok (.ireturn, 1) := by decide +kernel
theorem dX8_count_219 : decode cX8_count 219 = .ok (.aload_n 0, 1) := by decide +kernel
theorem dX8_count_220 : decode cX8_count 220 = .ok (.getfield 25, 3) := by decide +kernel
theorem dX8_count_223 : decode cX8_count 223 = .ok (.getfield 191, 3) := by decide +kernel
theorem dX8_count_226 : decode cX8_count 226 = .ok (.ireturn, 1) := by decide +kernel
theorem dX8_count_227 : decode cX8_count 227 = .ok (.aload_n 0, 1) := by decide +kernel
theorem dX8_count_228 : decode cX8_count 228 = .ok (.getfield 32, 3) := by decide +kernel
theorem dX8_count_231 : decode cX8_count 231 = .ok (.getfield 169, 3) := by decide +kernel
theorem dX8_count_234 : decode cX8_count 234 = .ok (.ireturn, 1) := by decide +kernel
theorem dX8_count_235 : decode cX8_count 235 = .ok (.bipush (-2), 2) := by decide +kernel
theorem dX8_count_237 : decode cX8_count 237 = .ok (.ireturn, 1) := by decide +kernel
theorem dX8_isMean_0 : decode cX8_isMean 0 = .ok (.iload_n 0, 1) := by decide +kernel
theorem dX8_isMean_1 : decode cX8_isMean 1 = .ok (.ifCond .eq 8, 3) := by decide +kernel
theorem dX8_isMean_4 : decode cX8_isMean 4 = .ok (.iload_n 0, 1) := by decide +kernel
theorem dX8_isMean_5 : decode cX8_isMean 5 = .ok (.iconst 1, 1) := by decide +kernel
theorem dX8_isMean_6 : decode cX8_isMean 6 = .ok (.if_icmp .ne 7, 3) := by decide +kernel
theorem dX8_isMean_9 : decode cX8_isMean 9 = .ok (.iconst 1, 1) := by decide +kernel
theorem dX8_isMean_10 : decode cX8_isMean 10 = .ok (.goto 4, 3) := by decide +kernel
theorem dX8_isMean_13 : decode cX8_isMean 13 = .ok (.iconst 0, 1) := by decide +kernel
theorem dX8_isMean_14 : decode cX8_isMean 14 = .ok (.ireturn, 1) := by decide +kernel
theorem dX8_meanOf_0 : decode cX8_meanOf 0 = .ok (.aload_n 0, 1) := by decide +kernel
theorem dX8_meanOf_1 : decode cX8_meanOf 1 = .ok (.getfield 12, 3) := by decide +kernel
theorem dX8_meanOf_4 : decode cX8_meanOf 4 = .ok (.iload_n 1, 1) := by decide +kernel
theorem dX8_meanOf_5 : decode cX8_meanOf 5 = .ok (.invokevirtual 95, 3) := by decide +kernel
theorem dX8_meanOf_8 : decode cX8_meanOf 8 = .ok (.astore_n 3, 1) := by decide +kernel
theorem dX8_meanOf_9 : decode cX8_meanOf 9 = .ok (.iload_n 2, 1) := by decide +kernel
theorem dX8_meanOf_10 : decode cX8_meanOf 10 = .ok (.ifCond .ne 10, 3) := by decide +kernel
theorem dX8_meanOf_13 : decode cX8_meanOf 13 = .ok (.aload_n 3, 1) := by decide +kernel
theorem dX8_meanOf_14 : decode cX8_meanOf 14 = .ok (.getfield 289, 3) := by decide +kernel
theorem dX8_meanOf_17 : decode cX8_meanOf 17 = .ok (.goto 7, 3) := by decide +kernel
theorem dX8_meanOf_20 : decode cX8_meanOf 20 = .ok (.aload_n 3, 1) := by decide +kernel
theorem dX8_meanOf_21 : decode cX8_meanOf 21 = .ok (.getfield 293, 3) := by decide +kernel
theorem dX8_meanOf_24 : decode cX8_meanOf 24 = .ok (.freturn, 1) := by decide +kernel
theorem dX8_orNone_0 : decode cX8_orNone 0 = .ok (.iload_n 0, 1) := by decide +kernel
theorem dX8_orNone_1 : decode cX8_orNone 1 = .ok (.iconst (-1), 1) := by decide +kernel
theorem dX8_orNone_2 : decode cX8_orNone 2 = .ok (.if_icmp .ne 8, 3) := by decide +kernel
theorem dX8_orNone_5 : decode cX8_orNone 5 = .ok (.bipush (-5), 2) := by decide +kernel
theorem dX8_orNone_7 : decode cX8_orNone 7 = .ok (.goto 4, 3) := by decide +kernel
theorem dX8_orNone_10 : decode cX8_orNone 10 = .ok (.iload_n 0, 1) := by decide +kernel
theorem dX8_orNone_11 : decode cX8_orNone 11 = .ok (.ireturn, 1) := by decide +kernel
end
section
theorem dX9_init_0 : decode cX9_init 0 = .ok (.aload_n 0, 1) := by decide +kernel
theorem dX9_init_1 : decode cX9_init 1 = .ok (.invokespecial 1, 3) := by decide +kernel
theorem dX9_init_4 : decode cX9_init 4 = .ok (.aload_n 0, 1) := by decide +kernel
theorem dX9_init_5 : decode cX9_init 5 = .ok (.sipush 592, 3) := by decide +kernel
theorem dX9_init_8 : decode cX9_init 8 = .ok (.newarray .int, 2) := by decide +kernel
theorem dX9_init_10 : decode cX9_init 10 = .ok (.putfield 7, 3) := by decide +kernel
theorem dX9_init_13 : decode cX9_init 13 = .ok (.aload_n 0, 1) := by decide +kernel
theorem dX9_init_14 : decode cX9_init 14 = .ok (.sipush 2368, 3) := by decide +kernel
theorem dX9_init_17 : decode cX9_init 17 = .ok (.newarray .int, 2) := by decide +kernel
theorem dX9_init_19 : decode cX9_init 19 = .ok (.putfield 13, 3) := by decide +kernel
theorem dX9_init_22 : decode cX9_init 22 = .ok (.aload_n 0, 1) := by decide +kernel
theorem dX9_init_23 : decode cX9_init 23 = .ok (.sipush 592, 3) := by decide +kernel
theorem dX9_init_26 : decode cX9_init 26 = .ok (.newarray .int, 2) := by decide +kernel
theorem dX9_init_28 : decode cX9_init 28 = .ok (.putfield 16, 3) := by decide +kernel
theorem dX9_init_31 : decode cX9_init 31 = .ok (.aload_n 0, 1) := by decide +kernel
theorem dX9_init_32 : decode cX9_init 32 = .ok (.sipush 592, 3) := by decide +kernel
theorem dX9_init_35 : decode cX9_init 35 = .ok (.newarray .int, 2) := by decide +kernel
theorem dX9_init_37 : decode cX9_init 37 = .ok (.putfield 19, 3) := by decide +kernel
theorem dX9_init_40 : decode cX9_init 40 = .ok (.aload_n 0, 1) := by decide +kernel
theorem dX9_init_41 : decode cX9_init 41 = .ok (.bipush 7, 2) := by decide +kernel
theorem dX9_init_43 : decode cX9_init 43 = .ok (.newarray .float, 2) := by decide +kernel
theorem dX9_init_45 : decode cX9_init 45 = .ok (.putfield 22, 3) := by decide +kernel
theorem dX9_init_48 : decode cX9_init 48 = .ok (.aload_n 0, 1) := by decide +kernel
theorem dX9_init_49 : decode cX9_init 49 = .ok (.bipush 28, 2) := by decide +kernel
theorem dX9_init_51 : decode cX9_init 51 = .ok (.newarray .float, 2) := by decide +kernel
theorem dX9_init_53 : decode cX9_init 53 = .ok (.putfield 26, 3) := by decide +kernel
theorem dX9_init_56 : decode cX9_init 56 = .ok (.aload_n 0, 1) := by decide +kernel
theorem dX9_init_57 : decode cX9_init 57 = .ok (.bipush 7, 2) := by decide +kernel
theorem dX9_init_59 : decode cX9_init 59 = .ok (.newarray .float, 2) := by decide +kernel
theorem dX9_init_61 : decode cX9_init 61 = .ok (.putfield 29, 3) := by decide +kernel
theorem dX9_init_64 : decode cX9_init 64 = .ok (.aload_n 0, 1) := by decide +kernel
theorem dX9_init_65 : decode cX9_init 65 = .ok (.bipush 7, 2) := by decide +kernel
theorem dX9_init_67 : decode cX9_init 67 = .ok (.newarray .float, 2) := by decide +kernel
theorem dX9_init_69 : decode cX9_init 69 = .ok (.putfield 32, 3) := by decide +kernel
theorem dX9_init_72 : decode cX9_init 72 = .ok (.aload_n 0, 1) := by decide +kernel
theorem dX9_init_73 : decode cX9_init 73 = .ok (.bipush 60, 2) := by decide +kernel
theorem dX9_init_75 : decode cX9_init 75 = .ok (.newarray .char, 2) := by decide +kernel
theorem dX9_init_77 : decode cX9_init 77 = .ok (.putfield 35, 3) := by decide +kernel
theorem dX9_init_80 : decode cX9_init 80 = .ok (.aload_n 0, 1) := by decide +kernel
theorem dX9_init_81 : decode cX9_init 81 = .ok (.getfield 7, 3) := by decide +kernel
theorem dX9_init_84 : decode cX9_init 84 = .ok (.iconst 0, 1) := by decide +kernel
theorem dX9_init_85 : decode cX9_init 85 = .ok (.iconst 4, 1) := by decide +kernel
theorem dX9_init_86 : decode cX9_init 86 = .ok (.iastore, 1) := by decide +kernel
theorem dX9_init_87 : decode cX9_init 87 = .ok (.aload_n 0, 1) := by decide +kernel
theorem dX9_init_88 : decode cX9_init 88 = .ok (.getfield 7, 3) := by decide +kernel
theorem dX9_init_91 : decode cX9_init 91 = .ok (.iconst 1, 1) := by decide +kernel
theorem dX9_init_92 : decode cX9_init 92 = .ok (.bipush 6, 2) := by decide +kernel
theorem dX9_init_94 : decode cX9_init 94 = .ok (.iastore, 1) := by decide +kernel
theorem dX9_init_95 : decode cX9_init 95 = .ok (.iconst 0, 1) := by decide +kernel
theorem dX9_init_96 : decode cX9_init 96 = .ok (.istore_n 1, 1) := by decide +kernel
theorem dX9_init_97 : decode cX9_init 97 = .ok (.iload_n 1, 1) := by decide +kernel
theorem dX9_init_98 : decode cX9_init 98 = .ok (.iconst 2, 1) := by decide +kernel
theorem dX9_init_99 : decode cX9_init 99 = .ok (.if_icmp .ge 61, 3) := by decide +kernel
theorem dX9_init_102 : decode cX9_init 102 = .ok (.aload_n 0, 1) := by decide +kernel
theorem dX9_init_103 : decode cX9_init 103 = .ok (.getfield 7, 3) := by decide +kernel
theorem dX9_init_106 : decode cX9_init 106 = .ok (.iconst 3, 1) := by decide +kernel
theorem dX9_init_107 : decode cX9_init 107 = .ok (.iload_n 1, 1) := by decide +kernel
theorem dX9_init_108 : decode cX9_init 108 = .ok (.iadd, 1) := by decide +kernel
theorem dX9_init_109 : decode cX9_init 109 = .ok (.bipush (-5), 2) := by decide +kernel
theorem dX9_init_111 : decode cX9_init 111 = .ok (.iastore, 1) := by decide +kernel
theorem dX9_init_112 : decode cX9_init 112 = .ok (.aload_n 0, 1) := by decide +kernel
theorem dX9_init_113 : decode cX9_init 113 = .ok (.getfield 7, 3) := by decide +kernel
theorem dX9_init_116 : decode cX9_init 116 = .ok (.iconst 5, 1) := by decide +kernel
theorem dX9_init_117 : decode cX9_init 117 = .ok (.iload_n 1, 1) := by decide +kernel
theorem dX9_init_118 : decode cX9_init 118 = .ok (.iadd, 1) := by decide +kernel
theorem dX9_init_119 : decode cX9_init 119 = .ok (.bipush (-5), 2) := by decide +kernel
theorem dX9_init_121 : decode cX9_init 121 = .ok (.iastore, 1) := by decide +kernel
theorem dX9_init_122 : decode cX9_init 122 = .ok (.aload_n 0, 1) := by decide +kernel
theorem dX9_init_123 : decode cX9_init 123 = .ok (.getfield 22, 3) := by decide +kernel
theorem dX9_init_126 : decode cX9_init 126 = .ok (.iconst 0, 1) := by decide +kernel
theorem dX9_init_127 : decode cX9_init 127 = .ok (.iload_n 1, 1) := by decide +kernel
theorem dX9_init_128 : decode cX9_init 128 = .ok (.iadd, 1) := by decide +kernel
theorem dX9_init_129 : decode cX9_init 129 = .ok (.ldc 39, 2) := by decide +kernel
theorem dX9_init_131 : decode cX9_init 131 = .ok (.ldc 39, 2) := by decide +kernel
theorem dX9_init_133 : decode cX9_init 133 = .ok (.iload_n 1, 1) := by decide +kernel
theorem dX9_init_134 : decode cX9_init 134 = .ok (.i2f, 1) := by decide +kernel
theorem dX9_init_135 : decode cX9_init 135 = .ok (.fmul, 1) := by decide +kernel
theorem dX9_init_136 : decode cX9_init 136 = .ok (.fadd, 1) := by decide +kernel
theorem dX9_init_137 : decode cX9_init 137 = .ok (.fastore, 1) := by decide +kernel
theorem dX9_init_138 : decode cX9_init 138 = .ok (.aload_n 0, 1) := by decide +kernel
theorem dX9_init_139 : decode cX9_init 139 = .ok (.getfield 22, 3) := by decide +kernel
theorem dX9_init_142 : decode cX9_init 142 = .ok (.iconst 2, 1) := by decide +kernel
theorem dX9_init_143 : decode cX9_init 143 = .ok (.iload_n 1, 1) := by decide +kernel
theorem dX9_init_144 : decode cX9_init 144 = .ok (.iadd, 1) := by decide +kernel
theorem dX9_init_145 : decode cX9_init 145 = .ok (.ldc 40, 2) := by decide +kernel
theorem dX9_init_147 : decode cX9_init 147 = .ok (.ldc 39, 2) := by decide +kernel
theorem dX9_init_149 : decode cX9_init 149 = .ok (.iload_n 1, 1) := by decide +kernel
theorem dX9_init_150 : decode cX9_init 150 = .ok (.i2f, 1) := by decide +kernel
theorem dX9_init_151 : decode cX9_init 151 = .ok (.fmul, 1) := by decide +kernel
theorem dX9_init_152 : decode cX9_init 152 = .ok (.fadd, 1) := by decide +kernel
theorem dX9_init_153 : decode cX9_init 153 = .ok (.fastore, 1) := by decide +kernel
theorem dX9_init_154 : decode cX9_init 154 = .ok (.iinc 1 1, 3) := by decide +kernel
theorem dX9_init_157 : decode cX9_init 157 = .ok (.goto (-60), 3) := by decide +kernel
theorem dX9_init_160 : decode cX9_init 160 = .ok (.aload_n 0, 1) := by decide +kernel
theorem dX9_init_161 : decode cX9_init 161 = .ok (.getfield 22, 3) := by decide +kernel
theorem dX9_init_164 : decode cX9_init 164 = .ok (.iconst 4, 1) := by decide +kernel
theorem dX9_init_165 : decode cX9_init 165 = .ok (.ldc 41, 2) := by decide +kernel
theorem dX9_init_167 : decode cX9_init 167 = .ok (.fastore, 1) := by decide +kernel
theorem dX9_init_168 : decode cX9_init 168 = .ok (.aload_n 0, 1) := by decide +kernel
theorem dX9_init_169 : decode cX9_init 169 = .ok (.getfield 22, 3) := by decide +kernel
theorem dX9_init_172 : decode cX9_init 172 = .ok (.iconst 5, 1) := by decide +kernel
theorem dX9_init_173 : decode cX9_init 173 = .ok (.ldc 42, 2) := by decide +kernel
theorem dX9_init_175 : decode cX9_init 175 = .ok (.fastore, 1) := by decide +kernel
theorem dX9_init_176 : decode cX9_init 176 = .ok (.aload_n 0, 1) := by decide +kernel
theorem dX9_init_177 : decode cX9_init 177 = .ok (.getfield 22, 3) := by decide +kernel
theorem dX9_init_180 : decode cX9_init 180 = .ok (.bipush 6, 2) := by decide +kernel
theorem dX9_init_182 : decode cX9_init 182 = .ok (.ldc 43, 2) := by decide +kernel
theorem dX9_init_184 : decode cX9_init 184 = .ok (.fastore, 1) := by decide +kernel
theorem dX9_init_185 : decode cX9_init 185 = .ok (.aload_n 0, 1) := by decide +kernel
theorem dX9_init_186 : decode cX9_init 186 = .ok (.invokevirtual 44, 3) := by decide +kernel
theorem dX9_init_189 : decode cX9_init 189 = .ok (.return_, 1) := by decide +kernel
theorem dX9_clearKeys_0 : decode cX9_clearKeys 0 = .ok (.iconst 0, 1) := by decide +kernel
theorem dX9_clearKeys_1 : decode cX9_clearKeys 1 = .ok (.istore_n 1, 1) := by decide +kernel
theorem dX9_clearKeys_2 : decode cX9_clearKeys 2 = .ok (.iload_n 1, 1) := by decide +kernel
theorem dX9_clearKeys_3 : decode cX9_clearKeys 3 = .ok (.bipush 48, 2) := by decide +kernel
theorem dX9_clearKeys_5 : decode cX9_clearKeys 5 = .ok (.if_icmp .ge 76, 3) := by decide +kernel
theorem dX9_clearKeys_8 : decode cX9_clearKeys 8 = .ok (.aload_n 0, 1) := by decide +kernel
theorem dX9_clearKeys_9 : decode cX9_clearKeys 9 = .ok (.getfield 7, 3) := by decide +kernel
theorem dX9_clearKeys_12 : decode cX9_clearKeys 12 = .ok (.bipush 20, 2) := by decide +kernel
theorem dX9_clearKeys_14 : decode cX9_clearKeys 14 = .ok (.iload_n 1, 1) := by decide +kernel
theorem dX9_clearKeys_15 : decode cX9_clearKeys 15 = .ok (.iadd, 1) := by decide +kernel
theorem dX9_clearKeys_16 : decode cX9_clearKeys 16 = .ok (.bipush (-5), 2) := by decide +kernel
theorem dX9_clearKeys_18 : decode cX9_clearKeys 18 = .ok (.iastore, 1) := by decide +kernel
theorem dX9_clearKeys_19 : decode cX9_clearKeys 19 = .ok (.aload_n 0, 1) := by decide +kernel
theorem dX9_clearKeys_20 : decode cX9_clearKeys 20 = .ok (.getfield 7, 3) := by decide +kernel
theorem dX9_clearKeys_23 : decode cX9_clearKeys 23 = .ok (.bipush 68, 2) := by decide +kernel
theorem dX9_clearKeys_25 : decode cX9_clearKeys 25 = .ok (.iload_n 1, 1) := by decide +kernel
theorem dX9_clearKeys_26 : decode cX9_clearKeys 26 = .ok (.iadd, 1) := by decide +kernel
theorem dX9_clearKeys_27 : decode cX9_clearKeys 27 = .ok (.bipush (-5), 2) := by decide +kernel
theorem dX9_clearKeys_29 : decode cX9_clearKeys 29 = .ok (.iastore, 1) := by decide +kernel
theorem dX9_clearKeys_30 : decode cX9_clearKeys 30 = .ok (.aload_n 0, 1) := by decide +kernel
theorem dX9_clearKeys_31 : decode cX9_clearKeys 31 = .ok (.getfield 7, 3) := by decide +kernel
theorem dX9_clearKeys_34 : decode cX9_clearKeys 34 = .ok (.bipush 116, 2) := by decide +kernel
theorem dX9_clearKeys_36 : decode cX9_clearKeys 36 = .ok (.iload_n 1, 1) := by decide +kernel
theorem dX9_clearKeys_37 : decode cX9_clearKeys 37 = .ok (.iadd, 1) := by decide +kernel
theorem dX9_clearKeys_38 : decode cX9_clearKeys 38 = .ok (.iconst 0, 1) := by decide +kernel
theorem dX9_clearKeys_39 : decode cX9_clearKeys 39 = .ok (.iastore, 1) := by decide +kernel
theorem dX9_clearKeys_40 : decode cX9_clearKeys 40 = .ok (.aload_n 0, 1) := by decide +kernel
theorem dX9_clearKeys_41 : decode cX9_clearKeys 41 = .ok (.getfield 7, 3) := by decide +kernel
theorem dX9_clearKeys_44 : decode cX9_clearKeys 44 = .ok (.sipush 164, 3) := by decide +kernel
theorem dX9_clearKeys_47 : decode cX9_clearKeys 47 = .ok (.iload_n 1, 1) := by decide +kernel
theorem dX9_clearKeys_48 : decode cX9_clearKeys 48 = .ok (.iadd, 1) := by decide +kernel
theorem dX9_clearKeys_49 : decode cX9_clearKeys 49 = .ok (.iconst 0, 1) := by decide +kernel
theorem dX9_clearKeys_50 : decode cX9_clearKeys 50 = .ok (.iastore, 1) := by decide +kernel
theorem dX9_clearKeys_51 : decode cX9_clearKeys 51 = .ok (.aload_n 0, 1) := by decide +kernel
theorem dX9_clearKeys_52 : decode cX9_clearKeys 52 = .ok (.getfield 7, 3) := by decide +kernel
theorem dX9_clearKeys_55 : decode cX9_clearKeys 55 = .ok (.sipush 212, 3) := by decide +kernel
theorem dX9_clearKeys_58 : decode cX9_clearKeys 58 = .ok (.iload_n 1, 1) := by decide +kernel
theorem dX9_clearKeys_59 : decode cX9_clearKeys 59 = .ok (.iadd, 1) := by decide +kernel
theorem dX9_clearKeys_60 : decode cX9_clearKeys 60 = .ok (.bipush (-5), 2) := by decide +kernel
theorem dX9_clearKeys_62 : decode cX9_clearKeys 62 = .ok (.iastore, 1) := by decide +kernel
theorem dX9_clearKeys_63 : decode cX9_clearKeys 63 = .ok (.aload_n 0, 1) := by decide +kernel
theorem dX9_clearKeys_64 : decode cX9_clearKeys 64 = .ok (.getfield 7, 3) := by decide +kernel
theorem dX9_clearKeys_67 : decode cX9_clearKeys 67 = .ok (.sipush 260, 3) := by decide +kernel
theorem dX9_clearKeys_70 : decode cX9_clearKeys 70 = .ok (.iload_n 1, 1) := by decide +kernel
theorem dX9_clearKeys_71 : decode cX9_clearKeys 71 = .ok (.iadd, 1) := by decide +kernel
theorem dX9_clearKeys_72 : decode cX9_clearKeys 72 = .ok (.bipush 46, 2) := by decide +kernel
theorem dX9_clearKeys_74 : decode cX9_clearKeys 74 = .ok (.iastore, 1) := by decide +kernel
theorem dX9_clearKeys_75 : decode cX9_clearKeys 75 = .ok (.iinc 1 1, 3) := by decide +kernel
theorem dX9_clearKeys_78 : decode cX9_clearKeys 78 = .ok (.goto (-76), 3) := by decide +kernel
theorem dX9_clearKeys_81 : decode cX9_clearKeys 81 = .ok (.return_, 1) := by decide +kernel
theorem dX9_in_0 : decode cX9_in 0 = .ok (.iload_n 0, 1) := by decide +kernel
theorem dX9_in_1 : decode cX9_in 1 = .ok (.iload_n 1, 1) := by decide +kernel
theorem dX9_in_2 : decode cX9_in 2 = .ok (.if_icmp .lt 12, 3) := by decide +kernel
theorem dX9_in_5 : decode cX9_in 5 = .ok (.iload_n 0, 1) := by decide +kernel
theorem dX9_in_6 : decode cX9_in 6 = .ok (.iload_n 2, 1) := by decide +kernel
theorem dX9_in_7 : decode cX9_in 7 = .ok (.if_icmp .gt 7, 3) := by decide +kernel
theorem dX9_in_10 : decode cX9_in 10 = .ok (.iconst 1, 1) := by decide +kernel
theorem dX9_in_11 : decode cX9_in 11 = .ok (.goto 4, 3) := by decide +kernel
theorem dX9_in_14 : decode cX9_in 14 = .ok (.iconst 0, 1) := by decide +kernel
theorem dX9_in_15 : decode cX9_in 15 = .ok (.ireturn, 1) := by decide +kernel
theorem dX9_remember_0 : decode cX9_remember 0 = .ok (.iconst 0, 1) := by decide +kernel
theorem dX9_remember_1 : decode cX9_remember 1 = .ok (.istore_n 1, 1) := by decide +kernel
theorem dX9_remember_2 : decode cX9_remember 2 = .ok (.iload_n 1, 1) := by decide +kernel
theorem dX9_remember_3 : decode cX9_remember 3 = .ok (.sipush 592, 3) := by decide +kernel
theorem dX9_remember_6 : decode cX9_remember 6 = .ok (.if_icmp .ge 21, 3) := by decide +kernel
theorem dX9_remember_9 : decode cX9_remember 9 = .ok (.aload_n 0, 1) := by decide +kernel
theorem dX9_remember_10 : decode cX9_remember 10 = .ok (.getfield 19, 3) := by decide +kernel
theorem dX9_remember_13 : decode cX9_remember 13 = .ok (.iload_n 1, 1) := by decide +kernel
theorem dX9_remember_14 : decode cX9_remember 14 = .ok (.aload_n 0, 1) := by decide +kernel
theorem dX9_remember_15 : decode cX9_remember 15 = .ok (.getfield 7, 3) := by decide +kernel
theorem dX9_remember_18 : decode cX9_remember 18 = .ok (.iload_n 1, 1) := by decide +kernel
theorem dX9_remember_19 : decode cX9_remember 19 = .ok (.iaload, 1) := by decide +kernel
theorem dX9_remember_20 : decode cX9_remember 20 = .ok (.iastore, 1) := by decide +kernel
theorem dX9_remember_21 : decode cX9_remember 21 = .ok (.iinc 1 1, 3) := by decide +kernel
theorem dX9_remember_24 : decode cX9_remember 24 = .ok (.goto (-22), 3) := by decide +kernel
theorem dX9_remember_27 : decode cX9_remember 27 = .ok (.iconst 0, 1) := by decide +kernel
theorem dX9_remember_28 : decode cX9_remember 28 = .ok (.istore_n 1, 1) := by decide +kernel
theorem dX9_remember_29 : decode cX9_remember 29 = .ok (.iload_n 1, 1) := by decide +kernel
theorem dX9_remember_30 : decode cX9_remember 30 = .ok (.bipush 7, 2) := by decide +kernel
theorem dX9_remember_32 : decode cX9_remember 32 = .ok (.if_icmp .ge 21, 3) := by decide +kernel
theorem dX9_remember_35 : decode cX9_remember 35 = .ok (.aload_n 0, 1) := by decide +kernel
theorem dX9_remember_36 : decode cX9_remember 36 = .ok (.getfield 32, 3) := by decide +kernel
theorem dX9_remember_39 : decode cX9_remember 39 = .ok (.iload_n 1, 1) := by decide +kernel
theorem dX9_remember_40 : decode cX9_remember 40 = .ok (.aload_n 0, 1) := by decide +kernel
theorem dX9_remember_41 : decode cX9_remember 41 = .ok (.getfield 22, 3) := by decide +kernel
theorem dX9_remember_44 : decode cX9_remember 44 = .ok (.iload_n 1, 1) := by decide +kernel
theorem dX9_remember_45 : decode cX9_remember 45 = .ok (.faload, 1) := by decide +kernel
theorem dX9_remember_46 : decode cX9_remember 46 = .ok (.fastore, 1) := by decide +kernel
theorem dX9_remember_47 : decode cX9_remember 47 = .ok (.iinc 1 1, 3) := by decide +kernel
theorem dX9_remember_50 : decode cX9_remember 50 = .ok (.goto (-21), 3) := by decide +kernel
theorem dX9_remember_53 : decode cX9_remember 53 = .ok (.return_, 1) := by decide +kernel
theorem dX9_goBack_0 : decode cX9_goBack 0 = .ok (.iconst 0, 1) := by decide +kernel
theorem dX9_goBack_1 : decode cX9_goBack 1 = .ok (.istore_n 1, 1) := by decide +kernel
theorem dX9_goBack_2 : decode cX9_goBack 2 = .ok (.iload_n 1, 1) := by decide +kernel
theorem dX9_goBack_3 : decode cX9_goBack 3 = .ok (.sipush 592, 3) := by decide +kernel
theorem dX9_goBack_6 : decode cX9_goBack 6 = .ok (.if_icmp .ge 21, 3) := by decide +kernel
theorem dX9_goBack_9 : decode cX9_goBack 9 = .ok (.aload_n 0, 1) := by decide +kernel
theorem dX9_goBack_10 : decode cX9_goBack 10 = .ok (.getfield 7, 3) := by decide +kernel
theorem dX9_goBack_13 : decode cX9_goBack 13 = .ok (.iload_n 1, 1) := by decide +kernel
theorem dX9_goBack_14 : decode cX9_goBack 14 = .ok (.aload_n 0, 1) := by decide +kernel
theorem dX9_goBack_15 : decode cX9_goBack 15 = .ok (.getfield 19, 3) := by decide +kernel
theorem dX9_goBack_18 : decode cX9_goBack 18 = .ok (.iload_n 1, 1) := by decide +kernel
theorem dX9_goBack_19 : decode cX9_goBack 19 = .ok (.iaload, 1) := by decide +kernel
theorem dX9_goBack_20 : decode cX9_goBack 20 = .ok (.iastore, 1) := by decide +kernel
theorem dX9_goBack_21 : decode cX9_goBack 21 = .ok (.iinc 1 1, 3) := by decide +kernel
theorem dX9_goBack_24 : decode cX9_goBack 24 = .ok (.goto (-22), 3) := by decide +kernel
theorem dX9_goBack_27 : decode cX9_goBack 27 = .ok (.iconst 0, 1) := by decide +kernel
theorem dX9_goBack_28 : decode cX9_goBack 28 = .ok (.istore_n 1, 1) := by decide +kernel
theorem dX9_goBack_29 : decode cX9_goBack 29 = .ok (.iload_n 1, 1) := by decide +kernel
theorem dX9_goBack_30 : decode cX9_goBack 30 = .ok (.bipush 7, 2) := by decide +kernel
theorem dX9_goBack_32 : decode cX9_goBack 32 = .ok (.if_icmp .ge 21, 3) := by decide +kernel
theorem dX9_goBack_35 : decode cX9_goBack 35 = .ok (.aload_n 0, 1) := by decide +kernel
theorem dX9_goBack_36 : decode cX9_goBack 36 = .ok (.getfield 22, 3) := by decide +kernel
theorem dX9_goBack_39 : decode cX9_goBack 39 = .ok (.iload_n 1, 1) := by decide +kernel
theorem dX9_goBack_40 : decode cX9_goBack 40 = .ok (.aload_n 0, 1) := by decide +kernel
theorem dX9_goBack_41 : decode cX9_goBack 41 = .ok (.getfield 32, 3) := by decide +kernel
theorem dX9_goBack_44 : decode cX9_goBack 44 = .ok (.iload_n 1, 1) := by decide +kernel
theorem dX9_goBack_45 : decode cX9_goBack 45 = .ok (.faload, 1) := by decide +kernel
theorem dX9_goBack_46 : decode cX9_goBack 46 = .ok (.fastore, 1) := by decide +kernel
theorem dX9_goBack_47 : decode cX9_goBack 47 = .ok (.iinc 1 1, 3) := by decide +kernel
theorem dX9_goBack_50 : decode cX9_goBack 50 = .ok (.goto (-21), 3) := by decide +kernel
theorem dX9_goBack_53 : decode cX9_goBack 53 = .ok (.return_, 1) := by decide +kernel
theorem dX9_record_0 : decode cX9_record 0 = .ok (.aload_n 0, 1) := by decide +kernel
theorem dX9_record_1 : decode cX9_record 1 = .ok (.getfield 47, 3) := by decide +kernel
theorem dX9_record_4 : decode cX9_record 4 = .ok (.iconst 4, 1) := by decide +kernel
theorem dX9_record_5 : decode cX9_record 5 = .ok (.if_icmp .ne 73, 3) := by decide +kernel
theorem dX9_record_8 : decode cX9_record 8 = .ok (.iconst 0, 1) := by decide +kernel
theorem dX9_record_9 : decode cX9_record 9 = .ok (.istore_n 1, 1) := by decide +kernel
theorem dX9_record_10 : decode cX9_record 10 = .ok (.iload_n 1, 1) := by decide +kernel
theorem dX9_record_11 : decode cX9_record 11 = .ok (.sipush 1776, 3) := by decide +kernel
theorem dX9_record_14 : decode cX9_record 14 = .ok (.if_icmp .ge 25, 3) := by decide +kernel
theorem dX9_record_17 : decode cX9_record 17 = .ok (.aload_n 0, 1) := by decide +kernel
theorem dX9_record_18 : decode cX9_record 18 = .ok (.getfield 13, 3) := by decide +kernel
theorem dX9_record_21 : decode cX9_record 21 = .ok (.iload_n 1, 1) := by decide +kernel
theorem dX9_record_22 : decode cX9_record 22 = .ok (.aload_n 0, 1) := by decide +kernel
theorem dX9_record_23 : decode cX9_record 23 = .ok (.getfield 13, 3) := by decide +kernel
theorem dX9_record_26 : decode cX9_record 26 = .ok (.sipush 592, 3) := by decide +kernel
theorem dX9_record_29 : decode cX9_record 29 = .ok (.iload_n 1, 1) := by decide +kernel
theorem dX9_record_30 : decode cX9_record 30 = .ok (.iadd, 1) := by decide +kernel
theorem dX9_record_31 : decode cX9_record 31 = .ok (.iaload, 1) := by decide +kernel
theorem dX9_record_32 : decode cX9_record 32 = .ok (.iastore, 1) := by decide +kernel
theorem dX9_record_33 : decode cX9_record 33 = .ok (.iinc 1 1, 3) := by decide +kernel
theorem dX9_record_36 : decode cX9_record 36 = .ok (.goto (-26), 3) := by decide +kernel
theorem dX9_record_39 : decode cX9_record 39 = .ok (.iconst 0, 1) := by decide +kernel
theorem dX9_record_40 : decode cX9_record 40 = .ok (.istore_n 1, 1) := by decide +kernel
theorem dX9_record_41 : decode cX9_record 41 = .ok (.iload_n 1, 1) := by decide +kernel
theorem dX9_record_42 : decode cX9_record 42 = .ok (.bipush 21, 2) := by decide +kernel
theorem dX9_record_44 : decode cX9_record 44 = .ok (.if_icmp .ge 24, 3) := by decide +kernel
theorem dX9_record_47 : decode cX9_record 47 = .ok (.aload_n 0, 1) := by decide +kernel
theorem dX9_record_48 : decode cX9_record 48 = .ok (.getfield 26, 3) := by decide +kernel
theorem dX9_record_51 : decode cX9_record 51 = .ok (.iload_n 1, 1) := by decide +kernel
theorem dX9_record_52 : decode cX9_record 52 = .ok (.aload_n 0, 1) := by decide +kernel
theorem dX9_record_53 : decode cX9_record 53 = .ok (.getfield 26, 3) := by decide +kernel
theorem dX9_record_56 : decode cX9_record 56 = .ok (.bipush 7, 2) := by decide +kernel
theorem dX9_record_58 : decode cX9_record 58 = .ok (.iload_n 1, 1) := by decide +kernel
theorem dX9_record_59 : decode cX9_record 59 = .ok (.iadd, 1) := by decide +kernel
theorem dX9_record_60 : decode cX9_record 60 = .ok (.faload, 1) := by decide +kernel
theorem dX9_record_61 : decode cX9_record 61 = .ok (.fastore, 1) := by decide +kernel
theorem dX9_record_62 : decode cX9_record 62 = .ok (.iinc 1 1, 3) := by decide +kernel
theorem dX9_record_65 : decode cX9_record 65 = .ok (.goto (-24), 3) := by decide +kernel
theorem dX9_record_68 : decode cX9_record 68 = .ok (.aload_n 0, 1) := by decide +kernel
theorem dX9_record_69 : decode cX9_record 69 = .ok (.dup, 1) := by decide +kernel
theorem dX9_record_70 : decode cX9_record 70 = .ok (.getfield 47, 3) := by decide +kernel
theorem dX9_record_73 : decode cX9_record 73 = .ok (.iconst 1, 1) := by decide +kernel
theorem dX9_record_74 : decode cX9_record 74 = .ok (.isub, 1) := by decide +kernel
theorem dX9_record_75 : decode cX9_record 75 = .ok (.putfield 47, 3) := by decide +kernel
theorem dX9_record_78 : decode cX9_record 78 = .ok (.iconst 0, 1) := by decide +kernel
theorem dX9_record_79 : decode cX9_record 79 = .ok (.istore_n 1, 1) := by decide +kernel
theorem dX9_record_80 : decode cX9_record 80 = .ok (.iload_n 1, 1) := by decide +kernel
theorem dX9_record_81 : decode cX9_record 81 = .ok (.sipush 592, 3) := by decide +kernel
theorem dX9_record_84 : decode cX9_record 84 = .ok (.if_icmp .ge 30, 3) := by decide +kernel
theorem dX9_record_87 : decode cX9_record 87 = .ok (.aload_n 0, 1) := by decide +kernel
theorem dX9_record_88 : decode cX9_record 88 = .ok (.getfield 13, 3) := by decide +kernel
theorem dX9_record_91 : decode cX9_record 91 = .ok (.sipush 592, 3) := by decide +kernel
theorem dX9_record_94 : decode cX9_record 94 = .ok (.aload_n 0, 1) := by decide +kernel
theorem dX9_record_95 : decode cX9_record 95 = .ok (.getfield 47, 3) := by decide +kernel
theorem dX9_record_98 : decode cX9_record 98 = .ok (.imul, 1) := by decide +kernel
theorem dX9_record_99 : decode cX9_record 99 = .ok (.iload_n 1, 1) := by decide +kernel
theorem dX9_record_100 : decode cX9_record 100 = .ok (.iadd, 1) := by decide +kernel
theorem dX9_record_101 : decode cX9_record 101 = .ok (.aload_n 0, 1) := by decide +kernel
theorem dX9_record_102 : decode cX9_record 102 = .ok (.getfield 19, 3) := by decide +kernel
theorem dX9_record_105 : decode cX9_record 105 = .ok (.iload_n 1, 1) := by decide +kernel
theorem dX9_record_106 : decode cX9_record 106 = .ok (.iaload, 1) := by decide +kernel
theorem dX9_record_107 : decode cX9_record 107 = .ok (.iastore, 1) := by decide +kernel
theorem dX9_record_108 : decode cX9_record 108 = .ok (.iinc 1 1, 3) := by decide +kernel
theorem dX9_record_111 : decode cX9_record 111 = .ok (.goto (-31), 3) := by decide +kernel
theorem dX9_record_114 : decode cX9_record 114 = .ok (.iconst 0, 1) := by decide +kernel
theorem dX9_record_115 : decode cX9_record 115 = .ok (.istore_n 1, 1) := by decide +kernel
theorem dX9_record_116 : decode cX9_record 116 = .ok (.iload_n 1, 1) := by decide +kernel
theorem dX9_record_117 : decode cX9_record 117 = .ok (.bipush 7, 2) := by decide +kernel
theorem dX9_record_119 : decode cX9_record 119 = .ok (.if_icmp .ge 29, 3) := by decide +kernel
theorem dX9_record_122 : decode cX9_record 122 = .ok (.aload_n 0, 1) := by decide +kernel
theorem dX9_record_123 : decode cX9_record 123 = .ok (.getfield 26, 3) := by decide +kernel
theorem dX9_record_126 : decode cX9_record 126 = .ok (.bipush 7, 2) := by decide +kernel
theorem dX9_record_128 : decode cX9_record 128 = .ok (.aload_n 0, 1) := by decide +kernel
theorem dX9_record_129 : decode cX9_record 129 = .ok (.getfield 47, 3) := by decide +kernel
theorem dX9_record_132 : decode cX9_record 132 = .ok (.imul, 1) := by decide +kernel
theorem dX9_record_133 : decode cX9_record 133 = .ok (.iload_n 1, 1) := by decide +kernel
theorem dX9_record_134 : decode cX9_record 134 = .ok (.iadd, 1) := by decide +kernel
theorem dX9_record_135 : decode cX9_record 135 = .ok (.aload_n 0, 1) := by decide +kernel
theorem dX9_record_136 : decode cX9_record 136 = .ok (.getfield 32, 3) := by decide +kernel
theorem dX9_record_139 : decode cX9_record 139 = .ok (.iload_n 1, 1) := by decide +kernel
theorem dX9_record_140 : decode cX9_record 140 = .ok (.faload, 1) := by decide +kernel
theorem dX9_record_141 : decode cX9_record 141 = .ok (.fastore, 1) := by decide +kernel
theorem dX9_record_142 : decode cX9_record 142 = .ok (.iinc 1 1, 3) := by decide +kernel
theorem dX9_record_145 : decode cX9_record 145 = .ok (.goto (-29), 3) := by decide +kernel
theorem dX9_record_148 : decode cX9_record 148 = .ok (.aload_n 0, 1) := by decide +kernel
theorem dX9_record_149 : decode cX9_record 149 = .ok (.dup, 1) := by decide +kernel
theorem dX9_record_150 : decode cX9_record 150 = .ok (.getfield 47, 3) := by decide +kernel
theorem dX9_record_153 : decode cX9_record 153 = .ok (.iconst 1, 1) := by decide +kernel
theorem dX9_record_154 : decode cX9_record 154 = .ok (.iadd, 1) := by decide +kernel
theorem dX9_record_155 : decode cX9_record 155 = .ok (.putfield 47, 3) := by decide +kernel
theorem dX9_record_158 : decode cX9_record 158 = .ok (.return_, 1) := by decide +kernel
theorem dX9_begin_0 : decode cX9_begin 0 = .ok (.aload_n 0, 1) := by decide +kernel
theorem dX9_begin_1 : decode cX9_begin 1 = .ok (.invokevirtual 51, 3) := by decide +kernel
theorem dX9_begin_4 : decode cX9_begin 4 = .ok (.aload_n 0, 1) := by decide +kernel
theorem dX9_begin_5 : decode cX9_begin 5 = .ok (.invokevirtual 54, 3) := by decide +kernel
theorem dX9_begin_8 : decode cX9_begin 8 = .ok (.return_, 1) := by decide +kernel
theorem dX9_undo_0 : decode cX9_undo 0 = .ok (.aload_n 0, 1) := by decide +kernel
theorem dX9_undo_1 : decode cX9_undo 1 = .ok (.getfield 47, 3) := by decide +kernel
theorem dX9_undo_4 : decode cX9_undo 4 = .ok (.ifCond .ne 6, 3) := by decide +kernel
theorem dX9_undo_7 : decode cX9_undo 7 = .ok (.bipush (-5), 2) := by decide +kernel
theorem dX9_undo_9 : decode cX9_undo 9 = .ok (.ireturn, 1) := by decide +kernel
theorem dX9_undo_10 : decode cX9_undo 10 = .ok (.aload_n 0, 1) := by decide +kernel
theorem dX9_undo_11 : decode cX9_undo 11 = .ok (.dup, 1) := by decide +kernel
theorem dX9_undo_12 : decode cX9_undo 12 = .ok (.getfield 47, 3) := by decide +kernel
theorem dX9_undo_15 : decode cX9_undo 15 = .ok (.iconst 1, 1) := by decide +kernel
theorem dX9_undo_16 : decode cX9_undo 16 = .ok (.isub, 1) := by decide +kernel
theorem dX9_undo_17 : decode cX9_undo 17 = .ok (.putfield 47, 3) := by decide +kernel
theorem dX9_undo_20 : decode cX9_undo 20 = .ok (.iconst 0, 1) := by decide +kernel
theorem dX9_undo_21 : decode cX9_undo 21 = .ok (.istore_n 1, 1) := by decide +kernel
theorem dX9_undo_22 : decode cX9_undo 22 = .ok (.iload_n 1, 1) := by decide +kernel
theorem dX9_undo_23 : decode cX9_undo 23 = .ok (.sipush 592, 3) := by decide +kernel
theorem dX9_undo_26 : decode cX9_undo 26 = .ok (.if_icmp .ge 30, 3) := by decide +kernel
theorem dX9_undo_29 : decode cX9_undo 29 = .ok (.aload_n 0, 1) := by decide +kernel
theorem dX9_undo_30 : decode cX9_undo 30 = .ok (.getfield 7, 3) := by decide +kernel
theorem dX9_undo_33 : decode cX9_undo 33 = .ok (.iload_n 1, 1) := by decide +kernel
theorem dX9_undo_34 : decode cX9_undo 34 = .ok (.aload_n 0, 1) := by decide +kernel
theorem dX9_undo_35 : decode cX9_undo 35 = .ok (.getfield 13, 3) := by decide +kernel
theorem dX9_undo_38 : decode cX9_undo 38 = .ok (.sipush 592, 3) := by decide +kernel
theorem dX9_undo_41 : decode cX9_undo 41 = .ok (.aload_n 0, 1) := by decide +kernel
theorem dX9_undo_42 : decode cX9_undo 42 = .ok (.getfield 47, 3) := by decide +kernel
theorem dX9_undo_45 : decode cX9_undo 45 = .ok (.imul, 1) := by decide +kernel
theorem dX9_undo_46 : decode cX9_undo 46 = .ok (.iload_n 1, 1) := by decide +kernel
theorem dX9_undo_47 : decode cX9_undo 47 = .ok (.iadd, 1) := by decide +kernel
theorem dX9_undo_48 : decode cX9_undo 48 = .ok (.iaload, 1) := by decide +kernel
theorem dX9_undo_49 : decode cX9_undo 49 = .ok (.iastore, 1) := by decide +kernel
theorem dX9_undo_50 : decode cX9_undo 50 = .ok (.iinc 1 1, 3) := by decide +kernel
theorem dX9_undo_53 : decode cX9_undo 53 = .ok (.goto (-31), 3) := by decide +kernel
theorem dX9_undo_56 : decode cX9_undo 56 = .ok (.iconst 0, 1) := by decide +kernel
theorem dX9_undo_57 : decode cX9_undo 57 = .ok (.istore_n 1, 1) := by decide +kernel
theorem dX9_undo_58 : decode cX9_undo 58 = .ok (.iload_n 1, 1) := by decide +kernel
theorem dX9_undo_59 : decode cX9_undo 59 = .ok (.bipush 7, 2) := by decide +kernel
theorem dX9_undo_61 : decode cX9_undo 61 = .ok (.if_icmp .ge 29, 3) := by decide +kernel
theorem dX9_undo_64 : decode cX9_undo 64 = .ok (.aload_n 0, 1) := by decide +kernel
theorem dX9_undo_65 : decode cX9_undo 65 = .ok (.getfield 22, 3) := by decide +kernel
theorem dX9_undo_68 : decode cX9_undo 68 = .ok (.iload_n 1, 1) := by decide +kernel
theorem dX9_undo_69 : decode cX9_undo 69 = .ok (.aload_n 0, 1) := by decide +kernel
theorem dX9_undo_70 : decode cX9_undo 70 = .ok (.getfield 26, 3) := by decide +kernel
theorem dX9_undo_73 : decode cX9_undo 73 = .ok (.bipush 7, 2) := by decide +kernel
theorem dX9_undo_75 : decode cX9_undo 75 = .ok (.aload_n 0, 1) := by decide +kernel
theorem dX9_undo_76 : decode cX9_undo 76 = .ok (.getfield 47, 3) := by decide +kernel
theorem dX9_undo_79 : decode cX9_undo 79 = .ok (.imul, 1) := by decide +kernel
theorem dX9_undo_80 : decode cX9_undo 80 = .ok (.iload_n 1, 1) := by decide +kernel
theorem dX9_undo_81 : decode cX9_undo 81 = .ok (.iadd, 1) := by decide +kernel
theorem dX9_undo_82 : decode cX9_undo 82 = .ok (.faload, 1) := by decide +kernel
theorem dX9_undo_83 : decode cX9_undo 83 = .ok (.fastore, 1) := by decide +kernel
theorem dX9_undo_84 : decode cX9_undo 84 = .ok (.iinc 1 1, 3) := by decide +kernel
theorem dX9_undo_87 : decode cX9_undo 87 = .ok (.goto (-29), 3) := by decide +kernel
theorem dX9_undo_90 : decode cX9_undo 90 = .ok (.aload_n 0, 1) := by decide +kernel
theorem dX9_undo_91 : decode cX9_undo 91 = .ok (.getfield 47, 3) := by decide +kernel
theorem dX9_undo_94 : decode cX9_undo 94 = .ok (.ireturn, 1) := by decide +kernel
theorem dX9_keep_0 : decode cX9_keep 0 = .ok (.iconst 0, 1) := by decide +kernel
theorem dX9_keep_1 : decode cX9_keep 1 = .ok (.istore_n 1, 1) := by decide +kernel
theorem dX9_keep_2 : decode cX9_keep 2 = .ok (.iload_n 1, 1) := by decide +kernel
theorem dX9_keep_3 : decode cX9_keep 3 = .ok (.sipush 592, 3) := by decide +kernel
theorem dX9_keep_6 : decode cX9_keep 6 = .ok (.if_icmp .ge 21, 3) := by decide +kernel
theorem dX9_keep_9 : decode cX9_keep 9 = .ok (.aload_n 0, 1) := by decide +kernel
theorem dX9_keep_10 : decode cX9_keep 10 = .ok (.getfield 16, 3) := by decide +kernel
theorem dX9_keep_13 : decode cX9_keep 13 = .ok (.iload_n 1, 1) := by decide +kernel
theorem dX9_keep_14 : decode cX9_keep 14 = .ok (.aload_n 0, 1) := by decide +kernel
theorem dX9_keep_15 : decode cX9_keep 15 = .ok (.getfield 7, 3) := by decide +kernel
theorem dX9_keep_18 : decode cX9_keep 18 = .ok (.iload_n 1, 1) := by decide +kernel
theorem dX9_keep_19 : decode cX9_keep 19 = .ok (.iaload, 1) := by decide +kernel
theorem dX9_keep_20 : decode cX9_keep 20 = .ok (.iastore, 1) := by decide +kernel
theorem dX9_keep_21 : decode cX9_keep 21 = .ok (.iinc 1 1, 3) := by decide +kernel
theorem dX9_keep_24 : decode cX9_keep 24 = .ok (.goto (-22), 3) := by decide +kernel
theorem dX9_keep_27 : decode cX9_keep 27 = .ok (.iconst 0, 1) := by decide +kernel
theorem dX9_keep_28 : decode cX9_keep 28 = .ok (.istore_n 1, 1) := by decide +kernel
theorem dX9_keep_29 : decode cX9_keep 29 = .ok (.iload_n 1, 1) := by decide +kernel
theorem dX9_keep_30 : decode cX9_keep 30 = .ok (.bipush 7, 2) := by decide +kernel
theorem dX9_keep_32 : decode cX9_keep 32 = .ok (.if_icmp .ge 21, 3) := by decide +kernel
theorem dX9_keep_35 : decode cX9_keep 35 = .ok (.aload_n 0, 1) := by decide +kernel
theorem dX9_keep_36 : decode cX9_keep 36 = .ok (.getfield 29, 3) := by decide +kernel
theorem dX9_keep_39 : decode cX9_keep 39 = .ok (.iload_n 1, 1) := by decide +kernel
theorem dX9_keep_40 : decode cX9_keep 40 = .ok (.aload_n 0, 1) := by decide +kernel
theorem dX9_keep_41 : decode cX9_keep 41 = .ok (.getfield 22, 3) := by decide +kernel
theorem dX9_keep_44 : decode cX9_keep 44 = .ok (.iload_n 1, 1) := by decide +kernel
theorem dX9_keep_45 : decode cX9_keep 45 = .ok (.faload, 1) := by decide +kernel
theorem dX9_keep_46 : decode cX9_keep 46 = .ok (.fastore, 1) := by decide +kernel
theorem dX9_keep_47 : decode cX9_keep 47 = .ok (.iinc 1 1, 3) := by decide +kernel
theorem dX9_keep_50 : decode cX9_keep 50 = .ok (.goto (-21), 3) := by decide +kernel
theorem dX9_keep_53 : decode cX9_keep 53 = .ok (.aload_n 0, 1) := by decide +kernel
theorem dX9_keep_54 : decode cX9_keep 54 = .ok (.iconst 1, 1) := by decide +kernel
theorem dX9_keep_55 : decode cX9_keep 55 = .ok (.putfield 57, 3) := by decide +kernel
theorem dX9_keep_58 : decode cX9_keep 58 = .ok (.aload_n 0, 1) := by decide +kernel
theorem dX9_keep_59 : decode cX9_keep 59 = .ok (.getfield 7, 3) := by decide +kernel
theorem dX9_keep_62 : decode cX9_keep 62 = .ok (.iconst 2, 1) := by decide +kernel
theorem dX9_keep_63 : decode cX9_keep 63 = .ok (.iaload, 1) := by decide +kernel
theorem dX9_keep_64 : decode cX9_keep 64 = .ok (.ireturn, 1) := by decide +kernel
theorem dX9_restore_0 : decode cX9_restore 0 = .ok (.aload_n 0, 1) := by decide +kernel
theorem dX9_restore_1 : decode cX9_restore 1 = .ok (.getfield 57, 3) := by decide +kernel
theorem dX9_restore_4 : decode cX9_restore 4 = .ok (.ifCond .ne 6, 3) := by decide +kernel
theorem dX9_restore_7 : decode cX9_restore 7 = .ok (.bipush (-5), 2) := by decide +kernel
theorem dX9_restore_9 : decode cX9_restore 9 = .ok (.ireturn, 1) := by decide +kernel
theorem dX9_restore_10 : decode cX9_restore 10 = .ok (.aload_n 0, 1) := by decide +kernel
theorem dX9_restore_11 : decode cX9_restore 11 = .ok (.invokevirtual 61, 3) := by decide +kernel
theorem dX9_restore_14 : decode cX9_restore 14 = .ok (.iconst 0, 1) := by decide +kernel
theorem dX9_restore_15 : decode cX9_restore 15 = .ok (.istore_n 1, 1) := by decide +kernel
theorem dX9_restore_16 : decode cX9_restore 16 = .ok (.iload_n 1, 1) := by decide +kernel
theorem dX9_restore_17 : decode cX9_restore 17 = .ok (.sipush 592, 3) := by decide +kernel
theorem dX9_restore_20 : decode cX9_restore 20 = .ok (.if_icmp .ge 21, 3) := by decide +kernel
theorem dX9_restore_23 : decode cX9_restore 23 = .ok (.aload_n 0, 1) := by decide +kernel
theorem dX9_restore_24 : decode cX9_restore 24 = .ok (.getfield 7, 3) := by decide +kernel
theorem dX9_restore_27 : decode cX9_restore 27 = .ok (.iload_n 1, 1) := by decide +kernel
theorem dX9_restore_28 : decode cX9_restore 28 = .ok (.aload_n 0, 1) := by decide +kernel
theorem dX9_restore_29 : decode cX9_restore 29 = .ok (.getfield 16, 3) := by decide +kernel
theorem dX9_restore_32 : decode cX9_restore 32 = .ok (.iload_n 1, 1) := by decide +kernel
theorem dX9_restore_33 : decode cX9_restore 33 = .ok (.iaload, 1) := by decide +kernel
theorem dX9_restore_34 : decode cX9_restore 34 = .ok (.iastore, 1) := by decide +kernel
theorem dX9_restore_35 : decode cX9_restore 35 = .ok (.iinc 1 1, 3) := by decide +kernel
theorem dX9_restore_38 : decode cX9_restore 38 = .ok (.goto (-22), 3) := by decide +kernel
theorem dX9_restore_41 : decode cX9_restore 41 = .ok (.iconst 0, 1) := by decide +kernel
theorem dX9_restore_42 : decode cX9_restore 42 = .ok (.istore_n 1, 1) := by decide +kernel
theorem dX9_restore_43 : decode cX9_restore 43 = .ok (.iload_n 1, 1) := by decide +kernel
theorem dX9_restore_44 : decode cX9_restore 44 = .ok (.bipush 7, 2) := by decide +kernel
theorem dX9_restore_46 : decode cX9_restore 46 = .ok (.if_icmp .ge 21, 3) := by decide +kernel
theorem dX9_restore_49 : decode cX9_restore 49 = .ok (.aload_n 0, 1) := by decide +kernel
theorem dX9_restore_50 : decode cX9_restore 50 = .ok (.getfield 22, 3) := by decide +kernel
theorem dX9_restore_53 : decode cX9_restore 53 = .ok (.iload_n 1, 1) := by decide +kernel
theorem dX9_restore_54 : decode cX9_restore 54 = .ok (.aload_n 0, 1) := by decide +kernel
theorem dX9_restore_55 : decode cX9_restore 55 = .ok (.getfield 29, 3) := by decide +kernel
theorem dX9_restore_58 : decode cX9_restore 58 = .ok (.iload_n 1, 1) := by decide +kernel
theorem dX9_restore_59 : decode cX9_restore 59 = .ok (.faload, 1) := by decide +kernel
theorem dX9_restore_60 : decode cX9_restore 60 = .ok (.fastore, 1) := by decide +kernel
theorem dX9_restore_61 : decode cX9_restore 61 = .ok (.iinc 1 1, 3) := by decide +kernel
theorem dX9_restore_64 : decode cX9_restore 64 = .ok (.goto (-21), 3) := by decide +kernel
theorem dX9_restore_67 : decode cX9_restore 67 = .ok (.aload_n 0, 1) := by decide +kernel
theorem dX9_restore_68 : decode cX9_restore 68 = .ok (.getfield 7, 3) := by decide +kernel
theorem dX9_restore_71 : decode cX9_restore 71 = .ok (.iconst 2, 1) := by decide +kernel
theorem dX9_restore_72 : decode cX9_restore 72 = .ok (.iaload, 1) := by decide +kernel
theorem dX9_restore_73 : decode cX9_restore 73 = .ok (.ireturn, 1) := by decide +kernel
theorem dX9_keys_0 : decode cX9_keys 0 = .ok (.aload_n 0, 1) := by decide +kernel
theorem dX9_keys_1 : decode cX9_keys 1 = .ok (.getfield 7, 3) := by decide +kernel
theorem dX9_keys_4 : decode cX9_keys 4 = .ok (.iconst 0, 1) := by decide +kernel
theorem dX9_keys_5 : decode cX9_keys 5 = .ok (.iaload, 1) := by decide +kernel
theorem dX9_keys_6 : decode cX9_keys 6 = .ok (.aload_n 0, 1) := by decide +kernel
theorem dX9_keys_7 : decode cX9_keys 7 = .ok (.getfield 7, 3) := by decide +kernel
theorem dX9_keys_10 : decode cX9_keys 10 = .ok (.iconst 1, 1) := by decide +kernel
theorem dX9_keys_11 : decode cX9_keys 11 = .ok (.iaload, 1) := by decide +kernel
theorem dX9_keys_12 : decode cX9_keys 12 = .ok (.imul, 1) := by decide +kernel
theorem dX9_keys_13 : decode cX9_keys 13 = .ok (.ireturn, 1) := by decide +kernel
theorem dX9_noKey_0 : decode cX9_noKey 0 = .ok (.iload_n 1, 1) := by decide +kernel
theorem dX9_noKey_1 : decode cX9_noKey 1 = .ok (.iconst 0, 1) := by decide +kernel
theorem dX9_noKey_2 : decode cX9_noKey 2 = .ok (.aload_n 0, 1) := by decide +kernel
theorem dX9_noKey_3 : decode cX9_noKey 3 = .ok (.invokevirtual 64, 3) := by decide +kernel
theorem dX9_noKey_6 : decode cX9_noKey 6 = .ok (.iconst 1, 1) := by decide +kernel
theorem dX9_noKey_7 : decode cX9_noKey 7 = .ok (.isub, 1) := by decide +kernel
theorem dX9_noKey_8 : decode cX9_noKey 8 = .ok (.invokestatic 68, 3) := by decide +kernel
theorem dX9_noKey_11 : decode cX9_noKey 11 = .ok (.ifCond .ne 7, 3) := by decide +kernel
theorem dX9_noKey_14 : decode cX9_noKey 14 = .ok (.iconst 1, 1) := by decide +kernel
theorem dX9_noKey_15 : decode cX9_noKey 15 = .ok (.goto 4, 3) := by decide +kernel
theorem dX9_noKey_18 : decode cX9_noKey 18 = .ok (.iconst 0, 1) := by decide +kernel
theorem dX9_noKey_19 : decode cX9_noKey 19 = .ok (.ireturn, 1) := by decide +kernel
theorem dX9_noTypist_0 : decode cX9_noTypist 0 = .ok (.iload_n 1, 1) := by decide +kernel
theorem dX9_noTypist_1 : decode cX9_noTypist 1 = .ok (.iconst 0, 1) := by decide +kernel
theorem dX9_noTypist_2 : decode cX9_noTypist 2 = .ok (.iconst 1, 1) := by decide +kernel
theorem dX9_noTypist_3 : decode cX9_noTypist 3 = .ok (.invokestatic 68, 3) := by decide +kernel
theorem dX9_noTypist_6 : decode cX9_noTypist 6 = .ok (.ifCond .ne 7, 3) := by decide +kernel
theorem dX9_noTypist_9 : decode cX9_noTypist 9 = .ok (.iconst 1, 1) := by decide +kernel
theorem dX9_noTypist_10 : decode cX9_noTypist 10 = .ok (.goto 4, 3) := by decide +kernel
theorem dX9_noTypist_13 : decode cX9_noTypist 13 = .ok (.iconst 0, 1) := by decide +kernel
theorem dX9_noTypist_14 : decode cX9_noTypist 14 = .ok (.ireturn, 1) := by decide +kernel
theorem dX9_isDown_0 : decode cX9_isDown 0 = .ok (.aload_n 0, 1) := by decide +kernel
theorem dX9_isDown_1 : decode cX9_isDown 1 = .ok (.getfield 7, 3) := by decide +kernel
theorem dX9_isDown_4 : decode cX9_isDown 4 = .ok (.bipush 20, 2) := by decide +kernel
theorem dX9_isDown_6 : decode cX9_isDown 6 = .ok (.iload_n 1, 1) := by decide +kernel
theorem dX9_isDown_7 : decode cX9_isDown 7 = .ok (.iadd, 1) := by decide +kernel
theorem dX9_isDown_8 : decode cX9_isDown 8 = .ok (.iaload, 1) := by decide +kernel
theorem dX9_isDown_9 : decode cX9_isDown 9 = .ok (.ifCond .lt 7, 3) := by decide +kernel
theorem dX9_isDown_12 : decode cX9_isDown 12 = .ok (.iconst 1, 1) := by decide +kernel
theorem dX9_isDown_13 : decode cX9_isDown 13 = .ok (.goto 4, 3) := by decide +kernel
theorem dX9_isDown_16 : decode cX9_isDown 16 = .ok (.iconst 0, 1) := by decide +kernel
theorem dX9_isDown_17 : decode cX9_isDown 17 = .ok (.ireturn, 1) := by decide +kernel
theorem dX9_isSeen_0 : decode cX9_isSeen 0 = .ok (.aload_n 0, 1) := by decide +kernel
theorem dX9_isSeen_1 : decode cX9_isSeen 1 = .ok (.getfield 7, 3) := by decide +kernel
theorem dX9_isSeen_4 : decode cX9_isSeen 4 = .ok (.bipush 68, 2) := by decide +kernel
theorem dX9_isSeen_6 : decode cX9_isSeen 6 = .ok (.iload_n 1, 1) := by decide +kernel
theorem dX9_isSeen_7 : decode cX9_isSeen 7 = .ok (.iadd, 1) := by decide +kernel
theorem dX9_isSeen_8 : decode cX9_isSeen 8 = .ok (.iaload, 1) := by decide +kernel
theorem dX9_isSeen_9 : decode cX9_isSeen 9 = .ok (.ifCond .lt 7, 3) := by decide +kernel
theorem dX9_isSeen_12 : decode cX9_isSeen 12 = .ok (.iconst 1, 1) := by decide +kernel
theorem dX9_isSeen_13 : decode cX9_isSeen 13 = .ok (.goto 4, 3) := by decide +kernel
theorem dX9_isSeen_16 : decode cX9_isSeen 16 = .ok (.iconst 0, 1) := by decide +kernel
theorem dX9_isSeen_17 : decode cX9_isSeen 17 = .ok (.ireturn, 1) := by decide +kernel
theorem dX9_build_0 : decode cX9_build 0 = .ok (.iload_n 1, 1) := by decide +kernel
theorem dX9_build_1 : decode cX9_build 1 = .ok (.iconst 2, 1) := by decide +kernel
theorem dX9_build_2 : decode cX9_build 2 = .ok (.bipush 6, 2) := by decide +kernel
theorem dX9_build_4 : decode cX9_build 4 = .ok (.invokestatic 68, 3) := by decide +kernel
theorem dX9_build_7 : decode cX9_build 7 = .ok (.ifCond .eq 13, 3) := by decide +kernel
theorem dX9_build_10 : decode cX9_build 10 = .ok (.iload_n 2, 1) := by decide +kernel
theorem dX9_build_11 : decode cX9_build 11 = .ok (.iconst 2, 1) := by decide +kernel
theorem dX9_build_12 : decode cX9_build 12 = .ok (.bipush 8, 2) := by decide +kernel
theorem dX9_build_14 : decode cX9_build 14 = .ok (.invokestatic 68, 3) := by decide +kernel
theorem dX9_build_17 : decode cX9_build 17 = .ok (.ifCond .ne 6, 3) := by decide +kernel
theorem dX9_build_20 : decode cX9_build 20 = .ok (.bipush (-2), 2) := by decide +kernel
theorem dX9_build_22 : decode cX9_build 22 = .ok (.ireturn, 1) := by decide +kernel
theorem dX9_build_23 : decode cX9_build 23 = .ok (.iconst 1, 1) := by decide +kernel
theorem dX9_build_24 : decode cX9_build 24 = .ok (.istore_n 3, 1) := by decide +kernel
theorem dX9_build_25 : decode cX9_build 25 = .ok (.iconst 0, 1) := by decide +kernel
theorem dX9_build_26 : decode cX9_build 26 = .ok (.istore 4, 2) := by decide +kernel
theorem dX9_build_28 : decode cX9_build 28 = .ok (.iload 4, 2) := by decide +kernel
theorem dX9_build_30 : decode cX9_build 30 = .ok (.aload_n 0, 1) := by decide +kernel
theorem dX9_build_31 : decode cX9_build 31 = .ok (.invokevirtual 64, 3) := by decide +kernel
theorem dX9_build_34 : decode cX9_build 34 = .ok (.if_icmp .ge 37, 3) := by decide +kernel
theorem dX9_build_37 : decode cX9_build 37 = .ok (.iload_n 3, 1) := by decide +kernel
theorem dX9_build_38 : decode cX9_build 38 = .ok (.ifCond .eq 25, 3) := by decide +kernel
theorem dX9_build_41 : decode cX9_build 41 = .ok (.aload_n 0, 1) := by decide +kernel
theorem dX9_build_42 : decode cX9_build 42 = .ok (.iload 4, 2) := by decide +kernel
theorem dX9_build_44 : decode cX9_build 44 = .ok (.invokevirtual 72, 3) := by decide +kernel
theorem dX9_build_47 : decode cX9_build 47 = .ok (.ifCond .ne 16, 3) := by decide +kernel
theorem dX9_build_50 : decode cX9_build 50 = .ok (.aload_n 0, 1) := by decide +kernel
theorem dX9_build_51 : decode cX9_build 51 = .ok (.iload 4, 2) := by decide +kernel
theorem dX9_build_53 : decode cX9_build 53 = .ok (.invokevirtual 76, 3) := by decide +kernel
theorem dX9_build_56 : decode cX9_build 56 = .ok (.ifCond .ne 7, 3) := by decide +kernel
theorem dX9_build_59 : decode cX9_build 59 = .ok (.iconst 1, 1) := by decide +kernel
theorem dX9_build_60 : decode cX9_build 60 = .ok (.goto 4, 3) := by decide +kernel
theorem dX9_build_63 : decode cX9_build 63 = .ok (.iconst 0, 1) := by decide +kernel
theorem dX9_build_64 : decode cX9_build 64 = .ok (.istore_n 3, 1) := by decide +kernel
theorem dX9_build_65 : decode cX9_build 65 = .ok (.iinc 4 1, 3) := by decide +kernel
theorem dX9_build_68 : decode cX9_build 68 = .ok (.goto (-40), 3) := by decide +kernel
theorem dX9_build_71 : decode cX9_build 71 = .ok (.iload_n 3, 1) := by decide +kernel
theorem dX9_build_72 : decode cX9_build 72 = .ok (.ifCond .ne 6, 3) := by decide +kernel
theorem dX9_build_75 : decode cX9_build 75 = .ok (.bipush (-4), 2) := by decide +kernel
theorem dX9_build_77 : decode cX9_build 77 = .ok (.ireturn, 1) := by decide +kernel
theorem dX9_build_78 : decode cX9_build 78 = .ok (.iload_n 1, 1) := by decide +kernel
theorem dX9_build_79 : decode cX9_build 79 = .ok (.aload_n 0, 1) := by decide +kernel
theorem dX9_build_80 : decode cX9_build 80 = .ok (.getfield 7, 3) := by decide +kernel
theorem dX9_build_83 : decode cX9_build 83 = .ok (.iconst 0, 1) := by decide +kernel
theorem dX9_build_84 : decode cX9_build 84 = .ok (.iaload, 1) := by decide +kernel
theorem dX9_build_85 : decode cX9_build 85 = .ok (.if_icmp .ne 16, 3) := by decide +kernel
theorem dX9_build_88 : decode cX9_build 88 = .ok (.iload_n 2, 1) := by decide +kernel
theorem dX9_build_89 : decode cX9_build 89 = .ok (.aload_n 0, 1) := by decide +kernel
theorem dX9_build_90 : decode cX9_build 90 = .ok (.getfield 7, 3) := by decide +kernel
theorem dX9_build_93 : decode cX9_build 93 = .ok (.iconst 1, 1) := by decide +kernel
theorem dX9_build_94 : decode cX9_build 94 = .ok (.iaload, 1) := by decide +kernel
theorem dX9_build_95 : decode cX9_build 95 = .ok (.if_icmp .ne 6, 3) := by decide +kernel
theorem dX9_build_98 : decode cX9_build 98 = .ok (.bipush (-5), 2) := by decide +kernel
theorem dX9_build_100 : decode cX9_build 100 = .ok (.ireturn, 1) := by decide +kernel
theorem dX9_build_101 : decode cX9_build 101 = .ok (.aload_n 0, 1) := by decide +kernel
theorem dX9_build_102 : decode cX9_build 102 = .ok (.invokevirtual 61, 3) := by decide +kernel
theorem dX9_build_105 : decode cX9_build 105 = .ok (.aload_n 0, 1) := by decide +kernel
theorem dX9_build_106 : decode cX9_build 106 = .ok (.getfield 7, 3) := by decide +kernel
theorem dX9_build_109 : decode cX9_build 109 = .ok (.iconst 0, 1) := by decide +kernel
theorem dX9_build_110 : decode cX9_build 110 = .ok (.iload_n 1, 1) := by decide +kernel
theorem dX9_build_111 : decode cX9_build 111 = .ok (.iastore, 1) := by decide +kernel
theorem dX9_build_112 : decode cX9_build 112 = .ok (.aload_n 0, 1) := by decide +kernel
theorem dX9_build_113 : decode cX9_build 113 = .ok (.getfield 7, 3) := by decide +kernel
theorem dX9_build_116 : decode cX9_build 116 = .ok (.iconst 1, 1) := by decide +kernel
theorem dX9_build_117 : decode cX9_build 117 = .ok (.iload_n 2, 1) := by decide +kernel
theorem dX9_build_118 : decode cX9_build 118 = .ok (.iastore, 1) := by decide +kernel
theorem dX9_build_119 : decode cX9_build 119 = .ok (.aload_n 0, 1) := by decide +kernel
theorem dX9_build_120 : decode cX9_build 120 = .ok (.getfield 7, 3) := by decide +kernel
theorem dX9_build_123 : decode cX9_build 123 = .ok (.iconst 5, 1) := by decide +kernel
theorem dX9_build_124 : decode cX9_build 124 = .ok (.bipush (-5), 2) := by decide +kernel
theorem dX9_build_126 : decode cX9_build 126 = .ok (.iastore, 1) := by decide +kernel
theorem dX9_build_127 : decode cX9_build 127 = .ok (.aload_n 0, 1) := by decide +kernel
theorem dX9_build_128 : decode cX9_build 128 = .ok (.getfield 7, 3) := by decide +kernel
theorem dX9_build_131 : decode cX9_build 131 = .ok (.bipush 6, 2) := by decide +kernel
theorem dX9_build_133 : decode cX9_build 133 = .ok (.bipush (-5), 2) := by decide +kernel
theorem dX9_build_135 : decode cX9_build 135 = .ok (.iastore, 1) := by decide +kernel
theorem dX9_build_136 : decode cX9_build 136 = .ok (.aload_n 0, 1) := by decide +kernel
theorem dX9_build_137 : decode cX9_build 137 = .ok (.invokevirtual 44, 3) := by decide +kernel
theorem dX9_build_140 : decode cX9_build 140 = .ok (.aload_n 0, 1) := by decide +kernel
theorem dX9_build_141 : decode cX9_build 141 = .ok (.invokevirtual 64, 3) := by decide +kernel
theorem dX9_build_144 : decode cX9_build 144 = .ok (.ireturn, 1) := by decide +kernel
theorem dX9_shiftOf_0 : decode cX9_shiftOf 0 = .ok (.aload_n 0, 1) := by decide +kernel
theorem dX9_shiftOf_1 : decode cX9_shiftOf 1 = .ok (.getfield 7, 3) := by decide +kernel
theorem dX9_shiftOf_4 : decode cX9_shiftOf 4 = .ok (.iconst 5, 1) := by decide +kernel
theorem dX9_shiftOf_5 : decode cX9_shiftOf 5 = .ok (.iaload, 1) := by decide +kernel
theorem dX9_shiftOf_6 : decode cX9_shiftOf 6 = .ok (.iload_n 1, 1) := by decide +kernel
theorem dX9_shiftOf_7 : decode cX9_shiftOf 7 = .ok (.if_icmp .ne 7, 3) := by decide +kernel
theorem dX9_shiftOf_10 : decode cX9_shiftOf 10 = .ok (.iconst 0, 1) := by decide +kernel
theorem dX9_shiftOf_11 : decode cX9_shiftOf 11 = .ok (.goto 20, 3) := by decide +kernel
theorem dX9_shiftOf_14 : decode cX9_shiftOf 14 = .ok (.aload_n 0, 1) := by decide +kernel
theorem dX9_shiftOf_15 : decode cX9_shiftOf 15 = .ok (.getfield 7, 3) := by decide +kernel
theorem dX9_shiftOf_18 : decode cX9_shiftOf 18 = .ok (.bipush 6, 2) := by decide +kernel
theorem dX9_shiftOf_20 : decode cX9_shiftOf 20 = .ok (.iaload, 1) := by decide +kernel
theorem dX9_shiftOf_21 : decode cX9_shiftOf 21 = .ok (.iload_n 1, 1) := by decide +kernel
theorem dX9_shiftOf_22 : decode cX9_shiftOf 22 = .ok (.if_icmp .ne 7, 3) := by decide +kernel
theorem dX9_shiftOf_25 : decode cX9_shiftOf 25 = .ok (.iconst 1, 1) := by decide +kernel
theorem dX9_shiftOf_26 : decode cX9_shiftOf 26 = .ok (.goto 5, 3) := by decide +kernel
theorem dX9_shiftOf_29 : decode cX9_shiftOf 29 = .ok (.bipush (-5), 2) := by decide +kernel
theorem dX9_shiftOf_31 : decode cX9_shiftOf 31 = .ok (.ireturn, 1) := by decide +kernel
theorem dX9_setSign_0 : decode cX9_setSign 0 = .ok (.aload_n 0, 1) := by decide +kernel
theorem dX9_setSign_1 : decode cX9_setSign 1 = .ok (.iload_n 1, 1) := by decide +kernel
theorem dX9_setSign_2 : decode cX9_setSign 2 = .ok (.invokevirtual 79, 3) := by decide +kernel
theorem dX9_setSign_5 : decode cX9_setSign 5 = .ok (.ifCond .eq 5, 3) := by decide +kernel
theorem dX9_setSign_8 : decode cX9_setSign 8 = .ok (.iconst (-1), 1) := by decide +kernel
theorem dX9_setSign_9 : decode cX9_setSign 9 = .ok (.ireturn, 1) := by decide +kernel
theorem dX9_setSign_10 : decode cX9_setSign 10 = .ok (.iload_n 2, 1) := by decide +kernel
theorem dX9_setSign_11 : decode cX9_setSign 11 = .ok (.bipush 97, 2) := by decide +kernel
theorem dX9_setSign_13 : decode cX9_setSign 13 = .ok (.bipush 122, 2) := by decide +kernel
theorem dX9_setSign_15 : decode cX9_setSign 15 = .ok (.invokestatic 68, 3) := by decide +kernel
theorem dX9_setSign_18 : decode cX9_setSign 18 = .ok (.ifCond .ne 12, 3) := by decide +kernel
theorem dX9_setSign_21 : decode cX9_setSign 21 = .ok (.iload_n 2, 1) := by decide +kernel
theorem dX9_setSign_22 : decode cX9_setSign 22 = .ok (.bipush 46, 2) := by decide +kernel
theorem dX9_setSign_24 : decode cX9_setSign 24 = .ok (.if_icmp .eq 6, 3) := by decide +kernel
theorem dX9_setSign_27 : decode cX9_setSign 27 = .ok (.bipush (-2), 2) := by decide +kernel
theorem dX9_setSign_29 : decode cX9_setSign 29 = .ok (.ireturn, 1) := by decide +kernel
theorem dX9_setSign_30 : decode cX9_setSign 30 = .ok (.aload_n 0, 1) := by decide +kernel
theorem dX9_setSign_31 : decode cX9_setSign 31 = .ok (.getfield 7, 3) := by decide +kernel
theorem dX9_setSign_34 : decode cX9_setSign 34 = .ok (.sipush 260, 3) := by decide +kernel
theorem dX9_setSign_37 : decode cX9_setSign 37 = .ok (.iload_n 1, 1) := by decide +kernel
theorem dX9_setSign_38 : decode cX9_setSign 38 = .ok (.iadd, 1) := by decide +kernel
theorem dX9_setSign_39 : decode cX9_setSign 39 = .ok (.iaload, 1) := by decide +kernel
theorem dX9_setSign_40 : decode cX9_setSign 40 = .ok (.istore_n 3, 1) := by decide +kernel
theorem dX9_setSign_41 : decode cX9_setSign 41 = .ok (.aload_n 0, 1) := by decide +kernel
theorem dX9_setSign_42 : decode cX9_setSign 42 = .ok (.iload_n 1, 1) := by decide +kernel
theorem dX9_setSign_43 : decode cX9_setSign 43 = .ok (.invokevirtual 82, 3) := by decide +kernel
theorem dX9_setSign_46 : decode cX9_setSign 46 = .ok (.istore 4, 2) := by decide +kernel
theorem dX9_setSign_48 : decode cX9_setSign 48 = .ok (.iload_n 3, 1) := by decide +kernel
theorem dX9_setSign_49 : decode cX9_setSign 49 = .ok (.iload_n 2, 1) := by decide +kernel
theorem dX9_setSign_50 : decode cX9_setSign 50 = .ok (.if_icmp .ne 11, 3) := by decide +kernel
theorem dX9_setSign_53 : decode cX9_setSign 53 = .ok (.iload 4, 2) := by decide +kernel
theorem dX9_setSign_55 : decode cX9_setSign 55 = .ok (.ifCond .ge 6, 3) := by decide +kernel
theorem dX9_setSign_58 : decode cX9_setSign 58 = .ok (.bipush (-5), 2) := by decide +kernel
theorem dX9_setSign_60 : decode cX9_setSign 60 = .ok (.ireturn, 1) := by decide +kernel
theorem dX9_setSign_61 : decode cX9_setSign 61 = .ok (.aload_n 0, 1) := by decide +kernel
theorem dX9_setSign_62 : decode cX9_setSign 62 = .ok (.invokevirtual 61, 3) := by decide +kernel
theorem dX9_setSign_65 : decode cX9_setSign 65 = .ok (.aload_n 0, 1) := by decide +kernel
theorem dX9_setSign_66 : decode cX9_setSign 66 = .ok (.getfield 7, 3) := by decide +kernel
theorem dX9_setSign_69 : decode cX9_setSign 69 = .ok (.sipush 260, 3) := by decide +kernel
theorem dX9_setSign_72 : decode cX9_setSign 72 = .ok (.iload_n 1, 1) := by decide +kernel
theorem dX9_setSign_73 : decode cX9_setSign 73 = .ok (.iadd, 1) := by decide +kernel
theorem dX9_setSign_74 : decode cX9_setSign 74 = .ok (.iload_n 2, 1) := by decide +kernel
theorem dX9_setSign_75 : decode cX9_setSign 75 = .ok (.iastore, 1) := by decide +kernel
theorem dX9_setSign_76 : decode cX9_setSign 76 = .ok (.iload 4, 2) := by decide +kernel
theorem dX9_setSign_78 : decode cX9_setSign 78 = .ok (.ifCond .lt 14, 3) := by decide +kernel
theorem dX9_setSign_81 : decode cX9_setSign 81 = .ok (.aload_n 0, 1) := by decide +kernel
theorem dX9_setSign_82 : decode cX9_setSign 82 = .ok (.getfield 7, 3) := by decide +kernel
theorem dX9_setSign_85 : decode cX9_setSign 85 = .ok (.iconst 5, 1) := by decide +kernel
theorem dX9_setSign_86 : decode cX9_setSign 86 = .ok (.iload 4, 2) := by decide +kernel
theorem dX9_setSign_88 : decode cX9_setSign 88 = .ok (.iadd, 1) := by decide +kernel
theorem dX9_setSign_89 : decode cX9_setSign 89 = .ok (.bipush (-5), 2) := by decide +kernel
theorem dX9_setSign_91 : decode cX9_setSign 91 = .ok (.iastore, 1) := by decide +kernel
theorem dX9_setSign_92 : decode cX9_setSign 92 = .ok (.iload_n 3, 1) := by decide +kernel
theorem dX9_setSign_93 : decode cX9_setSign 93 = .ok (.ireturn, 1) := by decide +kernel
theorem dX9_setShift_0 : decode cX9_setShift 0 = .ok (.aload_n 0, 1) := by decide +kernel
theorem dX9_setShift_1 : decode cX9_setShift 1 = .ok (.iload_n 1, 1) := by decide +kernel
theorem dX9_setShift_2 : decode cX9_setShift 2 = .ok (.invokevirtual 86, 3) := by decide +kernel
theorem dX9_setShift_5 : decode cX9_setShift 5 = .ok (.ifCond .ne 11, 3) := by decide +kernel
theorem dX9_setShift_8 : decode cX9_setShift 8 = .ok (.aload_n 0, 1) := by decide +kernel
theorem dX9_setShift_9 : decode cX9_setShift 9 = .ok (.iload_n 2, 1) := by decide +kernel
theorem dX9_setShift_10 : decode cX9_setShift 10 = .ok (.invokevirtual 79, 3) := by decide +kernel
theorem dX9_setShift_13 : decode cX9_setShift 13 = .ok (.ifCond .eq 5, 3) := by decide +kernel
theorem dX9_setShift_16 : decode cX9_setShift 16 = .ok (.iconst (-1), 1) := by decide +kernel
theorem dX9_setShift_17 : decode cX9_setShift 17 = .ok (.ireturn, 1) := by decide +kernel
theorem dX9_setShift_18 : decode cX9_setShift 18 = .ok (.aload_n 0, 1) := by decide +kernel
theorem dX9_setShift_19 : decode cX9_setShift 19 = .ok (.iload_n 2, 1) := by decide +kernel
theorem dX9_setShift_20 : decode cX9_setShift 20 = .ok (.invokevirtual 82, 3) := by decide +kernel
theorem dX9_setShift_23 : decode cX9_setShift 23 = .ok (.istore_n 3, 1) := by decide +kernel
theorem dX9_setShift_24 : decode cX9_setShift 24 = .ok (.iload_n 3, 1) := by decide +kernel
theorem dX9_setShift_25 : decode cX9_setShift 25 = .ok (.iconst 1, 1) := by decide +kernel
theorem dX9_setShift_26 : decode cX9_setShift 26 = .ok (.iload_n 1, 1) := by decide +kernel
theorem dX9_setShift_27 : decode cX9_setShift 27 = .ok (.isub, 1) := by decide +kernel
theorem dX9_setShift_28 : decode cX9_setShift 28 = .ok (.if_icmp .ne 6, 3) := by decide +kernel
theorem dX9_setShift_31 : decode cX9_setShift 31 = .ok (.bipush (-4), 2) := by decide +kernel
theorem dX9_setShift_33 : decode cX9_setShift 33 = .ok (.ireturn, 1) := by decide +kernel
theorem dX9_setShift_34 : decode cX9_setShift 34 = .ok (.iload_n 3, 1) := by decide +kernel
theorem dX9_setShift_35 : decode cX9_setShift 35 = .ok (.iload_n 1, 1) := by decide +kernel
theorem dX9_setShift_36 : decode cX9_setShift 36 = .ok (.if_icmp .ne 6, 3) := by decide +kernel
theorem dX9_setShift_39 : decode cX9_setShift 39 = .ok (.bipush (-5), 2) := by decide +kernel
theorem dX9_setShift_41 : decode cX9_setShift 41 = .ok (.ireturn, 1) := by decide +kernel
theorem dX9_setShift_42 : decode cX9_setShift 42 = .ok (.aload_n 0, 1) := by decide +kernel
theorem dX9_setShift_43 : decode cX9_setShift 43 = .ok (.invokevirtual 61, 3) := by decide +kernel
theorem dX9_setShift_46 : decode cX9_setShift 46 = .ok (.aload_n 0, 1) := by decide +kernel
theorem dX9_setShift_47 : decode cX9_setShift 47 = .ok (.getfield 7, 3) := by decide +kernel
theorem dX9_setShift_50 : decode cX9_setShift 50 = .ok (.iconst 5, 1) := by decide +kernel
theorem dX9_setShift_51 : decode cX9_setShift 51 = .ok (.iload_n 1, 1) := by decide +kernel
theorem dX9_setShift_52 : decode cX9_setShift 52 = .ok (.iadd, 1) := by decide +kernel
theorem dX9_setShift_53 : decode cX9_setShift 53 = .ok (.iaload, 1) := by decide +kernel
theorem dX9_setShift_54 : decode cX9_setShift 54 = .ok (.istore 4, 2) := by decide +kernel
theorem dX9_setShift_56 : decode cX9_setShift 56 = .ok (.aload_n 0, 1) := by decide +kernel
theorem dX9_setShift_57 : decode cX9_setShift 57 = .ok (.getfield 7, 3) := by decide +kernel
theorem dX9_setShift_60 : decode cX9_setShift 60 = .ok (.iconst 5, 1) := by decide +kernel
theorem dX9_setShift_61 : decode cX9_setShift 61 = .ok (.iload_n 1, 1) := by decide +kernel
theorem dX9_setShift_62 : decode cX9_setShift 62 = .ok (.iadd, 1) := by decide +kernel
theorem dX9_setShift_63 : decode cX9_setShift 63 = .ok (.iload_n 2, 1) := by decide +kernel
theorem dX9_setShift_64 : decode cX9_setShift 64 = .ok (.iastore, 1) := by decide +kernel
theorem dX9_setShift_65 : decode cX9_setShift 65 = .ok (.aload_n 0, 1) := by decide +kernel
theorem dX9_setShift_66 : decode cX9_setShift 66 = .ok (.getfield 7, 3) := by decide +kernel
theorem dX9_setShift_69 : decode cX9_setShift 69 = .ok (.sipush 260, 3) := by decide +kernel
theorem dX9_setShift_72 : decode cX9_setShift 72 = .ok (.iload_n 2, 1) := by decide +kernel
theorem dX9_setShift_73 : decode cX9_setShift 73 = .ok (.iadd, 1) := by decide +kernel
theorem dX9_setShift_74 : decode cX9_setShift 74 = .ok (.bipush 46, 2) := by decide +kernel
theorem dX9_setShift_76 : decode cX9_setShift 76 = .ok (.iastore, 1) := by decide +kernel
theorem dX9_setShift_77 : decode cX9_setShift 77 = .ok (.iload 4, 2) := by decide +kernel
theorem dX9_setShift_79 : decode cX9_setShift 79 = .ok (.ifCond .ge 7, 3) := by decide +kernel
theorem dX9_setShift_82 : decode cX9_setShift 82 = .ok (.iload_n 2, 1) := by decide +kernel
theorem dX9_setShift_83 : decode cX9_setShift 83 = .ok (.goto 5, 3) := by decide +kernel
theorem dX9_setShift_86 : decode cX9_setShift 86 = .ok (.iload 4, 2) := by decide +kernel
theorem dX9_setShift_88 : decode cX9_setShift 88 = .ok (.ireturn, 1) := by decide +kernel
theorem dX9_borrow_0 : decode cX9_borrow 0 = .ok (.aload_n 0, 1) := by decide +kernel
theorem dX9_borrow_1 : decode cX9_borrow 1 = .ok (.iload_n 1, 1) := by decide +kernel
theorem dX9_borrow_2 : decode cX9_borrow 2 = .ok (.invokevirtual 86, 3) := by decide +kernel
theorem dX9_borrow_5 : decode cX9_borrow 5 = .ok (.ifCond .eq 5, 3) := by decide +kernel
theorem dX9_borrow_8 : decode cX9_borrow 8 = .ok (.iconst (-1), 1) := by decide +kernel
theorem dX9_borrow_9 : decode cX9_borrow 9 = .ok (.ireturn, 1) := by decide +kernel
theorem dX9_borrow_10 : decode cX9_borrow 10 = .ok (.aload_n 0, 1) := by decide +kernel
theorem dX9_borrow_11 : decode cX9_borrow 11 = .ok (.getfield 7, 3) := by decide +kernel
theorem dX9_borrow_14 : decode cX9_borrow 14 = .ok (.bipush 7, 2) := by decide +kernel
theorem dX9_borrow_16 : decode cX9_borrow 16 = .ok (.iload_n 1, 1) := by decide +kernel
theorem dX9_borrow_17 : decode cX9_borrow 17 = .ok (.iadd, 1) := by decide +kernel
theorem dX9_borrow_18 : decode cX9_borrow 18 = .ok (.iaload, 1) := by decide +kernel
theorem dX9_borrow_19 : decode cX9_borrow 19 = .ok (.iconst 1, 1) := by decide +kernel
theorem dX9_borrow_20 : decode cX9_borrow 20 = .ok (.if_icmp .ne 7, 3) := by decide +kernel
theorem dX9_borrow_23 : decode cX9_borrow 23 = .ok (.iconst 1, 1) := by decide +kernel
theorem dX9_borrow_24 : decode cX9_borrow 24 = .ok (.goto 4, 3) := by decide +kernel
theorem dX9_borrow_27 : decode cX9_borrow 27 = .ok (.iconst 0, 1) := by decide +kernel
theorem dX9_borrow_28 : decode cX9_borrow 28 = .ok (.iload_n 2, 1) := by decide +kernel
theorem dX9_borrow_29 : decode cX9_borrow 29 = .ok (.if_icmp .ne 6, 3) := by decide +kernel
theorem dX9_borrow_32 : decode cX9_borrow 32 = .ok (.bipush (-5), 2) := by decide +kernel
theorem dX9_borrow_34 : decode cX9_borrow 34 = .ok (.ireturn, 1) := by decide +kernel
theorem dX9_borrow_35 : decode cX9_borrow 35 = .ok (.aload_n 0, 1) := by decide +kernel
theorem dX9_borrow_36 : decode cX9_borrow 36 = .ok (.invokevirtual 61, 3) := by decide +kernel
theorem dX9_borrow_39 : decode cX9_borrow 39 = .ok (.aload_n 0, 1) := by decide +kernel
theorem dX9_borrow_40 : decode cX9_borrow 40 = .ok (.getfield 7, 3) := by decide +kernel
theorem dX9_borrow_43 : decode cX9_borrow 43 = .ok (.bipush 7, 2) := by decide +kernel
theorem dX9_borrow_45 : decode cX9_borrow 45 = .ok (.iload_n 1, 1) := by decide +kernel
theorem dX9_borrow_46 : decode cX9_borrow 46 = .ok (.iadd, 1) := by decide +kernel
theorem dX9_borrow_47 : decode cX9_borrow 47 = .ok (.iload_n 2, 1) := by decide +kernel
theorem dX9_borrow_48 : decode cX9_borrow 48 = .ok (.ifCond .eq 7, 3) := by decide +kernel
theorem dX9_borrow_51 : decode cX9_borrow 51 = .ok (.iconst 1, 1) := by decide +kernel
theorem dX9_borrow_52 : decode cX9_borrow 52 = .ok (.goto 4, 3) := by decide +kernel
theorem dX9_borrow_55 : decode cX9_borrow 55 = .ok (.iconst 0, 1) := by decide +kernel
theorem dX9_borrow_56 : decode cX9_borrow 56 = .ok (.iastore, 1) := by decide +kernel
theorem dX9_borrow_57 : decode cX9_borrow 57 = .ok (.aload_n 0, 1) := by decide +kernel
theorem dX9_borrow_58 : decode cX9_borrow 58 = .ok (.getfield 7, 3) := by decide +kernel
theorem dX9_borrow_61 : decode cX9_borrow 61 = .ok (.bipush 7, 2) := by decide +kernel
theorem dX9_borrow_63 : decode cX9_borrow 63 = .ok (.iaload, 1) := by decide +kernel
theorem dX9_borrow_64 : decode cX9_borrow 64 = .ok (.aload_n 0, 1) := by decide +kernel
theorem dX9_borrow_65 : decode cX9_borrow 65 = .ok (.getfield 7, 3) := by decide +kernel
theorem dX9_borrow_68 : decode cX9_borrow 68 = .ok (.bipush 8, 2) := by decide +kernel
theorem dX9_borrow_70 : decode cX9_borrow 70 = .ok (.iaload, 1) := by decide +kernel
theorem dX9_borrow_71 : decode cX9_borrow 71 = .ok (.iadd, 1) := by decide +kernel
theorem dX9_borrow_72 : decode cX9_borrow 72 = .ok (.ireturn, 1) := by decide +kernel
theorem dX9_set_0 : decode cX9_set 0 = .ok (.iload_n 1, 1) := by decide +kernel
theorem dX9_set_1 : decode cX9_set 1 = .ok (.iconst 0, 1) := by decide +kernel
theorem dX9_set_2 : decode cX9_set 2 = .ok (.iconst 2, 1) := by decide +kernel
theorem dX9_set_3 : decode cX9_set 3 = .ok (.invokestatic 68, 3) := by decide +kernel
theorem dX9_set_6 : decode cX9_set 6 = .ok (.ifCond .ne 6, 3) := by decide +kernel
theorem dX9_set_9 : decode cX9_set 9 = .ok (.bipush (-2), 2) := by decide +kernel
theorem dX9_set_11 : decode cX9_set 11 = .ok (.ireturn, 1) := by decide +kernel
theorem dX9_set_12 : decode cX9_set 12 = .ok (.iload_n 2, 1) := by decide +kernel
theorem dX9_set_13 : decode cX9_set 13 = .ok (.ifCond .lt 12, 3) := by decide +kernel
theorem dX9_set_16 : decode cX9_set 16 = .ok (.iload_n 2, 1) := by decide +kernel
theorem dX9_set_17 : decode cX9_set 17 = .ok (.ldc 89, 2) := by decide +kernel
theorem dX9_set_19 : decode cX9_set 19 = .ok (.iand, 1) := by decide +kernel
theorem dX9_set_20 : decode cX9_set 20 = .ok (.ldc 90, 2) := by decide +kernel
theorem dX9_set_22 : decode cX9_set 22 = .ok (.if_icmp .le 6, 3) := by decide +kernel
theorem dX9_set_25 : decode cX9_set 25 = .ok (.bipush (-2), 2) := by decide +kernel
theorem dX9_set_27 : decode cX9_set 27 = .ok (.ireturn, 1) := by decide +kernel
theorem dX9_set_28 : decode cX9_set 28 = .ok (.iload_n 2, 1) := by decide +kernel
theorem dX9_set_29 : decode cX9_set 29 = .ok (.invokestatic 91, 3) := by decide +kernel
theorem dX9_set_32 : decode cX9_set 32 = .ok (.fstore_n 3, 1) := by decide +kernel
theorem dX9_set_33 : decode cX9_set 33 = .ok (.iload_n 1, 1) := by decide +kernel
theorem dX9_set_34 : decode cX9_set 34 = .ok (.ifCond .ne 7, 3) := by decide +kernel
theorem dX9_set_37 : decode cX9_set 37 = .ok (.fconst 2, 1) := by decide +kernel
theorem dX9_set_38 : decode cX9_set 38 = .ok (.goto 14, 3) := by decide +kernel
theorem dX9_set_41 : decode cX9_set 41 = .ok (.iload_n 1, 1) := by decide +kernel
theorem dX9_set_42 : decode cX9_set 42 = .ok (.iconst 1, 1) := by decide +kernel
theorem dX9_set_43 : decode cX9_set 43 = .ok (.if_icmp .ne 8, 3) := by decide +kernel
theorem dX9_set_46 : decode cX9_set 46 = .ok (.ldc 39, 2) := by decide +kernel
theorem dX9_set_48 : decode cX9_set 48 = .ok (.goto 4, 3) := by decide +kernel
theorem dX9_set_51 : decode cX9_set 51 = .ok (.fconst 1, 1) := by decide +kernel
theorem dX9_set_52 : decode cX9_set 52 = .ok (.fstore 4, 2) := by decide +kernel
theorem dX9_set_54 : decode cX9_set 54 = .ok (.fload_n 3, 1) := by decide +kernel
theorem dX9_set_55 : decode cX9_set 55 = .ok (.fconst 0, 1) := by decide +kernel
theorem dX9_set_56 : decode cX9_set 56 = .ok (.fcmp .l, 1) := by decide +kernel
theorem dX9_set_57 : decode cX9_set 57 = .ok (.ifCond .lt 10, 3) := by decide +kernel
theorem dX9_set_60 : decode cX9_set 60 = .ok (.fload_n 3, 1) := by decide +kernel
theorem dX9_set_61 : decode cX9_set 61 = .ok (.fload 4, 2) := by decide +kernel
theorem dX9_set_63 : decode cX9_set 63 = .ok (.fcmp .g, 1) := by decide +kernel
theorem dX9_set_64 : decode cX9_set 64 = .ok (.ifCond .le 6, 3) := by decide +kernel
theorem dX9_set_67 : decode cX9_set 67 = .ok (.bipush (-2), 2) := by decide +kernel
theorem dX9_set_69 : decode cX9_set 69 = .ok (.ireturn, 1) := by decide +kernel
theorem dX9_set_70 : decode cX9_set 70 = .ok (.aload_n 0, 1) := by decide +kernel
theorem dX9_set_71 : decode cX9_set 71 = .ok (.getfield 22, 3) := by decide +kernel
theorem dX9_set_74 : decode cX9_set 74 = .ok (.iconst 4, 1) := by decide +kernel
theorem dX9_set_75 : decode cX9_set 75 = .ok (.iload_n 1, 1) := by decide +kernel
theorem dX9_set_76 : decode cX9_set 76 = .ok (.iadd, 1) := by decide +kernel
theorem dX9_set_77 : decode cX9_set 77 = .ok (.faload, 1) := by decide +kernel
theorem dX9_set_78 : decode cX9_set 78 = .ok (.fstore 5, 2) := by decide +kernel
theorem dX9_set_80 : decode cX9_set 80 = .ok (.fload 5, 2) := by decide +kernel
theorem dX9_set_82 : decode cX9_set 82 = .ok (.fload_n 3, 1) := by decide +kernel
theorem dX9_set_83 : decode cX9_set 83 = .ok (.fcmp .l, 1) := by decide +kernel
theorem dX9_set_84 : decode cX9_set 84 = .ok (.ifCond .ne 6, 3) := by decide +kernel
theorem dX9_set_87 : decode cX9_set 87 = .ok (.bipush (-5), 2) := by decide +kernel
theorem dX9_set_89 : decode cX9_set 89 = .ok (.ireturn, 1) := by decide +kernel
theorem dX9_set_90 : decode cX9_set 90 = .ok (.aload_n 0, 1) := by decide +kernel
theorem dX9_set_91 : decode cX9_set 91 = .ok (.invokevirtual 61, 3) := by decide +kernel
theorem dX9_set_94 : decode cX9_set 94 = .ok (.aload_n 0, 1) := by decide +kernel
theorem dX9_set_95 : decode cX9_set 95 = .ok (.getfield 22, 3) := by decide +kernel
theorem dX9_set_98 : decode cX9_set 98 = .ok (.iconst 4, 1) := by decide +kernel
theorem dX9_set_99 : decode cX9_set 99 = .ok (.iload_n 1, 1) := by decide +kernel
theorem dX9_set_100 : decode cX9_set 100 = .ok (.iadd, 1) := by decide +kernel
theorem dX9_set_101 : decode cX9_set 101 = .ok (.fload_n 3, 1) := by decide +kernel
theorem dX9_set_102 : decode cX9_set 102 = .ok (.fastore, 1) := by decide +kernel
theorem dX9_set_103 : decode cX9_set 103 = .ok (.fload 5, 2) := by decide +kernel
theorem dX9_set_105 : decode cX9_set 105 = .ok (.invokestatic 97, 3) := by decide +kernel
theorem dX9_set_108 : decode cX9_set 108 = .ok (.ireturn, 1) := by decide +kernel
theorem dX9_drive_0 : decode cX9_drive 0 = .ok (.aload_n 0, 1) := by decide +kernel
theorem dX9_drive_1 : decode cX9_drive 1 = .ok (.iconst 1, 1) := by decide +kernel
theorem dX9_drive_2 : decode cX9_drive 2 = .ok (.iload_n 1, 1) := by decide +kernel
theorem dX9_drive_3 : decode cX9_drive 3 = .ok (.ishl, 1) := by decide +kernel
theorem dX9_drive_4 : decode cX9_drive 4 = .ok (.putfield 101, 3) := by decide +kernel
theorem dX9_drive_7 : decode cX9_drive 7 = .ok (.aload_n 0, 1) := by decide +kernel
theorem dX9_drive_8 : decode cX9_drive 8 = .ok (.iconst 0, 1) := by decide +kernel
theorem dX9_drive_9 : decode cX9_drive 9 = .ok (.putfield 104, 3) := by decide +kernel
theorem dX9_drive_12 : decode cX9_drive 12 = .ok (.iconst 1, 1) := by decide +kernel
theorem dX9_drive_13 : decode cX9_drive 13 = .ok (.istore_n 2, 1) := by decide +kernel
theorem dX9_drive_14 : decode cX9_drive 14 = .ok (.iload_n 2, 1) := by decide +kernel
theorem dX9_drive_15 : decode cX9_drive 15 = .ok (.ifCond .eq 166, 3) := by decide +kernel
theorem dX9_drive_18 : decode cX9_drive 18 = .ok (.aload_n 0, 1) := by decide +kernel
theorem dX9_drive_19 : decode cX9_drive 19 = .ok (.getfield 104, 3) := by decide +kernel
theorem dX9_drive_22 : decode cX9_drive 22 = .ok (.istore_n 3, 1) := by decide +kernel
theorem dX9_drive_23 : decode cX9_drive 23 = .ok (.aload_n 0, 1) := by decide +kernel
theorem dX9_drive_24 : decode cX9_drive 24 = .ok (.getfield 101, 3) := by decide +kernel
theorem dX9_drive_27 : decode cX9_drive 27 = .ok (.istore 4, 2) := by decide +kernel
theorem dX9_drive_29 : decode cX9_drive 29 = .ok (.iconst 0, 1) := by decide +kernel
theorem dX9_drive_30 : decode cX9_drive 30 = .ok (.istore 5, 2) := by decide +kernel
theorem dX9_drive_32 : decode cX9_drive 32 = .ok (.iload 5, 2) := by decide +kernel
theorem dX9_drive_34 : decode cX9_drive 34 = .ok (.aload_n 0, 1) := by decide +kernel
theorem dX9_drive_35 : decode cX9_drive 35 = .ok (.invokevirtual 64, 3) := by decide +kernel
theorem dX9_drive_38 : decode cX9_drive 38 = .ok (.if_icmp .ge 117, 3) := by decide +kernel
theorem dX9_drive_41 : decode cX9_drive 41 = .ok (.iload 5, 2) := by decide +kernel
theorem dX9_drive_43 : decode cX9_drive 43 = .ok (.aload_n 0, 1) := by decide +kernel
theorem dX9_drive_44 : decode cX9_drive 44 = .ok (.getfield 7, 3) := by decide +kernel
theorem dX9_drive_47 : decode cX9_drive 47 = .ok (.iconst 1, 1) := by decide +kernel
theorem dX9_drive_48 : decode cX9_drive 48 = .ok (.iaload, 1) := by decide +kernel
theorem dX9_drive_49 : decode cX9_drive 49 = .ok (.idiv, 1) := by decide +kernel
theorem dX9_drive_50 : decode cX9_drive 50 = .ok (.istore 6, 2) := by decide +kernel
theorem dX9_drive_52 : decode cX9_drive 52 = .ok (.iload 5, 2) := by decide +kernel
theorem dX9_drive_54 : decode cX9_drive 54 = .ok (.aload_n 0, 1) := by decide +kernel
theorem dX9_drive_55 : decode cX9_drive 55 = .ok (.getfield 7, 3) := by decide +kernel
theorem dX9_drive_58 : decode cX9_drive 58 = .ok (.iconst 1, 1) := by decide +kernel
theorem dX9_drive_59 : decode cX9_drive 59 = .ok (.iaload, 1) := by decide +kernel
theorem dX9_drive_60 : decode cX9_drive 60 = .ok (.irem, 1) := by decide +kernel
theorem dX9_drive_61 : decode cX9_drive 61 = .ok (.istore 7, 2) := by decide +kernel
theorem dX9_drive_63 : decode cX9_drive 63 = .ok (.aload_n 0, 1) := by decide +kernel
theorem dX9_drive_64 : decode cX9_drive 64 = .ok (.iload 5, 2) := by decide +kernel
theorem dX9_drive_66 : decode cX9_drive 66 = .ok (.invokevirtual 72, 3) := by decide +kernel
theorem dX9_drive_69 : decode cX9_drive 69 = .ok (.ifCond .eq 33, 3) := by decide +kernel
theorem dX9_drive_72 : decode cX9_drive 72 = .ok (.aload_n 0, 1) := by decide +kernel
theorem dX9_drive_73 : decode cX9_drive 73 = .ok (.getfield 101, 3) := by decide +kernel
theorem dX9_drive_76 : decode cX9_drive 76 = .ok (.iload 6, 2) := by decide +kernel
theorem dX9_drive_78 : decode cX9_drive 78 = .ok (.ishr, 1) := by decide +kernel
theorem dX9_drive_79 : decode cX9_drive 79 = .ok (.iconst 1, 1) := by decide +kernel
theorem dX9_drive_80 : decode cX9_drive 80 = .ok (.iand, 1) := by decide +kernel
theorem dX9_drive_81 : decode cX9_drive 81 = .ok (.iconst 1, 1) := by decide +kernel
theorem dX9_drive_82 : decode cX9_drive 82 = .ok (.if_icmp .eq 16, 3) := by decide +kernel
theorem dX9_drive_85 : decode cX9_drive 85 = .ok (.aload_n 0, 1) := by decide +kernel
theorem dX9_drive_86 : decode cX9_drive 86 = .ok (.getfield 104, 3) := by decide +kernel
theorem dX9_drive_89 : decode cX9_drive 89 = .ok (.iload 7, 2) := by decide +kernel
theorem dX9_drive_91 : decode cX9_drive 91 = .ok (.ishr, 1) := by decide +kernel
theorem dX9_drive_92 : decode cX9_drive 92 = .ok (.iconst 1, 1) := by decide +kernel
theorem dX9_drive_93 : decode cX9_drive 93 = .ok (.iand, 1) := by decide +kernel
theorem dX9_drive_94 : decode cX9_drive 94 = .ok (.iconst 1, 1) := by decide +kernel
theorem dX9_drive_95 : decode cX9_drive 95 = .ok (.if_icmp .ne 7, 3) := by decide +kernel
theorem dX9_drive_98 : decode cX9_drive 98 = .ok (.iconst 1, 1) := by decide +kernel
theorem dX9_drive_99 : decode cX9_drive 99 = .ok (.goto 4, 3) := by decide +kernel
theorem dX9_drive_102 : decode cX9_drive 102 = .ok (.iconst 0, 1) := by decide +kernel
theorem dX9_drive_103 : decode cX9_drive 103 = .ok (.istore 8, 2) := by decide +kernel
theorem dX9_drive_105 : decode cX9_drive 105 = .ok (.aload_n 0, 1) := by decide +kernel
theorem dX9_drive_106 : decode cX9_drive 106 = .ok (.dup, 1) := by decide +kernel
theorem dX9_drive_107 : decode cX9_drive 107 = .ok (.getfield 101, 3) := by decide +kernel
theorem dX9_drive_110 : decode cX9_drive 110 = .ok (.iload 8, 2) := by decide +kernel
theorem dX9_drive_112 : decode cX9_drive 112 = .ok (.ifCond .eq 10, 3) := by decide +kernel
theorem dX9_drive_115 : decode cX9_drive 115 = .ok (.iconst 1, 1) := by decide +kernel
theorem dX9_drive_116 : decode cX9_drive 116 = .ok (.iload 6, 2) := by decide +kernel
theorem dX9_drive_118 : decode cX9_drive 118 = .ok (.ishl, 1) := by decide +kernel
theorem dX9_drive_119 : decode cX9_drive 119 = .ok (.goto 4, 3) := by decide +kernel
theorem dX9_drive_122 : decode cX9_drive 122 = .ok (.iconst 0, 1) := by decide +kernel
theorem dX9_drive_123 : decode cX9_drive 123 = .ok (.ior, 1) := by decide +kernel
theorem dX9_drive_124 : decode cX9_drive 124 = .ok (.putfield 101, 3) := by decide +kernel
theorem dX9_drive_127 : decode cX9_drive 127 = .ok (.aload_n 0, 1) := by decide +kernel
theorem dX9_drive_128 : decode cX9_drive 128 = .ok (.dup, 1) := by decide +kernel
theorem dX9_drive_129 : decode cX9_drive 129 = .ok (.getfield 104, 3) := by decide +kernel
theorem dX9_drive_132 : decode cX9_drive 132 = .ok (.iload 8, 2) := by decide +kernel
theorem dX9_drive_134 : decode cX9_drive 134 = .ok (.ifCond .eq 10, 3) := by decide +kernel
theorem dX9_drive_137 : decode cX9_drive 137 = .ok (.iconst 1, 1) := by decide +kernel
theorem dX9_drive_138 : decode cX9_drive 138 = .ok (.iload 7, 2) := by decide +kernel
theorem dX9_drive_140 : decode cX9_drive 140 = .ok (.ishl, 1) := by decide +kernel
theorem dX9_drive_141 : decode cX9_drive 141 = .ok (.goto 4, 3) := by decide +kernel
theorem dX9_drive_144 : decode cX9_drive 144 = .ok (.iconst 0, 1) := by decide +kernel
theorem dX9_drive_145 : decode cX9_drive 145 = .ok (.ior, 1) := by decide +kernel
theorem dX9_drive_146 : decode cX9_drive 146 = .ok (.putfield 104, 3) := by decide +kernel
theorem dX9_drive_149 : decode cX9_drive 149 = .ok (.iinc 5 1, 3) := by decide +kernel
theorem dX9_drive_152 : decode cX9_drive 152 = .ok (.goto (-120), 3) := by decide +kernel
theorem dX9_drive_155 : decode cX9_drive 155 = .ok (.iload_n 3, 1) := by decide +kernel
theorem dX9_drive_156 : decode cX9_drive 156 = .ok (.aload_n 0, 1) := by decide +kernel
theorem dX9_drive_157 : decode cX9_drive 157 = .ok (.getfield 104, 3) := by decide +kernel
theorem dX9_drive_160 : decode cX9_drive 160 = .ok (.if_icmp .ne 12, 3) := by decide +kernel
theorem dX9_drive_163 : decode cX9_drive 163 = .ok (.iload 4, 2) := by decide +kernel
theorem dX9_drive_165 : decode cX9_drive 165 = .ok (.aload_n 0, 1) := by decide +kernel
theorem dX9_drive_166 : decode cX9_drive 166 = .ok (.getfield 101, 3) := by decide +kernel
theorem dX9_drive_169 : decode cX9_drive 169 = .ok (.if_icmp .eq 7, 3) := by decide +kernel
theorem dX9_drive_172 : decode cX9_drive 172 = .ok (.iconst 1, 1) := by decide +kernel
theorem dX9_drive_173 : decode cX9_drive 173 = .ok (.goto 4, 3) := by decide +kernel
theorem dX9_drive_176 : decode cX9_drive 176 = .ok (.iconst 0, 1) := by decide +kernel
theorem dX9_drive_177 : decode cX9_drive 177 = .ok (.istore_n 2, 1) := by decide +kernel
theorem dX9_drive_178 : decode cX9_drive 178 = .ok (.goto (-164), 3) := by decide +kernel
theorem dX9_drive_181 : decode cX9_drive 181 = .ok (.return_, 1) := by decide +kernel
theorem dX9_wouldSense_0 : decode cX9_wouldSense 0 = .ok (.aload_n 0, 1) := by decide +kernel
theorem dX9_wouldSense_1 : decode cX9_wouldSense 1 = .ok (.iload_n 1, 1) := by decide +kernel
theorem dX9_wouldSense_2 : decode cX9_wouldSense 2 = .ok (.aload_n 0, 1) := by decide +kernel
theorem dX9_wouldSense_3 : decode cX9_wouldSense 3 = .ok (.getfield 7, 3) := by decide +kernel
theorem dX9_wouldSense_6 : decode cX9_wouldSense 6 = .ok (.iconst 1, 1) := by decide +kernel
theorem dX9_wouldSense_7 : decode cX9_wouldSense 7 = .ok (.iaload, 1) := by decide +kernel
theorem dX9_wouldSense_8 : decode cX9_wouldSense 8 = .ok (.idiv, 1) := by decide +kernel
theorem dX9_wouldSense_9 : decode cX9_wouldSense 9 = .ok (.invokevirtual 107, 3) := by decide +kernel
theorem dX9_wouldSense_12 : decode cX9_wouldSense 12 = .ok (.aload_n 0, 1) := by decide +kernel
theorem dX9_wouldSense_13 : decode cX9_wouldSense 13 = .ok (.getfield 104, 3) := by decide +kernel
theorem dX9_wouldSense_16 : decode cX9_wouldSense 16 = .ok (.iload_n 1, 1) := by decide +kernel
theorem dX9_wouldSense_17 : decode cX9_wouldSense 17 = .ok (.aload_n 0, 1) := by decide +kernel
theorem dX9_wouldSense_18 : decode cX9_wouldSense 18 = .ok (.getfield 7, 3) := by decide +kernel
theorem dX9_wouldSense_21 : decode cX9_wouldSense 21 = .ok (.iconst 1, 1) := by decide +kernel
theorem dX9_wouldSense_22 : decode cX9_wouldSense 22 = .ok (.iaload, 1) := by decide +kernel
theorem dX9_wouldSense_23 : decode cX9_wouldSense 23 = .ok (.irem, 1) := by decide +kernel
theorem dX9_wouldSense_24 : decode cX9_wouldSense 24 = .ok (.ishr, 1) := by decide +kernel
theorem dX9_wouldSense_25 : decode cX9_wouldSense 25 = .ok (.iconst 1, 1) := by decide +kernel
theorem dX9_wouldSense_26 : decode cX9_wouldSense 26 = .ok (.iand, 1) := by decide +kernel
theorem dX9_wouldSense_27 : decode cX9_wouldSense 27 = .ok (.iconst 1, 1) := by decide +kernel
theorem dX9_wouldSense_28 : decode cX9_wouldSense 28 = .ok (.if_icmp .ne 7, 3) := by decide +kernel
theorem dX9_wouldSense_31 : decode cX9_wouldSense 31 = .ok (.iconst 1, 1) := by decide +kernel
theorem dX9_wouldSense_32 : decode cX9_wouldSense 32 = .ok (.goto 4, 3) := by decide +kernel
theorem dX9_wouldSense_35 : decode cX9_wouldSense 35 = .ok (.iconst 0, 1) := by decide +kernel
theorem dX9_wouldSense_36 : decode cX9_wouldSense 36 = .ok (.ireturn, 1) := by decide +kernel
theorem dX9_closesCorner_0 : decode cX9_closesCorner 0 = .ok (.iload_n 1, 1) := by decide +kernel
theorem dX9_closesCorner_1 : decode cX9_closesCorner 1 = .ok (.aload_n 0, 1) := by decide +kernel
theorem dX9_closesCorner_2 : decode cX9_closesCorner 2 = .ok (.getfield 7, 3) := by decide +kernel
theorem dX9_closesCorner_5 : decode cX9_closesCorner 5 = .ok (.iconst 1, 1) := by decide +kernel
theorem dX9_closesCorner_6 : decode cX9_closesCorner 6 = .ok (.iaload, 1) := by decide +kernel
theorem dX9_closesCorner_7 : decode cX9_closesCorner 7 = .ok (.idiv, 1) := by decide +kernel
theorem dX9_closesCorner_8 : decode cX9_closesCorner 8 = .ok (.istore_n 2, 1) := by decide +kernel
theorem dX9_closesCorner_9 : decode cX9_closesCorner 9 = .ok (.iload_n 1, 1) := by decide +kernel
theorem dX9_closesCorner_10 : decode cX9_closesCorner 10 = .ok (.aload_n 0, 1) := by decide +kernel
theorem dX9_closesCorner_11 : decode cX9_closesCorner 11 = .ok (.getfield 7, 3) := by decide +kernel
theorem dX9_closesCorner_14 : decode cX9_closesCorner 14 = .ok (.iconst 1, 1) := by decide +kernel
theorem dX9_closesCorner_15 : decode cX9_closesCorner 15 = .ok (.iaload, 1) := by decide +kernel
theorem dX9_closesCorner_16 : decode cX9_closesCorner 16 = .ok (.irem, 1) := by decide +kernel
theorem dX9_closesCorner_17 : decode cX9_closesCorner 17 = .ok (.istore_n 3, 1) := by decide +kernel
theorem dX9_closesCorner_18 : decode cX9_closesCorner 18 = .ok (.iconst 0, 1) := by decide +kernel
theorem dX9_closesCorner_19 : decode cX9_closesCorner 19 = .ok (.istore 4, 2) := by decide +kernel
theorem dX9_closesCorner_21 : decode cX9_closesCorner 21 = .ok (.iconst 0, 1) := by decide +kernel
theorem dX9_closesCorner_22 : decode cX9_closesCorner 22 = .ok (.istore 5, 2) := by decide +kernel
theorem dX9_closesCorner_24 : decode cX9_closesCorner 24 = .ok (.iload 5, 2) := by decide +kernel
theorem dX9_closesCorner_26 : decode cX9_closesCorner 26 = .ok (.aload_n 0, 1) := by decide +kernel
theorem dX9_closesCorner_27 : decode cX9_closesCorner 27 = .ok (.getfield 7, 3) := by decide +kernel
theorem dX9_closesCorner_30 : decode cX9_closesCorner 30 = .ok (.iconst 0, 1) := by decide +kernel
theorem dX9_closesCorner_31 : decode cX9_closesCorner 31 = .ok (.iaload, 1) := by decide +kernel
theorem dX9_closesCorner_32 : decode cX9_closesCorner 32 = .ok (.if_icmp .ge 108, 3) := by decide +kernel
theorem dX9_closesCorner_35 : decode cX9_closesCorner 35 = .ok (.iconst 0, 1) := by decide +kernel
theorem dX9_closesCorner_36 : decode cX9_closesCorner 36 = .ok (.istore 6, 2) := by decide +kernel
theorem dX9_closesCorner_38 : decode cX9_closesCorner 38 = .ok (.iload 6, 2) := by decide +kernel
theorem dX9_closesCorner_40 : decode cX9_closesCorner 40 = .ok (.aload_n 0, 1) := by decide +kernel
theorem dX9_closesCorner_41 : decode cX9_closesCorner 41 = .ok (.getfield 7, 3) := by decide +kernel
theorem dX9_closesCorner_44 : decode cX9_closesCorner 44 = .ok (.iconst 1, 1) := by decide +kernel
theorem dX9_closesCorner_45 : decode cX9_closesCorner 45 = .ok (.iaload, 1) := by decide +kernel
theorem dX9_closesCorner_46 : decode cX9_closesCorner 46 = .ok (.if_icmp .ge 88, 3) := by decide +kernel
theorem dX9_closesCorner_49 : decode cX9_closesCorner 49 = .ok (.iload 5, 2) := by decide +kernel
theorem dX9_closesCorner_51 : decode cX9_closesCorner 51 = .ok (.iload_n 2, 1) := by decide +kernel
theorem dX9_closesCorner_52 : decode cX9_closesCorner 52 = .ok (.if_icmp .eq 82, 3) := by decide +kernel
theorem dX9_closesCorner_55 : decode cX9_closesCorner 55 = .ok (.iload 4, 2) := by decide +kernel
theorem dX9_closesCorner_57 : decode cX9_closesCorner 57 = .ok (.ifCond .ne 64, 3) := by decide +kernel
theorem dX9_closesCorner_60 : decode cX9_closesCorner 60 = .ok (.iload 6, 2) := by decide +kernel
theorem dX9_closesCorner_62 : decode cX9_closesCorner 62 = .ok (.iload_n 3, 1) := by decide +kernel
theorem dX9_closesCorner_63 : decode cX9_closesCorner 63 = .ok (.if_icmp .eq 62, 3) := by decide +kernel
theorem dX9_closesCorner_66 : decode cX9_closesCorner 66 = .ok (.aload_n 0, 1) := by decide +kernel
theorem dX9_closesCorner_67 : decode cX9_closesCorner 67 = .ok (.aload_n 0, 1) := by decide +kernel
theorem dX9_closesCorner_68 : decode cX9_closesCorner 68 = .ok (.getfield 7, 3) := by decide +kernel
theorem dX9_closesCorner_71 : decode cX9_closesCorner 71 = .ok (.iconst 1, 1) := by decide +kernel
theorem dX9_closesCorner_72 : decode cX9_closesCorner 72 = .ok (.iaload, 1) := by decide +kernel
theorem dX9_closesCorner_73 : decode cX9_closesCorner 73 = .ok (.iload_n 2, 1) := by decide +kernel
theorem dX9_closesCorner_74 : decode cX9_closesCorner 74 = .ok (.imul, 1) := by decide +kernel
theorem dX9_closesCorner_75 : decode cX9_closesCorner 75 = .ok (.iload 6, 2) := by decide +kernel
theorem dX9_closesCorner_77 : decode cX9_closesCorner 77 = .ok (.iadd, 1) := by decide +kernel
theorem dX9_closesCorner_78 : decode cX9_closesCorner 78 = .ok (.invokevirtual 76, 3) := by decide +kernel
theorem dX9_closesCorner_81 : decode cX9_closesCorner 81 = .ok (.ifCond .eq 44, 3) := by decide +kernel
theorem dX9_closesCorner_84 : decode cX9_closesCorner 84 = .ok (.aload_n 0, 1) := by decide +kernel
theorem dX9_closesCorner_85 : decode cX9_closesCorner 85 = .ok (.aload_n 0, 1) := by decide +kernel
theorem dX9_closesCorner_86 : decode cX9_closesCorner 86 = .ok (.getfield 7, 3) := by decide +kernel
theorem dX9_closesCorner_89 : decode cX9_closesCorner 89 = .ok (.iconst 1, 1) := by decide +kernel
theorem dX9_closesCorner_90 : decode cX9_closesCorner 90 = .ok (.iaload, 1) := by decide +kernel
theorem dX9_closesCorner_91 : decode cX9_closesCorner 91 = .ok (.iload 5, 2) := by decide +kernel
theorem dX9_closesCorner_93 : decode cX9_closesCorner 93 = .ok (.imul, 1) := by decide +kernel
theorem dX9_closesCorner_94 : decode cX9_closesCorner 94 = .ok (.iload_n 3, 1) := by decide +kernel
theorem dX9_closesCorner_95 : decode cX9_closesCorner 95 = .ok (.iadd, 1) := by decide +kernel
theorem dX9_closesCorner_96 : decode cX9_closesCorner 96 = .ok (.invokevirtual 76, 3) := by decide +kernel
theorem dX9_closesCorner_99 : decode cX9_closesCorner 99 = .ok (.ifCond .eq 26, 3) := by decide +kernel
theorem dX9_closesCorner_102 : decode cX9_closesCorner 102 = .ok (.aload_n 0, 1) := by decide +kernel
theorem dX9_closesCorner_103 : decode cX9_closesCorner 103 = .ok (.aload_n 0, 1) := by decide +kernel
theorem dX9_closesCorner_104 : decode cX9_closesCorner 104 = .ok (.getfield 7, 3) := by decide +kernel
theorem dX9_closesCorner_107 : decode cX9_closesCorner 107 = .ok (.iconst 1, 1) := by decide +kernel
theorem dX9_closesCorner_108 : decode cX9_closesCorner 108 = .ok (.iaload, 1) := by decide +kernel
theorem dX9_closesCorner_109 : decode cX9_closesCorner 109 = .ok (.iload 5, 2) := by decide +kernel
theorem dX9_closesCorner_111 : decode cX9_closesCorner 111 = .ok (.imul, 1) := by decide +kernel
theorem dX9_closesCorner_112 : decode cX9_closesCorner 112 = .ok (.iload 6, 2) := by decide +kernel
theorem dX9_closesCorner_114 : decode cX9_closesCorner 114 = .ok (.iadd, 1) := by decide +kernel
theorem dX9_closesCorner_115 : decode cX9_closesCorner 115 = .ok (.invokevirtual 76, 3) := by decide +kernel
theorem dX9_closesCorner_118 : decode cX9_closesCorner 118 = .ok (.ifCond .eq 7, 3) := by decide +kernel
theorem dX9_closesCorner_121 : decode cX9_closesCorner 121 = .ok (.iconst 1, 1) := by decide +kernel
theorem dX9_closesCorner_122 : decode cX9_closesCorner 122 = .ok (.goto 4, 3) := by decide +kernel
theorem dX9_closesCorner_125 : decode cX9_closesCorner 125 = .ok (.iconst 0, 1) := by decide +kernel
theorem dX9_closesCorner_126 : decode cX9_closesCorner 126 = .ok (.istore 4, 2) := by decide +kernel
theorem dX9_closesCorner_128 : decode cX9_closesCorner 128 = .ok (.iinc 6 1, 3) := by decide +kernel
theorem dX9_closesCorner_131 : decode cX9_closesCorner 131 = .ok (.goto (-93), 3) := by decide +kernel
theorem dX9_closesCorner_134 : decode cX9_closesCorner 134 = .ok (.iinc 5 1, 3) := by decide +kernel
theorem dX9_closesCorner_137 : decode cX9_closesCorner 137 = .ok (.goto (-113), 3) := by decide +kernel
theorem dX9_closesCorner_140 : decode cX9_closesCorner 140 = .ok (.iload 4, 2) := by decide +kernel
theorem dX9_closesCorner_142 : decode cX9_closesCorner 142 = .ok (.ireturn, 1) := by decide +kernel
theorem dX9_isOn_0 : decode cX9_isOn 0 = .ok (.aload_n 0, 1) := by decide +kernel
theorem dX9_isOn_1 : decode cX9_isOn 1 = .ok (.getfield 7, 3) := by decide +kernel
theorem dX9_isOn_4 : decode cX9_isOn 4 = .ok (.iconst 5, 1) := by decide +kernel
theorem dX9_isOn_5 : decode cX9_isOn 5 = .ok (.iload_n 1, 1) := by decide +kernel
theorem dX9_isOn_6 : decode cX9_isOn 6 = .ok (.iadd, 1) := by decide +kernel
theorem dX9_isOn_7 : decode cX9_isOn 7 = .ok (.iaload, 1) := by decide +kernel
theorem dX9_isOn_8 : decode cX9_isOn 8 = .ok (.istore_n 2, 1) := by decide +kernel
theorem dX9_isOn_9 : decode cX9_isOn 9 = .ok (.iload_n 2, 1) := by decide +kernel
theorem dX9_isOn_10 : decode cX9_isOn 10 = .ok (.ifCond .lt 27, 3) := by decide +kernel
theorem dX9_isOn_13 : decode cX9_isOn 13 = .ok (.aload_n 0, 1) := by decide +kernel
theorem dX9_isOn_14 : decode cX9_isOn 14 = .ok (.iload_n 2, 1) := by decide +kernel
theorem dX9_isOn_15 : decode cX9_isOn 15 = .ok (.invokevirtual 76, 3) := by decide +kernel
theorem dX9_isOn_18 : decode cX9_isOn 18 = .ok (.ifCond .eq 19, 3) := by decide +kernel
theorem dX9_isOn_21 : decode cX9_isOn 21 = .ok (.aload_n 0, 1) := by decide +kernel
theorem dX9_isOn_22 : decode cX9_isOn 22 = .ok (.getfield 7, 3) := by decide +kernel
theorem dX9_isOn_25 : decode cX9_isOn 25 = .ok (.bipush 116, 2) := by decide +kernel
theorem dX9_isOn_27 : decode cX9_isOn 27 = .ok (.iload_n 2, 1) := by decide +kernel
theorem dX9_isOn_28 : decode cX9_isOn 28 = .ok (.iadd, 1) := by decide +kernel
theorem dX9_isOn_29 : decode cX9_isOn 29 = .ok (.iaload, 1) := by decide +kernel
theorem dX9_isOn_30 : decode cX9_isOn 30 = .ok (.ifCond .ne 7, 3) := by decide +kernel
theorem dX9_isOn_33 : decode cX9_isOn 33 = .ok (.iconst 1, 1) := by decide +kernel
theorem dX9_isOn_34 : decode cX9_isOn 34 = .ok (.goto 4, 3) := by decide +kernel
theorem dX9_isOn_37 : decode cX9_isOn 37 = .ok (.iconst 0, 1) := by decide +kernel
theorem dX9_isOn_38 : decode cX9_isOn 38 = .ok (.ireturn, 1) := by decide +kernel
theorem dX9_step_0 : decode cX9_step 0 = .ok (.aload_n 0, 1) := by decide +kernel
theorem dX9_step_1 : decode cX9_step 1 = .ok (.getfield 7, 3) := by decide +kernel
theorem dX9_step_4 : decode cX9_step 4 = .ok (.iconst 1, 1) := by decide +kernel
theorem dX9_step_5 : decode cX9_step 5 = .ok (.iaload, 1) := by decide +kernel
theorem dX9_step_6 : decode cX9_step 6 = .ok (.istore_n 1, 1) := by decide +kernel
theorem dX9_step_7 : decode cX9_step 7 = .ok (.aload_n 0, 1) := by decide +kernel
theorem dX9_step_8 : decode cX9_step 8 = .ok (.getfield 7, 3) := by decide +kernel
theorem dX9_step_11 : decode cX9_step 11 = .ok (.iconst 2, 1) := by decide +kernel
theorem dX9_step_12 : decode cX9_step 12 = .ok (.iaload, 1) := by decide +kernel
theorem dX9_step_13 : decode cX9_step 13 = .ok (.aload_n 0, 1) := by decide +kernel
theorem dX9_step_14 : decode cX9_step 14 = .ok (.getfield 7, 3) := by decide +kernel
theorem dX9_step_17 : decode cX9_step 17 = .ok (.iconst 0, 1) := by decide +kernel
theorem dX9_step_18 : decode cX9_step 18 = .ok (.iaload, 1) := by decide +kernel
theorem dX9_step_19 : decode cX9_step 19 = .ok (.irem, 1) := by decide +kernel
theorem dX9_step_20 : decode cX9_step 20 = .ok (.iload_n 1, 1) := by decide +kernel
theorem dX9_step_21 : decode cX9_step 21 = .ok (.imul, 1) := by decide +kernel
theorem dX9_step_22 : decode cX9_step 22 = .ok (.istore_n 2, 1) := by decide +kernel
theorem dX9_step_23 : decode cX9_step 23 = .ok (.aload_n 0, 1) := by decide +kernel
theorem dX9_step_24 : decode cX9_step 24 = .ok (.iload_n 2, 1) := by decide +kernel
theorem dX9_step_25 : decode cX9_step 25 = .ok (.iload_n 1, 1) := by decide +kernel
theorem dX9_step_26 : decode cX9_step 26 = .ok (.idiv, 1) := by decide +kernel
theorem dX9_step_27 : decode cX9_step 27 = .ok (.invokevirtual 107, 3) := by decide +kernel
theorem dX9_step_30 : decode cX9_step 30 = .ok (.aload_n 0, 1) := by decide +kernel
theorem dX9_step_31 : decode cX9_step 31 = .ok (.getfield 104, 3) := by decide +kernel
theorem dX9_step_34 : decode cX9_step 34 = .ok (.istore_n 3, 1) := by decide +kernel
theorem dX9_step_35 : decode cX9_step 35 = .ok (.iconst 0, 1) := by decide +kernel
theorem dX9_step_36 : decode cX9_step 36 = .ok (.istore 4, 2) := by decide +kernel
theorem dX9_step_38 : decode cX9_step 38 = .ok (.iconst 0, 1) := by decide +kernel
theorem dX9_step_39 : decode cX9_step 39 = .ok (.istore 5, 2) := by decide +kernel
theorem dX9_step_41 : decode cX9_step 41 = .ok (.iconst 0, 1) := by decide +kernel
theorem dX9_step_42 : decode cX9_step 42 = .ok (.istore 6, 2) := by decide +kernel
theorem dX9_step_44 : decode cX9_step 44 = .ok (.iload 6, 2) := by decide +kernel
theorem dX9_step_46 : decode cX9_step 46 = .ok (.iload_n 1, 1) := by decide +kernel
theorem dX9_step_47 : decode cX9_step 47 = .ok (.if_icmp .ge 40, 3) := by decide +kernel
theorem dX9_step_50 : decode cX9_step 50 = .ok (.aload_n 0, 1) := by decide +kernel
theorem dX9_step_51 : decode cX9_step 51 = .ok (.iload_n 2, 1) := by decide +kernel
theorem dX9_step_52 : decode cX9_step 52 = .ok (.iload 6, 2) := by decide +kernel
theorem dX9_step_54 : decode cX9_step 54 = .ok (.iadd, 1) := by decide +kernel
theorem dX9_step_55 : decode cX9_step 55 = .ok (.invokevirtual 76, 3) := by decide +kernel
theorem dX9_step_58 : decode cX9_step 58 = .ok (.ifCond .eq 23, 3) := by decide +kernel
theorem dX9_step_61 : decode cX9_step 61 = .ok (.iload_n 3, 1) := by decide +kernel
theorem dX9_step_62 : decode cX9_step 62 = .ok (.iload 6, 2) := by decide +kernel
theorem dX9_step_64 : decode cX9_step 64 = .ok (.ishr, 1) := by decide +kernel
theorem dX9_step_65 : decode cX9_step 65 = .ok (.iconst 1, 1) := by decide +kernel
theorem dX9_step_66 : decode cX9_step 66 = .ok (.iand, 1) := by decide +kernel
theorem dX9_step_67 : decode cX9_step 67 = .ok (.ifCond .ne 14, 3) := by decide +kernel
theorem dX9_step_70 : decode cX9_step 70 = .ok (.aload_n 0, 1) := by decide +kernel
theorem dX9_step_71 : decode cX9_step 71 = .ok (.iload_n 2, 1) := by decide +kernel
theorem dX9_step_72 : decode cX9_step 72 = .ok (.iload 6, 2) := by decide +kernel
theorem dX9_step_74 : decode cX9_step 74 = .ok (.iadd, 1) := by decide +kernel
theorem dX9_step_75 : decode cX9_step 75 = .ok (.invokevirtual 111, 3) := by decide +kernel
theorem dX9_step_78 : decode cX9_step 78 = .ok (.iinc 4 1, 3) := by decide +kernel
theorem dX9_step_81 : decode cX9_step 81 = .ok (.iinc 6 1, 3) := by decide +kernel
theorem dX9_step_84 : decode cX9_step 84 = .ok (.goto (-40), 3) := by decide +kernel
theorem dX9_step_87 : decode cX9_step 87 = .ok (.iconst 0, 1) := by decide +kernel
theorem dX9_step_88 : decode cX9_step 88 = .ok (.istore 6, 2) := by decide +kernel
theorem dX9_step_90 : decode cX9_step 90 = .ok (.iload 6, 2) := by decide +kernel
theorem dX9_step_92 : decode cX9_step 92 = .ok (.iload_n 1, 1) := by decide +kernel
theorem dX9_step_93 : decode cX9_step 93 = .ok (.if_icmp .ge 57, 3) := by decide +kernel
theorem dX9_step_96 : decode cX9_step 96 = .ok (.aload_n 0, 1) := by decide +kernel
theorem dX9_step_97 : decode cX9_step 97 = .ok (.iload_n 2, 1) := by decide +kernel
theorem dX9_step_98 : decode cX9_step 98 = .ok (.iload 6, 2) := by decide +kernel
theorem dX9_step_100 : decode cX9_step 100 = .ok (.iadd, 1) := by decide +kernel
theorem dX9_step_101 : decode cX9_step 101 = .ok (.invokevirtual 76, 3) := by decide +kernel
theorem dX9_step_104 : decode cX9_step 104 = .ok (.ifCond .ne 40, 3) := by decide +kernel
theorem dX9_step_107 : decode cX9_step 107 = .ok (.iload_n 3, 1) := by decide +kernel
theorem dX9_step_108 : decode cX9_step 108 = .ok (.iload 6, 2) := by decide +kernel
theorem dX9_step_110 : decode cX9_step 110 = .ok (.ishr, 1) := by decide +kernel
theorem dX9_step_111 : decode cX9_step 111 = .ok (.iconst 1, 1) := by decide +kernel
theorem dX9_step_112 : decode cX9_step 112 = .ok (.iand, 1) := by decide +kernel
theorem dX9_step_113 : decode cX9_step 113 = .ok (.iconst 1, 1) := by decide +kernel
theorem dX9_step_114 : decode cX9_step 114 = .ok (.if_icmp .ne 30, 3) := by decide +kernel
theorem dX9_step_117 : decode cX9_step 117 = .ok (.aload_n 0, 1) := by decide +kernel
theorem dX9_step_118 : decode cX9_step 118 = .ok (.getfield 7, 3) := by decide +kernel
theorem dX9_step_121 : decode cX9_step 121 = .ok (.bipush 68, 2) := by decide +kernel
theorem dX9_step_123 : decode cX9_step 123 = .ok (.iload_n 2, 1) := by decide +kernel
theorem dX9_step_124 : decode cX9_step 124 = .ok (.iadd, 1) := by decide +kernel
theorem dX9_step_125 : decode cX9_step 125 = .ok (.iload 6, 2) := by decide +kernel
theorem dX9_step_127 : decode cX9_step 127 = .ok (.iadd, 1) := by decide +kernel
theorem dX9_step_128 : decode cX9_step 128 = .ok (.aload_n 0, 1) := by decide +kernel
theorem dX9_step_129 : decode cX9_step 129 = .ok (.getfield 7, 3) := by decide +kernel
theorem dX9_step_132 : decode cX9_step 132 = .ok (.iconst 2, 1) := by decide +kernel
theorem dX9_step_133 : decode cX9_step 133 = .ok (.iaload, 1) := by decide +kernel
theorem dX9_step_134 : decode cX9_step 134 = .ok (.iastore, 1) := by decide +kernel
theorem dX9_step_135 : decode cX9_step 135 = .ok (.iload 5, 2) := by decide +kernel
theorem dX9_step_137 : decode cX9_step 137 = .ok (.iconst 1, 1) := by decide +kernel
theorem dX9_step_138 : decode cX9_step 138 = .ok (.iload 6, 2) := by decide +kernel
theorem dX9_step_140 : decode cX9_step 140 = .ok (.ishl, 1) := by decide +kernel
theorem dX9_step_141 : decode cX9_step 141 = .ok (.ior, 1) := by decide +kernel
theorem dX9_step_142 : decode cX9_step 142 = .ok (.istore 5, 2) := by decide +kernel
theorem dX9_step_144 : decode cX9_step 144 = .ok (.iinc 6 1, 3) := by decide +kernel
theorem dX9_step_147 : decode cX9_step 147 = .ok (.goto (-57), 3) := by decide +kernel
theorem dX9_step_150 : decode cX9_step 150 = .ok (.iconst 0, 1) := by decide +kernel
theorem dX9_step_151 : decode cX9_step 151 = .ok (.istore 6, 2) := by decide +kernel
theorem dX9_step_153 : decode cX9_step 153 = .ok (.iload 6, 2) := by decide +kernel
theorem dX9_step_155 : decode cX9_step 155 = .ok (.iload_n 1, 1) := by decide +kernel
theorem dX9_step_156 : decode cX9_step 156 = .ok (.if_icmp .ge 48, 3) := by decide +kernel
theorem dX9_step_159 : decode cX9_step 159 = .ok (.iload 5, 2) := by decide +kernel
theorem dX9_step_161 : decode cX9_step 161 = .ok (.iload 6, 2) := by decide +kernel
theorem dX9_step_163 : decode cX9_step 163 = .ok (.ishr, 1) := by decide +kernel
theorem dX9_step_164 : decode cX9_step 164 = .ok (.iconst 1, 1) := by decide +kernel
theorem dX9_step_165 : decode cX9_step 165 = .ok (.iand, 1) := by decide +kernel
theorem dX9_step_166 : decode cX9_step 166 = .ok (.iconst 1, 1) := by decide +kernel
theorem dX9_step_167 : decode cX9_step 167 = .ok (.if_icmp .ne 31, 3) := by decide +kernel
theorem dX9_step_170 : decode cX9_step 170 = .ok (.aload_n 0, 1) := by decide +kernel
theorem dX9_step_171 : decode cX9_step 171 = .ok (.getfield 7, 3) := by decide +kernel
theorem dX9_step_174 : decode cX9_step 174 = .ok (.bipush 116, 2) := by decide +kernel
theorem dX9_step_176 : decode cX9_step 176 = .ok (.iload_n 2, 1) := by decide +kernel
theorem dX9_step_177 : decode cX9_step 177 = .ok (.iadd, 1) := by decide +kernel
theorem dX9_step_178 : decode cX9_step 178 = .ok (.iload 6, 2) := by decide +kernel
theorem dX9_step_180 : decode cX9_step 180 = .ok (.iadd, 1) := by decide +kernel
theorem dX9_step_181 : decode cX9_step 181 = .ok (.aload_n 0, 1) := by decide +kernel
theorem dX9_step_182 : decode cX9_step 182 = .ok (.iload_n 2, 1) := by decide +kernel
theorem dX9_step_183 : decode cX9_step 183 = .ok (.iload 6, 2) := by decide +kernel
theorem dX9_step_185 : decode cX9_step 185 = .ok (.iadd, 1) := by decide +kernel
theorem dX9_step_186 : decode cX9_step 186 = .ok (.invokevirtual 114, 3) := by decide +kernel
theorem dX9_step_189 : decode cX9_step 189 = .ok (.ifCond .eq 7, 3) := by decide +kernel
theorem dX9_step_192 : decode cX9_step 192 = .ok (.iconst 1, 1) := by decide +kernel
theorem dX9_step_193 : decode cX9_step 193 = .ok (.goto 4, 3) := by decide +kernel
theorem dX9_step_196 : decode cX9_step 196 = .ok (.iconst 0, 1) := by decide +kernel
theorem dX9_step_197 : decode cX9_step 197 = .ok (.iastore, 1) := by decide +kernel
theorem dX9_step_198 : decode cX9_step 198 = .ok (.iinc 6 1, 3) := by decide +kernel
theorem dX9_step_201 : decode cX9_step 201 = .ok (.goto (-48), 3) := by decide +kernel
theorem dX9_step_204 : decode cX9_step 204 = .ok (.iconst 0, 1) := by decide +kernel
theorem dX9_step_205 : decode cX9_step 205 = .ok (.istore 6, 2) := by decide +kernel
theorem dX9_step_207 : decode cX9_step 207 = .ok (.iload 6, 2) := by decide +kernel
theorem dX9_step_209 : decode cX9_step 209 = .ok (.iload_n 1, 1) := by decide +kernel
theorem dX9_step_210 : decode cX9_step 210 = .ok (.if_icmp .ge 85, 3) := by decide +kernel
theorem dX9_step_213 : decode cX9_step 213 = .ok (.iload 5, 2) := by decide +kernel
theorem dX9_step_215 : decode cX9_step 215 = .ok (.iload 6, 2) := by decide +kernel
theorem dX9_step_217 : decode cX9_step 217 = .ok (.ishr, 1) := by decide +kernel
theorem dX9_step_218 : decode cX9_step 218 = .ok (.iconst 1, 1) := by decide +kernel
theorem dX9_step_219 : decode cX9_step 219 = .ok (.iand, 1) := by decide +kernel
theorem dX9_step_220 : decode cX9_step 220 = .ok (.iconst 1, 1) := by decide +kernel
theorem dX9_step_221 : decode cX9_step 221 = .ok (.if_icmp .ne 68, 3) := by decide +kernel
theorem dX9_step_224 : decode cX9_step 224 = .ok (.aload_n 0, 1) := by decide +kernel
theorem dX9_step_225 : decode cX9_step 225 = .ok (.getfield 7, 3) := by decide +kernel
theorem dX9_step_228 : decode cX9_step 228 = .ok (.sipush 164, 3) := by decide +kernel
theorem dX9_step_231 : decode cX9_step 231 = .ok (.iload_n 2, 1) := by decide +kernel
theorem dX9_step_232 : decode cX9_step 232 = .ok (.iadd, 1) := by decide +kernel
theorem dX9_step_233 : decode cX9_step 233 = .ok (.iload 6, 2) := by decide +kernel
theorem dX9_step_235 : decode cX9_step 235 = .ok (.iadd, 1) := by decide +kernel
theorem dX9_step_236 : decode cX9_step 236 = .ok (.aload_n 0, 1) := by decide +kernel
theorem dX9_step_237 : decode cX9_step 237 = .ok (.iconst 0, 1) := by decide +kernel
theorem dX9_step_238 : decode cX9_step 238 = .ok (.invokevirtual 117, 3) := by decide +kernel
theorem dX9_step_241 : decode cX9_step 241 = .ok (.ifCond .eq 7, 3) := by decide +kernel
theorem dX9_step_244 : decode cX9_step 244 = .ok (.iconst 1, 1) := by decide +kernel
theorem dX9_step_245 : decode cX9_step 245 = .ok (.goto 4, 3) := by decide +kernel
theorem dX9_step_248 : decode cX9_step 248 = .ok (.iconst 0, 1) := by decide +kernel
theorem dX9_step_249 : decode cX9_step 249 = .ok (.aload_n 0, 1) := by decide +kernel
theorem dX9_step_250 : decode cX9_step 250 = .ok (.iconst 1, 1) := by decide +kernel
theorem dX9_step_251 : decode cX9_step 251 = .ok (.invokevirtual 117, 3) := by decide +kernel
theorem dX9_step_254 : decode cX9_step 254 = .ok (.ifCond .eq 7, 3) := by decide +kernel
theorem dX9_step_257 : decode cX9_step 257 = .ok (.iconst 2, 1) := by decide +kernel
theorem dX9_step_258 : decode cX9_step 258 = .ok (.goto 4, 3) := by decide +kernel
theorem dX9_step_261 : decode cX9_step 261 = .ok (.iconst 0, 1) := by decide +kernel
theorem dX9_step_262 : decode cX9_step 262 = .ok (.iadd, 1) := by decide +kernel
theorem dX9_step_263 : decode cX9_step 263 = .ok (.iastore, 1) := by decide +kernel
theorem dX9_step_264 : decode cX9_step 264 = .ok (.aload_n 0, 1) := by decide +kernel
theorem dX9_step_265 : decode cX9_step 265 = .ok (.getfield 7, 3) := by decide +kernel
theorem dX9_step_268 : decode cX9_step 268 = .ok (.sipush 212, 3) := by decide +kernel
theorem dX9_step_271 : decode cX9_step 271 = .ok (.iload_n 2, 1) := by decide +kernel
theorem dX9_step_272 : decode cX9_step 272 = .ok (.iadd, 1) := by decide +kernel
theorem dX9_step_273 : decode cX9_step 273 = .ok (.iload 6, 2) := by decide +kernel
theorem dX9_step_275 : decode cX9_step 275 = .ok (.iadd, 1) := by decide +kernel
theorem dX9_step_276 : decode cX9_step 276 = .ok (.aload_n 0, 1) := by decide +kernel
theorem dX9_step_277 : decode cX9_step 277 = .ok (.getfield 7, 3) := by decide +kernel
theorem dX9_step_280 : decode cX9_step 280 = .ok (.bipush 20, 2) := by decide +kernel
theorem dX9_step_282 : decode cX9_step 282 = .ok (.iload_n 2, 1) := by decide +kernel
theorem dX9_step_283 : decode cX9_step 283 = .ok (.iadd, 1) := by decide +kernel
theorem dX9_step_284 : decode cX9_step 284 = .ok (.iload 6, 2) := by decide +kernel
theorem dX9_step_286 : decode cX9_step 286 = .ok (.iadd, 1) := by decide +kernel
theorem dX9_step_287 : decode cX9_step 287 = .ok (.iaload, 1) := by decide +kernel
theorem dX9_step_288 : decode cX9_step 288 = .ok (.iastore, 1) := by decide +kernel
theorem dX9_step_289 : decode cX9_step 289 = .ok (.iinc 6 1, 3) := by decide +kernel
theorem dX9_step_292 : decode cX9_step 292 = .ok (.goto (-85), 3) := by decide +kernel
theorem dX9_step_295 : decode cX9_step 295 = .ok (.aload_n 0, 1) := by decide +kernel
theorem dX9_step_296 : decode cX9_step 296 = .ok (.getfield 7, 3) := by decide +kernel
theorem dX9_step_299 : decode cX9_step 299 = .ok (.iconst 2, 1) := by decide +kernel
theorem dX9_step_300 : decode cX9_step 300 = .ok (.dup2, 1) := by decide +kernel
theorem dX9_step_301 : decode cX9_step 301 = .ok (.iaload, 1) := by decide +kernel
theorem dX9_step_302 : decode cX9_step 302 = .ok (.iconst 1, 1) := by decide +kernel
theorem dX9_step_303 : decode cX9_step 303 = .ok (.iadd, 1) := by decide +kernel
theorem dX9_step_304 : decode cX9_step 304 = .ok (.iastore, 1) := by decide +kernel
theorem dX9_step_305 : decode cX9_step 305 = .ok (.iload 4, 2) := by decide +kernel
theorem dX9_step_307 : decode cX9_step 307 = .ok (.ireturn, 1) := by decide +kernel
theorem dX9_size_0 : decode cX9_size 0 = .ok (.fload_n 0, 1) := by decide +kernel
theorem dX9_size_1 : decode cX9_size 1 = .ok (.fconst 0, 1) := by decide +kernel
theorem dX9_size_2 : decode cX9_size 2 = .ok (.fcmp .g, 1) := by decide +kernel
theorem dX9_size_3 : decode cX9_size 3 = .ok (.ifCond .ge 8, 3) := by decide +kernel
theorem dX9_size_6 : decode cX9_size 6 = .ok (.fload_n 0, 1) := by decide +kernel
theorem dX9_size_7 : decode cX9_size 7 = .ok (.fneg, 1) := by decide +kernel
theorem dX9_size_8 : decode cX9_size 8 = .ok (.goto 4, 3) := by decide +kernel
theorem dX9_size_11 : decode cX9_size 11 = .ok (.fload_n 0, 1) := by decide +kernel
theorem dX9_size_12 : decode cX9_size 12 = .ok (.freturn, 1) := by decide +kernel
theorem dX9_gap_0 : decode cX9_gap 0 = .ok (.aload_n 0, 1) := by decide +kernel
theorem dX9_gap_1 : decode cX9_gap 1 = .ok (.getfield 7, 3) := by decide +kernel
theorem dX9_gap_4 : decode cX9_gap 4 = .ok (.iconst 3, 1) := by decide +kernel
theorem dX9_gap_5 : decode cX9_gap 5 = .ok (.iload_n 1, 1) := by decide +kernel
theorem dX9_gap_6 : decode cX9_gap 6 = .ok (.iadd, 1) := by decide +kernel
theorem dX9_gap_7 : decode cX9_gap 7 = .ok (.iaload, 1) := by decide +kernel
theorem dX9_gap_8 : decode cX9_gap 8 = .ok (.istore_n 3, 1) := by decide +kernel
theorem dX9_gap_9 : decode cX9_gap 9 = .ok (.iload_n 3, 1) := by decide +kernel
theorem dX9_gap_10 : decode cX9_gap 10 = .ok (.ifCond .ge 8, 3) := by decide +kernel
theorem dX9_gap_13 : decode cX9_gap 13 = .ok (.bipush (-5), 2) := by decide +kernel
theorem dX9_gap_15 : decode cX9_gap 15 = .ok (.goto 17, 3) := by decide +kernel
theorem dX9_gap_18 : decode cX9_gap 18 = .ok (.iload_n 2, 1) := by decide +kernel
theorem dX9_gap_19 : decode cX9_gap 19 = .ok (.iload_n 3, 1) := by decide +kernel
theorem dX9_gap_20 : decode cX9_gap 20 = .ok (.if_icmp .ge 9, 3) := by decide +kernel
theorem dX9_gap_23 : decode cX9_gap 23 = .ok (.iload_n 3, 1) := by decide +kernel
theorem dX9_gap_24 : decode cX9_gap 24 = .ok (.iload_n 2, 1) := by decide +kernel
theorem dX9_gap_25 : decode cX9_gap 25 = .ok (.isub, 1) := by decide +kernel
theorem dX9_gap_26 : decode cX9_gap 26 = .ok (.goto 6, 3) := by decide +kernel
theorem dX9_gap_29 : decode cX9_gap 29 = .ok (.iload_n 2, 1) := by decide +kernel
theorem dX9_gap_30 : decode cX9_gap 30 = .ok (.iload_n 3, 1) := by decide +kernel
theorem dX9_gap_31 : decode cX9_gap 31 = .ok (.isub, 1) := by decide +kernel
theorem dX9_gap_32 : decode cX9_gap 32 = .ok (.ireturn, 1) := by decide +kernel
theorem dX9_off_0 : decode cX9_off 0 = .ok (.aload_n 0, 1) := by decide +kernel
theorem dX9_off_1 : decode cX9_off 1 = .ok (.getfield 22, 3) := by decide +kernel
theorem dX9_off_4 : decode cX9_off 4 = .ok (.iconst 0, 1) := by decide +kernel
theorem dX9_off_5 : decode cX9_off 5 = .ok (.iload_n 1, 1) := by decide +kernel
theorem dX9_off_6 : decode cX9_off 6 = .ok (.iadd, 1) := by decide +kernel
theorem dX9_off_7 : decode cX9_off 7 = .ok (.faload, 1) := by decide +kernel
theorem dX9_off_8 : decode cX9_off 8 = .ok (.fstore 4, 2) := by decide +kernel
theorem dX9_off_10 : decode cX9_off 10 = .ok (.iload_n 3, 1) := by decide +kernel
theorem dX9_off_11 : decode cX9_off 11 = .ok (.i2f, 1) := by decide +kernel
theorem dX9_off_12 : decode cX9_off 12 = .ok (.fload 4, 2) := by decide +kernel
theorem dX9_off_14 : decode cX9_off 14 = .ok (.fsub, 1) := by decide +kernel
theorem dX9_off_15 : decode cX9_off 15 = .ok (.invokestatic 120, 3) := by decide +kernel
theorem dX9_off_18 : decode cX9_off 18 = .ok (.fload 4, 2) := by decide +kernel
theorem dX9_off_20 : decode cX9_off 20 = .ok (.fdiv, 1) := by decide +kernel
theorem dX9_off_21 : decode cX9_off 21 = .ok (.fstore 5, 2) := by decide +kernel
theorem dX9_off_23 : decode cX9_off 23 = .ok (.aload_n 0, 1) := by decide +kernel
theorem dX9_off_24 : decode cX9_off 24 = .ok (.iload_n 1, 1) := by decide +kernel
theorem dX9_off_25 : decode cX9_off 25 = .ok (.iload_n 2, 1) := by decide +kernel
theorem dX9_off_26 : decode cX9_off 26 = .ok (.invokevirtual 124, 3) := by decide +kernel
theorem dX9_off_29 : decode cX9_off 29 = .ok (.istore 6, 2) := by decide +kernel
theorem dX9_off_31 : decode cX9_off 31 = .ok (.iload 6, 2) := by decide +kernel
theorem dX9_off_33 : decode cX9_off 33 = .ok (.ifCond .ge 6, 3) := by decide +kernel
theorem dX9_off_36 : decode cX9_off 36 = .ok (.fload 5, 2) := by decide +kernel
theorem dX9_off_38 : decode cX9_off 38 = .ok (.freturn, 1) := by decide +kernel
theorem dX9_off_39 : decode cX9_off 39 = .ok (.aload_n 0, 1) := by decide +kernel
theorem dX9_off_40 : decode cX9_off 40 = .ok (.getfield 22, 3) := by decide +kernel
theorem dX9_off_43 : decode cX9_off 43 = .ok (.iconst 2, 1) := by decide +kernel
theorem dX9_off_44 : decode cX9_off 44 = .ok (.iload_n 1, 1) := by decide +kernel
theorem dX9_off_45 : decode cX9_off 45 = .ok (.iadd, 1) := by decide +kernel
theorem dX9_off_46 : decode cX9_off 46 = .ok (.faload, 1) := by decide +kernel
theorem dX9_off_47 : decode cX9_off 47 = .ok (.fstore 7, 2) := by decide +kernel
theorem dX9_off_49 : decode cX9_off 49 = .ok (.fload 5, 2) := by decide +kernel
theorem dX9_off_51 : decode cX9_off 51 = .ok (.iload 6, 2) := by decide +kernel
theorem dX9_off_53 : decode cX9_off 53 = .ok (.i2f, 1) := by decide +kernel
theorem dX9_off_54 : decode cX9_off 54 = .ok (.fload 7, 2) := by decide +kernel
theorem dX9_off_56 : decode cX9_off 56 = .ok (.fsub, 1) := by decide +kernel
theorem dX9_off_57 : decode cX9_off 57 = .ok (.invokestatic 120, 3) := by decide +kernel
theorem dX9_off_60 : decode cX9_off 60 = .ok (.fload 7, 2) := by decide +kernel
theorem dX9_off_62 : decode cX9_off 62 = .ok (.fdiv, 1) := by decide +kernel
theorem dX9_off_63 : decode cX9_off 63 = .ok (.ldc 42, 2) := by decide +kernel
theorem dX9_off_65 : decode cX9_off 65 = .ok (.fmul, 1) := by decide +kernel
theorem dX9_off_66 : decode cX9_off 66 = .ok (.fadd, 1) := by decide +kernel
theorem dX9_off_67 : decode cX9_off 67 = .ok (.freturn, 1) := by decide +kernel
theorem dX9_learned_0 : decode cX9_learned 0 = .ok (.fload_n 1, 1) := by decide +kernel
theorem dX9_learned_1 : decode cX9_learned 1 = .ok (.iload_n 2, 1) := by decide +kernel
theorem dX9_learned_2 : decode cX9_learned 2 = .ok (.i2f, 1) := by decide +kernel
theorem dX9_learned_3 : decode cX9_learned 3 = .ok (.fload_n 1, 1) := by decide +kernel
theorem dX9_learned_4 : decode cX9_learned 4 = .ok (.fsub, 1) := by decide +kernel
theorem dX9_learned_5 : decode cX9_learned 5 = .ok (.aload_n 0, 1) := by decide +kernel
theorem dX9_learned_6 : decode cX9_learned 6 = .ok (.getfield 22, 3) := by decide +kernel
theorem dX9_learned_9 : decode cX9_learned 9 = .ok (.bipush 6, 2) := by decide +kernel
theorem dX9_learned_11 : decode cX9_learned 11 = .ok (.faload, 1) := by decide +kernel
theorem dX9_learned_12 : decode cX9_learned 12 = .ok (.fmul, 1) := by decide +kernel
theorem dX9_learned_13 : decode cX9_learned 13 = .ok (.fadd, 1) := by decide +kernel
theorem dX9_learned_14 : decode cX9_learned 14 = .ok (.fstore_n 3, 1) := by decide +kernel
theorem dX9_learned_15 : decode cX9_learned 15 = .ok (.fload_n 3, 1) := by decide +kernel
theorem dX9_learned_16 : decode cX9_learned 16 = .ok (.ldc 42, 2) := by decide +kernel
theorem dX9_learned_18 : decode cX9_learned 18 = .ok (.fcmp .g, 1) := by decide +kernel
theorem dX9_learned_19 : decode cX9_learned 19 = .ok (.ifCond .ge 8, 3) := by decide +kernel
theorem dX9_learned_22 : decode cX9_learned 22 = .ok (.ldc 42, 2) := by decide +kernel
theorem dX9_learned_24 : decode cX9_learned 24 = .ok (.goto 4, 3) := by decide +kernel
theorem dX9_learned_27 : decode cX9_learned 27 = .ok (.fload_n 3, 1) := by decide +kernel
theorem dX9_learned_28 : decode cX9_learned 28 = .ok (.freturn, 1) := by decide +kernel
theorem dX9_learn_0 : decode cX9_learn 0 = .ok (.aload_n 0, 1) := by decide +kernel
theorem dX9_learn_1 : decode cX9_learn 1 = .ok (.iload_n 1, 1) := by decide +kernel
theorem dX9_learn_2 : decode cX9_learn 2 = .ok (.iload_n 2, 1) := by decide +kernel
theorem dX9_learn_3 : decode cX9_learn 3 = .ok (.invokevirtual 124, 3) := by decide +kernel
theorem dX9_learn_6 : decode cX9_learn 6 = .ok (.istore 4, 2) := by decide +kernel
theorem dX9_learn_8 : decode cX9_learn 8 = .ok (.aload_n 0, 1) := by decide +kernel
theorem dX9_learn_9 : decode cX9_learn 9 = .ok (.getfield 22, 3) := by decide +kernel
theorem dX9_learn_12 : decode cX9_learn 12 = .ok (.iconst 0, 1) := by decide +kernel
theorem dX9_learn_13 : decode cX9_learn 13 = .ok (.iload_n 1, 1) := by decide +kernel
theorem dX9_learn_14 : decode cX9_learn 14 = .ok (.iadd, 1) := by decide +kernel
theorem dX9_learn_15 : decode cX9_learn 15 = .ok (.aload_n 0, 1) := by decide +kernel
theorem dX9_learn_16 : decode cX9_learn 16 = .ok (.aload_n 0, 1) := by decide +kernel
theorem dX9_learn_17 : decode cX9_learn 17 = .ok (.getfield 22, 3) := by decide +kernel
theorem dX9_learn_20 : decode cX9_learn 20 = .ok (.iconst 0, 1) := by decide +kernel
theorem dX9_learn_21 : decode cX9_learn 21 = .ok (.iload_n 1, 1) := by decide +kernel
theorem dX9_learn_22 : decode cX9_learn 22 = .ok (.iadd, 1) := by decide +kernel
theorem dX9_learn_23 : decode cX9_learn 23 = .ok (.faload, 1) := by decide +kernel
theorem dX9_learn_24 : decode cX9_learn 24 = .ok (.iload_n 3, 1) := by decide +kernel
theorem dX9_learn_25 : decode cX9_learn 25 = .ok (.invokevirtual 128, 3) := by decide +kernel
theorem dX9_learn_28 : decode cX9_learn 28 = .ok (.fastore, 1) := by decide +kernel
theorem dX9_learn_29 : decode cX9_learn 29 = .ok (.iload 4, 2) := by decide +kernel
theorem dX9_learn_31 : decode cX9_learn 31 = .ok (.ifCond .lt 25, 3) := by decide +kernel
theorem dX9_learn_34 : decode cX9_learn 34 = .ok (.aload_n 0, 1) := by decide +kernel
theorem dX9_learn_35 : decode cX9_learn 35 = .ok (.getfield 22, 3) := by decide +kernel
theorem dX9_learn_38 : decode cX9_learn 38 = .ok (.iconst 2, 1) := by decide +kernel
theorem dX9_learn_39 : decode cX9_learn 39 = .ok (.iload_n 1, 1) := by decide +kernel
theorem dX9_learn_40 : decode cX9_learn 40 = .ok (.iadd, 1) := by decide +kernel
theorem dX9_learn_41 : decode cX9_learn 41 = .ok (.aload_n 0, 1) := by decide +kernel
theorem dX9_learn_42 : decode cX9_learn 42 = .ok (.aload_n 0, 1) := by decide +kernel
theorem dX9_learn_43 : decode cX9_learn 43 = .ok (.getfield 22, 3) := by decide +kernel
theorem dX9_learn_46 : decode cX9_learn 46 = .ok (.iconst 2, 1) := by decide +kernel
theorem dX9_learn_47 : decode cX9_learn 47 = .ok (.iload_n 1, 1) := by decide +kernel
theorem dX9_learn_48 : decode cX9_learn 48 = .ok (.iadd, 1) := by decide +kernel
theorem dX9_learn_49 : decode cX9_learn 49 = .ok (.faload, 1) := by decide +kernel
theorem dX9_learn_50 : decode cX9_learn 50 = .ok (.iload 4, 2) := by decide +kernel
theorem dX9_learn_52 : decode cX9_learn 52 = .ok (.invokevirtual 128, 3) := by decide +kernel
theorem dX9_learn_55 : decode cX9_learn 55 = .ok (.fastore, 1) := by decide +kernel
theorem dX9_learn_56 : decode cX9_learn 56 = .ok (.aload_n 0, 1) := by decide +kernel
theorem dX9_learn_57 : decode cX9_learn 57 = .ok (.getfield 7, 3) := by decide +kernel
theorem dX9_learn_60 : decode cX9_learn 60 = .ok (.iconst 3, 1) := by decide +kernel
theorem dX9_learn_61 : decode cX9_learn 61 = .ok (.iload_n 1, 1) := by decide +kernel
theorem dX9_learn_62 : decode cX9_learn 62 = .ok (.iadd, 1) := by decide +kernel
theorem dX9_learn_63 : decode cX9_learn 63 = .ok (.iload_n 2, 1) := by decide +kernel
theorem dX9_learn_64 : decode cX9_learn 64 = .ok (.iastore, 1) := by decide +kernel
theorem dX9_learn_65 : decode cX9_learn 65 = .ok (.return_, 1) := by decide +kernel
theorem dX9_judged_0 : decode cX9_judged 0 = .ok (.aload_n 0, 1) := by decide +kernel
theorem dX9_judged_1 : decode cX9_judged 1 = .ok (.iload_n 1, 1) := by decide +kernel
theorem dX9_judged_2 : decode cX9_judged 2 = .ok (.invokevirtual 82, 3) := by decide +kernel
theorem dX9_judged_5 : decode cX9_judged 5 = .ok (.istore_n 2, 1) := by decide +kernel
theorem dX9_judged_6 : decode cX9_judged 6 = .ok (.aload_n 0, 1) := by decide +kernel
theorem dX9_judged_7 : decode cX9_judged 7 = .ok (.getfield 7, 3) := by decide +kernel
theorem dX9_judged_10 : decode cX9_judged 10 = .ok (.bipush 116, 2) := by decide +kernel
theorem dX9_judged_12 : decode cX9_judged 12 = .ok (.iload_n 1, 1) := by decide +kernel
theorem dX9_judged_13 : decode cX9_judged 13 = .ok (.iadd, 1) := by decide +kernel
theorem dX9_judged_14 : decode cX9_judged 14 = .ok (.iaload, 1) := by decide +kernel
theorem dX9_judged_15 : decode cX9_judged 15 = .ok (.iconst 1, 1) := by decide +kernel
theorem dX9_judged_16 : decode cX9_judged 16 = .ok (.if_icmp .ne 7, 3) := by decide +kernel
theorem dX9_judged_19 : decode cX9_judged 19 = .ok (.iconst 1, 1) := by decide +kernel
theorem dX9_judged_20 : decode cX9_judged 20 = .ok (.goto 4, 3) := by decide +kernel
theorem dX9_judged_23 : decode cX9_judged 23 = .ok (.iconst 0, 1) := by decide +kernel
theorem dX9_judged_24 : decode cX9_judged 24 = .ok (.istore_n 3, 1) := by decide +kernel
theorem dX9_judged_25 : decode cX9_judged 25 = .ok (.iload_n 2, 1) := by decide +kernel
theorem dX9_judged_26 : decode cX9_judged 26 = .ok (.ifCond .lt 13, 3) := by decide +kernel
theorem dX9_judged_29 : decode cX9_judged 29 = .ok (.iload_n 3, 1) := by decide +kernel
theorem dX9_judged_30 : decode cX9_judged 30 = .ok (.ifCond .eq 7, 3) := by decide +kernel
theorem dX9_judged_33 : decode cX9_judged 33 = .ok (.iconst 2, 1) := by decide +kernel
theorem dX9_judged_34 : decode cX9_judged 34 = .ok (.goto 4, 3) := by decide +kernel
theorem dX9_judged_37 : decode cX9_judged 37 = .ok (.iload_n 2, 1) := by decide +kernel
theorem dX9_judged_38 : decode cX9_judged 38 = .ok (.ireturn, 1) := by decide +kernel
theorem dX9_judged_39 : decode cX9_judged 39 = .ok (.aload_n 0, 1) := by decide +kernel
theorem dX9_judged_40 : decode cX9_judged 40 = .ok (.getfield 7, 3) := by decide +kernel
theorem dX9_judged_43 : decode cX9_judged 43 = .ok (.bipush 68, 2) := by decide +kernel
theorem dX9_judged_45 : decode cX9_judged 45 = .ok (.iload_n 1, 1) := by decide +kernel
theorem dX9_judged_46 : decode cX9_judged 46 = .ok (.iadd, 1) := by decide +kernel
theorem dX9_judged_47 : decode cX9_judged 47 = .ok (.iaload, 1) := by decide +kernel
theorem dX9_judged_48 : decode cX9_judged 48 = .ok (.istore 4, 2) := by decide +kernel
theorem dX9_judged_50 : decode cX9_judged 50 = .ok (.aload_n 0, 1) := by decide +kernel
theorem dX9_judged_51 : decode cX9_judged 51 = .ok (.getfield 7, 3) := by decide +kernel
theorem dX9_judged_54 : decode cX9_judged 54 = .ok (.iconst 2, 1) := by decide +kernel
theorem dX9_judged_55 : decode cX9_judged 55 = .ok (.iaload, 1) := by decide +kernel
theorem dX9_judged_56 : decode cX9_judged 56 = .ok (.iload 4, 2) := by decide +kernel
theorem dX9_judged_58 : decode cX9_judged 58 = .ok (.isub, 1) := by decide +kernel
theorem dX9_judged_59 : decode cX9_judged 59 = .ok (.istore 5, 2) := by decide +kernel
theorem dX9_judged_61 : decode cX9_judged 61 = .ok (.aload_n 0, 1) := by decide +kernel
theorem dX9_judged_62 : decode cX9_judged 62 = .ok (.iconst 0, 1) := by decide +kernel
theorem dX9_judged_63 : decode cX9_judged 63 = .ok (.iload 4, 2) := by decide +kernel
theorem dX9_judged_65 : decode cX9_judged 65 = .ok (.iload 5, 2) := by decide +kernel
theorem dX9_judged_67 : decode cX9_judged 67 = .ok (.invokevirtual 132, 3) := by decide +kernel
theorem dX9_judged_70 : decode cX9_judged 70 = .ok (.fstore 6, 2) := by decide +kernel
theorem dX9_judged_72 : decode cX9_judged 72 = .ok (.aload_n 0, 1) := by decide +kernel
theorem dX9_judged_73 : decode cX9_judged 73 = .ok (.iconst 1, 1) := by decide +kernel
theorem dX9_judged_74 : decode cX9_judged 74 = .ok (.iload 4, 2) := by decide +kernel
theorem dX9_judged_76 : decode cX9_judged 76 = .ok (.iload 5, 2) := by decide +kernel
theorem dX9_judged_78 : decode cX9_judged 78 = .ok (.invokevirtual 132, 3) := by decide +kernel
theorem dX9_judged_81 : decode cX9_judged 81 = .ok (.fstore 7, 2) := by decide +kernel
theorem dX9_judged_83 : decode cX9_judged 83 = .ok (.fload 7, 2) := by decide +kernel
theorem dX9_judged_85 : decode cX9_judged 85 = .ok (.fload 6, 2) := by decide +kernel
theorem dX9_judged_87 : decode cX9_judged 87 = .ok (.fcmp .g, 1) := by decide +kernel
theorem dX9_judged_88 : decode cX9_judged 88 = .ok (.ifCond .ge 7, 3) := by decide +kernel
theorem dX9_judged_91 : decode cX9_judged 91 = .ok (.iconst 1, 1) := by decide +kernel
theorem dX9_judged_92 : decode cX9_judged 92 = .ok (.goto 4, 3) := by decide +kernel
theorem dX9_judged_95 : decode cX9_judged 95 = .ok (.iconst 0, 1) := by decide +kernel
theorem dX9_judged_96 : decode cX9_judged 96 = .ok (.istore 8, 2) := by decide +kernel
theorem dX9_judged_98 : decode cX9_judged 98 = .ok (.iload_n 3, 1) := by decide +kernel
theorem dX9_judged_99 : decode cX9_judged 99 = .ok (.ifCond .eq 32, 3) := by decide +kernel
theorem dX9_judged_102 : decode cX9_judged 102 = .ok (.iload 8, 2) := by decide +kernel
theorem dX9_judged_104 : decode cX9_judged 104 = .ok (.ifCond .ne 8, 3) := by decide +kernel
theorem dX9_judged_107 : decode cX9_judged 107 = .ok (.fload 6, 2) := by decide +kernel
theorem dX9_judged_109 : decode cX9_judged 109 = .ok (.goto 5, 3) := by decide +kernel
theorem dX9_judged_112 : decode cX9_judged 112 = .ok (.fload 7, 2) := by decide +kernel
theorem dX9_judged_114 : decode cX9_judged 114 = .ok (.aload_n 0, 1) := by decide +kernel
theorem dX9_judged_115 : decode cX9_judged 115 = .ok (.getfield 22, 3) := by decide +kernel
theorem dX9_judged_118 : decode cX9_judged 118 = .ok (.iconst 5, 1) := by decide +kernel
theorem dX9_judged_119 : decode cX9_judged 119 = .ok (.faload, 1) := by decide +kernel
theorem dX9_judged_120 : decode cX9_judged 120 = .ok (.fcmp .g, 1) := by decide +kernel
theorem dX9_judged_121 : decode cX9_judged 121 = .ok (.ifCond .gt 8, 3) := by decide +kernel
theorem dX9_judged_124 : decode cX9_judged 124 = .ok (.iload 8, 2) := by decide +kernel
theorem dX9_judged_126 : decode cX9_judged 126 = .ok (.goto 4, 3) := by decide +kernel
theorem dX9_judged_129 : decode cX9_judged 129 = .ok (.iconst 2, 1) := by decide +kernel
theorem dX9_judged_130 : decode cX9_judged 130 = .ok (.ireturn, 1) := by decide +kernel
theorem dX9_judged_131 : decode cX9_judged 131 = .ok (.fload 6, 2) := by decide +kernel
theorem dX9_judged_133 : decode cX9_judged 133 = .ok (.fload 7, 2) := by decide +kernel
theorem dX9_judged_135 : decode cX9_judged 135 = .ok (.fsub, 1) := by decide +kernel
theorem dX9_judged_136 : decode cX9_judged 136 = .ok (.invokestatic 120, 3) := by decide +kernel
theorem dX9_judged_139 : decode cX9_judged 139 = .ok (.aload_n 0, 1) := by decide +kernel
theorem dX9_judged_140 : decode cX9_judged 140 = .ok (.getfield 22, 3) := by decide +kernel
theorem dX9_judged_143 : decode cX9_judged 143 = .ok (.iconst 4, 1) := by decide +kernel
theorem dX9_judged_144 : decode cX9_judged 144 = .ok (.faload, 1) := by decide +kernel
theorem dX9_judged_145 : decode cX9_judged 145 = .ok (.fcmp .g, 1) := by decide +kernel
theorem dX9_judged_146 : decode cX9_judged 146 = .ok (.ifCond .ge 21, 3) := by decide +kernel
theorem dX9_judged_149 : decode cX9_judged 149 = .ok (.aload_n 0, 1) := by decide +kernel
theorem dX9_judged_150 : decode cX9_judged 150 = .ok (.getfield 7, 3) := by decide +kernel
theorem dX9_judged_153 : decode cX9_judged 153 = .ok (.bipush 16, 2) := by decide +kernel
theorem dX9_judged_155 : decode cX9_judged 155 = .ok (.iaload, 1) := by decide +kernel
theorem dX9_judged_156 : decode cX9_judged 156 = .ok (.bipush 20, 2) := by decide +kernel
theorem dX9_judged_158 : decode cX9_judged 158 = .ok (.if_icmp .ne 7, 3) := by decide +kernel
theorem dX9_judged_161 : decode cX9_judged 161 = .ok (.iconst 2, 1) := by decide +kernel
theorem dX9_judged_162 : decode cX9_judged 162 = .ok (.goto 4, 3) := by decide +kernel
theorem dX9_judged_165 : decode cX9_judged 165 = .ok (.iconst 3, 1) := by decide +kernel
theorem dX9_judged_166 : decode cX9_judged 166 = .ok (.ireturn, 1) := by decide +kernel
theorem dX9_judged_167 : decode cX9_judged 167 = .ok (.iload 8, 2) := by decide +kernel
theorem dX9_judged_169 : decode cX9_judged 169 = .ok (.ireturn, 1) := by decide +kernel
theorem dX9_giveSign_0 : decode cX9_giveSign 0 = .ok (.aload_n 0, 1) := by decide +kernel
theorem dX9_giveSign_1 : decode cX9_giveSign 1 = .ok (.iload_n 2, 1) := by decide +kernel
theorem dX9_giveSign_2 : decode cX9_giveSign 2 = .ok (.invokevirtual 79, 3) := by decide +kernel
theorem dX9_giveSign_5 : decode cX9_giveSign 5 = .ok (.ifCond .ne 18, 3) := by decide +kernel
theorem dX9_giveSign_8 : decode cX9_giveSign 8 = .ok (.aload_n 0, 1) := by decide +kernel
theorem dX9_giveSign_9 : decode cX9_giveSign 9 = .ok (.getfield 7, 3) := by decide +kernel
theorem dX9_giveSign_12 : decode cX9_giveSign 12 = .ok (.sipush 260, 3) := by decide +kernel
theorem dX9_giveSign_15 : decode cX9_giveSign 15 = .ok (.iload_n 2, 1) := by decide +kernel
theorem dX9_giveSign_16 : decode cX9_giveSign 16 = .ok (.iadd, 1) := by decide +kernel
theorem dX9_giveSign_17 : decode cX9_giveSign 17 = .ok (.iaload, 1) := by decide +kernel
theorem dX9_giveSign_18 : decode cX9_giveSign 18 = .ok (.bipush 46, 2) := by decide +kernel
theorem dX9_giveSign_20 : decode cX9_giveSign 20 = .ok (.if_icmp .ne 4, 3) := by decide +kernel
theorem dX9_giveSign_23 : decode cX9_giveSign 23 = .ok (.return_, 1) := by decide +kernel
theorem dX9_giveSign_24 : decode cX9_giveSign 24 = .ok (.iload_n 3, 1) := by decide +kernel
theorem dX9_giveSign_25 : decode cX9_giveSign 25 = .ok (.iload_n 1, 1) := by decide +kernel
theorem dX9_giveSign_26 : decode cX9_giveSign 26 = .ok (.ishr, 1) := by decide +kernel
theorem dX9_giveSign_27 : decode cX9_giveSign 27 = .ok (.iconst 1, 1) := by decide +kernel
theorem dX9_giveSign_28 : decode cX9_giveSign 28 = .ok (.iand, 1) := by decide +kernel
theorem dX9_giveSign_29 : decode cX9_giveSign 29 = .ok (.iconst 1, 1) := by decide +kernel
theorem dX9_giveSign_30 : decode cX9_giveSign 30 = .ok (.if_icmp .eq 27, 3) := by decide +kernel
theorem dX9_giveSign_33 : decode cX9_giveSign 33 = .ok (.aload_n 0, 1) := by decide +kernel
theorem dX9_giveSign_34 : decode cX9_giveSign 34 = .ok (.getfield 7, 3) := by decide +kernel
theorem dX9_giveSign_37 : decode cX9_giveSign 37 = .ok (.bipush 7, 2) := by decide +kernel
theorem dX9_giveSign_39 : decode cX9_giveSign 39 = .ok (.iload_n 1, 1) := by decide +kernel
theorem dX9_giveSign_40 : decode cX9_giveSign 40 = .ok (.iadd, 1) := by decide +kernel
theorem dX9_giveSign_41 : decode cX9_giveSign 41 = .ok (.iaload, 1) := by decide +kernel
theorem dX9_giveSign_42 : decode cX9_giveSign 42 = .ok (.iconst 1, 1) := by decide +kernel
theorem dX9_giveSign_43 : decode cX9_giveSign 43 = .ok (.if_icmp .ne 18, 3) := by decide +kernel
theorem dX9_giveSign_46 : decode cX9_giveSign 46 = .ok (.iload_n 3, 1) := by decide +kernel
theorem dX9_giveSign_47 : decode cX9_giveSign 47 = .ok (.iconst 1, 1) := by decide +kernel
theorem dX9_giveSign_48 : decode cX9_giveSign 48 = .ok (.iload_n 1, 1) := by decide +kernel
theorem dX9_giveSign_49 : decode cX9_giveSign 49 = .ok (.isub, 1) := by decide +kernel
theorem dX9_giveSign_50 : decode cX9_giveSign 50 = .ok (.ishr, 1) := by decide +kernel
theorem dX9_giveSign_51 : decode cX9_giveSign 51 = .ok (.iconst 1, 1) := by decide +kernel
theorem dX9_giveSign_52 : decode cX9_giveSign 52 = .ok (.iand, 1) := by decide +kernel
theorem dX9_giveSign_53 : decode cX9_giveSign 53 = .ok (.iconst 1, 1) := by decide +kernel
theorem dX9_giveSign_54 : decode cX9_giveSign 54 = .ok (.if_icmp .ne 7, 3) := by decide +kernel
theorem dX9_giveSign_57 : decode cX9_giveSign 57 = .ok (.iconst 1, 1) := by decide +kernel
theorem dX9_giveSign_58 : decode cX9_giveSign 58 = .ok (.goto 4, 3) := by decide +kernel
theorem dX9_giveSign_61 : decode cX9_giveSign 61 = .ok (.iconst 0, 1) := by decide +kernel
theorem dX9_giveSign_62 : decode cX9_giveSign 62 = .ok (.istore 4, 2) := by decide +kernel
theorem dX9_giveSign_64 : decode cX9_giveSign 64 = .ok (.aload_n 0, 1) := by decide +kernel
theorem dX9_giveSign_65 : decode cX9_giveSign 65 = .ok (.getfield 7, 3) := by decide +kernel
theorem dX9_giveSign_68 : decode cX9_giveSign 68 = .ok (.sipush 544, 3) := by decide +kernel
theorem dX9_giveSign_71 : decode cX9_giveSign 71 = .ok (.bipush 24, 2) := by decide +kernel
theorem dX9_giveSign_73 : decode cX9_giveSign 73 = .ok (.iload_n 1, 1) := by decide +kernel
theorem dX9_giveSign_74 : decode cX9_giveSign 74 = .ok (.imul, 1) := by decide +kernel
theorem dX9_giveSign_75 : decode cX9_giveSign 75 = .ok (.iadd, 1) := by decide +kernel
theorem dX9_giveSign_76 : decode cX9_giveSign 76 = .ok (.aload_n 0, 1) := by decide +kernel
theorem dX9_giveSign_77 : decode cX9_giveSign 77 = .ok (.getfield 7, 3) := by decide +kernel
theorem dX9_giveSign_80 : decode cX9_giveSign 80 = .ok (.bipush 17, 2) := by decide +kernel
theorem dX9_giveSign_82 : decode cX9_giveSign 82 = .ok (.iload_n 1, 1) := by decide +kernel
theorem dX9_giveSign_83 : decode cX9_giveSign 83 = .ok (.iadd, 1) := by decide +kernel
theorem dX9_giveSign_84 : decode cX9_giveSign 84 = .ok (.iaload, 1) := by decide +kernel
theorem dX9_giveSign_85 : decode cX9_giveSign 85 = .ok (.bipush 24, 2) := by decide +kernel
theorem dX9_giveSign_87 : decode cX9_giveSign 87 = .ok (.irem, 1) := by decide +kernel
theorem dX9_giveSign_88 : decode cX9_giveSign 88 = .ok (.iadd, 1) := by decide +kernel
theorem dX9_giveSign_89 : decode cX9_giveSign 89 = .ok (.aload_n 0, 1) := by decide +kernel
theorem dX9_giveSign_90 : decode cX9_giveSign 90 = .ok (.getfield 7, 3) := by decide +kernel
theorem dX9_giveSign_93 : decode cX9_giveSign 93 = .ok (.sipush 260, 3) := by decide +kernel
theorem dX9_giveSign_96 : decode cX9_giveSign 96 = .ok (.iload_n 2, 1) := by decide +kernel
theorem dX9_giveSign_97 : decode cX9_giveSign 97 = .ok (.iadd, 1) := by decide +kernel
theorem dX9_giveSign_98 : decode cX9_giveSign 98 = .ok (.iaload, 1) := by decide +kernel
theorem dX9_giveSign_99 : decode cX9_giveSign 99 = .ok (.iload 4, 2) := by decide +kernel
theorem dX9_giveSign_101 : decode cX9_giveSign 101 = .ok (.ifCond .eq 8, 3) := by decide +kernel
theorem dX9_giveSign_104 : decode cX9_giveSign 104 = .ok (.bipush 32, 2) := by decide +kernel
theorem dX9_giveSign_106 : decode cX9_giveSign 106 = .ok (.goto 4, 3) := by decide +kernel
theorem dX9_giveSign_109 : decode cX9_giveSign 109 = .ok (.iconst 0, 1) := by decide +kernel
theorem dX9_giveSign_110 : decode cX9_giveSign 110 = .ok (.isub, 1) := by decide +kernel
theorem dX9_giveSign_111 : decode cX9_giveSign 111 = .ok (.iastore, 1) := by decide +kernel
theorem dX9_giveSign_112 : decode cX9_giveSign 112 = .ok (.aload_n 0, 1) := by decide +kernel
theorem dX9_giveSign_113 : decode cX9_giveSign 113 = .ok (.getfield 7, 3) := by decide +kernel
theorem dX9_giveSign_116 : decode cX9_giveSign 116 = .ok (.bipush 17, 2) := by decide +kernel
theorem dX9_giveSign_118 : decode cX9_giveSign 118 = .ok (.iload_n 1, 1) := by decide +kernel
theorem dX9_giveSign_119 : decode cX9_giveSign 119 = .ok (.iadd, 1) := by decide +kernel
theorem dX9_giveSign_120 : decode cX9_giveSign 120 = .ok (.dup2, 1) := by decide +kernel
theorem dX9_giveSign_121 : decode cX9_giveSign 121 = .ok (.iaload, 1) := by decide +kernel
theorem dX9_giveSign_122 : decode cX9_giveSign 122 = .ok (.iconst 1, 1) := by decide +kernel
theorem dX9_giveSign_123 : decode cX9_giveSign 123 = .ok (.iadd, 1) := by decide +kernel
theorem dX9_giveSign_124 : decode cX9_giveSign 124 = .ok (.iastore, 1) := by decide +kernel
theorem dX9_giveSign_125 : decode cX9_giveSign 125 = .ok (.return_, 1) := by decide +kernel
theorem dX9_countIt_0 : decode cX9_countIt 0 = .ok (.iload_n 1, 1) := by decide +kernel
theorem dX9_countIt_1 : decode cX9_countIt 1 = .ok (.iconst 2, 1) := by decide +kernel
theorem dX9_countIt_2 : decode cX9_countIt 2 = .ok (.if_icmp .ge 41, 3) := by decide +kernel
theorem dX9_countIt_5 : decode cX9_countIt 5 = .ok (.aload_n 0, 1) := by decide +kernel
theorem dX9_countIt_6 : decode cX9_countIt 6 = .ok (.getfield 7, 3) := by decide +kernel
theorem dX9_countIt_9 : decode cX9_countIt 9 = .ok (.bipush 10, 2) := by decide +kernel
theorem dX9_countIt_11 : decode cX9_countIt 11 = .ok (.iload_n 1, 1) := by decide +kernel
theorem dX9_countIt_12 : decode cX9_countIt 12 = .ok (.iadd, 1) := by decide +kernel
theorem dX9_countIt_13 : decode cX9_countIt 13 = .ok (.dup2, 1) := by decide +kernel
theorem dX9_countIt_14 : decode cX9_countIt 14 = .ok (.iaload, 1) := by decide +kernel
theorem dX9_countIt_15 : decode cX9_countIt 15 = .ok (.iconst 1, 1) := by decide +kernel
theorem dX9_countIt_16 : decode cX9_countIt 16 = .ok (.iadd, 1) := by decide +kernel
theorem dX9_countIt_17 : decode cX9_countIt 17 = .ok (.iastore, 1) := by decide +kernel
theorem dX9_countIt_18 : decode cX9_countIt 18 = .ok (.aload_n 0, 1) := by decide +kernel
theorem dX9_countIt_19 : decode cX9_countIt 19 = .ok (.getfield 7, 3) := by decide +kernel
theorem dX9_countIt_22 : decode cX9_countIt 22 = .ok (.bipush 12, 2) := by decide +kernel
theorem dX9_countIt_24 : decode cX9_countIt 24 = .ok (.iload_n 1, 1) := by decide +kernel
theorem dX9_countIt_25 : decode cX9_countIt 25 = .ok (.iadd, 1) := by decide +kernel
theorem dX9_countIt_26 : decode cX9_countIt 26 = .ok (.dup2, 1) := by decide +kernel
theorem dX9_countIt_27 : decode cX9_countIt 27 = .ok (.iaload, 1) := by decide +kernel
theorem dX9_countIt_28 : decode cX9_countIt 28 = .ok (.iload_n 2, 1) := by decide +kernel
theorem dX9_countIt_29 : decode cX9_countIt 29 = .ok (.iload_n 1, 1) := by decide +kernel
theorem dX9_countIt_30 : decode cX9_countIt 30 = .ok (.if_icmp .ne 7, 3) := by decide +kernel
theorem dX9_countIt_33 : decode cX9_countIt 33 = .ok (.iconst 1, 1) := by decide +kernel
theorem dX9_countIt_34 : decode cX9_countIt 34 = .ok (.goto 4, 3) := by decide +kernel
theorem dX9_countIt_37 : decode cX9_countIt 37 = .ok (.iconst 0, 1) := by decide +kernel
theorem dX9_countIt_38 : decode cX9_countIt 38 = .ok (.iadd, 1) := by decide +kernel
theorem dX9_countIt_39 : decode cX9_countIt 39 = .ok (.iastore, 1) := by decide +kernel
theorem dX9_countIt_40 : decode cX9_countIt 40 = .ok (.goto 38, 3) := by decide +kernel
theorem dX9_countIt_43 : decode cX9_countIt 43 = .ok (.iload_n 1, 1) := by decide +kernel
theorem dX9_countIt_44 : decode cX9_countIt 44 = .ok (.iconst 2, 1) := by decide +kernel
theorem dX9_countIt_45 : decode cX9_countIt 45 = .ok (.if_icmp .ne 33, 3) := by decide +kernel
theorem dX9_countIt_48 : decode cX9_countIt 48 = .ok (.aload_n 0, 1) := by decide +kernel
theorem dX9_countIt_49 : decode cX9_countIt 49 = .ok (.getfield 7, 3) := by decide +kernel
theorem dX9_countIt_52 : decode cX9_countIt 52 = .ok (.bipush 14, 2) := by decide +kernel
theorem dX9_countIt_54 : decode cX9_countIt 54 = .ok (.dup2, 1) := by decide +kernel
theorem dX9_countIt_55 : decode cX9_countIt 55 = .ok (.iaload, 1) := by decide +kernel
theorem dX9_countIt_56 : decode cX9_countIt 56 = .ok (.iconst 1, 1) := by decide +kernel
theorem dX9_countIt_57 : decode cX9_countIt 57 = .ok (.iadd, 1) := by decide +kernel
theorem dX9_countIt_58 : decode cX9_countIt 58 = .ok (.iastore, 1) := by decide +kernel
theorem dX9_countIt_59 : decode cX9_countIt 59 = .ok (.aload_n 0, 1) := by decide +kernel
theorem dX9_countIt_60 : decode cX9_countIt 60 = .ok (.getfield 7, 3) := by decide +kernel
theorem dX9_countIt_63 : decode cX9_countIt 63 = .ok (.bipush 15, 2) := by decide +kernel
theorem dX9_countIt_65 : decode cX9_countIt 65 = .ok (.dup2, 1) := by decide +kernel
theorem dX9_countIt_66 : decode cX9_countIt 66 = .ok (.iaload, 1) := by decide +kernel
theorem dX9_countIt_67 : decode cX9_countIt 67 = .ok (.iload_n 2, 1) := by decide +kernel
theorem dX9_countIt_68 : decode cX9_countIt 68 = .ok (.ifCond .ge 7, 3) := by decide +kernel
theorem dX9_countIt_71 : decode cX9_countIt 71 = .ok (.iconst 1, 1) := by decide +kernel
theorem dX9_countIt_72 : decode cX9_countIt 72 = .ok (.goto 4, 3) := by decide +kernel
theorem dX9_countIt_75 : decode cX9_countIt 75 = .ok (.iconst 0, 1) := by decide +kernel
theorem dX9_countIt_76 : decode cX9_countIt 76 = .ok (.iadd, 1) := by decide +kernel
theorem dX9_countIt_77 : decode cX9_countIt 77 = .ok (.iastore, 1) := by decide +kernel
theorem dX9_countIt_78 : decode cX9_countIt 78 = .ok (.return_, 1) := by decide +kernel
theorem dX9_endStroke_0 : decode cX9_endStroke 0 = .ok (.aload_n 0, 1) := by decide +kernel
theorem dX9_endStroke_1 : decode cX9_endStroke 1 = .ok (.iload_n 1, 1) := by decide +kernel
theorem dX9_endStroke_2 : decode cX9_endStroke 2 = .ok (.invokevirtual 136, 3) := by decide +kernel
theorem dX9_endStroke_5 : decode cX9_endStroke 5 = .ok (.istore_n 2, 1) := by decide +kernel
theorem dX9_endStroke_6 : decode cX9_endStroke 6 = .ok (.aload_n 0, 1) := by decide +kernel
theorem dX9_endStroke_7 : decode cX9_endStroke 7 = .ok (.getfield 7, 3) := by decide +kernel
theorem dX9_endStroke_10 : decode cX9_endStroke 10 = .ok (.bipush 68, 2) := by decide +kernel
theorem dX9_endStroke_12 : decode cX9_endStroke 12 = .ok (.iload_n 1, 1) := by decide +kernel
theorem dX9_endStroke_13 : decode cX9_endStroke 13 = .ok (.iadd, 1) := by decide +kernel
theorem dX9_endStroke_14 : decode cX9_endStroke 14 = .ok (.iaload, 1) := by decide +kernel
theorem dX9_endStroke_15 : decode cX9_endStroke 15 = .ok (.istore_n 3, 1) := by decide +kernel
theorem dX9_endStroke_16 : decode cX9_endStroke 16 = .ok (.aload_n 0, 1) := by decide +kernel
theorem dX9_endStroke_17 : decode cX9_endStroke 17 = .ok (.getfield 7, 3) := by decide +kernel
theorem dX9_endStroke_20 : decode cX9_endStroke 20 = .ok (.iconst 2, 1) := by decide +kernel
theorem dX9_endStroke_21 : decode cX9_endStroke 21 = .ok (.iaload, 1) := by decide +kernel
theorem dX9_endStroke_22 : decode cX9_endStroke 22 = .ok (.iload_n 3, 1) := by decide +kernel
theorem dX9_endStroke_23 : decode cX9_endStroke 23 = .ok (.isub, 1) := by decide +kernel
theorem dX9_endStroke_24 : decode cX9_endStroke 24 = .ok (.istore 4, 2) := by decide +kernel
theorem dX9_endStroke_26 : decode cX9_endStroke 26 = .ok (.aload_n 0, 1) := by decide +kernel
theorem dX9_endStroke_27 : decode cX9_endStroke 27 = .ok (.getfield 7, 3) := by decide +kernel
theorem dX9_endStroke_30 : decode cX9_endStroke 30 = .ok (.bipush 9, 2) := by decide +kernel
theorem dX9_endStroke_32 : decode cX9_endStroke 32 = .ok (.iaload, 1) := by decide +kernel
theorem dX9_endStroke_33 : decode cX9_endStroke 33 = .ok (.istore 5, 2) := by decide +kernel
theorem dX9_endStroke_35 : decode cX9_endStroke 35 = .ok (.sipush 308, 3) := by decide +kernel
theorem dX9_endStroke_38 : decode cX9_endStroke 38 = .ok (.bipush 6, 2) := by decide +kernel
theorem dX9_endStroke_40 : decode cX9_endStroke 40 = .ok (.iload 5, 2) := by decide +kernel
theorem dX9_endStroke_42 : decode cX9_endStroke 42 = .ok (.bipush 16, 2) := by decide +kernel
theorem dX9_endStroke_44 : decode cX9_endStroke 44 = .ok (.irem, 1) := by decide +kernel
theorem dX9_endStroke_45 : decode cX9_endStroke 45 = .ok (.imul, 1) := by decide +kernel
theorem dX9_endStroke_46 : decode cX9_endStroke 46 = .ok (.iadd, 1) := by decide +kernel
theorem dX9_endStroke_47 : decode cX9_endStroke 47 = .ok (.istore 6, 2) := by decide +kernel
theorem dX9_endStroke_49 : decode cX9_endStroke 49 = .ok (.aload_n 0, 1) := by decide +kernel
theorem dX9_endStroke_50 : decode cX9_endStroke 50 = .ok (.getfield 7, 3) := by decide +kernel
theorem dX9_endStroke_53 : decode cX9_endStroke 53 = .ok (.iload 6, 2) := by decide +kernel
theorem dX9_endStroke_55 : decode cX9_endStroke 55 = .ok (.iconst 0, 1) := by decide +kernel
theorem dX9_endStroke_56 : decode cX9_endStroke 56 = .ok (.iadd, 1) := by decide +kernel
theorem dX9_endStroke_57 : decode cX9_endStroke 57 = .ok (.iload_n 1, 1) := by decide +kernel
theorem dX9_endStroke_58 : decode cX9_endStroke 58 = .ok (.iastore, 1) := by decide +kernel
theorem dX9_endStroke_59 : decode cX9_endStroke 59 = .ok (.aload_n 0, 1) := by decide +kernel
theorem dX9_endStroke_60 : decode cX9_endStroke 60 = .ok (.getfield 7, 3) := by decide +kernel
theorem dX9_endStroke_63 : decode cX9_endStroke 63 = .ok (.iload 6, 2) := by decide +kernel
theorem dX9_endStroke_65 : decode cX9_endStroke 65 = .ok (.iconst 1, 1) := by decide +kernel
theorem dX9_endStroke_66 : decode cX9_endStroke 66 = .ok (.iadd, 1) := by decide +kernel
theorem dX9_endStroke_67 : decode cX9_endStroke 67 = .ok (.iload_n 3, 1) := by decide +kernel
theorem dX9_endStroke_68 : decode cX9_endStroke 68 = .ok (.iastore, 1) := by decide +kernel
theorem dX9_endStroke_69 : decode cX9_endStroke 69 = .ok (.aload_n 0, 1) := by decide +kernel
theorem dX9_endStroke_70 : decode cX9_endStroke 70 = .ok (.getfield 7, 3) := by decide +kernel
theorem dX9_endStroke_73 : decode cX9_endStroke 73 = .ok (.iload 6, 2) := by decide +kernel
theorem dX9_endStroke_75 : decode cX9_endStroke 75 = .ok (.iconst 2, 1) := by decide +kernel
theorem dX9_endStroke_76 : decode cX9_endStroke 76 = .ok (.iadd, 1) := by decide +kernel
theorem dX9_endStroke_77 : decode cX9_endStroke 77 = .ok (.iload 4, 2) := by decide +kernel
theorem dX9_endStroke_79 : decode cX9_endStroke 79 = .ok (.iastore, 1) := by decide +kernel
theorem dX9_endStroke_80 : decode cX9_endStroke 80 = .ok (.aload_n 0, 1) := by decide +kernel
theorem dX9_endStroke_81 : decode cX9_endStroke 81 = .ok (.getfield 7, 3) := by decide +kernel
theorem dX9_endStroke_84 : decode cX9_endStroke 84 = .ok (.iload 6, 2) := by decide +kernel
theorem dX9_endStroke_86 : decode cX9_endStroke 86 = .ok (.iconst 3, 1) := by decide +kernel
theorem dX9_endStroke_87 : decode cX9_endStroke 87 = .ok (.iadd, 1) := by decide +kernel
theorem dX9_endStroke_88 : decode cX9_endStroke 88 = .ok (.iload_n 2, 1) := by decide +kernel
theorem dX9_endStroke_89 : decode cX9_endStroke 89 = .ok (.iastore, 1) := by decide +kernel
theorem dX9_endStroke_90 : decode cX9_endStroke 90 = .ok (.aload_n 0, 1) := by decide +kernel
theorem dX9_endStroke_91 : decode cX9_endStroke 91 = .ok (.getfield 7, 3) := by decide +kernel
theorem dX9_endStroke_94 : decode cX9_endStroke 94 = .ok (.iload 6, 2) := by decide +kernel
theorem dX9_endStroke_96 : decode cX9_endStroke 96 = .ok (.iconst 4, 1) := by decide +kernel
theorem dX9_endStroke_97 : decode cX9_endStroke 97 = .ok (.iadd, 1) := by decide +kernel
theorem dX9_endStroke_98 : decode cX9_endStroke 98 = .ok (.aload_n 0, 1) := by decide +kernel
theorem dX9_endStroke_99 : decode cX9_endStroke 99 = .ok (.getfield 7, 3) := by decide +kernel
theorem dX9_endStroke_102 : decode cX9_endStroke 102 = .ok (.sipush 212, 3) := by decide +kernel
theorem dX9_endStroke_105 : decode cX9_endStroke 105 = .ok (.iload_n 1, 1) := by decide +kernel
theorem dX9_endStroke_106 : decode cX9_endStroke 106 = .ok (.iadd, 1) := by decide +kernel
theorem dX9_endStroke_107 : decode cX9_endStroke 107 = .ok (.iaload, 1) := by decide +kernel
theorem dX9_endStroke_108 : decode cX9_endStroke 108 = .ok (.iastore, 1) := by decide +kernel
theorem dX9_endStroke_109 : decode cX9_endStroke 109 = .ok (.aload_n 0, 1) := by decide +kernel
theorem dX9_endStroke_110 : decode cX9_endStroke 110 = .ok (.getfield 7, 3) := by decide +kernel
theorem dX9_endStroke_113 : decode cX9_endStroke 113 = .ok (.iload 6, 2) := by decide +kernel
theorem dX9_endStroke_115 : decode cX9_endStroke 115 = .ok (.iconst 5, 1) := by decide +kernel
theorem dX9_endStroke_116 : decode cX9_endStroke 116 = .ok (.iadd, 1) := by decide +kernel
theorem dX9_endStroke_117 : decode cX9_endStroke 117 = .ok (.aload_n 0, 1) := by decide +kernel
theorem dX9_endStroke_118 : decode cX9_endStroke 118 = .ok (.getfield 7, 3) := by decide +kernel
theorem dX9_endStroke_121 : decode cX9_endStroke 121 = .ok (.sipush 164, 3) := by decide +kernel
theorem dX9_endStroke_124 : decode cX9_endStroke 124 = .ok (.iload_n 1, 1) := by decide +kernel
theorem dX9_endStroke_125 : decode cX9_endStroke 125 = .ok (.iadd, 1) := by decide +kernel
theorem dX9_endStroke_126 : decode cX9_endStroke 126 = .ok (.iaload, 1) := by decide +kernel
theorem dX9_endStroke_127 : decode cX9_endStroke 127 = .ok (.iastore, 1) := by decide +kernel
theorem dX9_endStroke_128 : decode cX9_endStroke 128 = .ok (.aload_n 0, 1) := by decide +kernel
theorem dX9_endStroke_129 : decode cX9_endStroke 129 = .ok (.getfield 7, 3) := by decide +kernel
theorem dX9_endStroke_132 : decode cX9_endStroke 132 = .ok (.bipush 9, 2) := by decide +kernel
theorem dX9_endStroke_134 : decode cX9_endStroke 134 = .ok (.dup2, 1) := by decide +kernel
theorem dX9_endStroke_135 : decode cX9_endStroke 135 = .ok (.iaload, 1) := by decide +kernel
theorem dX9_endStroke_136 : decode cX9_endStroke 136 = .ok (.iconst 1, 1) := by decide +kernel
theorem dX9_endStroke_137 : decode cX9_endStroke 137 = .ok (.iadd, 1) := by decide +kernel
theorem dX9_endStroke_138 : decode cX9_endStroke 138 = .ok (.iastore, 1) := by decide +kernel
theorem dX9_endStroke_139 : decode cX9_endStroke 139 = .ok (.iload_n 2, 1) := by decide +kernel
theorem dX9_endStroke_140 : decode cX9_endStroke 140 = .ok (.iconst 3, 1) := by decide +kernel
theorem dX9_endStroke_141 : decode cX9_endStroke 141 = .ok (.if_icmp .ne 89, 3) := by decide +kernel
theorem dX9_endStroke_144 : decode cX9_endStroke 144 = .ok (.sipush 404, 3) := by decide +kernel
theorem dX9_endStroke_147 : decode cX9_endStroke 147 = .ok (.bipush 7, 2) := by decide +kernel
theorem dX9_endStroke_149 : decode cX9_endStroke 149 = .ok (.aload_n 0, 1) := by decide +kernel
theorem dX9_endStroke_150 : decode cX9_endStroke 150 = .ok (.getfield 7, 3) := by decide +kernel
theorem dX9_endStroke_153 : decode cX9_endStroke 153 = .ok (.bipush 16, 2) := by decide +kernel
theorem dX9_endStroke_155 : decode cX9_endStroke 155 = .ok (.iaload, 1) := by decide +kernel
theorem dX9_endStroke_156 : decode cX9_endStroke 156 = .ok (.imul, 1) := by decide +kernel
theorem dX9_endStroke_157 : decode cX9_endStroke 157 = .ok (.iadd, 1) := by decide +kernel
theorem dX9_endStroke_158 : decode cX9_endStroke 158 = .ok (.istore 7, 2) := by decide +kernel
theorem dX9_endStroke_160 : decode cX9_endStroke 160 = .ok (.iconst 0, 1) := by decide +kernel
theorem dX9_endStroke_161 : decode cX9_endStroke 161 = .ok (.istore 8, 2) := by decide +kernel
theorem dX9_endStroke_163 : decode cX9_endStroke 163 = .ok (.iload 8, 2) := by decide +kernel
theorem dX9_endStroke_165 : decode cX9_endStroke 165 = .ok (.bipush 6, 2) := by decide +kernel
theorem dX9_endStroke_167 : decode cX9_endStroke 167 = .ok (.if_icmp .ge 29, 3) := by decide +kernel
theorem dX9_endStroke_170 : decode cX9_endStroke 170 = .ok (.aload_n 0, 1) := by decide +kernel
theorem dX9_endStroke_171 : decode cX9_endStroke 171 = .ok (.getfield 7, 3) := by decide +kernel
theorem dX9_endStroke_174 : decode cX9_endStroke 174 = .ok (.iload 7, 2) := by decide +kernel
theorem dX9_endStroke_176 : decode cX9_endStroke 176 = .ok (.iload 8, 2) := by decide +kernel
theorem dX9_endStroke_178 : decode cX9_endStroke 178 = .ok (.iadd, 1) := by decide +kernel
theorem dX9_endStroke_179 : decode cX9_endStroke 179 = .ok (.aload_n 0, 1) := by decide +kernel
theorem dX9_endStroke_180 : decode cX9_endStroke 180 = .ok (.getfield 7, 3) := by decide +kernel
theorem dX9_endStroke_183 : decode cX9_endStroke 183 = .ok (.iload 6, 2) := by decide +kernel
theorem dX9_endStroke_185 : decode cX9_endStroke 185 = .ok (.iload 8, 2) := by decide +kernel
theorem dX9_endStroke_187 : decode cX9_endStroke 187 = .ok (.iadd, 1) := by decide +kernel
theorem dX9_endStroke_188 : decode cX9_endStroke 188 = .ok (.iaload, 1) := by decide +kernel
theorem dX9_endStroke_189 : decode cX9_endStroke 189 = .ok (.iastore, 1) := by decide +kernel
theorem dX9_endStroke_190 : decode cX9_endStroke 190 = .ok (.iinc 8 1, 3) := by decide +kernel
theorem dX9_endStroke_193 : decode cX9_endStroke 193 = .ok (.goto (-30), 3) := by decide +kernel
theorem dX9_endStroke_196 : decode cX9_endStroke 196 = .ok (.aload_n 0, 1) := by decide +kernel
theorem dX9_endStroke_197 : decode cX9_endStroke 197 = .ok (.getfield 7, 3) := by decide +kernel
theorem dX9_endStroke_200 : decode cX9_endStroke 200 = .ok (.iload 7, 2) := by decide +kernel
theorem dX9_endStroke_202 : decode cX9_endStroke 202 = .ok (.iconst 3, 1) := by decide +kernel
theorem dX9_endStroke_203 : decode cX9_endStroke 203 = .ok (.iadd, 1) := by decide +kernel
theorem dX9_endStroke_204 : decode cX9_endStroke 204 = .ok (.bipush (-5), 2) := by decide +kernel
theorem dX9_endStroke_206 : decode cX9_endStroke 206 = .ok (.iastore, 1) := by decide +kernel
theorem dX9_endStroke_207 : decode cX9_endStroke 207 = .ok (.aload_n 0, 1) := by decide +kernel
theorem dX9_endStroke_208 : decode cX9_endStroke 208 = .ok (.getfield 7, 3) := by decide +kernel
theorem dX9_endStroke_211 : decode cX9_endStroke 211 = .ok (.iload 7, 2) := by decide +kernel
theorem dX9_endStroke_213 : decode cX9_endStroke 213 = .ok (.bipush 6, 2) := by decide +kernel
theorem dX9_endStroke_215 : decode cX9_endStroke 215 = .ok (.iadd, 1) := by decide +kernel
theorem dX9_endStroke_216 : decode cX9_endStroke 216 = .ok (.iload 5, 2) := by decide +kernel
theorem dX9_endStroke_218 : decode cX9_endStroke 218 = .ok (.iastore, 1) := by decide +kernel
theorem dX9_endStroke_219 : decode cX9_endStroke 219 = .ok (.aload_n 0, 1) := by decide +kernel
theorem dX9_endStroke_220 : decode cX9_endStroke 220 = .ok (.getfield 7, 3) := by decide +kernel
theorem dX9_endStroke_223 : decode cX9_endStroke 223 = .ok (.bipush 16, 2) := by decide +kernel
theorem dX9_endStroke_225 : decode cX9_endStroke 225 = .ok (.dup2, 1) := by decide +kernel
theorem dX9_endStroke_226 : decode cX9_endStroke 226 = .ok (.iaload, 1) := by decide +kernel
theorem dX9_endStroke_227 : decode cX9_endStroke 227 = .ok (.iconst 1, 1) := by decide +kernel
theorem dX9_endStroke_228 : decode cX9_endStroke 228 = .ok (.iadd, 1) := by decide +kernel
theorem dX9_endStroke_229 : decode cX9_endStroke 229 = .ok (.iastore, 1) := by decide +kernel
theorem dX9_endStroke_230 : decode cX9_endStroke 230 = .ok (.aload_n 0, 1) := by decide +kernel
theorem dX9_endStroke_231 : decode cX9_endStroke 231 = .ok (.iload_n 2, 1) := by decide +kernel
theorem dX9_endStroke_232 : decode cX9_endStroke 232 = .ok (.aload_n 0, 1) := by decide +kernel
theorem dX9_endStroke_233 : decode cX9_endStroke 233 = .ok (.getfield 7, 3) := by decide +kernel
theorem dX9_endStroke_236 : decode cX9_endStroke 236 = .ok (.sipush 212, 3) := by decide +kernel
theorem dX9_endStroke_239 : decode cX9_endStroke 239 = .ok (.iload_n 1, 1) := by decide +kernel
theorem dX9_endStroke_240 : decode cX9_endStroke 240 = .ok (.iadd, 1) := by decide +kernel
theorem dX9_endStroke_241 : decode cX9_endStroke 241 = .ok (.iaload, 1) := by decide +kernel
theorem dX9_endStroke_242 : decode cX9_endStroke 242 = .ok (.invokevirtual 139, 3) := by decide +kernel
theorem dX9_endStroke_245 : decode cX9_endStroke 245 = .ok (.iload_n 2, 1) := by decide +kernel
theorem dX9_endStroke_246 : decode cX9_endStroke 246 = .ok (.iconst 2, 1) := by decide +kernel
theorem dX9_endStroke_247 : decode cX9_endStroke 247 = .ok (.if_icmp .ge 35, 3) := by decide +kernel
theorem dX9_endStroke_250 : decode cX9_endStroke 250 = .ok (.aload_n 0, 1) := by decide +kernel
theorem dX9_endStroke_251 : decode cX9_endStroke 251 = .ok (.iload_n 1, 1) := by decide +kernel
theorem dX9_endStroke_252 : decode cX9_endStroke 252 = .ok (.invokevirtual 82, 3) := by decide +kernel
theorem dX9_endStroke_255 : decode cX9_endStroke 255 = .ok (.ifCond .ge 11, 3) := by decide +kernel
theorem dX9_endStroke_258 : decode cX9_endStroke 258 = .ok (.aload_n 0, 1) := by decide +kernel
theorem dX9_endStroke_259 : decode cX9_endStroke 259 = .ok (.iload_n 2, 1) := by decide +kernel
theorem dX9_endStroke_260 : decode cX9_endStroke 260 = .ok (.iload_n 3, 1) := by decide +kernel
theorem dX9_endStroke_261 : decode cX9_endStroke 261 = .ok (.iload 4, 2) := by decide +kernel
theorem dX9_endStroke_263 : decode cX9_endStroke 263 = .ok (.invokevirtual 143, 3) := by decide +kernel
theorem dX9_endStroke_266 : decode cX9_endStroke 266 = .ok (.aload_n 0, 1) := by decide +kernel
theorem dX9_endStroke_267 : decode cX9_endStroke 267 = .ok (.iload_n 2, 1) := by decide +kernel
theorem dX9_endStroke_268 : decode cX9_endStroke 268 = .ok (.iload_n 1, 1) := by decide +kernel
theorem dX9_endStroke_269 : decode cX9_endStroke 269 = .ok (.aload_n 0, 1) := by decide +kernel
theorem dX9_endStroke_270 : decode cX9_endStroke 270 = .ok (.getfield 7, 3) := by decide +kernel
theorem dX9_endStroke_273 : decode cX9_endStroke 273 = .ok (.sipush 164, 3) := by decide +kernel
theorem dX9_endStroke_276 : decode cX9_endStroke 276 = .ok (.iload_n 1, 1) := by decide +kernel
theorem dX9_endStroke_277 : decode cX9_endStroke 277 = .ok (.iadd, 1) := by decide +kernel
theorem dX9_endStroke_278 : decode cX9_endStroke 278 = .ok (.iaload, 1) := by decide +kernel
theorem dX9_endStroke_279 : decode cX9_endStroke 279 = .ok (.invokevirtual 147, 3) := by decide +kernel
theorem dX9_endStroke_282 : decode cX9_endStroke 282 = .ok (.aload_n 0, 1) := by decide +kernel
theorem dX9_endStroke_283 : decode cX9_endStroke 283 = .ok (.getfield 7, 3) := by decide +kernel
theorem dX9_endStroke_286 : decode cX9_endStroke 286 = .ok (.bipush 68, 2) := by decide +kernel
theorem dX9_endStroke_288 : decode cX9_endStroke 288 = .ok (.iload_n 1, 1) := by decide +kernel
theorem dX9_endStroke_289 : decode cX9_endStroke 289 = .ok (.iadd, 1) := by decide +kernel
theorem dX9_endStroke_290 : decode cX9_endStroke 290 = .ok (.bipush (-5), 2) := by decide +kernel
theorem dX9_endStroke_292 : decode cX9_endStroke 292 = .ok (.iastore, 1) := by decide +kernel
theorem dX9_endStroke_293 : decode cX9_endStroke 293 = .ok (.aload_n 0, 1) := by decide +kernel
theorem dX9_endStroke_294 : decode cX9_endStroke 294 = .ok (.getfield 7, 3) := by decide +kernel
theorem dX9_endStroke_297 : decode cX9_endStroke 297 = .ok (.bipush 116, 2) := by decide +kernel
theorem dX9_endStroke_299 : decode cX9_endStroke 299 = .ok (.iload_n 1, 1) := by decide +kernel
theorem dX9_endStroke_300 : decode cX9_endStroke 300 = .ok (.iadd, 1) := by decide +kernel
theorem dX9_endStroke_301 : decode cX9_endStroke 301 = .ok (.iconst 0, 1) := by decide +kernel
theorem dX9_endStroke_302 : decode cX9_endStroke 302 = .ok (.iastore, 1) := by decide +kernel
theorem dX9_endStroke_303 : decode cX9_endStroke 303 = .ok (.return_, 1) := by decide +kernel
theorem dX9_held_0 : decode cX9_held 0 = .ok (.iconst 0, 1) := by decide +kernel
theorem dX9_held_1 : decode cX9_held 1 = .ok (.istore_n 2, 1) := by decide +kernel
theorem dX9_held_2 : decode cX9_held 2 = .ok (.iconst 0, 1) := by decide +kernel
theorem dX9_held_3 : decode cX9_held 3 = .ok (.istore_n 3, 1) := by decide +kernel
theorem dX9_held_4 : decode cX9_held 4 = .ok (.iload_n 3, 1) := by decide +kernel
theorem dX9_held_5 : decode cX9_held 5 = .ok (.aload_n 0, 1) := by decide +kernel
theorem dX9_held_6 : decode cX9_held 6 = .ok (.invokevirtual 64, 3) := by decide +kernel
theorem dX9_held_9 : decode cX9_held 9 = .ok (.if_icmp .ge 30, 3) := by decide +kernel
theorem dX9_held_12 : decode cX9_held 12 = .ok (.iload_n 2, 1) := by decide +kernel
theorem dX9_held_13 : decode cX9_held 13 = .ok (.aload_n 0, 1) := by decide +kernel
theorem dX9_held_14 : decode cX9_held 14 = .ok (.getfield 7, 3) := by decide +kernel
theorem dX9_held_17 : decode cX9_held 17 = .ok (.bipush 20, 2) := by decide +kernel
theorem dX9_held_19 : decode cX9_held 19 = .ok (.iload_n 3, 1) := by decide +kernel
theorem dX9_held_20 : decode cX9_held 20 = .ok (.iadd, 1) := by decide +kernel
theorem dX9_held_21 : decode cX9_held 21 = .ok (.iaload, 1) := by decide +kernel
theorem dX9_held_22 : decode cX9_held 22 = .ok (.iload_n 1, 1) := by decide +kernel
theorem dX9_held_23 : decode cX9_held 23 = .ok (.if_icmp .ne 7, 3) := by decide +kernel
theorem dX9_held_26 : decode cX9_held 26 = .ok (.iconst 1, 1) := by decide +kernel
theorem dX9_held_27 : decode cX9_held 27 = .ok (.goto 4, 3) := by decide +kernel
theorem dX9_held_30 : decode cX9_held 30 = .ok (.iconst 0, 1) := by decide +kernel
theorem dX9_held_31 : decode cX9_held 31 = .ok (.iadd, 1) := by decide +kernel
theorem dX9_held_32 : decode cX9_held 32 = .ok (.istore_n 2, 1) := by decide +kernel
theorem dX9_held_33 : decode cX9_held 33 = .ok (.iinc 3 1, 3) := by decide +kernel
theorem dX9_held_36 : decode cX9_held 36 = .ok (.goto (-32), 3) := by decide +kernel
theorem dX9_held_39 : decode cX9_held 39 = .ok (.iload_n 2, 1) := by decide +kernel
theorem dX9_held_40 : decode cX9_held 40 = .ok (.ireturn, 1) := by decide +kernel
theorem dX9_againstPress_0 : decode cX9_againstPress 0 = .ok (.aload_n 0, 1) := by decide +kernel
theorem dX9_againstPress_1 : decode cX9_againstPress 1 = .ok (.iload_n 1, 1) := by decide +kernel
theorem dX9_againstPress_2 : decode cX9_againstPress 2 = .ok (.invokevirtual 86, 3) := by decide +kernel
theorem dX9_againstPress_5 : decode cX9_againstPress 5 = .ok (.ifCond .ne 11, 3) := by decide +kernel
theorem dX9_againstPress_8 : decode cX9_againstPress 8 = .ok (.aload_n 0, 1) := by decide +kernel
theorem dX9_againstPress_9 : decode cX9_againstPress 9 = .ok (.iload_n 2, 1) := by decide +kernel
theorem dX9_againstPress_10 : decode cX9_againstPress 10 = .ok (.invokevirtual 79, 3) := by decide +kernel
theorem dX9_againstPress_13 : decode cX9_againstPress 13 = .ok (.ifCond .eq 5, 3) := by decide +kernel
theorem dX9_againstPress_16 : decode cX9_againstPress 16 = .ok (.iconst (-1), 1) := by decide +kernel
theorem dX9_againstPress_17 : decode cX9_againstPress 17 = .ok (.ireturn, 1) := by decide +kernel
theorem dX9_againstPress_18 : decode cX9_againstPress 18 = .ok (.aload_n 0, 1) := by decide +kernel
theorem dX9_againstPress_19 : decode cX9_againstPress 19 = .ok (.iload_n 2, 1) := by decide +kernel
theorem dX9_againstPress_20 : decode cX9_againstPress 20 = .ok (.invokevirtual 72, 3) := by decide +kernel
theorem dX9_againstPress_23 : decode cX9_againstPress 23 = .ok (.ifCond .eq 8, 3) := by decide +kernel
theorem dX9_againstPress_26 : decode cX9_againstPress 26 = .ok (.bipush (-4), 2) := by decide +kernel
theorem dX9_againstPress_28 : decode cX9_againstPress 28 = .ok (.goto 18, 3) := by decide +kernel
theorem dX9_againstPress_31 : decode cX9_againstPress 31 = .ok (.aload_n 0, 1) := by decide +kernel
theorem dX9_againstPress_32 : decode cX9_againstPress 32 = .ok (.iload_n 1, 1) := by decide +kernel
theorem dX9_againstPress_33 : decode cX9_againstPress 33 = .ok (.invokevirtual 150, 3) := by decide +kernel
theorem dX9_againstPress_36 : decode cX9_againstPress 36 = .ok (.iconst 5, 1) := by decide +kernel
theorem dX9_againstPress_37 : decode cX9_againstPress 37 = .ok (.if_icmp .ne 8, 3) := by decide +kernel
theorem dX9_againstPress_40 : decode cX9_againstPress 40 = .ok (.bipush (-3), 2) := by decide +kernel
theorem dX9_againstPress_42 : decode cX9_againstPress 42 = .ok (.goto 4, 3) := by decide +kernel
theorem dX9_againstPress_45 : decode cX9_againstPress 45 = .ok (.iconst 0, 1) := by decide +kernel
theorem dX9_againstPress_46 : decode cX9_againstPress 46 = .ok (.ireturn, 1) := by decide +kernel
theorem dX9_againstRelease_0 : decode cX9_againstRelease 0 = .ok (.aload_n 0, 1) := by decide +kernel
theorem dX9_againstRelease_1 : decode cX9_againstRelease 1 = .ok (.iload_n 1, 1) := by decide +kernel
theorem dX9_againstRelease_2 : decode cX9_againstRelease 2 = .ok (.invokevirtual 86, 3) := by decide +kernel
theorem dX9_againstRelease_5 : decode cX9_againstRelease 5 = .ok (.ifCond .ne 11, 3) := by decide +kernel
theorem dX9_againstRelease_8 : decode cX9_againstRelease 8 = .ok (.aload_n 0, 1) := by decide +kernel
theorem dX9_againstRelease_9 : decode cX9_againstRelease 9 = .ok (.iload_n 2, 1) := by decide +kernel
theorem dX9_againstRelease_10 : decode cX9_againstRelease 10 = .ok (.invokevirtual 79, 3) := by decide +kernel
theorem dX9_againstRelease_13 : decode cX9_againstRelease 13 = .ok (.ifCond .eq 5, 3) := by decide +kernel
theorem dX9_againstRelease_16 : decode cX9_againstRelease 16 = .ok (.iconst (-1), 1) := by decide +kernel
theorem dX9_againstRelease_17 : decode cX9_againstRelease 17 = .ok (.ireturn, 1) := by decide +kernel
theorem dX9_againstRelease_18 : decode cX9_againstRelease 18 = .ok (.aload_n 0, 1) := by decide +kernel
theorem dX9_againstRelease_19 : decode cX9_againstRelease 19 = .ok (.getfield 7, 3) := by decide +kernel
theorem dX9_againstRelease_22 : decode cX9_againstRelease 22 = .ok (.bipush 20, 2) := by decide +kernel
theorem dX9_againstRelease_24 : decode cX9_againstRelease 24 = .ok (.iload_n 2, 1) := by decide +kernel
theorem dX9_againstRelease_25 : decode cX9_againstRelease 25 = .ok (.iadd, 1) := by decide +kernel
theorem dX9_againstRelease_26 : decode cX9_againstRelease 26 = .ok (.iaload, 1) := by decide +kernel
theorem dX9_againstRelease_27 : decode cX9_againstRelease 27 = .ok (.iload_n 1, 1) := by decide +kernel
theorem dX9_againstRelease_28 : decode cX9_againstRelease 28 = .ok (.if_icmp .ne 7, 3) := by decide +kernel
theorem dX9_againstRelease_31 : decode cX9_againstRelease 31 = .ok (.iconst 0, 1) := by decide +kernel
theorem dX9_againstRelease_32 : decode cX9_againstRelease 32 = .ok (.goto 5, 3) := by decide +kernel
theorem dX9_againstRelease_35 : decode cX9_againstRelease 35 = .ok (.bipush (-4), 2) := by decide +kernel
theorem dX9_againstRelease_37 : decode cX9_againstRelease 37 = .ok (.ireturn, 1) := by decide +kernel
theorem dX9_press_0 : decode cX9_press 0 = .ok (.aload_n 0, 1) := by decide +kernel
theorem dX9_press_1 : decode cX9_press 1 = .ok (.iload_n 1, 1) := by decide +kernel
theorem dX9_press_2 : decode cX9_press 2 = .ok (.iload_n 2, 1) := by decide +kernel
theorem dX9_press_3 : decode cX9_press 3 = .ok (.invokevirtual 153, 3) := by decide +kernel
theorem dX9_press_6 : decode cX9_press 6 = .ok (.istore_n 3, 1) := by decide +kernel
theorem dX9_press_7 : decode cX9_press 7 = .ok (.iload_n 3, 1) := by decide +kernel
theorem dX9_press_8 : decode cX9_press 8 = .ok (.ifCond .ge 5, 3) := by decide +kernel
theorem dX9_press_11 : decode cX9_press 11 = .ok (.iload_n 3, 1) := by decide +kernel
theorem dX9_press_12 : decode cX9_press 12 = .ok (.ireturn, 1) := by decide +kernel
theorem dX9_press_13 : decode cX9_press 13 = .ok (.aload_n 0, 1) := by decide +kernel
theorem dX9_press_14 : decode cX9_press 14 = .ok (.invokevirtual 61, 3) := by decide +kernel
theorem dX9_press_17 : decode cX9_press 17 = .ok (.aload_n 0, 1) := by decide +kernel
theorem dX9_press_18 : decode cX9_press 18 = .ok (.getfield 7, 3) := by decide +kernel
theorem dX9_press_21 : decode cX9_press 21 = .ok (.bipush 20, 2) := by decide +kernel
theorem dX9_press_23 : decode cX9_press 23 = .ok (.iload_n 2, 1) := by decide +kernel
theorem dX9_press_24 : decode cX9_press 24 = .ok (.iadd, 1) := by decide +kernel
theorem dX9_press_25 : decode cX9_press 25 = .ok (.iload_n 1, 1) := by decide +kernel
theorem dX9_press_26 : decode cX9_press 26 = .ok (.iastore, 1) := by decide +kernel
theorem dX9_press_27 : decode cX9_press 27 = .ok (.aload_n 0, 1) := by decide +kernel
theorem dX9_press_28 : decode cX9_press 28 = .ok (.iload_n 1, 1) := by decide +kernel
theorem dX9_press_29 : decode cX9_press 29 = .ok (.invokevirtual 150, 3) := by decide +kernel
theorem dX9_press_32 : decode cX9_press 32 = .ok (.ireturn, 1) := by decide +kernel
theorem dX9_release_0 : decode cX9_release 0 = .ok (.aload_n 0, 1) := by decide +kernel
theorem dX9_release_1 : decode cX9_release 1 = .ok (.iload_n 1, 1) := by decide +kernel
theorem dX9_release_2 : decode cX9_release 2 = .ok (.iload_n 2, 1) := by decide +kernel
theorem dX9_release_3 : decode cX9_release 3 = .ok (.invokevirtual 156, 3) := by decide +kernel
theorem dX9_release_6 : decode cX9_release 6 = .ok (.istore_n 3, 1) := by decide +kernel
theorem dX9_release_7 : decode cX9_release 7 = .ok (.iload_n 3, 1) := by decide +kernel
theorem dX9_release_8 : decode cX9_release 8 = .ok (.ifCond .ge 5, 3) := by decide +kernel
theorem dX9_release_11 : decode cX9_release 11 = .ok (.iload_n 3, 1) := by decide +kernel
theorem dX9_release_12 : decode cX9_release 12 = .ok (.ireturn, 1) := by decide +kernel
theorem dX9_release_13 : decode cX9_release 13 = .ok (.aload_n 0, 1) := by decide +kernel
theorem dX9_release_14 : decode cX9_release 14 = .ok (.invokevirtual 61, 3) := by decide +kernel
theorem dX9_release_17 : decode cX9_release 17 = .ok (.aload_n 0, 1) := by decide +kernel
theorem dX9_release_18 : decode cX9_release 18 = .ok (.getfield 7, 3) := by decide +kernel
theorem dX9_release_21 : decode cX9_release 21 = .ok (.bipush 20, 2) := by decide +kernel
theorem dX9_release_23 : decode cX9_release 23 = .ok (.iload_n 2, 1) := by decide +kernel
theorem dX9_release_24 : decode cX9_release 24 = .ok (.iadd, 1) := by decide +kernel
theorem dX9_release_25 : decode cX9_release 25 = .ok (.bipush (-5), 2) := by decide +kernel
theorem dX9_release_27 : decode cX9_release 27 = .ok (.iastore, 1) := by decide +kernel
theorem dX9_release_28 : decode cX9_release 28 = .ok (.aload_n 0, 1) := by decide +kernel
theorem dX9_release_29 : decode cX9_release 29 = .ok (.iload_n 1, 1) := by decide +kernel
theorem dX9_release_30 : decode cX9_release 30 = .ok (.invokevirtual 150, 3) := by decide +kernel
theorem dX9_release_33 : decode cX9_release 33 = .ok (.ireturn, 1) := by decide +kernel
theorem dX9_steps_0 : decode cX9_steps 0 = .ok (.iconst 0, 1) := by decide +kernel
theorem dX9_steps_1 : decode cX9_steps 1 = .ok (.istore_n 2, 1) := by decide +kernel
theorem dX9_steps_2 : decode cX9_steps 2 = .ok (.iconst 0, 1) := by decide +kernel
theorem dX9_steps_3 : decode cX9_steps 3 = .ok (.istore_n 3, 1) := by decide +kernel
theorem dX9_steps_4 : decode cX9_steps 4 = .ok (.iload_n 3, 1) := by decide +kernel
theorem dX9_steps_5 : decode cX9_steps 5 = .ok (.iload_n 1, 1) := by decide +kernel
theorem dX9_steps_6 : decode cX9_steps 6 = .ok (.if_icmp .ge 16, 3) := by decide +kernel
theorem dX9_steps_9 : decode cX9_steps 9 = .ok (.iload_n 2, 1) := by decide +kernel
theorem dX9_steps_10 : decode cX9_steps 10 = .ok (.aload_n 0, 1) := by decide +kernel
theorem dX9_steps_11 : decode cX9_steps 11 = .ok (.invokevirtual 159, 3) := by decide +kernel
theorem dX9_steps_14 : decode cX9_steps 14 = .ok (.iadd, 1) := by decide +kernel
theorem dX9_steps_15 : decode cX9_steps 15 = .ok (.istore_n 2, 1) := by decide +kernel
theorem dX9_steps_16 : decode cX9_steps 16 = .ok (.iinc 3 1, 3) := by decide +kernel
theorem dX9_steps_19 : decode cX9_steps 19 = .ok (.goto (-15), 3) := by decide +kernel
theorem dX9_steps_22 : decode cX9_steps 22 = .ok (.iload_n 2, 1) := by decide +kernel
theorem dX9_steps_23 : decode cX9_steps 23 = .ok (.ireturn, 1) := by decide +kernel
theorem dX9_tick_0 : decode cX9_tick 0 = .ok (.iload_n 1, 1) := by decide +kernel
theorem dX9_tick_1 : decode cX9_tick 1 = .ok (.iconst 1, 1) := by decide +kernel
theorem dX9_tick_2 : decode cX9_tick 2 = .ok (.bipush 99, 2) := by decide +kernel
theorem dX9_tick_4 : decode cX9_tick 4 = .ok (.invokestatic 68, 3) := by decide +kernel
theorem dX9_tick_7 : decode cX9_tick 7 = .ok (.ifCond .ne 6, 3) := by decide +kernel
theorem dX9_tick_10 : decode cX9_tick 10 = .ok (.bipush (-2), 2) := by decide +kernel
theorem dX9_tick_12 : decode cX9_tick 12 = .ok (.ireturn, 1) := by decide +kernel
theorem dX9_tick_13 : decode cX9_tick 13 = .ok (.aload_n 0, 1) := by decide +kernel
theorem dX9_tick_14 : decode cX9_tick 14 = .ok (.invokevirtual 61, 3) := by decide +kernel
theorem dX9_tick_17 : decode cX9_tick 17 = .ok (.aload_n 0, 1) := by decide +kernel
theorem dX9_tick_18 : decode cX9_tick 18 = .ok (.iload_n 1, 1) := by decide +kernel
theorem dX9_tick_19 : decode cX9_tick 19 = .ok (.invokevirtual 162, 3) := by decide +kernel
theorem dX9_tick_22 : decode cX9_tick 22 = .ok (.ireturn, 1) := by decide +kernel
theorem dX9_noDispute_0 : decode cX9_noDispute 0 = .ok (.iload_n 1, 1) := by decide +kernel
theorem dX9_noDispute_1 : decode cX9_noDispute 1 = .ok (.iconst 0, 1) := by decide +kernel
theorem dX9_noDispute_2 : decode cX9_noDispute 2 = .ok (.aload_n 0, 1) := by decide +kernel
theorem dX9_noDispute_3 : decode cX9_noDispute 3 = .ok (.getfield 7, 3) := by decide +kernel
theorem dX9_noDispute_6 : decode cX9_noDispute 6 = .ok (.bipush 16, 2) := by decide +kernel
theorem dX9_noDispute_8 : decode cX9_noDispute 8 = .ok (.iaload, 1) := by decide +kernel
theorem dX9_noDispute_9 : decode cX9_noDispute 9 = .ok (.iconst 1, 1) := by decide +kernel
theorem dX9_noDispute_10 : decode cX9_noDispute 10 = .ok (.isub, 1) := by decide +kernel
theorem dX9_noDispute_11 : decode cX9_noDispute 11 = .ok (.invokestatic 68, 3) := by decide +kernel
theorem dX9_noDispute_14 : decode cX9_noDispute 14 = .ok (.ifCond .ne 7, 3) := by decide +kernel
theorem dX9_noDispute_17 : decode cX9_noDispute 17 = .ok (.iconst 1, 1) := by decide +kernel
theorem dX9_noDispute_18 : decode cX9_noDispute 18 = .ok (.goto 4, 3) := by decide +kernel
theorem dX9_noDispute_21 : decode cX9_noDispute 21 = .ok (.iconst 0, 1) := by decide +kernel
theorem dX9_noDispute_22 : decode cX9_noDispute 22 = .ok (.ireturn, 1) := by decide +kernel
theorem dX9_settle_0 : decode cX9_settle 0 = .ok (.aload_n 0, 1) := by decide +kernel
theorem dX9_settle_1 : decode cX9_settle 1 = .ok (.iload_n 1, 1) := by decide +kernel
theorem dX9_settle_2 : decode cX9_settle 2 = .ok (.invokevirtual 165, 3) := by decide +kernel
theorem dX9_settle_5 : decode cX9_settle 5 = .ok (.ifCond .eq 5, 3) := by decide +kernel
theorem dX9_settle_8 : decode cX9_settle 8 = .ok (.iconst (-1), 1) := by decide +kernel
theorem dX9_settle_9 : decode cX9_settle 9 = .ok (.ireturn, 1) := by decide +kernel
theorem dX9_settle_10 : decode cX9_settle 10 = .ok (.iload_n 2, 1) := by decide +kernel
theorem dX9_settle_11 : decode cX9_settle 11 = .ok (.iconst 0, 1) := by decide +kernel
theorem dX9_settle_12 : decode cX9_settle 12 = .ok (.iconst 2, 1) := by decide +kernel
theorem dX9_settle_13 : decode cX9_settle 13 = .ok (.invokestatic 68, 3) := by decide +kernel
theorem dX9_settle_16 : decode cX9_settle 16 = .ok (.ifCond .ne 6, 3) := by decide +kernel
theorem dX9_settle_19 : decode cX9_settle 19 = .ok (.bipush (-2), 2) := by decide +kernel
theorem dX9_settle_21 : decode cX9_settle 21 = .ok (.ireturn, 1) := by decide +kernel
theorem dX9_settle_22 : decode cX9_settle 22 = .ok (.sipush 404, 3) := by decide +kernel
theorem dX9_settle_25 : decode cX9_settle 25 = .ok (.bipush 7, 2) := by decide +kernel
theorem dX9_settle_27 : decode cX9_settle 27 = .ok (.iload_n 1, 1) := by decide +kernel
theorem dX9_settle_28 : decode cX9_settle 28 = .ok (.imul, 1) := by decide +kernel
theorem dX9_settle_29 : decode cX9_settle 29 = .ok (.iadd, 1) := by decide +kernel
theorem dX9_settle_30 : decode cX9_settle 30 = .ok (.istore_n 3, 1) := by decide +kernel
theorem dX9_settle_31 : decode cX9_settle 31 = .ok (.aload_n 0, 1) := by decide +kernel
theorem dX9_settle_32 : decode cX9_settle 32 = .ok (.getfield 7, 3) := by decide +kernel
theorem dX9_settle_35 : decode cX9_settle 35 = .ok (.iload_n 3, 1) := by decide +kernel
theorem dX9_settle_36 : decode cX9_settle 36 = .ok (.iconst 3, 1) := by decide +kernel
theorem dX9_settle_37 : decode cX9_settle 37 = .ok (.iadd, 1) := by decide +kernel
theorem dX9_settle_38 : decode cX9_settle 38 = .ok (.iaload, 1) := by decide +kernel
theorem dX9_settle_39 : decode cX9_settle 39 = .ok (.ifCond .lt 6, 3) := by decide +kernel
theorem dX9_settle_42 : decode cX9_settle 42 = .ok (.bipush (-4), 2) := by decide +kernel
theorem dX9_settle_44 : decode cX9_settle 44 = .ok (.ireturn, 1) := by decide +kernel
theorem dX9_settle_45 : decode cX9_settle 45 = .ok (.aload_n 0, 1) := by decide +kernel
theorem dX9_settle_46 : decode cX9_settle 46 = .ok (.invokevirtual 61, 3) := by decide +kernel
theorem dX9_settle_49 : decode cX9_settle 49 = .ok (.aload_n 0, 1) := by decide +kernel
theorem dX9_settle_50 : decode cX9_settle 50 = .ok (.getfield 7, 3) := by decide +kernel
theorem dX9_settle_53 : decode cX9_settle 53 = .ok (.iload_n 3, 1) := by decide +kernel
theorem dX9_settle_54 : decode cX9_settle 54 = .ok (.iconst 3, 1) := by decide +kernel
theorem dX9_settle_55 : decode cX9_settle 55 = .ok (.iadd, 1) := by decide +kernel
theorem dX9_settle_56 : decode cX9_settle 56 = .ok (.iload_n 2, 1) := by decide +kernel
theorem dX9_settle_57 : decode cX9_settle 57 = .ok (.iastore, 1) := by decide +kernel
theorem dX9_settle_58 : decode cX9_settle 58 = .ok (.aload_n 0, 1) := by decide +kernel
theorem dX9_settle_59 : decode cX9_settle 59 = .ok (.getfield 7, 3) := by decide +kernel
theorem dX9_settle_62 : decode cX9_settle 62 = .ok (.bipush 9, 2) := by decide +kernel
theorem dX9_settle_64 : decode cX9_settle 64 = .ok (.iaload, 1) := by decide +kernel
theorem dX9_settle_65 : decode cX9_settle 65 = .ok (.aload_n 0, 1) := by decide +kernel
theorem dX9_settle_66 : decode cX9_settle 66 = .ok (.getfield 7, 3) := by decide +kernel
theorem dX9_settle_69 : decode cX9_settle 69 = .ok (.iload_n 3, 1) := by decide +kernel
theorem dX9_settle_70 : decode cX9_settle 70 = .ok (.bipush 6, 2) := by decide +kernel
theorem dX9_settle_72 : decode cX9_settle 72 = .ok (.iadd, 1) := by decide +kernel
theorem dX9_settle_73 : decode cX9_settle 73 = .ok (.iaload, 1) := by decide +kernel
theorem dX9_settle_74 : decode cX9_settle 74 = .ok (.isub, 1) := by decide +kernel
theorem dX9_settle_75 : decode cX9_settle 75 = .ok (.bipush 16, 2) := by decide +kernel
theorem dX9_settle_77 : decode cX9_settle 77 = .ok (.if_icmp .gt 30, 3) := by decide +kernel
theorem dX9_settle_80 : decode cX9_settle 80 = .ok (.aload_n 0, 1) := by decide +kernel
theorem dX9_settle_81 : decode cX9_settle 81 = .ok (.getfield 7, 3) := by decide +kernel
theorem dX9_settle_84 : decode cX9_settle 84 = .ok (.sipush 308, 3) := by decide +kernel
theorem dX9_settle_87 : decode cX9_settle 87 = .ok (.bipush 6, 2) := by decide +kernel
theorem dX9_settle_89 : decode cX9_settle 89 = .ok (.aload_n 0, 1) := by decide +kernel
theorem dX9_settle_90 : decode cX9_settle 90 = .ok (.getfield 7, 3) := by decide +kernel
theorem dX9_settle_93 : decode cX9_settle 93 = .ok (.iload_n 3, 1) := by decide +kernel
theorem dX9_settle_94 : decode cX9_settle 94 = .ok (.bipush 6, 2) := by decide +kernel
theorem dX9_settle_96 : decode cX9_settle 96 = .ok (.iadd, 1) := by decide +kernel
theorem dX9_settle_97 : decode cX9_settle 97 = .ok (.iaload, 1) := by decide +kernel
theorem dX9_settle_98 : decode cX9_settle 98 = .ok (.bipush 16, 2) := by decide +kernel
theorem dX9_settle_100 : decode cX9_settle 100 = .ok (.irem, 1) := by decide +kernel
theorem dX9_settle_101 : decode cX9_settle 101 = .ok (.imul, 1) := by decide +kernel
theorem dX9_settle_102 : decode cX9_settle 102 = .ok (.iadd, 1) := by decide +kernel
theorem dX9_settle_103 : decode cX9_settle 103 = .ok (.iconst 3, 1) := by decide +kernel
theorem dX9_settle_104 : decode cX9_settle 104 = .ok (.iadd, 1) := by decide +kernel
theorem dX9_settle_105 : decode cX9_settle 105 = .ok (.iload_n 2, 1) := by decide +kernel
theorem dX9_settle_106 : decode cX9_settle 106 = .ok (.iastore, 1) := by decide +kernel
theorem dX9_settle_107 : decode cX9_settle 107 = .ok (.aload_n 0, 1) := by decide +kernel
theorem dX9_settle_108 : decode cX9_settle 108 = .ok (.iload_n 2, 1) := by decide +kernel
theorem dX9_settle_109 : decode cX9_settle 109 = .ok (.aload_n 0, 1) := by decide +kernel
theorem dX9_settle_110 : decode cX9_settle 110 = .ok (.getfield 7, 3) := by decide +kernel
theorem dX9_settle_113 : decode cX9_settle 113 = .ok (.iload_n 3, 1) := by decide +kernel
theorem dX9_settle_114 : decode cX9_settle 114 = .ok (.iconst 4, 1) := by decide +kernel
theorem dX9_settle_115 : decode cX9_settle 115 = .ok (.iadd, 1) := by decide +kernel
theorem dX9_settle_116 : decode cX9_settle 116 = .ok (.iaload, 1) := by decide +kernel
theorem dX9_settle_117 : decode cX9_settle 117 = .ok (.invokevirtual 139, 3) := by decide +kernel
theorem dX9_settle_120 : decode cX9_settle 120 = .ok (.iload_n 2, 1) := by decide +kernel
theorem dX9_settle_121 : decode cX9_settle 121 = .ok (.iconst 2, 1) := by decide +kernel
theorem dX9_settle_122 : decode cX9_settle 122 = .ok (.if_icmp .ge 45, 3) := by decide +kernel
theorem dX9_settle_125 : decode cX9_settle 125 = .ok (.aload_n 0, 1) := by decide +kernel
theorem dX9_settle_126 : decode cX9_settle 126 = .ok (.iload_n 2, 1) := by decide +kernel
theorem dX9_settle_127 : decode cX9_settle 127 = .ok (.aload_n 0, 1) := by decide +kernel
theorem dX9_settle_128 : decode cX9_settle 128 = .ok (.getfield 7, 3) := by decide +kernel
theorem dX9_settle_131 : decode cX9_settle 131 = .ok (.iload_n 3, 1) := by decide +kernel
theorem dX9_settle_132 : decode cX9_settle 132 = .ok (.iconst 1, 1) := by decide +kernel
theorem dX9_settle_133 : decode cX9_settle 133 = .ok (.iadd, 1) := by decide +kernel
theorem dX9_settle_134 : decode cX9_settle 134 = .ok (.iaload, 1) := by decide +kernel
theorem dX9_settle_135 : decode cX9_settle 135 = .ok (.aload_n 0, 1) := by decide +kernel
theorem dX9_settle_136 : decode cX9_settle 136 = .ok (.getfield 7, 3) := by decide +kernel
theorem dX9_settle_139 : decode cX9_settle 139 = .ok (.iload_n 3, 1) := by decide +kernel
theorem dX9_settle_140 : decode cX9_settle 140 = .ok (.iconst 2, 1) := by decide +kernel
theorem dX9_settle_141 : decode cX9_settle 141 = .ok (.iadd, 1) := by decide +kernel
theorem dX9_settle_142 : decode cX9_settle 142 = .ok (.iaload, 1) := by decide +kernel
theorem dX9_settle_143 : decode cX9_settle 143 = .ok (.invokevirtual 143, 3) := by decide +kernel
theorem dX9_settle_146 : decode cX9_settle 146 = .ok (.aload_n 0, 1) := by decide +kernel
theorem dX9_settle_147 : decode cX9_settle 147 = .ok (.iload_n 2, 1) := by decide +kernel
theorem dX9_settle_148 : decode cX9_settle 148 = .ok (.aload_n 0, 1) := by decide +kernel
theorem dX9_settle_149 : decode cX9_settle 149 = .ok (.getfield 7, 3) := by decide +kernel
theorem dX9_settle_152 : decode cX9_settle 152 = .ok (.iload_n 3, 1) := by decide +kernel
theorem dX9_settle_153 : decode cX9_settle 153 = .ok (.iconst 0, 1) := by decide +kernel
theorem dX9_settle_154 : decode cX9_settle 154 = .ok (.iadd, 1) := by decide +kernel
theorem dX9_settle_155 : decode cX9_settle 155 = .ok (.iaload, 1) := by decide +kernel
theorem dX9_settle_156 : decode cX9_settle 156 = .ok (.aload_n 0, 1) := by decide +kernel
theorem dX9_settle_157 : decode cX9_settle 157 = .ok (.getfield 7, 3) := by decide +kernel
theorem dX9_settle_160 : decode cX9_settle 160 = .ok (.iload_n 3, 1) := by decide +kernel
theorem dX9_settle_161 : decode cX9_settle 161 = .ok (.iconst 5, 1) := by decide +kernel
theorem dX9_settle_162 : decode cX9_settle 162 = .ok (.iadd, 1) := by decide +kernel
theorem dX9_settle_163 : decode cX9_settle 163 = .ok (.iaload, 1) := by decide +kernel
theorem dX9_settle_164 : decode cX9_settle 164 = .ok (.invokevirtual 147, 3) := by decide +kernel
theorem dX9_settle_167 : decode cX9_settle 167 = .ok (.aload_n 0, 1) := by decide +kernel
theorem dX9_settle_168 : decode cX9_settle 168 = .ok (.getfield 7, 3) := by decide +kernel
theorem dX9_settle_171 : decode cX9_settle 171 = .ok (.iload_n 3, 1) := by decide +kernel
theorem dX9_settle_172 : decode cX9_settle 172 = .ok (.iconst 0, 1) := by decide +kernel
theorem dX9_settle_173 : decode cX9_settle 173 = .ok (.iadd, 1) := by decide +kernel
theorem dX9_settle_174 : decode cX9_settle 174 = .ok (.iaload, 1) := by decide +kernel
theorem dX9_settle_175 : decode cX9_settle 175 = .ok (.ireturn, 1) := by decide +kernel
theorem dX9_type_0 : decode cX9_type 0 = .ok (.aload_n 0, 1) := by decide +kernel
theorem dX9_type_1 : decode cX9_type 1 = .ok (.getfield 168, 3) := by decide +kernel
theorem dX9_type_4 : decode cX9_type 4 = .ok (.bipush 60, 2) := by decide +kernel
theorem dX9_type_6 : decode cX9_type 6 = .ok (.if_icmp .ne 6, 3) := by decide +kernel
theorem dX9_type_9 : decode cX9_type 9 = .ok (.bipush (-3), 2) := by decide +kernel
theorem dX9_type_11 : decode cX9_type 11 = .ok (.ireturn, 1) := by decide +kernel
theorem dX9_type_12 : decode cX9_type 12 = .ok (.aload_n 0, 1) := by decide +kernel
theorem dX9_type_13 : decode cX9_type 13 = .ok (.getfield 35, 3) := by decide +kernel
theorem dX9_type_16 : decode cX9_type 16 = .ok (.aload_n 0, 1) := by decide +kernel
theorem dX9_type_17 : decode cX9_type 17 = .ok (.getfield 168, 3) := by decide +kernel
theorem dX9_type_20 : decode cX9_type 20 = .ok (.iload_n 1, 1) := by decide +kernel
theorem dX9_type_21 : decode cX9_type 21 = .ok (.castore, 1) := by decide +kernel
theorem dX9_type_22 : decode cX9_type 22 = .ok (.aload_n 0, 1) := by decide +kernel
theorem dX9_type_23 : decode cX9_type 23 = .ok (.dup, 1) := by decide +kernel
theorem dX9_type_24 : decode cX9_type 24 = .ok (.getfield 168, 3) := by decide +kernel
theorem dX9_type_27 : decode cX9_type 27 = .ok (.iconst 1, 1) := by decide +kernel
theorem dX9_type_28 : decode cX9_type 28 = .ok (.iadd, 1) := by decide +kernel
theorem dX9_type_29 : decode cX9_type 29 = .ok (.putfield 168, 3) := by decide +kernel
theorem dX9_type_32 : decode cX9_type 32 = .ok (.aload_n 0, 1) := by decide +kernel
theorem dX9_type_33 : decode cX9_type 33 = .ok (.getfield 168, 3) := by decide +kernel
theorem dX9_type_36 : decode cX9_type 36 = .ok (.ireturn, 1) := by decide +kernel
theorem dX9_clearText_0 : decode cX9_clearText 0 = .ok (.aload_n 0, 1) := by decide +kernel
theorem dX9_clearText_1 : decode cX9_clearText 1 = .ok (.getfield 168, 3) := by decide +kernel
theorem dX9_clearText_4 : decode cX9_clearText 4 = .ok (.istore_n 1, 1) := by decide +kernel
theorem dX9_clearText_5 : decode cX9_clearText 5 = .ok (.aload_n 0, 1) := by decide +kernel
theorem dX9_clearText_6 : decode cX9_clearText 6 = .ok (.iconst 0, 1) := by decide +kernel
theorem dX9_clearText_7 : decode cX9_clearText 7 = .ok (.putfield 168, 3) := by decide +kernel
theorem dX9_clearText_10 : decode cX9_clearText 10 = .ok (.iload_n 1, 1) := by decide +kernel
theorem dX9_clearText_11 : decode cX9_clearText 11 = .ok (.ireturn, 1) := by decide +kernel
theorem dX9_sees_0 : decode cX9_sees 0 = .ok (.aload_n 0, 1) := by decide +kernel
theorem dX9_sees_1 : decode cX9_sees 1 = .ok (.getfield 171, 3) := by decide +kernel
theorem dX9_sees_4 : decode cX9_sees 4 = .ok (.aload_n 0, 1) := by decide +kernel
theorem dX9_sees_5 : decode cX9_sees 5 = .ok (.getfield 168, 3) := by decide +kernel
theorem dX9_sees_8 : decode cX9_sees 8 = .ok (.if_icmp .ge 24, 3) := by decide +kernel
theorem dX9_sees_11 : decode cX9_sees 11 = .ok (.aload_n 0, 1) := by decide +kernel
theorem dX9_sees_12 : decode cX9_sees 12 = .ok (.getfield 35, 3) := by decide +kernel
theorem dX9_sees_15 : decode cX9_sees 15 = .ok (.aload_n 0, 1) := by decide +kernel
theorem dX9_sees_16 : decode cX9_sees 16 = .ok (.getfield 171, 3) := by decide +kernel
theorem dX9_sees_19 : decode cX9_sees 19 = .ok (.caload, 1) := by decide +kernel
theorem dX9_sees_20 : decode cX9_sees 20 = .ok (.iload_n 1, 1) := by decide +kernel
theorem dX9_sees_21 : decode cX9_sees 21 = .ok (.iload_n 2, 1) := by decide +kernel
theorem dX9_sees_22 : decode cX9_sees 22 = .ok (.invokestatic 68, 3) := by decide +kernel
theorem dX9_sees_25 : decode cX9_sees 25 = .ok (.ifCond .eq 7, 3) := by decide +kernel
theorem dX9_sees_28 : decode cX9_sees 28 = .ok (.iconst 1, 1) := by decide +kernel
theorem dX9_sees_29 : decode cX9_sees 29 = .ok (.goto 4, 3) := by decide +kernel
theorem dX9_sees_32 : decode cX9_sees 32 = .ok (.iconst 0, 1) := by decide +kernel
theorem dX9_sees_33 : decode cX9_sees 33 = .ok (.ireturn, 1) := by decide +kernel
theorem dX9_readsNumber_0 : decode cX9_readsNumber 0 = .ok (.aload_n 0, 1) := by decide +kernel
theorem dX9_readsNumber_1 : decode cX9_readsNumber 1 = .ok (.bipush 48, 2) := by decide +kernel
theorem dX9_readsNumber_3 : decode cX9_readsNumber 3 = .ok (.iload_n 1, 1) := by decide +kernel
theorem dX9_readsNumber_4 : decode cX9_readsNumber 4 = .ok (.iadd, 1) := by decide +kernel
theorem dX9_readsNumber_5 : decode cX9_readsNumber 5 = .ok (.bipush 57, 2) := by decide +kernel
theorem dX9_readsNumber_7 : decode cX9_readsNumber 7 = .ok (.invokevirtual 174, 3) := by decide +kernel
theorem dX9_readsNumber_10 : decode cX9_readsNumber 10 = .ok (.ifCond .ne 5, 3) := by decide +kernel
theorem dX9_readsNumber_13 : decode cX9_readsNumber 13 = .ok (.iconst (-1), 1) := by decide +kernel
theorem dX9_readsNumber_14 : decode cX9_readsNumber 14 = .ok (.ireturn, 1) := by decide +kernel
theorem dX9_readsNumber_15 : decode cX9_readsNumber 15 = .ok (.aload_n 0, 1) := by decide +kernel
theorem dX9_readsNumber_16 : decode cX9_readsNumber 16 = .ok (.getfield 35, 3) := by decide +kernel
theorem dX9_readsNumber_19 : decode cX9_readsNumber 19 = .ok (.aload_n 0, 1) := by decide +kernel
theorem dX9_readsNumber_20 : decode cX9_readsNumber 20 = .ok (.getfield 171, 3) := by decide +kernel
theorem dX9_readsNumber_23 : decode cX9_readsNumber 23 = .ok (.caload, 1) := by decide +kernel
theorem dX9_readsNumber_24 : decode cX9_readsNumber 24 = .ok (.bipush 48, 2) := by decide +kernel
theorem dX9_readsNumber_26 : decode cX9_readsNumber 26 = .ok (.isub, 1) := by decide +kernel
theorem dX9_readsNumber_27 : decode cX9_readsNumber 27 = .ok (.istore_n 2, 1) := by decide +kernel
theorem dX9_readsNumber_28 : decode cX9_readsNumber 28 = .ok (.aload_n 0, 1) := by decide +kernel
theorem dX9_readsNumber_29 : decode cX9_readsNumber 29 = .ok (.dup, 1) := by decide +kernel
theorem dX9_readsNumber_30 : decode cX9_readsNumber 30 = .ok (.getfield 171, 3) := by decide +kernel
theorem dX9_readsNumber_33 : decode cX9_readsNumber 33 = .ok (.iconst 1, 1) := by decide +kernel
theorem dX9_readsNumber_34 : decode cX9_readsNumber 34 = .ok (.iadd, 1) := by decide +kernel
theorem dX9_readsNumber_35 : decode cX9_readsNumber 35 = .ok (.putfield 171, 3) := by decide +kernel
theorem dX9_readsNumber_38 : decode cX9_readsNumber 38 = .ok (.iload_n 2, 1) := by decide +kernel
theorem dX9_readsNumber_39 : decode cX9_readsNumber 39 = .ok (.ifCond .le 42, 3) := by decide +kernel
theorem dX9_readsNumber_42 : decode cX9_readsNumber 42 = .ok (.aload_n 0, 1) := by decide +kernel
theorem dX9_readsNumber_43 : decode cX9_readsNumber 43 = .ok (.bipush 48, 2) := by decide +kernel
theorem dX9_readsNumber_45 : decode cX9_readsNumber 45 = .ok (.bipush 57, 2) := by decide +kernel
theorem dX9_readsNumber_47 : decode cX9_readsNumber 47 = .ok (.invokevirtual 174, 3) := by decide +kernel
theorem dX9_readsNumber_50 : decode cX9_readsNumber 50 = .ok (.ifCond .eq 31, 3) := by decide +kernel
theorem dX9_readsNumber_53 : decode cX9_readsNumber 53 = .ok (.bipush 10, 2) := by decide +kernel
theorem dX9_readsNumber_55 : decode cX9_readsNumber 55 = .ok (.iload_n 2, 1) := by decide +kernel
theorem dX9_readsNumber_56 : decode cX9_readsNumber 56 = .ok (.imul, 1) := by decide +kernel
theorem dX9_readsNumber_57 : decode cX9_readsNumber 57 = .ok (.aload_n 0, 1) := by decide +kernel
theorem dX9_readsNumber_58 : decode cX9_readsNumber 58 = .ok (.getfield 35, 3) := by decide +kernel
theorem dX9_readsNumber_61 : decode cX9_readsNumber 61 = .ok (.aload_n 0, 1) := by decide +kernel
theorem dX9_readsNumber_62 : decode cX9_readsNumber 62 = .ok (.getfield 171, 3) := by decide +kernel
theorem dX9_readsNumber_65 : decode cX9_readsNumber 65 = .ok (.caload, 1) := by decide +kernel
theorem dX9_readsNumber_66 : decode cX9_readsNumber 66 = .ok (.iadd, 1) := by decide +kernel
theorem dX9_readsNumber_67 : decode cX9_readsNumber 67 = .ok (.bipush 48, 2) := by decide +kernel
theorem dX9_readsNumber_69 : decode cX9_readsNumber 69 = .ok (.isub, 1) := by decide +kernel
theorem dX9_readsNumber_70 : decode cX9_readsNumber 70 = .ok (.istore_n 2, 1) := by decide +kernel
theorem dX9_readsNumber_71 : decode cX9_readsNumber 71 = .ok (.aload_n 0, 1) := by decide +kernel
theorem dX9_readsNumber_72 : decode cX9_readsNumber 72 = .ok (.dup, 1) := by decide +kernel
theorem dX9_readsNumber_73 : decode cX9_readsNumber 73 = .ok (.getfield 171, 3) := by decide +kernel
theorem dX9_readsNumber_76 : decode cX9_readsNumber 76 = .ok (.iconst 1, 1) := by decide +kernel
theorem dX9_readsNumber_77 : decode cX9_readsNumber 77 = .ok (.iadd, 1) := by decide +kernel
theorem dX9_readsNumber_78 : decode cX9_readsNumber 78 = .ok (.putfield 171, 3) := by decide +kernel
theorem dX9_readsNumber_81 : decode cX9_readsNumber 81 = .ok (.iload_n 2, 1) := by decide +kernel
theorem dX9_readsNumber_82 : decode cX9_readsNumber 82 = .ok (.ireturn, 1) := by decide +kernel
theorem dX9_move_0 : decode cX9_move 0 = .ok (.aload_n 0, 1) := by decide +kernel
theorem dX9_move_1 : decode cX9_move 1 = .ok (.bipush 116, 2) := by decide +kernel
theorem dX9_move_3 : decode cX9_move 3 = .ok (.bipush 116, 2) := by decide +kernel
theorem dX9_move_5 : decode cX9_move 5 = .ok (.invokevirtual 174, 3) := by decide +kernel
theorem dX9_move_8 : decode cX9_move 8 = .ok (.ifCond .eq 42, 3) := by decide +kernel
theorem dX9_move_11 : decode cX9_move 11 = .ok (.aload_n 0, 1) := by decide +kernel
theorem dX9_move_12 : decode cX9_move 12 = .ok (.dup, 1) := by decide +kernel
theorem dX9_move_13 : decode cX9_move 13 = .ok (.getfield 171, 3) := by decide +kernel
theorem dX9_move_16 : decode cX9_move 16 = .ok (.iconst 1, 1) := by decide +kernel
theorem dX9_move_17 : decode cX9_move 17 = .ok (.iadd, 1) := by decide +kernel
theorem dX9_move_18 : decode cX9_move 18 = .ok (.putfield 171, 3) := by decide +kernel
theorem dX9_move_21 : decode cX9_move 21 = .ok (.aload_n 0, 1) := by decide +kernel
theorem dX9_move_22 : decode cX9_move 22 = .ok (.iconst 1, 1) := by decide +kernel
theorem dX9_move_23 : decode cX9_move 23 = .ok (.invokevirtual 178, 3) := by decide +kernel
theorem dX9_move_26 : decode cX9_move 26 = .ok (.istore_n 2, 1) := by decide +kernel
theorem dX9_move_27 : decode cX9_move 27 = .ok (.iload_n 2, 1) := by decide +kernel
theorem dX9_move_28 : decode cX9_move 28 = .ok (.ifCond .ge 8, 3) := by decide +kernel
theorem dX9_move_31 : decode cX9_move 31 = .ok (.bipush (-100), 2) := by decide +kernel
theorem dX9_move_33 : decode cX9_move 33 = .ok (.goto 16, 3) := by decide +kernel
theorem dX9_move_36 : decode cX9_move 36 = .ok (.iload_n 1, 1) := by decide +kernel
theorem dX9_move_37 : decode cX9_move 37 = .ok (.ifCond .eq 11, 3) := by decide +kernel
theorem dX9_move_40 : decode cX9_move 40 = .ok (.aload_n 0, 1) := by decide +kernel
theorem dX9_move_41 : decode cX9_move 41 = .ok (.iload_n 2, 1) := by decide +kernel
theorem dX9_move_42 : decode cX9_move 42 = .ok (.invokevirtual 162, 3) := by decide +kernel
theorem dX9_move_45 : decode cX9_move 45 = .ok (.goto 4, 3) := by decide +kernel
theorem dX9_move_48 : decode cX9_move 48 = .ok (.iconst 0, 1) := by decide +kernel
theorem dX9_move_49 : decode cX9_move 49 = .ok (.ireturn, 1) := by decide +kernel
theorem dX9_move_50 : decode cX9_move 50 = .ok (.aload_n 0, 1) := by decide +kernel
theorem dX9_move_51 : decode cX9_move 51 = .ok (.bipush 48, 2) := by decide +kernel
theorem dX9_move_53 : decode cX9_move 53 = .ok (.bipush 49, 2) := by decide +kernel
theorem dX9_move_55 : decode cX9_move 55 = .ok (.invokevirtual 174, 3) := by decide +kernel
theorem dX9_move_58 : decode cX9_move 58 = .ok (.ifCond .ne 6, 3) := by decide +kernel
theorem dX9_move_61 : decode cX9_move 61 = .ok (.bipush (-100), 2) := by decide +kernel
theorem dX9_move_63 : decode cX9_move 63 = .ok (.ireturn, 1) := by decide +kernel
theorem dX9_move_64 : decode cX9_move 64 = .ok (.aload_n 0, 1) := by decide +kernel
theorem dX9_move_65 : decode cX9_move 65 = .ok (.getfield 35, 3) := by decide +kernel
theorem dX9_move_68 : decode cX9_move 68 = .ok (.aload_n 0, 1) := by decide +kernel
theorem dX9_move_69 : decode cX9_move 69 = .ok (.getfield 171, 3) := by decide +kernel
theorem dX9_move_72 : decode cX9_move 72 = .ok (.caload, 1) := by decide +kernel
theorem dX9_move_73 : decode cX9_move 73 = .ok (.bipush 48, 2) := by decide +kernel
theorem dX9_move_75 : decode cX9_move 75 = .ok (.isub, 1) := by decide +kernel
theorem dX9_move_76 : decode cX9_move 76 = .ok (.istore_n 2, 1) := by decide +kernel
theorem dX9_move_77 : decode cX9_move 77 = .ok (.aload_n 0, 1) := by decide +kernel
theorem dX9_move_78 : decode cX9_move 78 = .ok (.dup, 1) := by decide +kernel
theorem dX9_move_79 : decode cX9_move 79 = .ok (.getfield 171, 3) := by decide +kernel
theorem dX9_move_82 : decode cX9_move 82 = .ok (.iconst 1, 1) := by decide +kernel
theorem dX9_move_83 : decode cX9_move 83 = .ok (.iadd, 1) := by decide +kernel
theorem dX9_move_84 : decode cX9_move 84 = .ok (.putfield 171, 3) := by decide +kernel
theorem dX9_move_87 : decode cX9_move 87 = .ok (.aload_n 0, 1) := by decide +kernel
theorem dX9_move_88 : decode cX9_move 88 = .ok (.bipush 100, 2) := by decide +kernel
theorem dX9_move_90 : decode cX9_move 90 = .ok (.bipush 100, 2) := by decide +kernel
theorem dX9_move_92 : decode cX9_move 92 = .ok (.invokevirtual 174, 3) := by decide +kernel
theorem dX9_move_95 : decode cX9_move 95 = .ok (.istore_n 3, 1) := by decide +kernel
theorem dX9_move_96 : decode cX9_move 96 = .ok (.iload_n 3, 1) := by decide +kernel
theorem dX9_move_97 : decode cX9_move 97 = .ok (.ifCond .ne 17, 3) := by decide +kernel
theorem dX9_move_100 : decode cX9_move 100 = .ok (.aload_n 0, 1) := by decide +kernel
theorem dX9_move_101 : decode cX9_move 101 = .ok (.bipush 117, 2) := by decide +kernel
theorem dX9_move_103 : decode cX9_move 103 = .ok (.bipush 117, 2) := by decide +kernel
theorem dX9_move_105 : decode cX9_move 105 = .ok (.invokevirtual 174, 3) := by decide +kernel
theorem dX9_move_108 : decode cX9_move 108 = .ok (.ifCond .ne 6, 3) := by decide +kernel
theorem dX9_move_111 : decode cX9_move 111 = .ok (.bipush (-100), 2) := by decide +kernel
theorem dX9_move_113 : decode cX9_move 113 = .ok (.ireturn, 1) := by decide +kernel
theorem dX9_move_114 : decode cX9_move 114 = .ok (.aload_n 0, 1) := by decide +kernel
theorem dX9_move_115 : decode cX9_move 115 = .ok (.dup, 1) := by decide +kernel
theorem dX9_move_116 : decode cX9_move 116 = .ok (.getfield 171, 3) := by decide +kernel
theorem dX9_move_119 : decode cX9_move 119 = .ok (.iconst 1, 1) := by decide +kernel
theorem dX9_move_120 : decode cX9_move 120 = .ok (.iadd, 1) := by decide +kernel
theorem dX9_move_121 : decode cX9_move 121 = .ok (.putfield 171, 3) := by decide +kernel
theorem dX9_move_124 : decode cX9_move 124 = .ok (.aload_n 0, 1) := by decide +kernel
theorem dX9_move_125 : decode cX9_move 125 = .ok (.iconst 0, 1) := by decide +kernel
theorem dX9_move_126 : decode cX9_move 126 = .ok (.invokevirtual 178, 3) := by decide +kernel
theorem dX9_move_129 : decode cX9_move 129 = .ok (.istore 4, 2) := by decide +kernel
theorem dX9_move_131 : decode cX9_move 131 = .ok (.iload 4, 2) := by decide +kernel
theorem dX9_move_133 : decode cX9_move 133 = .ok (.ifCond .ge 6, 3) := by decide +kernel
theorem dX9_move_136 : decode cX9_move 136 = .ok (.bipush (-100), 2) := by decide +kernel
theorem dX9_move_138 : decode cX9_move 138 = .ok (.ireturn, 1) := by decide +kernel
theorem dX9_move_139 : decode cX9_move 139 = .ok (.iload_n 1, 1) := by decide +kernel
theorem dX9_move_140 : decode cX9_move 140 = .ok (.ifCond .ne 5, 3) := by decide +kernel
theorem dX9_move_143 : decode cX9_move 143 = .ok (.iconst 0, 1) := by decide +kernel
theorem dX9_move_144 : decode cX9_move 144 = .ok (.ireturn, 1) := by decide +kernel
theorem dX9_move_145 : decode cX9_move 145 = .ok (.iload_n 3, 1) := by decide +kernel
theorem dX9_move_146 : decode cX9_move 146 = .ok (.ifCond .eq 13, 3) := by decide +kernel
theorem dX9_move_149 : decode cX9_move 149 = .ok (.aload_n 0, 1) := by decide +kernel
theorem dX9_move_150 : decode cX9_move 150 = .ok (.iload_n 2, 1) := by decide +kernel
theorem dX9_move_151 : decode cX9_move 151 = .ok (.iload 4, 2) := by decide +kernel
theorem dX9_move_153 : decode cX9_move 153 = .ok (.invokevirtual 153, 3) := by decide +kernel
theorem dX9_move_156 : decode cX9_move 156 = .ok (.goto 10, 3) := by decide +kernel
theorem dX9_move_159 : decode cX9_move 159 = .ok (.aload_n 0, 1) := by decide +kernel
theorem dX9_move_160 : decode cX9_move 160 = .ok (.iload_n 2, 1) := by decide +kernel
theorem dX9_move_161 : decode cX9_move 161 = .ok (.iload 4, 2) := by decide +kernel
theorem dX9_move_163 : decode cX9_move 163 = .ok (.invokevirtual 156, 3) := by decide +kernel
theorem dX9_move_166 : decode cX9_move 166 = .ok (.istore 5, 2) := by decide +kernel
theorem dX9_move_168 : decode cX9_move 168 = .ok (.iload 5, 2) := by decide +kernel
theorem dX9_move_170 : decode cX9_move 170 = .ok (.ifCond .ne 23, 3) := by decide +kernel
theorem dX9_move_173 : decode cX9_move 173 = .ok (.aload_n 0, 1) := by decide +kernel
theorem dX9_move_174 : decode cX9_move 174 = .ok (.getfield 7, 3) := by decide +kernel
theorem dX9_move_177 : decode cX9_move 177 = .ok (.bipush 20, 2) := by decide +kernel
theorem dX9_move_179 : decode cX9_move 179 = .ok (.iload 4, 2) := by decide +kernel
theorem dX9_move_181 : decode cX9_move 181 = .ok (.iadd, 1) := by decide +kernel
theorem dX9_move_182 : decode cX9_move 182 = .ok (.iload_n 3, 1) := by decide +kernel
theorem dX9_move_183 : decode cX9_move 183 = .ok (.ifCond .eq 7, 3) := by decide +kernel
theorem dX9_move_186 : decode cX9_move 186 = .ok (.iload_n 2, 1) := by decide +kernel
theorem dX9_move_187 : decode cX9_move 187 = .ok (.goto 5, 3) := by decide +kernel
theorem dX9_move_190 : decode cX9_move 190 = .ok (.bipush (-5), 2) := by decide +kernel
theorem dX9_move_192 : decode cX9_move 192 = .ok (.iastore, 1) := by decide +kernel
theorem dX9_move_193 : decode cX9_move 193 = .ok (.iload 5, 2) := by decide +kernel
theorem dX9_move_195 : decode cX9_move 195 = .ok (.ireturn, 1) := by decide +kernel
theorem dX9_moves_0 : decode cX9_moves 0 = .ok (.aload_n 0, 1) := by decide +kernel
theorem dX9_moves_1 : decode cX9_moves 1 = .ok (.iconst 0, 1) := by decide +kernel
theorem dX9_moves_2 : decode cX9_moves 2 = .ok (.putfield 171, 3) := by decide +kernel
theorem dX9_moves_5 : decode cX9_moves 5 = .ok (.iconst 0, 1) := by decide +kernel
theorem dX9_moves_6 : decode cX9_moves 6 = .ok (.istore_n 2, 1) := by decide +kernel
theorem dX9_moves_7 : decode cX9_moves 7 = .ok (.iconst 1, 1) := by decide +kernel
theorem dX9_moves_8 : decode cX9_moves 8 = .ok (.istore_n 3, 1) := by decide +kernel
theorem dX9_moves_9 : decode cX9_moves 9 = .ok (.iload_n 3, 1) := by decide +kernel
theorem dX9_moves_10 : decode cX9_moves 10 = .ok (.ifCond .eq 53, 3) := by decide +kernel
theorem dX9_moves_13 : decode cX9_moves 13 = .ok (.aload_n 0, 1) := by decide +kernel
theorem dX9_moves_14 : decode cX9_moves 14 = .ok (.iload_n 1, 1) := by decide +kernel
theorem dX9_moves_15 : decode cX9_moves 15 = .ok (.invokevirtual 181, 3) := by decide +kernel
theorem dX9_moves_18 : decode cX9_moves 18 = .ok (.istore 4, 2) := by decide +kernel
theorem dX9_moves_20 : decode cX9_moves 20 = .ok (.iload 4, 2) := by decide +kernel
theorem dX9_moves_22 : decode cX9_moves 22 = .ok (.ifCond .ge 6, 3) := by decide +kernel
theorem dX9_moves_25 : decode cX9_moves 25 = .ok (.iload 4, 2) := by decide +kernel
theorem dX9_moves_27 : decode cX9_moves 27 = .ok (.ireturn, 1) := by decide +kernel
theorem dX9_moves_28 : decode cX9_moves 28 = .ok (.iload_n 2, 1) := by decide +kernel
theorem dX9_moves_29 : decode cX9_moves 29 = .ok (.iload 4, 2) := by decide +kernel
theorem dX9_moves_31 : decode cX9_moves 31 = .ok (.iadd, 1) := by decide +kernel
theorem dX9_moves_32 : decode cX9_moves 32 = .ok (.istore_n 2, 1) := by decide +kernel
theorem dX9_moves_33 : decode cX9_moves 33 = .ok (.aload_n 0, 1) := by decide +kernel
theorem dX9_moves_34 : decode cX9_moves 34 = .ok (.bipush 59, 2) := by decide +kernel
theorem dX9_moves_36 : decode cX9_moves 36 = .ok (.bipush 59, 2) := by decide +kernel
theorem dX9_moves_38 : decode cX9_moves 38 = .ok (.invokevirtual 174, 3) := by decide +kernel
theorem dX9_moves_41 : decode cX9_moves 41 = .ok (.istore_n 3, 1) := by decide +kernel
theorem dX9_moves_42 : decode cX9_moves 42 = .ok (.aload_n 0, 1) := by decide +kernel
theorem dX9_moves_43 : decode cX9_moves 43 = .ok (.dup, 1) := by decide +kernel
theorem dX9_moves_44 : decode cX9_moves 44 = .ok (.getfield 171, 3) := by decide +kernel
theorem dX9_moves_47 : decode cX9_moves 47 = .ok (.iload_n 3, 1) := by decide +kernel
theorem dX9_moves_48 : decode cX9_moves 48 = .ok (.ifCond .eq 7, 3) := by decide +kernel
theorem dX9_moves_51 : decode cX9_moves 51 = .ok (.iconst 1, 1) := by decide +kernel
theorem dX9_moves_52 : decode cX9_moves 52 = .ok (.goto 4, 3) := by decide +kernel
theorem dX9_moves_55 : decode cX9_moves 55 = .ok (.iconst 0, 1) := by decide +kernel
theorem dX9_moves_56 : decode cX9_moves 56 = .ok (.iadd, 1) := by decide +kernel
theorem dX9_moves_57 : decode cX9_moves 57 = .ok (.putfield 171, 3) := by decide +kernel
theorem dX9_moves_60 : decode cX9_moves 60 = .ok (.goto (-51), 3) := by decide +kernel
theorem dX9_moves_63 : decode cX9_moves 63 = .ok (.aload_n 0, 1) := by decide +kernel
theorem dX9_moves_64 : decode cX9_moves 64 = .ok (.getfield 171, 3) := by decide +kernel
theorem dX9_moves_67 : decode cX9_moves 67 = .ok (.aload_n 0, 1) := by decide +kernel
theorem dX9_moves_68 : decode cX9_moves 68 = .ok (.getfield 168, 3) := by decide +kernel
theorem dX9_moves_71 : decode cX9_moves 71 = .ok (.if_icmp .ge 8, 3) := by decide +kernel
theorem dX9_moves_74 : decode cX9_moves 74 = .ok (.bipush (-100), 2) := by decide +kernel
theorem dX9_moves_76 : decode cX9_moves 76 = .ok (.goto 4, 3) := by decide +kernel
theorem dX9_moves_79 : decode cX9_moves 79 = .ok (.iload_n 2, 1) := by decide +kernel
theorem dX9_moves_80 : decode cX9_moves 80 = .ok (.ireturn, 1) := by decide +kernel
theorem dX9_perform_0 : decode cX9_perform 0 = .ok (.aload_n 0, 1) := by decide +kernel
theorem dX9_perform_1 : decode cX9_perform 1 = .ok (.iconst 0, 1) := by decide +kernel
theorem dX9_perform_2 : decode cX9_perform 2 = .ok (.invokevirtual 185, 3) := by decide +kernel
theorem dX9_perform_5 : decode cX9_perform 5 = .ok (.ifCond .ge 11, 3) := by decide +kernel
theorem dX9_perform_8 : decode cX9_perform 8 = .ok (.bipush (-100), 2) := by decide +kernel
theorem dX9_perform_10 : decode cX9_perform 10 = .ok (.aload_n 0, 1) := by decide +kernel
theorem dX9_perform_11 : decode cX9_perform 11 = .ok (.getfield 171, 3) := by decide +kernel
theorem dX9_perform_14 : decode cX9_perform 14 = .ok (.isub, 1) := by decide +kernel
theorem dX9_perform_15 : decode cX9_perform 15 = .ok (.ireturn, 1) := by decide +kernel
theorem dX9_perform_16 : decode cX9_perform 16 = .ok (.aload_n 0, 1) := by decide +kernel
theorem dX9_perform_17 : decode cX9_perform 17 = .ok (.invokevirtual 51, 3) := by decide +kernel
theorem dX9_perform_20 : decode cX9_perform 20 = .ok (.aload_n 0, 1) := by decide +kernel
theorem dX9_perform_21 : decode cX9_perform 21 = .ok (.iconst 1, 1) := by decide +kernel
theorem dX9_perform_22 : decode cX9_perform 22 = .ok (.invokevirtual 185, 3) := by decide +kernel
theorem dX9_perform_25 : decode cX9_perform 25 = .ok (.istore_n 1, 1) := by decide +kernel
theorem dX9_perform_26 : decode cX9_perform 26 = .ok (.iload_n 1, 1) := by decide +kernel
theorem dX9_perform_27 : decode cX9_perform 27 = .ok (.ifCond .ge 9, 3) := by decide +kernel
theorem dX9_perform_30 : decode cX9_perform 30 = .ok (.aload_n 0, 1) := by decide +kernel
theorem dX9_perform_31 : decode cX9_perform 31 = .ok (.invokevirtual 188, 3) := by decide +kernel
theorem dX9_perform_34 : decode cX9_perform 34 = .ok (.iload_n 1, 1) := by decide +kernel
theorem dX9_perform_35 : decode cX9_perform 35 = .ok (.ireturn, 1) := by decide +kernel
theorem dX9_perform_36 : decode cX9_perform 36 = .ok (.aload_n 0, 1) := by decide +kernel
theorem dX9_perform_37 : decode cX9_perform 37 = .ok (.invokevirtual 54, 3) := by decide +kernel
theorem dX9_perform_40 : decode cX9_perform 40 = .ok (.iload_n 1, 1) := by decide +kernel
theorem dX9_perform_41 : decode cX9_perform 41 = .ok (.ireturn, 1) := by decide +kernel
theorem dX9_key_0 : decode cX9_key 0 = .ok (.aload_n 0, 1) := by decide +kernel
theorem dX9_key_1 : decode cX9_key 1 = .ok (.iload_n 1, 1) := by decide +kernel
theorem dX9_key_2 : decode cX9_key 2 = .ok (.invokevirtual 79, 3) := by decide +kernel
theorem dX9_key_5 : decode cX9_key 5 = .ok (.ifCond .eq 5, 3) := by decide +kernel
theorem dX9_key_8 : decode cX9_key 8 = .ok (.iconst (-1), 1) := by decide +kernel
theorem dX9_key_9 : decode cX9_key 9 = .ok (.ireturn, 1) := by decide +kernel
theorem dX9_key_10 : decode cX9_key 10 = .ok (.iload_n 2, 1) := by decide +kernel
theorem dX9_key_11 : decode cX9_key 11 = .ok (.tableswitch 128 0 6 #[41, 51, 65, 75, 97, 108, 114], 41) := by decide +kernel
theorem dX9_key_52 : decode cX9_key 52 = .ok (.aload_n 0, 1) := by decide +kernel
theorem dX9_key_53 : decode cX9_key 53 = .ok (.getfield 7, 3) := by decide +kernel
theorem dX9_key_56 : decode cX9_key 56 = .ok (.bipush 20, 2) := by decide +kernel
theorem dX9_key_58 : decode cX9_key 58 = .ok (.iload_n 1, 1) := by decide +kernel
theorem dX9_key_59 : decode cX9_key 59 = .ok (.iadd, 1) := by decide +kernel
theorem dX9_key_60 : decode cX9_key 60 = .ok (.iaload, 1) := by decide +kernel
theorem dX9_key_61 : decode cX9_key 61 = .ok (.ireturn, 1) := by decide +kernel
theorem dX9_key_62 : decode cX9_key 62 = .ok (.aload_n 0, 1) := by decide +kernel
theorem dX9_key_63 : decode cX9_key 63 = .ok (.iload_n 1, 1) := by decide +kernel
theorem dX9_key_64 : decode cX9_key 64 = .ok (.invokevirtual 76, 3) := by decide +kernel
theorem dX9_key_67 : decode cX9_key 67 = .ok (.ifCond .eq 7, 3) := by decide +kernel
theorem dX9_key_70 : decode cX9_key 70 = .ok (.iconst 1, 1) := by decide +kernel
theorem dX9_key_71 : decode cX9_key 71 = .ok (.goto 4, 3) := by decide +kernel
theorem dX9_key_74 : decode cX9_key 74 = .ok (.iconst 0, 1) := by decide +kernel
theorem dX9_key_75 : decode cX9_key 75 = .ok (.ireturn, 1) := by decide +kernel
theorem dX9_key_76 : decode cX9_key 76 = .ok (.aload_n 0, 1) := by decide +kernel
theorem dX9_key_77 : decode cX9_key 77 = .ok (.getfield 7, 3) := by decide +kernel
theorem dX9_key_80 : decode cX9_key 80 = .ok (.bipush 68, 2) := by decide +kernel
theorem dX9_key_82 : decode cX9_key 82 = .ok (.iload_n 1, 1) := by decide +kernel
theorem dX9_key_83 : decode cX9_key 83 = .ok (.iadd, 1) := by decide +kernel
theorem dX9_key_84 : decode cX9_key 84 = .ok (.iaload, 1) := by decide +kernel
theorem dX9_key_85 : decode cX9_key 85 = .ok (.ireturn, 1) := by decide +kernel
theorem dX9_key_86 : decode cX9_key 86 = .ok (.aload_n 0, 1) := by decide +kernel
theorem dX9_key_87 : decode cX9_key 87 = .ok (.iload_n 1, 1) := by decide +kernel
theorem dX9_key_88 : decode cX9_key 88 = .ok (.invokevirtual 76, 3) := by decide +kernel
theorem dX9_key_91 : decode cX9_key 91 = .ok (.ifCond .eq 15, 3) := by decide +kernel
theorem dX9_key_94 : decode cX9_key 94 = .ok (.aload_n 0, 1) := by decide +kernel
theorem dX9_key_95 : decode cX9_key 95 = .ok (.getfield 7, 3) := by decide +kernel
theorem dX9_key_98 : decode cX9_key 98 = .ok (.bipush 116, 2) := by decide +kernel
theorem dX9_key_100 : decode cX9_key 100 = .ok (.iload_n 1, 1) := by decide +kernel
theorem dX9_key_101 : decode cX9_key 101 = .ok (.iadd, 1) := by decide +kernel
theorem dX9_key_102 : decode cX9_key 102 = .ok (.iaload, 1) := by decide +kernel
theorem dX9_key_103 : decode cX9_key 103 = .ok (.goto 4, 3) := by decide +kernel
theorem dX9_key_106 : decode cX9_key 106 = .ok (.iconst 0, 1) := by decide +kernel
theorem dX9_key_107 : decode cX9_key 107 = .ok (.ireturn, 1) := by decide +kernel
theorem dX9_key_108 : decode cX9_key 108 = .ok (.aload_n 0, 1) := by decide +kernel
theorem dX9_key_109 : decode cX9_key 109 = .ok (.getfield 7, 3) := by decide +kernel
theorem dX9_key_112 : decode cX9_key 112 = .ok (.sipush 260, 3) := by decide +kernel
theorem dX9_key_115 : decode cX9_key 115 = .ok (.iload_n 1, 1) := by decide +kernel
theorem dX9_key_116 : decode cX9_key 116 = .ok (.iadd, 1) := by decide +kernel
theorem dX9_key_117 : decode cX9_key 117 = .ok (.iaload, 1) := by decide +kernel
theorem dX9_key_118 : decode cX9_key 118 = .ok (.ireturn, 1) := by decide +kernel
theorem dX9_key_119 : decode cX9_key 119 = .ok (.aload_n 0, 1) := by decide +kernel
theorem dX9_key_120 : decode cX9_key 120 = .ok (.iload_n 1, 1) := by decide +kernel
theorem dX9_key_121 : decode cX9_key 121 = .ok (.invokevirtual 82, 3) := by decide +kernel
theorem dX9_key_124 : decode cX9_key 124 = .ok (.ireturn, 1) := by decide +kernel
theorem dX9_key_125 : decode cX9_key 125 = .ok (.aload_n 0, 1) := by decide +kernel
theorem dX9_key_126 : decode cX9_key 126 = .ok (.iload_n 1, 1) := by decide +kernel
theorem dX9_key_127 : decode cX9_key 127 = .ok (.invokevirtual 191, 3) := by decide +kernel
theorem dX9_key_130 : decode cX9_key 130 = .ok (.ifCond .eq 7, 3) := by decide +kernel
theorem dX9_key_133 : decode cX9_key 133 = .ok (.iconst 1, 1) := by decide +kernel
theorem dX9_key_134 : decode cX9_key 134 = .ok (.goto 4, 3) := by decide +kernel
theorem dX9_key_137 : decode cX9_key 137 = .ok (.iconst 0, 1) := by decide +kernel
theorem dX9_key_138 : decode cX9_key 138 = .ok (.ireturn, 1) := by decide +kernel
theorem dX9_key_139 : decode cX9_key 139 = .ok (.bipush (-2), 2) := by decide +kernel
theorem dX9_key_141 : decode cX9_key 141 = .ok (.ireturn, 1) := by decide +kernel
theorem dX9_typist_0 : decode cX9_typist 0 = .ok (.aload_n 0, 1) := by decide +kernel
theorem dX9_typist_1 : decode cX9_typist 1 = .ok (.iload_n 1, 1) := by decide +kernel
theorem dX9_typist_2 : decode cX9_typist 2 = .ok (.invokevirtual 86, 3) := by decide +kernel
theorem dX9_typist_5 : decode cX9_typist 5 = .ok (.ifCond .eq 5, 3) := by decide +kernel
theorem dX9_typist_8 : decode cX9_typist 8 = .ok (.iconst (-1), 1) := by decide +kernel
theorem dX9_typist_9 : decode cX9_typist 9 = .ok (.ireturn, 1) := by decide +kernel
theorem dX9_typist_10 : decode cX9_typist 10 = .ok (.iload_n 2, 1) := by decide +kernel
theorem dX9_typist_11 : decode cX9_typist 11 = .ok (.tableswitch 123 0 7 #[45, 51, 60, 74, 84, 94, 104, 114], 45) := by decide +kernel
theorem dX9_typist_56 : decode cX9_typist 56 = .ok (.aload_n 0, 1) := by decide +kernel
theorem dX9_typist_57 : decode cX9_typist 57 = .ok (.iload_n 1, 1) := by decide +kernel
theorem dX9_typist_58 : decode cX9_typist 58 = .ok (.invokevirtual 150, 3) := by decide +kernel
theorem dX9_typist_61 : decode cX9_typist 61 = .ok (.ireturn, 1) := by decide +kernel
theorem dX9_typist_62 : decode cX9_typist 62 = .ok (.aload_n 0, 1) := by decide +kernel
theorem dX9_typist_63 : decode cX9_typist 63 = .ok (.getfield 7, 3) := by decide +kernel
theorem dX9_typist_66 : decode cX9_typist 66 = .ok (.iconst 5, 1) := by decide +kernel
theorem dX9_typist_67 : decode cX9_typist 67 = .ok (.iload_n 1, 1) := by decide +kernel
theorem dX9_typist_68 : decode cX9_typist 68 = .ok (.iadd, 1) := by decide +kernel
theorem dX9_typist_69 : decode cX9_typist 69 = .ok (.iaload, 1) := by decide +kernel
theorem dX9_typist_70 : decode cX9_typist 70 = .ok (.ireturn, 1) := by decide +kernel
theorem dX9_typist_71 : decode cX9_typist 71 = .ok (.aload_n 0, 1) := by decide +kernel
theorem dX9_typist_72 : decode cX9_typist 72 = .ok (.iload_n 1, 1) := by decide +kernel
theorem dX9_typist_73 : decode cX9_typist 73 = .ok (.invokevirtual 117, 3) := by decide +kernel
theorem dX9_typist_76 : decode cX9_typist 76 = .ok (.ifCond .eq 7, 3) := by decide +kernel
theorem dX9_typist_79 : decode cX9_typist 79 = .ok (.iconst 1, 1) := by decide +kernel
theorem dX9_typist_80 : decode cX9_typist 80 = .ok (.goto 4, 3) := by decide +kernel
theorem dX9_typist_83 : decode cX9_typist 83 = .ok (.iconst 0, 1) := by decide +kernel
theorem dX9_typist_84 : decode cX9_typist 84 = .ok (.ireturn, 1) := by decide +kernel
theorem dX9_typist_85 : decode cX9_typist 85 = .ok (.aload_n 0, 1) := by decide +kernel
theorem dX9_typist_86 : decode cX9_typist 86 = .ok (.getfield 7, 3) := by decide +kernel
theorem dX9_typist_89 : decode cX9_typist 89 = .ok (.bipush 7, 2) := by decide +kernel
theorem dX9_typist_91 : decode cX9_typist 91 = .ok (.iload_n 1, 1) := by decide +kernel
theorem dX9_typist_92 : decode cX9_typist 92 = .ok (.iadd, 1) := by decide +kernel
theorem dX9_typist_93 : decode cX9_typist 93 = .ok (.iaload, 1) := by decide +kernel
theorem dX9_typist_94 : decode cX9_typist 94 = .ok (.ireturn, 1) := by decide +kernel
theorem dX9_typist_95 : decode cX9_typist 95 = .ok (.aload_n 0, 1) := by decide +kernel
theorem dX9_typist_96 : decode cX9_typist 96 = .ok (.getfield 7, 3) := by decide +kernel
theorem dX9_typist_99 : decode cX9_typist 99 = .ok (.bipush 10, 2) := by decide +kernel
theorem dX9_typist_101 : decode cX9_typist 101 = .ok (.iload_n 1, 1) := by decide +kernel
theorem dX9_typist_102 : decode cX9_typist 102 = .ok (.iadd, 1) := by decide +kernel
theorem dX9_typist_103 : decode cX9_typist 103 = .ok (.iaload, 1) := by decide +kernel
theorem dX9_typist_104 : decode cX9_typist 104 = .ok (.ireturn, 1) := by decide +kernel
theorem dX9_typist_105 : decode cX9_typist 105 = .ok (.aload_n 0, 1) := by decide +kernel
theorem dX9_typist_106 : decode cX9_typist 106 = .ok (.getfield 7, 3) := by decide +kernel
theorem dX9_typist_109 : decode cX9_typist 109 = .ok (.bipush 12, 2) := by decide +kernel
theorem dX9_typist_111 : decode cX9_typist 111 = .ok (.iload_n 1, 1) := by decide +kernel
theorem dX9_typist_112 : decode cX9_typist 112 = .ok (.iadd, 1) := by decide +kernel
theorem dX9_typist_113 : decode cX9_typist 113 = .ok (.iaload, 1) := by decide +kernel
theorem dX9_typist_114 : decode cX9_typist 114 = .ok (.ireturn, 1) := by decide +kernel
theorem dX9_typist_115 : decode cX9_typist 115 = .ok (.aload_n 0, 1) := by decide +kernel
theorem dX9_typist_116 : decode cX9_typist 116 = .ok (.getfield 7, 3) := by decide +kernel
theorem dX9_typist_119 : decode cX9_typist 119 = .ok (.bipush 17, 2) := by decide +kernel
theorem dX9_typist_121 : decode cX9_typist 121 = .ok (.iload_n 1, 1) := by decide +kernel
theorem dX9_typist_122 : decode cX9_typist 122 = .ok (.iadd, 1) := by decide +kernel
theorem dX9_typist_123 : decode cX9_typist 123 = .ok (.iaload, 1) := by decide +kernel
theorem dX9_typist_124 : decode cX9_typist 124 = .ok (.ireturn, 1) := by decide +kernel
theorem dX9_typist_125 : decode cX9_typist 125 = .ok (.aload_n 0, 1) := by decide +kernel
theorem dX9_typist_126 : decode cX9_typist 126 = .ok (.getfield 7, 3) := by decide +kernel
theorem dX9_typist_129 : decode cX9_typist 129 = .ok (.iconst 3, 1) := by decide +kernel
theorem dX9_typist_130 : decode cX9_typist 130 = .ok (.iload_n 1, 1) := by decide +kernel
theorem dX9_typist_131 : decode cX9_typist 131 = .ok (.iadd, 1) := by decide +kernel
theorem dX9_typist_132 : decode cX9_typist 132 = .ok (.iaload, 1) := by decide +kernel
theorem dX9_typist_133 : decode cX9_typist 133 = .ok (.ireturn, 1) := by decide +kernel
theorem dX9_typist_134 : decode cX9_typist 134 = .ok (.bipush (-2), 2) := by decide +kernel
theorem dX9_typist_136 : decode cX9_typist 136 = .ok (.ireturn, 1) := by decide +kernel
theorem dX9_style_0 : decode cX9_style 0 = .ok (.aload_n 0, 1) := by decide +kernel
theorem dX9_style_1 : decode cX9_style 1 = .ok (.iload_n 1, 1) := by decide +kernel
theorem dX9_style_2 : decode cX9_style 2 = .ok (.invokevirtual 86, 3) := by decide +kernel
theorem dX9_style_5 : decode cX9_style 5 = .ok (.ifCond .ne 12, 3) := by decide +kernel
theorem dX9_style_8 : decode cX9_style 8 = .ok (.iload_n 2, 1) := by decide +kernel
theorem dX9_style_9 : decode cX9_style 9 = .ok (.iconst 0, 1) := by decide +kernel
theorem dX9_style_10 : decode cX9_style 10 = .ok (.iconst 1, 1) := by decide +kernel
theorem dX9_style_11 : decode cX9_style 11 = .ok (.invokestatic 68, 3) := by decide +kernel
theorem dX9_style_14 : decode cX9_style 14 = .ok (.ifCond .ne 8, 3) := by decide +kernel
theorem dX9_style_17 : decode cX9_style 17 = .ok (.ldc 194, 2) := by decide +kernel
theorem dX9_style_19 : decode cX9_style 19 = .ok (.goto 13, 3) := by decide +kernel
theorem dX9_style_22 : decode cX9_style 22 = .ok (.aload_n 0, 1) := by decide +kernel
theorem dX9_style_23 : decode cX9_style 23 = .ok (.getfield 22, 3) := by decide +kernel
theorem dX9_style_26 : decode cX9_style 26 = .ok (.iconst 2, 1) := by decide +kernel
theorem dX9_style_27 : decode cX9_style 27 = .ok (.iload_n 2, 1) := by decide +kernel
theorem dX9_style_28 : decode cX9_style 28 = .ok (.imul, 1) := by decide +kernel
theorem dX9_style_29 : decode cX9_style 29 = .ok (.iload_n 1, 1) := by decide +kernel
theorem dX9_style_30 : decode cX9_style 30 = .ok (.iadd, 1) := by decide +kernel
theorem dX9_style_31 : decode cX9_style 31 = .ok (.faload, 1) := by decide +kernel
theorem dX9_style_32 : decode cX9_style 32 = .ok (.freturn, 1) := by decide +kernel
theorem dX9_hundredths_0 : decode cX9_hundredths 0 = .ok (.aload_n 0, 1) := by decide +kernel
theorem dX9_hundredths_1 : decode cX9_hundredths 1 = .ok (.iload_n 1, 1) := by decide +kernel
theorem dX9_hundredths_2 : decode cX9_hundredths 2 = .ok (.invokevirtual 86, 3) := by decide +kernel
theorem dX9_hundredths_5 : decode cX9_hundredths 5 = .ok (.ifCond .eq 5, 3) := by decide +kernel
theorem dX9_hundredths_8 : decode cX9_hundredths 8 = .ok (.iconst (-1), 1) := by decide +kernel
theorem dX9_hundredths_9 : decode cX9_hundredths 9 = .ok (.ireturn, 1) := by decide +kernel
theorem dX9_hundredths_10 : decode cX9_hundredths 10 = .ok (.iload_n 2, 1) := by decide +kernel
theorem dX9_hundredths_11 : decode cX9_hundredths 11 = .ok (.iconst 0, 1) := by decide +kernel
theorem dX9_hundredths_12 : decode cX9_hundredths 12 = .ok (.iconst 1, 1) := by decide +kernel
theorem dX9_hundredths_13 : decode cX9_hundredths 13 = .ok (.invokestatic 68, 3) := by decide +kernel
theorem dX9_hundredths_16 : decode cX9_hundredths 16 = .ok (.ifCond .eq 20, 3) := by decide +kernel
theorem dX9_hundredths_19 : decode cX9_hundredths 19 = .ok (.aload_n 0, 1) := by decide +kernel
theorem dX9_hundredths_20 : decode cX9_hundredths 20 = .ok (.getfield 22, 3) := by decide +kernel
theorem dX9_hundredths_23 : decode cX9_hundredths 23 = .ok (.iconst 2, 1) := by decide +kernel
theorem dX9_hundredths_24 : decode cX9_hundredths 24 = .ok (.iload_n 2, 1) := by decide +kernel
theorem dX9_hundredths_25 : decode cX9_hundredths 25 = .ok (.imul, 1) := by decide +kernel
theorem dX9_hundredths_26 : decode cX9_hundredths 26 = .ok (.iload_n 1, 1) := by decide +kernel
theorem dX9_hundredths_27 : decode cX9_hundredths 27 = .ok (.iadd, 1) := by decide +kernel
theorem dX9_hundredths_28 : decode cX9_hundredths 28 = .ok (.faload, 1) := by decide +kernel
theorem dX9_hundredths_29 : decode cX9_hundredths 29 = .ok (.ldc 195, 2) := by decide +kernel
theorem dX9_hundredths_31 : decode cX9_hundredths 31 = .ok (.fmul, 1) := by decide +kernel
theorem dX9_hundredths_32 : decode cX9_hundredths 32 = .ok (.f2i, 1) := by decide +kernel
theorem dX9_hundredths_33 : decode cX9_hundredths 33 = .ok (.goto 5, 3) := by decide +kernel
theorem dX9_hundredths_36 : decode cX9_hundredths 36 = .ok (.bipush (-2), 2) := by decide +kernel
theorem dX9_hundredths_38 : decode cX9_hundredths 38 = .ok (.ireturn, 1) := by decide +kernel
theorem dX9_typed_0 : decode cX9_typed 0 = .ok (.aload_n 0, 1) := by decide +kernel
theorem dX9_typed_1 : decode cX9_typed 1 = .ok (.iload_n 1, 1) := by decide +kernel
theorem dX9_typed_2 : decode cX9_typed 2 = .ok (.invokevirtual 86, 3) := by decide +kernel
theorem dX9_typed_5 : decode cX9_typed 5 = .ok (.ifCond .eq 5, 3) := by decide +kernel
theorem dX9_typed_8 : decode cX9_typed 8 = .ok (.iconst (-1), 1) := by decide +kernel
theorem dX9_typed_9 : decode cX9_typed 9 = .ok (.ireturn, 1) := by decide +kernel
theorem dX9_typed_10 : decode cX9_typed 10 = .ok (.iload_n 2, 1) := by decide +kernel
theorem dX9_typed_11 : decode cX9_typed 11 = .ok (.ifCond .ge 6, 3) := by decide +kernel
theorem dX9_typed_14 : decode cX9_typed 14 = .ok (.bipush (-2), 2) := by decide +kernel
theorem dX9_typed_16 : decode cX9_typed 16 = .ok (.ireturn, 1) := by decide +kernel
theorem dX9_typed_17 : decode cX9_typed 17 = .ok (.aload_n 0, 1) := by decide +kernel
theorem dX9_typed_18 : decode cX9_typed 18 = .ok (.getfield 7, 3) := by decide +kernel
theorem dX9_typed_21 : decode cX9_typed 21 = .ok (.bipush 17, 2) := by decide +kernel
theorem dX9_typed_23 : decode cX9_typed 23 = .ok (.iload_n 1, 1) := by decide +kernel
theorem dX9_typed_24 : decode cX9_typed 24 = .ok (.iadd, 1) := by decide +kernel
theorem dX9_typed_25 : decode cX9_typed 25 = .ok (.iaload, 1) := by decide +kernel
theorem dX9_typed_26 : decode cX9_typed 26 = .ok (.istore_n 3, 1) := by decide +kernel
theorem dX9_typed_27 : decode cX9_typed 27 = .ok (.iload_n 2, 1) := by decide +kernel
theorem dX9_typed_28 : decode cX9_typed 28 = .ok (.iload_n 3, 1) := by decide +kernel
theorem dX9_typed_29 : decode cX9_typed 29 = .ok (.if_icmp .ge 34, 3) := by decide +kernel
theorem dX9_typed_32 : decode cX9_typed 32 = .ok (.iload_n 2, 1) := by decide +kernel
theorem dX9_typed_33 : decode cX9_typed 33 = .ok (.bipush 24, 2) := by decide +kernel
theorem dX9_typed_35 : decode cX9_typed 35 = .ok (.if_icmp .ge 28, 3) := by decide +kernel
theorem dX9_typed_38 : decode cX9_typed 38 = .ok (.aload_n 0, 1) := by decide +kernel
theorem dX9_typed_39 : decode cX9_typed 39 = .ok (.getfield 7, 3) := by decide +kernel
theorem dX9_typed_42 : decode cX9_typed 42 = .ok (.sipush 544, 3) := by decide +kernel
theorem dX9_typed_45 : decode cX9_typed 45 = .ok (.bipush 24, 2) := by decide +kernel
theorem dX9_typed_47 : decode cX9_typed 47 = .ok (.iload_n 1, 1) := by decide +kernel
theorem dX9_typed_48 : decode cX9_typed 48 = .ok (.imul, 1) := by decide +kernel
theorem dX9_typed_49 : decode cX9_typed 49 = .ok (.iadd, 1) := by decide +kernel
theorem dX9_typed_50 : decode cX9_typed 50 = .ok (.iload_n 3, 1) := by decide +kernel
theorem dX9_typed_51 : decode cX9_typed 51 = .ok (.iconst 1, 1) := by decide +kernel
theorem dX9_typed_52 : decode cX9_typed 52 = .ok (.isub, 1) := by decide +kernel
theorem dX9_typed_53 : decode cX9_typed 53 = .ok (.iload_n 2, 1) := by decide +kernel
theorem dX9_typed_54 : decode cX9_typed 54 = .ok (.isub, 1) := by decide +kernel
theorem dX9_typed_55 : decode cX9_typed 55 = .ok (.bipush 24, 2) := by decide +kernel
theorem dX9_typed_57 : decode cX9_typed 57 = .ok (.irem, 1) := by decide +kernel
theorem dX9_typed_58 : decode cX9_typed 58 = .ok (.iadd, 1) := by decide +kernel
theorem dX9_typed_59 : decode cX9_typed 59 = .ok (.iaload, 1) := by decide +kernel
theorem dX9_typed_60 : decode cX9_typed 60 = .ok (.goto 5, 3) := by decide +kernel
theorem dX9_typed_63 : decode cX9_typed 63 = .ok (.bipush (-5), 2) := by decide +kernel
theorem dX9_typed_65 : decode cX9_typed 65 = .ok (.ireturn, 1) := by decide +kernel
theorem dX9_stroke_0 : decode cX9_stroke 0 = .ok (.iload_n 1, 1) := by decide +kernel
theorem dX9_stroke_1 : decode cX9_stroke 1 = .ok (.ifCond .lt 12, 3) := by decide +kernel
theorem dX9_stroke_4 : decode cX9_stroke 4 = .ok (.iload_n 2, 1) := by decide +kernel
theorem dX9_stroke_5 : decode cX9_stroke 5 = .ok (.iconst 0, 1) := by decide +kernel
theorem dX9_stroke_6 : decode cX9_stroke 6 = .ok (.iconst 5, 1) := by decide +kernel
theorem dX9_stroke_7 : decode cX9_stroke 7 = .ok (.invokestatic 68, 3) := by decide +kernel
theorem dX9_stroke_10 : decode cX9_stroke 10 = .ok (.ifCond .ne 6, 3) := by decide +kernel
theorem dX9_stroke_13 : decode cX9_stroke 13 = .ok (.bipush (-2), 2) := by decide +kernel
theorem dX9_stroke_15 : decode cX9_stroke 15 = .ok (.ireturn, 1) := by decide +kernel
theorem dX9_stroke_16 : decode cX9_stroke 16 = .ok (.aload_n 0, 1) := by decide +kernel
theorem dX9_stroke_17 : decode cX9_stroke 17 = .ok (.getfield 7, 3) := by decide +kernel
theorem dX9_stroke_20 : decode cX9_stroke 20 = .ok (.bipush 9, 2) := by decide +kernel
theorem dX9_stroke_22 : decode cX9_stroke 22 = .ok (.iaload, 1) := by decide +kernel
theorem dX9_stroke_23 : decode cX9_stroke 23 = .ok (.istore_n 3, 1) := by decide +kernel
theorem dX9_stroke_24 : decode cX9_stroke 24 = .ok (.iload_n 1, 1) := by decide +kernel
theorem dX9_stroke_25 : decode cX9_stroke 25 = .ok (.iload_n 3, 1) := by decide +kernel
theorem dX9_stroke_26 : decode cX9_stroke 26 = .ok (.if_icmp .ge 34, 3) := by decide +kernel
theorem dX9_stroke_29 : decode cX9_stroke 29 = .ok (.iload_n 1, 1) := by decide +kernel
theorem dX9_stroke_30 : decode cX9_stroke 30 = .ok (.bipush 16, 2) := by decide +kernel
theorem dX9_stroke_32 : decode cX9_stroke 32 = .ok (.if_icmp .ge 28, 3) := by decide +kernel
theorem dX9_stroke_35 : decode cX9_stroke 35 = .ok (.aload_n 0, 1) := by decide +kernel
theorem dX9_stroke_36 : decode cX9_stroke 36 = .ok (.getfield 7, 3) := by decide +kernel
theorem dX9_stroke_39 : decode cX9_stroke 39 = .ok (.sipush 308, 3) := by decide +kernel
theorem dX9_stroke_42 : decode cX9_stroke 42 = .ok (.bipush 6, 2) := by decide +kernel
theorem dX9_stroke_44 : decode cX9_stroke 44 = .ok (.iload_n 3, 1) := by decide +kernel
theorem dX9_stroke_45 : decode cX9_stroke 45 = .ok (.iconst 1, 1) := by decide +kernel
theorem dX9_stroke_46 : decode cX9_stroke 46 = .ok (.isub, 1) := by decide +kernel
theorem dX9_stroke_47 : decode cX9_stroke 47 = .ok (.iload_n 1, 1) := by decide +kernel
theorem dX9_stroke_48 : decode cX9_stroke 48 = .ok (.isub, 1) := by decide +kernel
theorem dX9_stroke_49 : decode cX9_stroke 49 = .ok (.bipush 16, 2) := by decide +kernel
theorem dX9_stroke_51 : decode cX9_stroke 51 = .ok (.irem, 1) := by decide +kernel
theorem dX9_stroke_52 : decode cX9_stroke 52 = .ok (.imul, 1) := by decide +kernel
theorem dX9_stroke_53 : decode cX9_stroke 53 = .ok (.iadd, 1) := by decide +kernel
theorem dX9_stroke_54 : decode cX9_stroke 54 = .ok (.iload_n 2, 1) := by decide +kernel
theorem dX9_stroke_55 : decode cX9_stroke 55 = .ok (.iadd, 1) := by decide +kernel
theorem dX9_stroke_56 : decode cX9_stroke 56 = .ok (.iaload, 1) := by decide +kernel
theorem dX9_stroke_57 : decode cX9_stroke 57 = .ok (.goto 5, 3) := by decide +kernel
theorem dX9_stroke_60 : decode cX9_stroke 60 = .ok (.bipush (-5), 2) := by decide +kernel
theorem dX9_stroke_62 : decode cX9_stroke 62 = .ok (.ireturn, 1) := by decide +kernel
theorem dX9_dispute_0 : decode cX9_dispute 0 = .ok (.aload_n 0, 1) := by decide +kernel
theorem dX9_dispute_1 : decode cX9_dispute 1 = .ok (.iload_n 1, 1) := by decide +kernel
theorem dX9_dispute_2 : decode cX9_dispute 2 = .ok (.invokevirtual 165, 3) := by decide +kernel
theorem dX9_dispute_5 : decode cX9_dispute 5 = .ok (.ifCond .eq 5, 3) := by decide +kernel
theorem dX9_dispute_8 : decode cX9_dispute 8 = .ok (.iconst (-1), 1) := by decide +kernel
theorem dX9_dispute_9 : decode cX9_dispute 9 = .ok (.ireturn, 1) := by decide +kernel
theorem dX9_dispute_10 : decode cX9_dispute 10 = .ok (.iload_n 2, 1) := by decide +kernel
theorem dX9_dispute_11 : decode cX9_dispute 11 = .ok (.iconst 0, 1) := by decide +kernel
theorem dX9_dispute_12 : decode cX9_dispute 12 = .ok (.iconst 4, 1) := by decide +kernel
theorem dX9_dispute_13 : decode cX9_dispute 13 = .ok (.invokestatic 68, 3) := by decide +kernel
theorem dX9_dispute_16 : decode cX9_dispute 16 = .ok (.ifCond .eq 21, 3) := by decide +kernel
theorem dX9_dispute_19 : decode cX9_dispute 19 = .ok (.aload_n 0, 1) := by decide +kernel
theorem dX9_dispute_20 : decode cX9_dispute 20 = .ok (.getfield 7, 3) := by decide +kernel
theorem dX9_dispute_23 : decode cX9_dispute 23 = .ok (.sipush 404, 3) := by decide +kernel
theorem dX9_dispute_26 : decode cX9_dispute 26 = .ok (.bipush 7, 2) := by decide +kernel
theorem dX9_dispute_28 : decode cX9_dispute 28 = .ok (.iload_n 1, 1) := by decide +kernel
theorem dX9_dispute_29 : decode cX9_dispute 29 = .ok (.imul, 1) := by decide +kernel
theorem dX9_dispute_30 : decode cX9_dispute 30 = .ok (.iadd, 1) := by decide +kernel
theorem dX9_dispute_31 : decode cX9_dispute 31 = .ok (.iload_n 2, 1) := by decide +kernel
theorem dX9_dispute_32 : decode cX9_dispute 32 = .ok (.iadd, 1) := by decide +kernel
theorem dX9_dispute_33 : decode cX9_dispute 33 = .ok (.iaload, 1) := by decide +kernel
theorem dX9_dispute_34 : decode cX9_dispute 34 = .ok (.goto 5, 3) := by decide +kernel
theorem dX9_dispute_37 : decode cX9_dispute 37 = .ok (.bipush (-2), 2) := by decide +kernel
theorem dX9_dispute_39 : decode cX9_dispute 39 = .ok (.ireturn, 1) := by decide +kernel
theorem dX9_distance_0 : decode cX9_distance 0 = .ok (.aload_n 0, 1) := by decide +kernel
theorem dX9_distance_1 : decode cX9_distance 1 = .ok (.iload_n 1, 1) := by decide +kernel
theorem dX9_distance_2 : decode cX9_distance 2 = .ok (.invokevirtual 86, 3) := by decide +kernel
theorem dX9_distance_5 : decode cX9_distance 5 = .ok (.ifCond .ne 18, 3) := by decide +kernel
theorem dX9_distance_8 : decode cX9_distance 8 = .ok (.iload_n 2, 1) := by decide +kernel
theorem dX9_distance_9 : decode cX9_distance 9 = .ok (.ifCond .lt 14, 3) := by decide +kernel
theorem dX9_distance_12 : decode cX9_distance 12 = .ok (.iload_n 3, 1) := by decide +kernel
theorem dX9_distance_13 : decode cX9_distance 13 = .ok (.iconst 0, 1) := by decide +kernel
theorem dX9_distance_14 : decode cX9_distance 14 = .ok (.sipush 9999, 3) := by decide +kernel
theorem dX9_distance_17 : decode cX9_distance 17 = .ok (.invokestatic 68, 3) := by decide +kernel
theorem dX9_distance_20 : decode cX9_distance 20 = .ok (.ifCond .ne 8, 3) := by decide +kernel
theorem dX9_distance_23 : decode cX9_distance 23 = .ok (.ldc 194, 2) := by decide +kernel
theorem dX9_distance_25 : decode cX9_distance 25 = .ok (.goto 10, 3) := by decide +kernel
theorem dX9_distance_28 : decode cX9_distance 28 = .ok (.aload_n 0, 1) := by decide +kernel
theorem dX9_distance_29 : decode cX9_distance 29 = .ok (.iload_n 1, 1) := by decide +kernel
theorem dX9_distance_30 : decode cX9_distance 30 = .ok (.iload_n 2, 1) := by decide +kernel
theorem dX9_distance_31 : decode cX9_distance 31 = .ok (.iload_n 3, 1) := by decide +kernel
theorem dX9_distance_32 : decode cX9_distance 32 = .ok (.invokevirtual 132, 3) := by decide +kernel
theorem dX9_distance_35 : decode cX9_distance 35 = .ok (.freturn, 1) := by decide +kernel
theorem dX9_verdict_0 : decode cX9_verdict 0 = .ok (.aload_n 0, 1) := by decide +kernel
theorem dX9_verdict_1 : decode cX9_verdict 1 = .ok (.iload_n 1, 1) := by decide +kernel
theorem dX9_verdict_2 : decode cX9_verdict 2 = .ok (.invokevirtual 79, 3) := by decide +kernel
theorem dX9_verdict_5 : decode cX9_verdict 5 = .ok (.ifCond .eq 5, 3) := by decide +kernel
theorem dX9_verdict_8 : decode cX9_verdict 8 = .ok (.iconst (-1), 1) := by decide +kernel
theorem dX9_verdict_9 : decode cX9_verdict 9 = .ok (.ireturn, 1) := by decide +kernel
theorem dX9_verdict_10 : decode cX9_verdict 10 = .ok (.aload_n 0, 1) := by decide +kernel
theorem dX9_verdict_11 : decode cX9_verdict 11 = .ok (.iload_n 1, 1) := by decide +kernel
theorem dX9_verdict_12 : decode cX9_verdict 12 = .ok (.invokevirtual 76, 3) := by decide +kernel
theorem dX9_verdict_15 : decode cX9_verdict 15 = .ok (.ifCond .eq 11, 3) := by decide +kernel
theorem dX9_verdict_18 : decode cX9_verdict 18 = .ok (.aload_n 0, 1) := by decide +kernel
theorem dX9_verdict_19 : decode cX9_verdict 19 = .ok (.iload_n 1, 1) := by decide +kernel
theorem dX9_verdict_20 : decode cX9_verdict 20 = .ok (.invokevirtual 136, 3) := by decide +kernel
theorem dX9_verdict_23 : decode cX9_verdict 23 = .ok (.goto 5, 3) := by decide +kernel
theorem dX9_verdict_26 : decode cX9_verdict 26 = .ok (.bipush (-5), 2) := by decide +kernel
theorem dX9_verdict_28 : decode cX9_verdict 28 = .ok (.ireturn, 1) := by decide +kernel
theorem dX9_ghostsBy_0 : decode cX9_ghostsBy 0 = .ok (.aload_n 0, 1) := by decide +kernel
theorem dX9_ghostsBy_1 : decode cX9_ghostsBy 1 = .ok (.iload_n 1, 1) := by decide +kernel
theorem dX9_ghostsBy_2 : decode cX9_ghostsBy 2 = .ok (.invokevirtual 79, 3) := by decide +kernel
theorem dX9_ghostsBy_5 : decode cX9_ghostsBy 5 = .ok (.ifCond .eq 5, 3) := by decide +kernel
theorem dX9_ghostsBy_8 : decode cX9_ghostsBy 8 = .ok (.iconst (-1), 1) := by decide +kernel
theorem dX9_ghostsBy_9 : decode cX9_ghostsBy 9 = .ok (.ireturn, 1) := by decide +kernel
theorem dX9_ghostsBy_10 : decode cX9_ghostsBy 10 = .ok (.aload_n 0, 1) := by decide +kernel
theorem dX9_ghostsBy_11 : decode cX9_ghostsBy 11 = .ok (.getfield 7, 3) := by decide +kernel
theorem dX9_ghostsBy_14 : decode cX9_ghostsBy 14 = .ok (.bipush 20, 2) := by decide +kernel
theorem dX9_ghostsBy_16 : decode cX9_ghostsBy 16 = .ok (.iload_n 1, 1) := by decide +kernel
theorem dX9_ghostsBy_17 : decode cX9_ghostsBy 17 = .ok (.iadd, 1) := by decide +kernel
theorem dX9_ghostsBy_18 : decode cX9_ghostsBy 18 = .ok (.iaload, 1) := by decide +kernel
theorem dX9_ghostsBy_19 : decode cX9_ghostsBy 19 = .ok (.istore_n 2, 1) := by decide +kernel
theorem dX9_ghostsBy_20 : decode cX9_ghostsBy 20 = .ok (.iload_n 2, 1) := by decide +kernel
theorem dX9_ghostsBy_21 : decode cX9_ghostsBy 21 = .ok (.ifCond .ge 7, 3) := by decide +kernel
theorem dX9_ghostsBy_24 : decode cX9_ghostsBy 24 = .ok (.iconst 0, 1) := by decide +kernel
theorem dX9_ghostsBy_25 : decode cX9_ghostsBy 25 = .ok (.goto 5, 3) := by decide +kernel
theorem dX9_ghostsBy_28 : decode cX9_ghostsBy 28 = .ok (.bipush (-5), 2) := by decide +kernel
theorem dX9_ghostsBy_30 : decode cX9_ghostsBy 30 = .ok (.istore_n 3, 1) := by decide +kernel
theorem dX9_ghostsBy_31 : decode cX9_ghostsBy 31 = .ok (.bipush 100, 2) := by decide +kernel
theorem dX9_ghostsBy_33 : decode cX9_ghostsBy 33 = .ok (.istore 4, 2) := by decide +kernel
theorem dX9_ghostsBy_35 : decode cX9_ghostsBy 35 = .ok (.iconst 0, 1) := by decide +kernel
theorem dX9_ghostsBy_36 : decode cX9_ghostsBy 36 = .ok (.istore 5, 2) := by decide +kernel
theorem dX9_ghostsBy_38 : decode cX9_ghostsBy 38 = .ok (.iload 5, 2) := by decide +kernel
theorem dX9_ghostsBy_40 : decode cX9_ghostsBy 40 = .ok (.aload_n 0, 1) := by decide +kernel
theorem dX9_ghostsBy_41 : decode cX9_ghostsBy 41 = .ok (.invokevirtual 64, 3) := by decide +kernel
theorem dX9_ghostsBy_44 : decode cX9_ghostsBy 44 = .ok (.if_icmp .ge 94, 3) := by decide +kernel
theorem dX9_ghostsBy_47 : decode cX9_ghostsBy 47 = .ok (.iload 5, 2) := by decide +kernel
theorem dX9_ghostsBy_49 : decode cX9_ghostsBy 49 = .ok (.iload_n 1, 1) := by decide +kernel
theorem dX9_ghostsBy_50 : decode cX9_ghostsBy 50 = .ok (.if_icmp .eq 82, 3) := by decide +kernel
theorem dX9_ghostsBy_53 : decode cX9_ghostsBy 53 = .ok (.aload_n 0, 1) := by decide +kernel
theorem dX9_ghostsBy_54 : decode cX9_ghostsBy 54 = .ok (.iload 5, 2) := by decide +kernel
theorem dX9_ghostsBy_56 : decode cX9_ghostsBy 56 = .ok (.invokevirtual 72, 3) := by decide +kernel
theorem dX9_ghostsBy_59 : decode cX9_ghostsBy 59 = .ok (.ifCond .ne 73, 3) := by decide +kernel
theorem dX9_ghostsBy_62 : decode cX9_ghostsBy 62 = .ok (.aload_n 0, 1) := by decide +kernel
theorem dX9_ghostsBy_63 : decode cX9_ghostsBy 63 = .ok (.iload 5, 2) := by decide +kernel
theorem dX9_ghostsBy_65 : decode cX9_ghostsBy 65 = .ok (.invokevirtual 191, 3) := by decide +kernel
theorem dX9_ghostsBy_68 : decode cX9_ghostsBy 68 = .ok (.istore 6, 2) := by decide +kernel
theorem dX9_ghostsBy_70 : decode cX9_ghostsBy 70 = .ok (.aload_n 0, 1) := by decide +kernel
theorem dX9_ghostsBy_71 : decode cX9_ghostsBy 71 = .ok (.getfield 7, 3) := by decide +kernel
theorem dX9_ghostsBy_74 : decode cX9_ghostsBy 74 = .ok (.bipush 20, 2) := by decide +kernel
theorem dX9_ghostsBy_76 : decode cX9_ghostsBy 76 = .ok (.iload_n 1, 1) := by decide +kernel
theorem dX9_ghostsBy_77 : decode cX9_ghostsBy 77 = .ok (.iadd, 1) := by decide +kernel
theorem dX9_ghostsBy_78 : decode cX9_ghostsBy 78 = .ok (.iload_n 3, 1) := by decide +kernel
theorem dX9_ghostsBy_79 : decode cX9_ghostsBy 79 = .ok (.iastore, 1) := by decide +kernel
theorem dX9_ghostsBy_80 : decode cX9_ghostsBy 80 = .ok (.aload_n 0, 1) := by decide +kernel
theorem dX9_ghostsBy_81 : decode cX9_ghostsBy 81 = .ok (.iload 5, 2) := by decide +kernel
theorem dX9_ghostsBy_83 : decode cX9_ghostsBy 83 = .ok (.invokevirtual 191, 3) := by decide +kernel
theorem dX9_ghostsBy_86 : decode cX9_ghostsBy 86 = .ok (.istore 7, 2) := by decide +kernel
theorem dX9_ghostsBy_88 : decode cX9_ghostsBy 88 = .ok (.aload_n 0, 1) := by decide +kernel
theorem dX9_ghostsBy_89 : decode cX9_ghostsBy 89 = .ok (.getfield 7, 3) := by decide +kernel
theorem dX9_ghostsBy_92 : decode cX9_ghostsBy 92 = .ok (.bipush 20, 2) := by decide +kernel
theorem dX9_ghostsBy_94 : decode cX9_ghostsBy 94 = .ok (.iload_n 1, 1) := by decide +kernel
theorem dX9_ghostsBy_95 : decode cX9_ghostsBy 95 = .ok (.iadd, 1) := by decide +kernel
theorem dX9_ghostsBy_96 : decode cX9_ghostsBy 96 = .ok (.iload_n 2, 1) := by decide +kernel
theorem dX9_ghostsBy_97 : decode cX9_ghostsBy 97 = .ok (.iastore, 1) := by decide +kernel
theorem dX9_ghostsBy_98 : decode cX9_ghostsBy 98 = .ok (.iload 4, 2) := by decide +kernel
theorem dX9_ghostsBy_100 : decode cX9_ghostsBy 100 = .ok (.iload 6, 2) := by decide +kernel
theorem dX9_ghostsBy_102 : decode cX9_ghostsBy 102 = .ok (.ifCond .eq 12, 3) := by decide +kernel
theorem dX9_ghostsBy_105 : decode cX9_ghostsBy 105 = .ok (.iload 7, 2) := by decide +kernel
theorem dX9_ghostsBy_107 : decode cX9_ghostsBy 107 = .ok (.ifCond .ne 7, 3) := by decide +kernel
theorem dX9_ghostsBy_110 : decode cX9_ghostsBy 110 = .ok (.iconst 1, 1) := by decide +kernel
theorem dX9_ghostsBy_111 : decode cX9_ghostsBy 111 = .ok (.goto 18, 3) := by decide +kernel
theorem dX9_ghostsBy_114 : decode cX9_ghostsBy 114 = .ok (.iload 6, 2) := by decide +kernel
theorem dX9_ghostsBy_116 : decode cX9_ghostsBy 116 = .ok (.ifCond .ne 12, 3) := by decide +kernel
theorem dX9_ghostsBy_119 : decode cX9_ghostsBy 119 = .ok (.iload 7, 2) := by decide +kernel
theorem dX9_ghostsBy_121 : decode cX9_ghostsBy 121 = .ok (.ifCond .eq 7, 3) := by decide +kernel
theorem dX9_ghostsBy_124 : decode cX9_ghostsBy 124 = .ok (.iconst (-1), 1) := by decide +kernel
theorem dX9_ghostsBy_125 : decode cX9_ghostsBy 125 = .ok (.goto 4, 3) := by decide +kernel
theorem dX9_ghostsBy_128 : decode cX9_ghostsBy 128 = .ok (.iconst 0, 1) := by decide +kernel
theorem dX9_ghostsBy_129 : decode cX9_ghostsBy 129 = .ok (.iadd, 1) := by decide +kernel
theorem dX9_ghostsBy_130 : decode cX9_ghostsBy 130 = .ok (.istore 4, 2) := by decide +kernel
theorem dX9_ghostsBy_132 : decode cX9_ghostsBy 132 = .ok (.iinc 5 1, 3) := by decide +kernel
theorem dX9_ghostsBy_135 : decode cX9_ghostsBy 135 = .ok (.goto (-97), 3) := by decide +kernel
theorem dX9_ghostsBy_138 : decode cX9_ghostsBy 138 = .ok (.iload 4, 2) := by decide +kernel
theorem dX9_ghostsBy_140 : decode cX9_ghostsBy 140 = .ok (.ireturn, 1) := by decide +kernel
theorem dX9_openDisputes_0 : decode cX9_openDisputes 0 = .ok (.iconst 0, 1) := by decide +kernel
theorem dX9_openDisputes_1 : decode cX9_openDisputes 1 = .ok (.istore_n 1, 1) := by decide +kernel
theorem dX9_openDisputes_2 : decode cX9_openDisputes 2 = .ok (.iconst 0, 1) := by decide +kernel
theorem dX9_openDisputes_3 : decode cX9_openDisputes 3 = .ok (.istore_n 2, 1) := by decide +kernel
theorem dX9_openDisputes_4 : decode cX9_openDisputes 4 = .ok (.iload_n 2, 1) := by decide +kernel
theorem dX9_openDisputes_5 : decode cX9_openDisputes 5 = .ok (.aload_n 0, 1) := by decide +kernel
theorem dX9_openDisputes_6 : decode cX9_openDisputes 6 = .ok (.getfield 7, 3) := by decide +kernel
theorem dX9_openDisputes_9 : decode cX9_openDisputes 9 = .ok (.bipush 16, 2) := by decide +kernel
theorem dX9_openDisputes_11 : decode cX9_openDisputes 11 = .ok (.iaload, 1) := by decide +kernel
theorem dX9_openDisputes_12 : decode cX9_openDisputes 12 = .ok (.if_icmp .ge 35, 3) := by decide +kernel
theorem dX9_openDisputes_15 : decode cX9_openDisputes 15 = .ok (.iload_n 1, 1) := by decide +kernel
theorem dX9_openDisputes_16 : decode cX9_openDisputes 16 = .ok (.aload_n 0, 1) := by decide +kernel
theorem dX9_openDisputes_17 : decode cX9_openDisputes 17 = .ok (.getfield 7, 3) := by decide +kernel
theorem dX9_openDisputes_20 : decode cX9_openDisputes 20 = .ok (.sipush 404, 3) := by decide +kernel
theorem dX9_openDisputes_23 : decode cX9_openDisputes 23 = .ok (.bipush 7, 2) := by decide +kernel
theorem dX9_openDisputes_25 : decode cX9_openDisputes 25 = .ok (.iload_n 2, 1) := by decide +kernel
theorem dX9_openDisputes_26 : decode cX9_openDisputes 26 = .ok (.imul, 1) := by decide +kernel
theorem dX9_openDisputes_27 : decode cX9_openDisputes 27 = .ok (.iadd, 1) := by decide +kernel
theorem dX9_openDisputes_28 : decode cX9_openDisputes 28 = .ok (.iconst 3, 1) := by decide +kernel
theorem dX9_openDisputes_29 : decode cX9_openDisputes 29 = .ok (.iadd, 1) := by decide +kernel
theorem dX9_openDisputes_30 : decode cX9_openDisputes 30 = .ok (.iaload, 1) := by decide +kernel
theorem dX9_openDisputes_31 : decode cX9_openDisputes 31 = .ok (.ifCond .ge 7, 3) := by decide +kernel
theorem dX9_openDisputes_34 : decode cX9_openDisputes 34 = .ok (.iconst 1, 1) := by decide +kernel
theorem dX9_openDisputes_35 : decode cX9_openDisputes 35 = .ok (.goto 4, 3) := by decide +kernel
theorem dX9_openDisputes_38 : decode cX9_openDisputes 38 = .ok (.iconst 0, 1) := by decide +kernel
theorem dX9_openDisputes_39 : decode cX9_openDisputes 39 = .ok (.iadd, 1) := by decide +kernel
theorem dX9_openDisputes_40 : decode cX9_openDisputes 40 = .ok (.istore_n 1, 1) := by decide +kernel
theorem dX9_openDisputes_41 : decode cX9_openDisputes 41 = .ok (.iinc 2 1, 3) := by decide +kernel
theorem dX9_openDisputes_44 : decode cX9_openDisputes 44 = .ok (.goto (-40), 3) := by decide +kernel
theorem dX9_openDisputes_47 : decode cX9_openDisputes 47 = .ok (.iload_n 1, 1) := by decide +kernel
theorem dX9_openDisputes_48 : decode cX9_openDisputes 48 = .ok (.ireturn, 1) := by decide +kernel
theorem dX9_keysThat_0 : decode cX9_keysThat 0 = .ok (.iconst 0, 1) := by decide +kernel
theorem dX9_keysThat_1 : decode cX9_keysThat 1 = .ok (.istore_n 2, 1) := by decide +kernel
theorem dX9_keysThat_2 : decode cX9_keysThat 2 = .ok (.iconst 0, 1) := by decide +kernel
theorem dX9_keysThat_3 : decode cX9_keysThat 3 = .ok (.istore_n 3, 1) := by decide +kernel
theorem dX9_keysThat_4 : decode cX9_keysThat 4 = .ok (.iload_n 3, 1) := by decide +kernel
theorem dX9_keysThat_5 : decode cX9_keysThat 5 = .ok (.aload_n 0, 1) := by decide +kernel
theorem dX9_keysThat_6 : decode cX9_keysThat 6 = .ok (.invokevirtual 64, 3) := by decide +kernel
theorem dX9_keysThat_9 : decode cX9_keysThat 9 = .ok (.if_icmp .ge 76, 3) := by decide +kernel
theorem dX9_keysThat_12 : decode cX9_keysThat 12 = .ok (.iload_n 1, 1) := by decide +kernel
theorem dX9_keysThat_13 : decode cX9_keysThat 13 = .ok (.iconst 3, 1) := by decide +kernel
theorem dX9_keysThat_14 : decode cX9_keysThat 14 = .ok (.if_icmp .ne 11, 3) := by decide +kernel
theorem dX9_keysThat_17 : decode cX9_keysThat 17 = .ok (.aload_n 0, 1) := by decide +kernel
theorem dX9_keysThat_18 : decode cX9_keysThat 18 = .ok (.iload_n 3, 1) := by decide +kernel
theorem dX9_keysThat_19 : decode cX9_keysThat 19 = .ok (.invokevirtual 72, 3) := by decide +kernel
theorem dX9_keysThat_22 : decode cX9_keysThat 22 = .ok (.goto 42, 3) := by decide +kernel
theorem dX9_keysThat_25 : decode cX9_keysThat 25 = .ok (.iload_n 1, 1) := by decide +kernel
theorem dX9_keysThat_26 : decode cX9_keysThat 26 = .ok (.iconst 4, 1) := by decide +kernel
theorem dX9_keysThat_27 : decode cX9_keysThat 27 = .ok (.if_icmp .ne 11, 3) := by decide +kernel
theorem dX9_keysThat_30 : decode cX9_keysThat 30 = .ok (.aload_n 0, 1) := by decide +kernel
theorem dX9_keysThat_31 : decode cX9_keysThat 31 = .ok (.iload_n 3, 1) := by decide +kernel
theorem dX9_keysThat_32 : decode cX9_keysThat 32 = .ok (.invokevirtual 76, 3) := by decide +kernel
theorem dX9_keysThat_35 : decode cX9_keysThat 35 = .ok (.goto 29, 3) := by decide +kernel
theorem dX9_keysThat_38 : decode cX9_keysThat 38 = .ok (.aload_n 0, 1) := by decide +kernel
theorem dX9_keysThat_39 : decode cX9_keysThat 39 = .ok (.iload_n 3, 1) := by decide +kernel
theorem dX9_keysThat_40 : decode cX9_keysThat 40 = .ok (.invokevirtual 76, 3) := by decide +kernel
theorem dX9_keysThat_43 : decode cX9_keysThat 43 = .ok (.ifCond .eq 20, 3) := by decide +kernel
theorem dX9_keysThat_46 : decode cX9_keysThat 46 = .ok (.aload_n 0, 1) := by decide +kernel
theorem dX9_keysThat_47 : decode cX9_keysThat 47 = .ok (.getfield 7, 3) := by decide +kernel
theorem dX9_keysThat_50 : decode cX9_keysThat 50 = .ok (.bipush 116, 2) := by decide +kernel
theorem dX9_keysThat_52 : decode cX9_keysThat 52 = .ok (.iload_n 3, 1) := by decide +kernel
theorem dX9_keysThat_53 : decode cX9_keysThat 53 = .ok (.iadd, 1) := by decide +kernel
theorem dX9_keysThat_54 : decode cX9_keysThat 54 = .ok (.iaload, 1) := by decide +kernel
theorem dX9_keysThat_55 : decode cX9_keysThat 55 = .ok (.iconst 1, 1) := by decide +kernel
theorem dX9_keysThat_56 : decode cX9_keysThat 56 = .ok (.if_icmp .ne 7, 3) := by decide +kernel
theorem dX9_keysThat_59 : decode cX9_keysThat 59 = .ok (.iconst 1, 1) := by decide +kernel
theorem dX9_keysThat_60 : decode cX9_keysThat 60 = .ok (.goto 4, 3) := by decide +kernel
theorem dX9_keysThat_63 : decode cX9_keysThat 63 = .ok (.iconst 0, 1) := by decide +kernel
theorem dX9_keysThat_64 : decode cX9_keysThat 64 = .ok (.istore 4, 2) := by decide +kernel
theorem dX9_keysThat_66 : decode cX9_keysThat 66 = .ok (.iload_n 2, 1) := by decide +kernel
theorem dX9_keysThat_67 : decode cX9_keysThat 67 = .ok (.iload 4, 2) := by decide +kernel
theorem dX9_keysThat_69 : decode cX9_keysThat 69 = .ok (.ifCond .eq 7, 3) := by decide +kernel
theorem dX9_keysThat_72 : decode cX9_keysThat 72 = .ok (.iconst 1, 1) := by decide +kernel
theorem dX9_keysThat_73 : decode cX9_keysThat 73 = .ok (.goto 4, 3) := by decide +kernel
theorem dX9_keysThat_76 : decode cX9_keysThat 76 = .ok (.iconst 0, 1) := by decide +kernel
theorem dX9_keysThat_77 : decode cX9_keysThat 77 = .ok (.iadd, 1) := by decide +kernel
theorem dX9_keysThat_78 : decode cX9_keysThat 78 = .ok (.istore_n 2, 1) := by decide +kernel
theorem dX9_keysThat_79 : decode cX9_keysThat 79 = .ok (.iinc 3 1, 3) := by decide +kernel
theorem dX9_keysThat_82 : decode cX9_keysThat 82 = .ok (.goto (-78), 3) := by decide +kernel
theorem dX9_keysThat_85 : decode cX9_keysThat 85 = .ok (.iload_n 2, 1) := by decide +kernel
theorem dX9_keysThat_86 : decode cX9_keysThat 86 = .ok (.ireturn, 1) := by decide +kernel
theorem dX9_count_0 : decode cX9_count 0 = .ok (.iload_n 1, 1) := by decide +kernel
theorem dX9_count_1 : decode cX9_count 1 = .ok (.tableswitch 199 0 15 #[79, 86, 93, 100, 100, 100, 106, 114, 130, 138, 143, 151, 167, 175, 189, 194], 79) := by decide +kernel
theorem dX9_count_80 : decode cX9_count 80 = .ok (.aload_n 0, 1) := by decide +kernel
theorem dX9_count_81 : decode cX9_count 81 = .ok (.getfield 7, 3) := by decide +kernel
theorem dX9_count_84 : decode cX9_count 84 = .ok (.iconst 2, 1) := by decide +kernel
theorem dX9_count_85 : decode cX9_count 85 = .ok (.iaload, 1) := by decide +kernel
theorem dX9_count_86 : decode cX9_count 86 = .ok (.ireturn, 1) := by decide +kernel
theorem dX9_count_87 : decode cX9_count 87 = .ok (.aload_n 0, 1) := by decide +kernel
theorem dX9_count_88 : decode cX9_count 88 = .ok (.getfield 7, 3) := by decide +kernel
theorem dX9_count_91 : decode cX9_count 91 = .ok (.iconst 0, 1) := by decide +kernel
theorem dX9_count_92 : decode cX9_count 92 = .ok (.iaload, 1) := by decide +kernel
theorem dX9_count_93 : decode cX9_count 93 = .ok (.ireturn, 1) := by decide +kernel
theorem dX9_count_94 : decode cX9_count 94 = .ok (.aload_n 0, 1) := by decide +kernel
theorem dX9_count_95 : decode cX9_count 95 = .ok (.getfield 7, 3) := by decide +kernel
theorem dX9_count_98 : decode cX9_count 98 = .ok (.iconst 1, 1) := by decide +kernel
theorem dX9_count_99 : decode cX9_count 99 = .ok (.iaload, 1) := by decide +kernel
theorem dX9_count_100 : decode cX9_count 100 = .ok (.ireturn, 1) := by decide +kernel
theorem dX9_count_101 : decode cX9_count 101 = .ok (.aload_n 0, 1) := by decide +kernel
theorem dX9_count_102 : decode cX9_count 102 = .ok (.iload_n 1, 1) := by decide +kernel
theorem dX9_count_103 : decode cX9_count 103 = .ok (.invokevirtual 196, 3) := by decide +kernel
theorem dX9_count_106 : decode cX9_count 106 = .ok (.ireturn, 1) := by decide +kernel
theorem dX9_count_107 : decode cX9_count 107 = .ok (.aload_n 0, 1) := by decide +kernel
theorem dX9_count_108 : decode cX9_count 108 = .ok (.getfield 7, 3) := by decide +kernel
theorem dX9_count_111 : decode cX9_count 111 = .ok (.bipush 9, 2) := by decide +kernel
theorem dX9_count_113 : decode cX9_count 113 = .ok (.iaload, 1) := by decide +kernel
theorem dX9_count_114 : decode cX9_count 114 = .ok (.ireturn, 1) := by decide +kernel
theorem dX9_count_115 : decode cX9_count 115 = .ok (.aload_n 0, 1) := by decide +kernel
theorem dX9_count_116 : decode cX9_count 116 = .ok (.getfield 7, 3) := by decide +kernel
theorem dX9_count_119 : decode cX9_count 119 = .ok (.bipush 10, 2) := by decide +kernel
theorem dX9_count_121 : decode cX9_count 121 = .ok (.iaload, 1) := by decide +kernel
theorem dX9_count_122 : decode cX9_count 122 = .ok (.aload_n 0, 1) := by decide +kernel
theorem dX9_count_123 : decode cX9_count 123 = .ok (.getfield 7, 3) := by decide +kernel
theorem dX9_count_126 : decode cX9_count 126 = .ok (.bipush 11, 2) := by decide +kernel
theorem dX9_count_128 : decode cX9_count 128 = .ok (.iaload, 1) := by decide +kernel
theorem dX9_count_129 : decode cX9_count 129 = .ok (.iadd, 1) := by decide +kernel
theorem dX9_count_130 : decode cX9_count 130 = .ok (.ireturn, 1) := by decide +kernel
theorem dX9_count_131 : decode cX9_count 131 = .ok (.aload_n 0, 1) := by decide +kernel
theorem dX9_count_132 : decode cX9_count 132 = .ok (.getfield 7, 3) := by decide +kernel
theorem dX9_count_135 : decode cX9_count 135 = .ok (.bipush 14, 2) := by decide +kernel
theorem dX9_count_137 : decode cX9_count 137 = .ok (.iaload, 1) := by decide +kernel
theorem dX9_count_138 : decode cX9_count 138 = .ok (.ireturn, 1) := by decide +kernel
theorem dX9_count_139 : decode cX9_count 139 = .ok (.aload_n 0, 1) := by decide +kernel
theorem dX9_count_140 : decode cX9_count 140 = .ok (.invokevirtual 199, 3) := by decide +kernel
theorem dX9_count_143 : decode cX9_count 143 = .ok (.ireturn, 1) := by decide +kernel
theorem dX9_count_144 : decode cX9_count 144 = .ok (.aload_n 0, 1) := by decide +kernel
theorem dX9_count_145 : decode cX9_count 145 = .ok (.getfield 7, 3) := by decide +kernel
theorem dX9_count_148 : decode cX9_count 148 = .ok (.bipush 16, 2) := by decide +kernel
theorem dX9_count_150 : decode cX9_count 150 = .ok (.iaload, 1) := by decide +kernel
theorem dX9_count_151 : decode cX9_count 151 = .ok (.ireturn, 1) := by decide +kernel
theorem dX9_count_152 : decode cX9_count 152 = .ok (.aload_n 0, 1) := by decide +kernel
theorem dX9_count_153 : decode cX9_count 153 = .ok (.getfield 7, 3) := by decide +kernel
theorem dX9_count_156 : decode cX9_count 156 = .ok (.bipush 12, 2) := by decide +kernel
theorem dX9_count_158 : decode cX9_count 158 = .ok (.iaload, 1) := by decide +kernel
theorem dX9_count_159 : decode cX9_count 159 = .ok (.aload_n 0, 1) := by decide +kernel
theorem dX9_count_160 : decode cX9_count 160 = .ok (.getfield 7, 3) := by decide +kernel
theorem dX9_count_163 : decode cX9_count 163 = .ok (.bipush 13, 2) := by decide +kernel
theorem dX9_count_165 : decode cX9_count 165 = .ok (.iaload, 1) := by decide +kernel
theorem dX9_count_166 : decode cX9_count 166 = .ok (.iadd, 1) := by decide +kernel
theorem dX9_count_167 : decode cX9_count 167 = .ok (.ireturn, 1) := by decide +kernel
theorem dX9_count_168 : decode cX9_count 168 = .ok (.aload_n 0, 1) := by decide +kernel
theorem dX9_count_169 : decode cX9_count 169 = .ok (.getfield 7, 3) := by decide +kernel
theorem dX9_count_172 : decode cX9_count 172 = .ok (.bipush 15, 2) := by decide +kernel
theorem dX9_count_174 : decode cX9_count 174 = .ok (.iaload, 1) := by decide +kernel
theorem dX9_count_175 : decode cX9_count 175 = .ok (.ireturn, 1) := by decide +kernel
theorem dX9_count_176 : decode cX9_count 176 = .ok (.aload_n 0, 1) := by decide +kernel
theorem dX9_count_177 : decode cX9_count 177 = .ok (.getfield 7, 3) := by decide +kernel
theorem dX9_count_180 : decode cX9_count 180 = .ok (.iconst 2, 1) := by decide +kernel
theorem dX9_count_181 : decode cX9_count 181 = .ok (.iaload, 1) := by decide +kernel
theorem dX9_count_182 : decode cX9_count 182 = .ok (.aload_n 0, 1) := by decide +kernel
theorem dX9_count_183 : decode cX9_count 183 = .ok (.getfield 7, 3) := by decide +kernel
theorem dX9_count_186 : decode cX9_count 186 = .ok (.iconst 0, 1) := by decide +kernel
theorem dX9_count_187 : decode cX9_count 187 = .ok (.iaload, 1) := by decide +kernel
theorem dX9_count_188 : decode cX9_count 188 = .ok (.irem, 1) := by decide +kernel
theorem dX9_count_189 : decode cX9_count 189 = .ok (.ireturn, 1) := by decide +kernel
theorem dX9_count_190 : decode cX9_count 190 = .ok (.aload_n 0, 1) := by decide +kernel
theorem dX9_count_191 : decode cX9_count 191 = .ok (.getfield 47, 3) := by decide +kernel
theorem dX9_count_194 : decode cX9_count 194 = .ok (.ireturn, 1) := by decide +kernel
theorem dX9_count_195 : decode cX9_count 195 = .ok (.aload_n 0, 1) := by decide +kernel
theorem dX9_count_196 : decode cX9_count 196 = .ok (.getfield 168, 3) := by decide +kernel
theorem dX9_count_199 : decode cX9_count 199 = .ok (.ireturn, 1) := by decide +kernel
theorem dX9_count_200 : decode cX9_count 200 = .ok (.bipush (-2), 2) := by decide +kernel
theorem dX9_count_202 : decode cX9_count 202 = .ok (.ireturn, 1) := by decide +kernel
end
section
theorem dL_law_0 : decode cL_law 0 = .ok (.new 7, 3) := by decide +kernel
theorem dL_law_3 : decode cL_law 3 = .ok (.dup, 1) := by decide +kernel
theorem dL_law_4 : decode cL_law 4 = .ok (.invokespecial 9, 3) := by decide +kernel
theorem dL_law_7 : decode cL_law 7 = .ok (.astore_n 1, 1) := by decide +kernel
theorem dL_law_8 : decode cL_law 8 = .ok (.new 10, 3) := by decide +kernel
theorem dL_law_11 : decode cL_law 11 = .ok (.dup, 1) := by decide +kernel
theorem dL_law_12 : decode cL_law 12 = .ok (.invokespecial 12, 3) := by decide +kernel
theorem dL_law_15 : decode cL_law 15 = .ok (.astore_n 2, 1) := by decide +kernel
theorem dL_law_16 : decode cL_law 16 = .ok (.iconst 0, 1) := by decide +kernel
theorem dL_law_17 : decode cL_law 17 = .ok (.istore_n 3, 1) := by decide +kernel
theorem dL_law_18 : decode cL_law 18 = .ok (.iload_n 3, 1) := by decide +kernel
theorem dL_law_19 : decode cL_law 19 = .ok (.aload_n 0, 1) := by decide +kernel
theorem dL_law_20 : decode cL_law 20 = .ok (.arraylength, 1) := by decide +kernel
theorem dL_law_21 : decode cL_law 21 = .ok (.iconst 4, 1) := by decide +kernel
theorem dL_law_22 : decode cL_law 22 = .ok (.isub, 1) := by decide +kernel
theorem dL_law_23 : decode cL_law 23 = .ok (.if_icmp .gt 933, 3) := by decide +kernel
theorem dL_law_26 : decode cL_law 26 = .ok (.aload_n 0, 1) := by decide +kernel
theorem dL_law_27 : decode cL_law 27 = .ok (.iload_n 3, 1) := by decide +kernel
theorem dL_law_28 : decode cL_law 28 = .ok (.iaload, 1) := by decide +kernel
theorem dL_law_29 : decode cL_law 29 = .ok (.bipush 31, 2) := by decide +kernel
theorem dL_law_31 : decode cL_law 31 = .ok (.iand, 1) := by decide +kernel
theorem dL_law_32 : decode cL_law 32 = .ok (.tableswitch 918 0 25 #[120, 153, 188, 221, 270, 303, 336, 369, 392, 425, 450, 463, 476, 489, 502, 515, 548, 581, 644, 677, 710, 743, 776, 849, 872, 895], 120) := by decide +kernel
theorem dL_law_152 : decode cL_law 152 = .ok (.aload_n 1, 1) := by decide +kernel
theorem dL_law_153 : decode cL_law 153 = .ok (.aload_n 0, 1) := by decide +kernel
theorem dL_law_154 : decode cL_law 154 = .ok (.iload_n 3, 1) := by decide +kernel
theorem dL_law_155 : decode cL_law 155 = .ok (.iconst 1, 1) := by decide +kernel
theorem dL_law_156 : decode cL_law 156 = .ok (.iadd, 1) := by decide +kernel
theorem dL_law_157 : decode cL_law 157 = .ok (.iaload, 1) := by decide +kernel
theorem dL_law_158 : decode cL_law 158 = .ok (.aload_n 0, 1) := by decide +kernel
theorem dL_law_159 : decode cL_law 159 = .ok (.iload_n 3, 1) := by decide +kernel
theorem dL_law_160 : decode cL_law 160 = .ok (.iconst 2, 1) := by decide +kernel
theorem dL_law_161 : decode cL_law 161 = .ok (.iadd, 1) := by decide +kernel
theorem dL_law_162 : decode cL_law 162 = .ok (.iaload, 1) := by decide +kernel
theorem dL_law_163 : decode cL_law 163 = .ok (.invokevirtual 13, 3) := by decide +kernel
theorem dL_law_166 : decode cL_law 166 = .ok (.aload_n 2, 1) := by decide +kernel
theorem dL_law_167 : decode cL_law 167 = .ok (.aload_n 0, 1) := by decide +kernel
theorem dL_law_168 : decode cL_law 168 = .ok (.iload_n 3, 1) := by decide +kernel
theorem dL_law_169 : decode cL_law 169 = .ok (.iconst 1, 1) := by decide +kernel
theorem dL_law_170 : decode cL_law 170 = .ok (.iadd, 1) := by decide +kernel
theorem dL_law_171 : decode cL_law 171 = .ok (.iaload, 1) := by decide +kernel
theorem dL_law_172 : decode cL_law 172 = .ok (.aload_n 0, 1) := by decide +kernel
theorem dL_law_173 : decode cL_law 173 = .ok (.iload_n 3, 1) := by decide +kernel
theorem dL_law_174 : decode cL_law 174 = .ok (.iconst 2, 1) := by decide +kernel
theorem dL_law_175 : decode cL_law 175 = .ok (.iadd, 1) := by decide +kernel
theorem dL_law_176 : decode cL_law 176 = .ok (.iaload, 1) := by decide +kernel
theorem dL_law_177 : decode cL_law 177 = .ok (.invokevirtual 17, 3) := by decide +kernel
theorem dL_law_180 : decode cL_law 180 = .ok (.if_icmp .eq 770, 3) := by decide +kernel
theorem dL_law_183 : decode cL_law 183 = .ok (.iconst 0, 1) := by decide +kernel
theorem dL_law_184 : decode cL_law 184 = .ok (.ireturn, 1) := by decide +kernel
theorem dL_law_185 : decode cL_law 185 = .ok (.aload_n 1, 1) := by decide +kernel
theorem dL_law_186 : decode cL_law 186 = .ok (.aload_n 0, 1) := by decide +kernel
theorem dL_law_187 : decode cL_law 187 = .ok (.iload_n 3, 1) := by decide +kernel
theorem dL_law_188 : decode cL_law 188 = .ok (.iconst 1, 1) := by decide +kernel
theorem dL_law_189 : decode cL_law 189 = .ok (.iadd, 1) := by decide +kernel
theorem dL_law_190 : decode cL_law 190 = .ok (.iaload, 1) := by decide +kernel
theorem dL_law_191 : decode cL_law 191 = .ok (.aload_n 0, 1) := by decide +kernel
theorem dL_law_192 : decode cL_law 192 = .ok (.iload_n 3, 1) := by decide +kernel
theorem dL_law_193 : decode cL_law 193 = .ok (.iconst 2, 1) := by decide +kernel
theorem dL_law_194 : decode cL_law 194 = .ok (.iadd, 1) := by decide +kernel
theorem dL_law_195 : decode cL_law 195 = .ok (.iaload, 1) := by decide +kernel
theorem dL_law_196 : decode cL_law 196 = .ok (.i2c, 1) := by decide +kernel
theorem dL_law_197 : decode cL_law 197 = .ok (.invokevirtual 18, 3) := by decide +kernel
theorem dL_law_200 : decode cL_law 200 = .ok (.aload_n 2, 1) := by decide +kernel
theorem dL_law_201 : decode cL_law 201 = .ok (.aload_n 0, 1) := by decide +kernel
theorem dL_law_202 : decode cL_law 202 = .ok (.iload_n 3, 1) := by decide +kernel
theorem dL_law_203 : decode cL_law 203 = .ok (.iconst 1, 1) := by decide +kernel
theorem dL_law_204 : decode cL_law 204 = .ok (.iadd, 1) := by decide +kernel
theorem dL_law_205 : decode cL_law 205 = .ok (.iaload, 1) := by decide +kernel
theorem dL_law_206 : decode cL_law 206 = .ok (.aload_n 0, 1) := by decide +kernel
theorem dL_law_207 : decode cL_law 207 = .ok (.iload_n 3, 1) := by decide +kernel
theorem dL_law_208 : decode cL_law 208 = .ok (.iconst 2, 1) := by decide +kernel
theorem dL_law_209 : decode cL_law 209 = .ok (.iadd, 1) := by decide +kernel
theorem dL_law_210 : decode cL_law 210 = .ok (.iaload, 1) := by decide +kernel
theorem dL_law_211 : decode cL_law 211 = .ok (.i2c, 1) := by decide +kernel
theorem dL_law_212 : decode cL_law 212 = .ok (.invokevirtual 22, 3) := by decide +kernel
theorem dL_law_215 : decode cL_law 215 = .ok (.if_icmp .eq 735, 3) := by decide +kernel
theorem dL_law_218 : decode cL_law 218 = .ok (.iconst 0, 1) := by decide +kernel
theorem dL_law_219 : decode cL_law 219 = .ok (.ireturn, 1) := by decide +kernel
theorem dL_law_220 : decode cL_law 220 = .ok (.aload_n 1, 1) := by decide +kernel
theorem dL_law_221 : decode cL_law 221 = .ok (.aload_n 0, 1) := by decide +kernel
theorem dL_law_222 : decode cL_law 222 = .ok (.iload_n 3, 1) := by decide +kernel
theorem dL_law_223 : decode cL_law 223 = .ok (.iconst 1, 1) := by decide +kernel
theorem dL_law_224 : decode cL_law 224 = .ok (.iadd, 1) := by decide +kernel
theorem dL_law_225 : decode cL_law 225 = .ok (.iaload, 1) := by decide +kernel
theorem dL_law_226 : decode cL_law 226 = .ok (.aload_n 0, 1) := by decide +kernel
theorem dL_law_227 : decode cL_law 227 = .ok (.iload_n 3, 1) := by decide +kernel
theorem dL_law_228 : decode cL_law 228 = .ok (.iconst 2, 1) := by decide +kernel
theorem dL_law_229 : decode cL_law 229 = .ok (.iadd, 1) := by decide +kernel
theorem dL_law_230 : decode cL_law 230 = .ok (.iaload, 1) := by decide +kernel
theorem dL_law_231 : decode cL_law 231 = .ok (.invokevirtual 23, 3) := by decide +kernel
theorem dL_law_234 : decode cL_law 234 = .ok (.aload_n 2, 1) := by decide +kernel
theorem dL_law_235 : decode cL_law 235 = .ok (.aload_n 0, 1) := by decide +kernel
theorem dL_law_236 : decode cL_law 236 = .ok (.iload_n 3, 1) := by decide +kernel
theorem dL_law_237 : decode cL_law 237 = .ok (.iconst 1, 1) := by decide +kernel
theorem dL_law_238 : decode cL_law 238 = .ok (.iadd, 1) := by decide +kernel
theorem dL_law_239 : decode cL_law 239 = .ok (.iaload, 1) := by decide +kernel
theorem dL_law_240 : decode cL_law 240 = .ok (.aload_n 0, 1) := by decide +kernel
theorem dL_law_241 : decode cL_law 241 = .ok (.iload_n 3, 1) := by decide +kernel
theorem dL_law_242 : decode cL_law 242 = .ok (.iconst 2, 1) := by decide +kernel
theorem dL_law_243 : decode cL_law 243 = .ok (.iadd, 1) := by decide +kernel
theorem dL_law_244 : decode cL_law 244 = .ok (.iaload, 1) := by decide +kernel
theorem dL_law_245 : decode cL_law 245 = .ok (.invokevirtual 26, 3) := by decide +kernel
theorem dL_law_248 : decode cL_law 248 = .ok (.if_icmp .eq 702, 3) := by decide +kernel
theorem dL_law_251 : decode cL_law 251 = .ok (.iconst 0, 1) := by decide +kernel
theorem dL_law_252 : decode cL_law 252 = .ok (.ireturn, 1) := by decide +kernel
theorem dL_law_253 : decode cL_law 253 = .ok (.aload_n 1, 1) := by decide +kernel
theorem dL_law_254 : decode cL_law 254 = .ok (.aload_n 0, 1) := by decide +kernel
theorem dL_law_255 : decode cL_law 255 = .ok (.iload_n 3, 1) := by decide +kernel
theorem dL_law_256 : decode cL_law 256 = .ok (.iconst 1, 1) := by decide +kernel
theorem dL_law_257 : decode cL_law 257 = .ok (.iadd, 1) := by decide +kernel
theorem dL_law_258 : decode cL_law 258 = .ok (.iaload, 1) := by decide +kernel
theorem dL_law_259 : decode cL_law 259 = .ok (.aload_n 0, 1) := by decide +kernel
theorem dL_law_260 : decode cL_law 260 = .ok (.iload_n 3, 1) := by decide +kernel
theorem dL_law_261 : decode cL_law 261 = .ok (.iconst 2, 1) := by decide +kernel
theorem dL_law_262 : decode cL_law 262 = .ok (.iadd, 1) := by decide +kernel
theorem dL_law_263 : decode cL_law 263 = .ok (.iaload, 1) := by decide +kernel
theorem dL_law_264 : decode cL_law 264 = .ok (.ifCond .eq 7, 3) := by decide +kernel
theorem dL_law_267 : decode cL_law 267 = .ok (.iconst 1, 1) := by decide +kernel
theorem dL_law_268 : decode cL_law 268 = .ok (.goto 4, 3) := by decide +kernel
theorem dL_law_271 : decode cL_law 271 = .ok (.iconst 0, 1) := by decide +kernel
theorem dL_law_272 : decode cL_law 272 = .ok (.invokevirtual 27, 3) := by decide +kernel
theorem dL_law_275 : decode cL_law 275 = .ok (.aload_n 2, 1) := by decide +kernel
theorem dL_law_276 : decode cL_law 276 = .ok (.aload_n 0, 1) := by decide +kernel
theorem dL_law_277 : decode cL_law 277 = .ok (.iload_n 3, 1) := by decide +kernel
theorem dL_law_278 : decode cL_law 278 = .ok (.iconst 1, 1) := by decide +kernel
theorem dL_law_279 : decode cL_law 279 = .ok (.iadd, 1) := by decide +kernel
theorem dL_law_280 : decode cL_law 280 = .ok (.iaload, 1) := by decide +kernel
theorem dL_law_281 : decode cL_law 281 = .ok (.aload_n 0, 1) := by decide +kernel
theorem dL_law_282 : decode cL_law 282 = .ok (.iload_n 3, 1) := by decide +kernel
theorem dL_law_283 : decode cL_law 283 = .ok (.iconst 2, 1) := by decide +kernel
theorem dL_law_284 : decode cL_law 284 = .ok (.iadd, 1) := by decide +kernel
theorem dL_law_285 : decode cL_law 285 = .ok (.iaload, 1) := by decide +kernel
theorem dL_law_286 : decode cL_law 286 = .ok (.ifCond .eq 7, 3) := by decide +kernel
theorem dL_law_289 : decode cL_law 289 = .ok (.iconst 1, 1) := by decide +kernel
theorem dL_law_290 : decode cL_law 290 = .ok (.goto 4, 3) := by decide +kernel
theorem dL_law_293 : decode cL_law 293 = .ok (.iconst 0, 1) := by decide +kernel
theorem dL_law_294 : decode cL_law 294 = .ok (.invokevirtual 31, 3) := by decide +kernel
theorem dL_law_297 : decode cL_law 297 = .ok (.if_icmp .eq 653, 3) := by decide +kernel
theorem dL_law_300 : decode cL_law 300 = .ok (.iconst 0, 1) := by decide +kernel
theorem dL_law_301 : decode cL_law 301 = .ok (.ireturn, 1) := by decide +kernel
theorem dL_law_302 : decode cL_law 302 = .ok (.aload_n 1, 1) := by decide +kernel
theorem dL_law_303 : decode cL_law 303 = .ok (.aload_n 0, 1) := by decide +kernel
theorem dL_law_304 : decode cL_law 304 = .ok (.iload_n 3, 1) := by decide +kernel
theorem dL_law_305 : decode cL_law 305 = .ok (.iconst 1, 1) := by decide +kernel
theorem dL_law_306 : decode cL_law 306 = .ok (.iadd, 1) := by decide +kernel
theorem dL_law_307 : decode cL_law 307 = .ok (.iaload, 1) := by decide +kernel
theorem dL_law_308 : decode cL_law 308 = .ok (.aload_n 0, 1) := by decide +kernel
theorem dL_law_309 : decode cL_law 309 = .ok (.iload_n 3, 1) := by decide +kernel
theorem dL_law_310 : decode cL_law 310 = .ok (.iconst 2, 1) := by decide +kernel
theorem dL_law_311 : decode cL_law 311 = .ok (.iadd, 1) := by decide +kernel
theorem dL_law_312 : decode cL_law 312 = .ok (.iaload, 1) := by decide +kernel
theorem dL_law_313 : decode cL_law 313 = .ok (.invokevirtual 32, 3) := by decide +kernel
theorem dL_law_316 : decode cL_law 316 = .ok (.aload_n 2, 1) := by decide +kernel
theorem dL_law_317 : decode cL_law 317 = .ok (.aload_n 0, 1) := by decide +kernel
theorem dL_law_318 : decode cL_law 318 = .ok (.iload_n 3, 1) := by decide +kernel
theorem dL_law_319 : decode cL_law 319 = .ok (.iconst 1, 1) := by decide +kernel
theorem dL_law_320 : decode cL_law 320 = .ok (.iadd, 1) := by decide +kernel
theorem dL_law_321 : decode cL_law 321 = .ok (.iaload, 1) := by decide +kernel
theorem dL_law_322 : decode cL_law 322 = .ok (.aload_n 0, 1) := by decide +kernel
theorem dL_law_323 : decode cL_law 323 = .ok (.iload_n 3, 1) := by decide +kernel
theorem dL_law_324 : decode cL_law 324 = .ok (.iconst 2, 1) := by decide +kernel
theorem dL_law_325 : decode cL_law 325 = .ok (.iadd, 1) := by decide +kernel
theorem dL_law_326 : decode cL_law 326 = .ok (.iaload, 1) := by decide +kernel
theorem dL_law_327 : decode cL_law 327 = .ok (.invokevirtual 35, 3) := by decide +kernel
theorem dL_law_330 : decode cL_law 330 = .ok (.if_icmp .eq 620, 3) := by decide +kernel
theorem dL_law_333 : decode cL_law 333 = .ok (.iconst 0, 1) := by decide +kernel
theorem dL_law_334 : decode cL_law 334 = .ok (.ireturn, 1) := by decide +kernel
theorem dL_law_335 : decode cL_law 335 = .ok (.aload_n 1, 1) := by decide +kernel
theorem dL_law_336 : decode cL_law 336 = .ok (.aload_n 0, 1) := by decide +kernel
theorem dL_law_337 : decode cL_law 337 = .ok (.iload_n 3, 1) := by decide +kernel
theorem dL_law_338 : decode cL_law 338 = .ok (.iconst 1, 1) := by decide +kernel
theorem dL_law_339 : decode cL_law 339 = .ok (.iadd, 1) := by decide +kernel
theorem dL_law_340 : decode cL_law 340 = .ok (.iaload, 1) := by decide +kernel
theorem dL_law_341 : decode cL_law 341 = .ok (.aload_n 0, 1) := by decide +kernel
theorem dL_law_342 : decode cL_law 342 = .ok (.iload_n 3, 1) := by decide +kernel
theorem dL_law_343 : decode cL_law 343 = .ok (.iconst 2, 1) := by decide +kernel
theorem dL_law_344 : decode cL_law 344 = .ok (.iadd, 1) := by decide +kernel
theorem dL_law_345 : decode cL_law 345 = .ok (.iaload, 1) := by decide +kernel
theorem dL_law_346 : decode cL_law 346 = .ok (.invokevirtual 36, 3) := by decide +kernel
theorem dL_law_349 : decode cL_law 349 = .ok (.aload_n 2, 1) := by decide +kernel
theorem dL_law_350 : decode cL_law 350 = .ok (.aload_n 0, 1) := by decide +kernel
theorem dL_law_351 : decode cL_law 351 = .ok (.iload_n 3, 1) := by decide +kernel
theorem dL_law_352 : decode cL_law 352 = .ok (.iconst 1, 1) := by decide +kernel
theorem dL_law_353 : decode cL_law 353 = .ok (.iadd, 1) := by decide +kernel
theorem dL_law_354 : decode cL_law 354 = .ok (.iaload, 1) := by decide +kernel
theorem dL_law_355 : decode cL_law 355 = .ok (.aload_n 0, 1) := by decide +kernel
theorem dL_law_356 : decode cL_law 356 = .ok (.iload_n 3, 1) := by decide +kernel
theorem dL_law_357 : decode cL_law 357 = .ok (.iconst 2, 1) := by decide +kernel
theorem dL_law_358 : decode cL_law 358 = .ok (.iadd, 1) := by decide +kernel
theorem dL_law_359 : decode cL_law 359 = .ok (.iaload, 1) := by decide +kernel
theorem dL_law_360 : decode cL_law 360 = .ok (.invokevirtual 39, 3) := by decide +kernel
theorem dL_law_363 : decode cL_law 363 = .ok (.if_icmp .eq 587, 3) := by decide +kernel
theorem dL_law_366 : decode cL_law 366 = .ok (.iconst 0, 1) := by decide +kernel
theorem dL_law_367 : decode cL_law 367 = .ok (.ireturn, 1) := by decide +kernel
theorem dL_law_368 : decode cL_law 368 = .ok (.aload_n 1, 1) := by decide +kernel
theorem dL_law_369 : decode cL_law 369 = .ok (.aload_n 0, 1) := by decide +kernel
theorem dL_law_370 : decode cL_law 370 = .ok (.iload_n 3, 1) := by decide +kernel
theorem dL_law_371 : decode cL_law 371 = .ok (.iconst 1, 1) := by decide +kernel
theorem dL_law_372 : decode cL_law 372 = .ok (.iadd, 1) := by decide +kernel
theorem dL_law_373 : decode cL_law 373 = .ok (.iaload, 1) := by decide +kernel
theorem dL_law_374 : decode cL_law 374 = .ok (.aload_n 0, 1) := by decide +kernel
theorem dL_law_375 : decode cL_law 375 = .ok (.iload_n 3, 1) := by decide +kernel
theorem dL_law_376 : decode cL_law 376 = .ok (.iconst 2, 1) := by decide +kernel
theorem dL_law_377 : decode cL_law 377 = .ok (.iadd, 1) := by decide +kernel
theorem dL_law_378 : decode cL_law 378 = .ok (.iaload, 1) := by decide +kernel
theorem dL_law_379 : decode cL_law 379 = .ok (.invokevirtual 40, 3) := by decide +kernel
theorem dL_law_382 : decode cL_law 382 = .ok (.aload_n 2, 1) := by decide +kernel
theorem dL_law_383 : decode cL_law 383 = .ok (.aload_n 0, 1) := by decide +kernel
theorem dL_law_384 : decode cL_law 384 = .ok (.iload_n 3, 1) := by decide +kernel
theorem dL_law_385 : decode cL_law 385 = .ok (.iconst 1, 1) := by decide +kernel
theorem dL_law_386 : decode cL_law 386 = .ok (.iadd, 1) := by decide +kernel
theorem dL_law_387 : decode cL_law 387 = .ok (.iaload, 1) := by decide +kernel
theorem dL_law_388 : decode cL_law 388 = .ok (.aload_n 0, 1) := by decide +kernel
theorem dL_law_389 : decode cL_law 389 = .ok (.iload_n 3, 1) := by decide +kernel
theorem dL_law_390 : decode cL_law 390 = .ok (.iconst 2, 1) := by decide +kernel
theorem dL_law_391 : decode cL_law 391 = .ok (.iadd, 1) := by decide +kernel
theorem dL_law_392 : decode cL_law 392 = .ok (.iaload, 1) := by decide +kernel
theorem dL_law_393 : decode cL_law 393 = .ok (.invokevirtual 43, 3) := by decide +kernel
theorem dL_law_396 : decode cL_law 396 = .ok (.if_icmp .eq 554, 3) := by decide +kernel
theorem dL_law_399 : decode cL_law 399 = .ok (.iconst 0, 1) := by decide +kernel
theorem dL_law_400 : decode cL_law 400 = .ok (.ireturn, 1) := by decide +kernel
theorem dL_law_401 : decode cL_law 401 = .ok (.aload_n 1, 1) := by decide +kernel
theorem dL_law_402 : decode cL_law 402 = .ok (.aload_n 0, 1) := by decide +kernel
theorem dL_law_403 : decode cL_law 403 = .ok (.iload_n 3, 1) := by decide +kernel
theorem dL_law_404 : decode cL_law 404 = .ok (.iconst 1, 1) := by decide +kernel
theorem dL_law_405 : decode cL_law 405 = .ok (.iadd, 1) := by decide +kernel
theorem dL_law_406 : decode cL_law 406 = .ok (.iaload, 1) := by decide +kernel
theorem dL_law_407 : decode cL_law 407 = .ok (.invokevirtual 44, 3) := by decide +kernel
theorem dL_law_410 : decode cL_law 410 = .ok (.aload_n 2, 1) := by decide +kernel
theorem dL_law_411 : decode cL_law 411 = .ok (.aload_n 0, 1) := by decide +kernel
theorem dL_law_412 : decode cL_law 412 = .ok (.iload_n 3, 1) := by decide +kernel
theorem dL_law_413 : decode cL_law 413 = .ok (.iconst 1, 1) := by decide +kernel
theorem dL_law_414 : decode cL_law 414 = .ok (.iadd, 1) := by decide +kernel
theorem dL_law_415 : decode cL_law 415 = .ok (.iaload, 1) := by decide +kernel
theorem dL_law_416 : decode cL_law 416 = .ok (.invokevirtual 48, 3) := by decide +kernel
theorem dL_law_419 : decode cL_law 419 = .ok (.if_icmp .eq 531, 3) := by decide +kernel
theorem dL_law_422 : decode cL_law 422 = .ok (.iconst 0, 1) := by decide +kernel
theorem dL_law_423 : decode cL_law 423 = .ok (.ireturn, 1) := by decide +kernel
theorem dL_law_424 : decode cL_law 424 = .ok (.aload_n 1, 1) := by decide +kernel
theorem dL_law_425 : decode cL_law 425 = .ok (.aload_n 0, 1) := by decide +kernel
theorem dL_law_426 : decode cL_law 426 = .ok (.iload_n 3, 1) := by decide +kernel
theorem dL_law_427 : decode cL_law 427 = .ok (.iconst 1, 1) := by decide +kernel
theorem dL_law_428 : decode cL_law 428 = .ok (.iadd, 1) := by decide +kernel
theorem dL_law_429 : decode cL_law 429 = .ok (.iaload, 1) := by decide +kernel
theorem dL_law_430 : decode cL_law 430 = .ok (.aload_n 0, 1) := by decide +kernel
theorem dL_law_431 : decode cL_law 431 = .ok (.iload_n 3, 1) := by decide +kernel
theorem dL_law_432 : decode cL_law 432 = .ok (.iconst 2, 1) := by decide +kernel
theorem dL_law_433 : decode cL_law 433 = .ok (.iadd, 1) := by decide +kernel
theorem dL_law_434 : decode cL_law 434 = .ok (.iaload, 1) := by decide +kernel
theorem dL_law_435 : decode cL_law 435 = .ok (.invokevirtual 49, 3) := by decide +kernel
theorem dL_law_438 : decode cL_law 438 = .ok (.aload_n 2, 1) := by decide +kernel
theorem dL_law_439 : decode cL_law 439 = .ok (.aload_n 0, 1) := by decide +kernel
theorem dL_law_440 : decode cL_law 440 = .ok (.iload_n 3, 1) := by decide +kernel
theorem dL_law_441 : decode cL_law 441 = .ok (.iconst 1, 1) := by decide +kernel
theorem dL_law_442 : decode cL_law 442 = .ok (.iadd, 1) := by decide +kernel
theorem dL_law_443 : decode cL_law 443 = .ok (.iaload, 1) := by decide +kernel
theorem dL_law_444 : decode cL_law 444 = .ok (.aload_n 0, 1) := by decide +kernel
theorem dL_law_445 : decode cL_law 445 = .ok (.iload_n 3, 1) := by decide +kernel
theorem dL_law_446 : decode cL_law 446 = .ok (.iconst 2, 1) := by decide +kernel
theorem dL_law_447 : decode cL_law 447 = .ok (.iadd, 1) := by decide +kernel
theorem dL_law_448 : decode cL_law 448 = .ok (.iaload, 1) := by decide +kernel
theorem dL_law_449 : decode cL_law 449 = .ok (.invokevirtual 52, 3) := by decide +kernel
theorem dL_law_452 : decode cL_law 452 = .ok (.if_icmp .eq 498, 3) := by decide +kernel
theorem dL_law_455 : decode cL_law 455 = .ok (.iconst 0, 1) := by decide +kernel
theorem dL_law_456 : decode cL_law 456 = .ok (.ireturn, 1) := by decide +kernel
theorem dL_law_457 : decode cL_law 457 = .ok (.aload_n 1, 1) := by decide +kernel
theorem dL_law_458 : decode cL_law 458 = .ok (.aload_n 0, 1) := by decide +kernel
theorem dL_law_459 : decode cL_law 459 = .ok (.iload_n 3, 1) := by decide +kernel
theorem dL_law_460 : decode cL_law 460 = .ok (.iconst 1, 1) := by decide +kernel
theorem dL_law_461 : decode cL_law 461 = .ok (.iadd, 1) := by decide +kernel
theorem dL_law_462 : decode cL_law 462 = .ok (.iaload, 1) := by decide +kernel
theorem dL_law_463 : decode cL_law 463 = .ok (.i2c, 1) := by decide +kernel
theorem dL_law_464 : decode cL_law 464 = .ok (.invokevirtual 53, 3) := by decide +kernel
theorem dL_law_467 : decode cL_law 467 = .ok (.aload_n 2, 1) := by decide +kernel
theorem dL_law_468 : decode cL_law 468 = .ok (.aload_n 0, 1) := by decide +kernel
theorem dL_law_469 : decode cL_law 469 = .ok (.iload_n 3, 1) := by decide +kernel
theorem dL_law_470 : decode cL_law 470 = .ok (.iconst 1, 1) := by decide +kernel
theorem dL_law_471 : decode cL_law 471 = .ok (.iadd, 1) := by decide +kernel
theorem dL_law_472 : decode cL_law 472 = .ok (.iaload, 1) := by decide +kernel
theorem dL_law_473 : decode cL_law 473 = .ok (.i2c, 1) := by decide +kernel
theorem dL_law_474 : decode cL_law 474 = .ok (.invokevirtual 57, 3) := by decide +kernel
theorem dL_law_477 : decode cL_law 477 = .ok (.if_icmp .eq 473, 3) := by decide +kernel
theorem dL_law_480 : decode cL_law 480 = .ok (.iconst 0, 1) := by decide +kernel
theorem dL_law_481 : decode cL_law 481 = .ok (.ireturn, 1) := by decide +kernel
theorem dL_law_482 : decode cL_law 482 = .ok (.aload_n 1, 1) := by decide +kernel
theorem dL_law_483 : decode cL_law 483 = .ok (.invokevirtual 58, 3) := by decide +kernel
theorem dL_law_486 : decode cL_law 486 = .ok (.aload_n 2, 1) := by decide +kernel
theorem dL_law_487 : decode cL_law 487 = .ok (.invokevirtual 62, 3) := by decide +kernel
theorem dL_law_490 : decode cL_law 490 = .ok (.if_icmp .eq 460, 3) := by decide +kernel
theorem dL_law_493 : decode cL_law 493 = .ok (.iconst 0, 1) := by decide +kernel
theorem dL_law_494 : decode cL_law 494 = .ok (.ireturn, 1) := by decide +kernel
theorem dL_law_495 : decode cL_law 495 = .ok (.aload_n 1, 1) := by decide +kernel
theorem dL_law_496 : decode cL_law 496 = .ok (.invokevirtual 63, 3) := by decide +kernel
theorem dL_law_499 : decode cL_law 499 = .ok (.aload_n 2, 1) := by decide +kernel
theorem dL_law_500 : decode cL_law 500 = .ok (.invokevirtual 66, 3) := by decide +kernel
theorem dL_law_503 : decode cL_law 503 = .ok (.if_icmp .eq 447, 3) := by decide +kernel
theorem dL_law_506 : decode cL_law 506 = .ok (.iconst 0, 1) := by decide +kernel
theorem dL_law_507 : decode cL_law 507 = .ok (.ireturn, 1) := by decide +kernel
theorem dL_law_508 : decode cL_law 508 = .ok (.aload_n 1, 1) := by decide +kernel
theorem dL_law_509 : decode cL_law 509 = .ok (.invokevirtual 67, 3) := by decide +kernel
theorem dL_law_512 : decode cL_law 512 = .ok (.aload_n 2, 1) := by decide +kernel
theorem dL_law_513 : decode cL_law 513 = .ok (.invokevirtual 70, 3) := by decide +kernel
theorem dL_law_516 : decode cL_law 516 = .ok (.if_icmp .eq 434, 3) := by decide +kernel
theorem dL_law_519 : decode cL_law 519 = .ok (.iconst 0, 1) := by decide +kernel
theorem dL_law_520 : decode cL_law 520 = .ok (.ireturn, 1) := by decide +kernel
theorem dL_law_521 : decode cL_law 521 = .ok (.aload_n 1, 1) := by decide +kernel
theorem dL_law_522 : decode cL_law 522 = .ok (.invokevirtual 71, 3) := by decide +kernel
theorem dL_law_525 : decode cL_law 525 = .ok (.aload_n 2, 1) := by decide +kernel
theorem dL_law_526 : decode cL_law 526 = .ok (.invokevirtual 74, 3) := by decide +kernel
theorem dL_law_529 : decode cL_law 529 = .ok (.if_icmp .eq 421, 3) := by decide +kernel
theorem dL_law_532 : decode cL_law 532 = .ok (.iconst 0, 1) := by decide +kernel
theorem dL_law_533 : decode cL_law 533 = .ok (.ireturn, 1) := by decide +kernel
theorem dL_law_534 : decode cL_law 534 = .ok (.aload_n 1, 1) := by decide +kernel
theorem dL_law_535 : decode cL_law 535 = .ok (.invokevirtual 75, 3) := by decide +kernel
theorem dL_law_538 : decode cL_law 538 = .ok (.aload_n 2, 1) := by decide +kernel
theorem dL_law_539 : decode cL_law 539 = .ok (.invokevirtual 78, 3) := by decide +kernel
theorem dL_law_542 : decode cL_law 542 = .ok (.if_icmp .eq 408, 3) := by decide +kernel
theorem dL_law_545 : decode cL_law 545 = .ok (.iconst 0, 1) := by decide +kernel
theorem dL_law_546 : decode cL_law 546 = .ok (.ireturn, 1) := by decide +kernel
theorem dL_law_547 : decode cL_law 547 = .ok (.aload_n 1, 1) := by decide +kernel
theorem dL_law_548 : decode cL_law 548 = .ok (.aload_n 0, 1) := by decide +kernel
theorem dL_law_549 : decode cL_law 549 = .ok (.iload_n 3, 1) := by decide +kernel
theorem dL_law_550 : decode cL_law 550 = .ok (.iconst 1, 1) := by decide +kernel
theorem dL_law_551 : decode cL_law 551 = .ok (.iadd, 1) := by decide +kernel
theorem dL_law_552 : decode cL_law 552 = .ok (.iaload, 1) := by decide +kernel
theorem dL_law_553 : decode cL_law 553 = .ok (.aload_n 0, 1) := by decide +kernel
theorem dL_law_554 : decode cL_law 554 = .ok (.iload_n 3, 1) := by decide +kernel
theorem dL_law_555 : decode cL_law 555 = .ok (.iconst 2, 1) := by decide +kernel
theorem dL_law_556 : decode cL_law 556 = .ok (.iadd, 1) := by decide +kernel
theorem dL_law_557 : decode cL_law 557 = .ok (.iaload, 1) := by decide +kernel
theorem dL_law_558 : decode cL_law 558 = .ok (.invokevirtual 79, 3) := by decide +kernel
theorem dL_law_561 : decode cL_law 561 = .ok (.aload_n 2, 1) := by decide +kernel
theorem dL_law_562 : decode cL_law 562 = .ok (.aload_n 0, 1) := by decide +kernel
theorem dL_law_563 : decode cL_law 563 = .ok (.iload_n 3, 1) := by decide +kernel
theorem dL_law_564 : decode cL_law 564 = .ok (.iconst 1, 1) := by decide +kernel
theorem dL_law_565 : decode cL_law 565 = .ok (.iadd, 1) := by decide +kernel
theorem dL_law_566 : decode cL_law 566 = .ok (.iaload, 1) := by decide +kernel
theorem dL_law_567 : decode cL_law 567 = .ok (.aload_n 0, 1) := by decide +kernel
theorem dL_law_568 : decode cL_law 568 = .ok (.iload_n 3, 1) := by decide +kernel
theorem dL_law_569 : decode cL_law 569 = .ok (.iconst 2, 1) := by decide +kernel
theorem dL_law_570 : decode cL_law 570 = .ok (.iadd, 1) := by decide +kernel
theorem dL_law_571 : decode cL_law 571 = .ok (.iaload, 1) := by decide +kernel
theorem dL_law_572 : decode cL_law 572 = .ok (.invokevirtual 82, 3) := by decide +kernel
theorem dL_law_575 : decode cL_law 575 = .ok (.if_icmp .eq 375, 3) := by decide +kernel
theorem dL_law_578 : decode cL_law 578 = .ok (.iconst 0, 1) := by decide +kernel
theorem dL_law_579 : decode cL_law 579 = .ok (.ireturn, 1) := by decide +kernel
theorem dL_law_580 : decode cL_law 580 = .ok (.aload_n 1, 1) := by decide +kernel
theorem dL_law_581 : decode cL_law 581 = .ok (.aload_n 0, 1) := by decide +kernel
theorem dL_law_582 : decode cL_law 582 = .ok (.iload_n 3, 1) := by decide +kernel
theorem dL_law_583 : decode cL_law 583 = .ok (.iconst 1, 1) := by decide +kernel
theorem dL_law_584 : decode cL_law 584 = .ok (.iadd, 1) := by decide +kernel
theorem dL_law_585 : decode cL_law 585 = .ok (.iaload, 1) := by decide +kernel
theorem dL_law_586 : decode cL_law 586 = .ok (.aload_n 0, 1) := by decide +kernel
theorem dL_law_587 : decode cL_law 587 = .ok (.iload_n 3, 1) := by decide +kernel
theorem dL_law_588 : decode cL_law 588 = .ok (.iconst 2, 1) := by decide +kernel
theorem dL_law_589 : decode cL_law 589 = .ok (.iadd, 1) := by decide +kernel
theorem dL_law_590 : decode cL_law 590 = .ok (.iaload, 1) := by decide +kernel
theorem dL_law_591 : decode cL_law 591 = .ok (.invokevirtual 83, 3) := by decide +kernel
theorem dL_law_594 : decode cL_law 594 = .ok (.aload_n 2, 1) := by decide +kernel
theorem dL_law_595 : decode cL_law 595 = .ok (.aload_n 0, 1) := by decide +kernel
theorem dL_law_596 : decode cL_law 596 = .ok (.iload_n 3, 1) := by decide +kernel
theorem dL_law_597 : decode cL_law 597 = .ok (.iconst 1, 1) := by decide +kernel
theorem dL_law_598 : decode cL_law 598 = .ok (.iadd, 1) := by decide +kernel
theorem dL_law_599 : decode cL_law 599 = .ok (.iaload, 1) := by decide +kernel
theorem dL_law_600 : decode cL_law 600 = .ok (.aload_n 0, 1) := by decide +kernel
theorem dL_law_601 : decode cL_law 601 = .ok (.iload_n 3, 1) := by decide +kernel
theorem dL_law_602 : decode cL_law 602 = .ok (.iconst 2, 1) := by decide +kernel
theorem dL_law_603 : decode cL_law 603 = .ok (.iadd, 1) := by decide +kernel
theorem dL_law_604 : decode cL_law 604 = .ok (.iaload, 1) := by decide +kernel
theorem dL_law_605 : decode cL_law 605 = .ok (.invokevirtual 86, 3) := by decide +kernel
theorem dL_law_608 : decode cL_law 608 = .ok (.if_icmp .eq 342, 3) := by decide +kernel
theorem dL_law_611 : decode cL_law 611 = .ok (.iconst 0, 1) := by decide +kernel
theorem dL_law_612 : decode cL_law 612 = .ok (.ireturn, 1) := by decide +kernel
theorem dL_law_613 : decode cL_law 613 = .ok (.aload_n 1, 1) := by decide +kernel
theorem dL_law_614 : decode cL_law 614 = .ok (.aload_n 0, 1) := by decide +kernel
theorem dL_law_615 : decode cL_law 615 = .ok (.iload_n 3, 1) := by decide +kernel
theorem dL_law_616 : decode cL_law 616 = .ok (.iconst 1, 1) := by decide +kernel
theorem dL_law_617 : decode cL_law 617 = .ok (.iadd, 1) := by decide +kernel
theorem dL_law_618 : decode cL_law 618 = .ok (.iaload, 1) := by decide +kernel
theorem dL_law_619 : decode cL_law 619 = .ok (.aload_n 0, 1) := by decide +kernel
theorem dL_law_620 : decode cL_law 620 = .ok (.iload_n 3, 1) := by decide +kernel
theorem dL_law_621 : decode cL_law 621 = .ok (.iconst 2, 1) := by decide +kernel
theorem dL_law_622 : decode cL_law 622 = .ok (.iadd, 1) := by decide +kernel
theorem dL_law_623 : decode cL_law 623 = .ok (.iaload, 1) := by decide +kernel
theorem dL_law_624 : decode cL_law 624 = .ok (.invokevirtual 87, 3) := by decide +kernel
theorem dL_law_627 : decode cL_law 627 = .ok (.f2d, 1) := by decide +kernel
theorem dL_law_628 : decode cL_law 628 = .ok (.dstore 4, 2) := by decide +kernel
theorem dL_law_630 : decode cL_law 630 = .ok (.aload_n 2, 1) := by decide +kernel
theorem dL_law_631 : decode cL_law 631 = .ok (.aload_n 0, 1) := by decide +kernel
theorem dL_law_632 : decode cL_law 632 = .ok (.iload_n 3, 1) := by decide +kernel
theorem dL_law_633 : decode cL_law 633 = .ok (.iconst 1, 1) := by decide +kernel
theorem dL_law_634 : decode cL_law 634 = .ok (.iadd, 1) := by decide +kernel
theorem dL_law_635 : decode cL_law 635 = .ok (.iaload, 1) := by decide +kernel
theorem dL_law_636 : decode cL_law 636 = .ok (.aload_n 0, 1) := by decide +kernel
theorem dL_law_637 : decode cL_law 637 = .ok (.iload_n 3, 1) := by decide +kernel
theorem dL_law_638 : decode cL_law 638 = .ok (.iconst 2, 1) := by decide +kernel
theorem dL_law_639 : decode cL_law 639 = .ok (.iadd, 1) := by decide +kernel
theorem dL_law_640 : decode cL_law 640 = .ok (.iaload, 1) := by decide +kernel
theorem dL_law_641 : decode cL_law 641 = .ok (.invokevirtual 91, 3) := by decide +kernel
theorem dL_law_644 : decode cL_law 644 = .ok (.f2d, 1) := by decide +kernel
theorem dL_law_645 : decode cL_law 645 = .ok (.dstore 6, 2) := by decide +kernel
theorem dL_law_647 : decode cL_law 647 = .ok (.dload 4, 2) := by decide +kernel
theorem dL_law_649 : decode cL_law 649 = .ok (.dload 6, 2) := by decide +kernel
theorem dL_law_651 : decode cL_law 651 = .ok (.dcmp .l, 1) := by decide +kernel
theorem dL_law_652 : decode cL_law 652 = .ok (.ifCond .eq 21, 3) := by decide +kernel
theorem dL_law_655 : decode cL_law 655 = .ok (.dload 4, 2) := by decide +kernel
theorem dL_law_657 : decode cL_law 657 = .ok (.dload 4, 2) := by decide +kernel
theorem dL_law_659 : decode cL_law 659 = .ok (.dcmp .l, 1) := by decide +kernel
theorem dL_law_660 : decode cL_law 660 = .ok (.ifCond .eq 11, 3) := by decide +kernel
theorem dL_law_663 : decode cL_law 663 = .ok (.dload 6, 2) := by decide +kernel
theorem dL_law_665 : decode cL_law 665 = .ok (.dload 6, 2) := by decide +kernel
theorem dL_law_667 : decode cL_law 667 = .ok (.dcmp .l, 1) := by decide +kernel
theorem dL_law_668 : decode cL_law 668 = .ok (.ifCond .ne 5, 3) := by decide +kernel
theorem dL_law_671 : decode cL_law 671 = .ok (.iconst 0, 1) := by decide +kernel
theorem dL_law_672 : decode cL_law 672 = .ok (.ireturn, 1) := by decide +kernel
theorem dL_law_673 : decode cL_law 673 = .ok (.goto 277, 3) := by decide +kernel
theorem dL_law_676 : decode cL_law 676 = .ok (.aload_n 1, 1) := by decide +kernel
theorem dL_law_677 : decode cL_law 677 = .ok (.aload_n 0, 1) := by decide +kernel
theorem dL_law_678 : decode cL_law 678 = .ok (.iload_n 3, 1) := by decide +kernel
theorem dL_law_679 : decode cL_law 679 = .ok (.iconst 1, 1) := by decide +kernel
theorem dL_law_680 : decode cL_law 680 = .ok (.iadd, 1) := by decide +kernel
theorem dL_law_681 : decode cL_law 681 = .ok (.iaload, 1) := by decide +kernel
theorem dL_law_682 : decode cL_law 682 = .ok (.aload_n 0, 1) := by decide +kernel
theorem dL_law_683 : decode cL_law 683 = .ok (.iload_n 3, 1) := by decide +kernel
theorem dL_law_684 : decode cL_law 684 = .ok (.iconst 2, 1) := by decide +kernel
theorem dL_law_685 : decode cL_law 685 = .ok (.iadd, 1) := by decide +kernel
theorem dL_law_686 : decode cL_law 686 = .ok (.iaload, 1) := by decide +kernel
theorem dL_law_687 : decode cL_law 687 = .ok (.invokevirtual 92, 3) := by decide +kernel
theorem dL_law_690 : decode cL_law 690 = .ok (.aload_n 2, 1) := by decide +kernel
theorem dL_law_691 : decode cL_law 691 = .ok (.aload_n 0, 1) := by decide +kernel
theorem dL_law_692 : decode cL_law 692 = .ok (.iload_n 3, 1) := by decide +kernel
theorem dL_law_693 : decode cL_law 693 = .ok (.iconst 1, 1) := by decide +kernel
theorem dL_law_694 : decode cL_law 694 = .ok (.iadd, 1) := by decide +kernel
theorem dL_law_695 : decode cL_law 695 = .ok (.iaload, 1) := by decide +kernel
theorem dL_law_696 : decode cL_law 696 = .ok (.aload_n 0, 1) := by decide +kernel
theorem dL_law_697 : decode cL_law 697 = .ok (.iload_n 3, 1) := by decide +kernel
theorem dL_law_698 : decode cL_law 698 = .ok (.iconst 2, 1) := by decide +kernel
theorem dL_law_699 : decode cL_law 699 = .ok (.iadd, 1) := by decide +kernel
theorem dL_law_700 : decode cL_law 700 = .ok (.iaload, 1) := by decide +kernel
theorem dL_law_701 : decode cL_law 701 = .ok (.invokevirtual 95, 3) := by decide +kernel
theorem dL_law_704 : decode cL_law 704 = .ok (.if_icmp .eq 246, 3) := by decide +kernel
theorem dL_law_707 : decode cL_law 707 = .ok (.iconst 0, 1) := by decide +kernel
theorem dL_law_708 : decode cL_law 708 = .ok (.ireturn, 1) := by decide +kernel
theorem dL_law_709 : decode cL_law 709 = .ok (.aload_n 1, 1) := by decide +kernel
theorem dL_law_710 : decode cL_law 710 = .ok (.aload_n 0, 1) := by decide +kernel
theorem dL_law_711 : decode cL_law 711 = .ok (.iload_n 3, 1) := by decide +kernel
theorem dL_law_712 : decode cL_law 712 = .ok (.iconst 1, 1) := by decide +kernel
theorem dL_law_713 : decode cL_law 713 = .ok (.iadd, 1) := by decide +kernel
theorem dL_law_714 : decode cL_law 714 = .ok (.iaload, 1) := by decide +kernel
theorem dL_law_715 : decode cL_law 715 = .ok (.aload_n 0, 1) := by decide +kernel
theorem dL_law_716 : decode cL_law 716 = .ok (.iload_n 3, 1) := by decide +kernel
theorem dL_law_717 : decode cL_law 717 = .ok (.iconst 2, 1) := by decide +kernel
theorem dL_law_718 : decode cL_law 718 = .ok (.iadd, 1) := by decide +kernel
theorem dL_law_719 : decode cL_law 719 = .ok (.iaload, 1) := by decide +kernel
theorem dL_law_720 : decode cL_law 720 = .ok (.invokevirtual 96, 3) := by decide +kernel
theorem dL_law_723 : decode cL_law 723 = .ok (.aload_n 2, 1) := by decide +kernel
theorem dL_law_724 : decode cL_law 724 = .ok (.aload_n 0, 1) := by decide +kernel
theorem dL_law_725 : decode cL_law 725 = .ok (.iload_n 3, 1) := by decide +kernel
theorem dL_law_726 : decode cL_law 726 = .ok (.iconst 1, 1) := by decide +kernel
theorem dL_law_727 : decode cL_law 727 = .ok (.iadd, 1) := by decide +kernel
theorem dL_law_728 : decode cL_law 728 = .ok (.iaload, 1) := by decide +kernel
theorem dL_law_729 : decode cL_law 729 = .ok (.aload_n 0, 1) := by decide +kernel
theorem dL_law_730 : decode cL_law 730 = .ok (.iload_n 3, 1) := by decide +kernel
theorem dL_law_731 : decode cL_law 731 = .ok (.iconst 2, 1) := by decide +kernel
theorem dL_law_732 : decode cL_law 732 = .ok (.iadd, 1) := by decide +kernel
theorem dL_law_733 : decode cL_law 733 = .ok (.iaload, 1) := by decide +kernel
theorem dL_law_734 : decode cL_law 734 = .ok (.invokevirtual 99, 3) := by decide +kernel
theorem dL_law_737 : decode cL_law 737 = .ok (.if_icmp .eq 213, 3) := by decide +kernel
theorem dL_law_740 : decode cL_law 740 = .ok (.iconst 0, 1) := by decide +kernel
theorem dL_law_741 : decode cL_law 741 = .ok (.ireturn, 1) := by decide +kernel
theorem dL_law_742 : decode cL_law 742 = .ok (.aload_n 1, 1) := by decide +kernel
theorem dL_law_743 : decode cL_law 743 = .ok (.aload_n 0, 1) := by decide +kernel
theorem dL_law_744 : decode cL_law 744 = .ok (.iload_n 3, 1) := by decide +kernel
theorem dL_law_745 : decode cL_law 745 = .ok (.iconst 1, 1) := by decide +kernel
theorem dL_law_746 : decode cL_law 746 = .ok (.iadd, 1) := by decide +kernel
theorem dL_law_747 : decode cL_law 747 = .ok (.iaload, 1) := by decide +kernel
theorem dL_law_748 : decode cL_law 748 = .ok (.aload_n 0, 1) := by decide +kernel
theorem dL_law_749 : decode cL_law 749 = .ok (.iload_n 3, 1) := by decide +kernel
theorem dL_law_750 : decode cL_law 750 = .ok (.iconst 2, 1) := by decide +kernel
theorem dL_law_751 : decode cL_law 751 = .ok (.iadd, 1) := by decide +kernel
theorem dL_law_752 : decode cL_law 752 = .ok (.iaload, 1) := by decide +kernel
theorem dL_law_753 : decode cL_law 753 = .ok (.invokevirtual 100, 3) := by decide +kernel
theorem dL_law_756 : decode cL_law 756 = .ok (.aload_n 2, 1) := by decide +kernel
theorem dL_law_757 : decode cL_law 757 = .ok (.aload_n 0, 1) := by decide +kernel
theorem dL_law_758 : decode cL_law 758 = .ok (.iload_n 3, 1) := by decide +kernel
theorem dL_law_759 : decode cL_law 759 = .ok (.iconst 1, 1) := by decide +kernel
theorem dL_law_760 : decode cL_law 760 = .ok (.iadd, 1) := by decide +kernel
theorem dL_law_761 : decode cL_law 761 = .ok (.iaload, 1) := by decide +kernel
theorem dL_law_762 : decode cL_law 762 = .ok (.aload_n 0, 1) := by decide +kernel
theorem dL_law_763 : decode cL_law 763 = .ok (.iload_n 3, 1) := by decide +kernel
theorem dL_law_764 : decode cL_law 764 = .ok (.iconst 2, 1) := by decide +kernel
theorem dL_law_765 : decode cL_law 765 = .ok (.iadd, 1) := by decide +kernel
theorem dL_law_766 : decode cL_law 766 = .ok (.iaload, 1) := by decide +kernel
theorem dL_law_767 : decode cL_law 767 = .ok (.invokevirtual 103, 3) := by decide +kernel
theorem dL_law_770 : decode cL_law 770 = .ok (.if_icmp .eq 180, 3) := by decide +kernel
theorem dL_law_773 : decode cL_law 773 = .ok (.iconst 0, 1) := by decide +kernel
theorem dL_law_774 : decode cL_law 774 = .ok (.ireturn, 1) := by decide +kernel
theorem dL_law_775 : decode cL_law 775 = .ok (.aload_n 1, 1) := by decide +kernel
theorem dL_law_776 : decode cL_law 776 = .ok (.aload_n 0, 1) := by decide +kernel
theorem dL_law_777 : decode cL_law 777 = .ok (.iload_n 3, 1) := by decide +kernel
theorem dL_law_778 : decode cL_law 778 = .ok (.iconst 1, 1) := by decide +kernel
theorem dL_law_779 : decode cL_law 779 = .ok (.iadd, 1) := by decide +kernel
theorem dL_law_780 : decode cL_law 780 = .ok (.iaload, 1) := by decide +kernel
theorem dL_law_781 : decode cL_law 781 = .ok (.aload_n 0, 1) := by decide +kernel
theorem dL_law_782 : decode cL_law 782 = .ok (.iload_n 3, 1) := by decide +kernel
theorem dL_law_783 : decode cL_law 783 = .ok (.iconst 2, 1) := by decide +kernel
theorem dL_law_784 : decode cL_law 784 = .ok (.iadd, 1) := by decide +kernel
theorem dL_law_785 : decode cL_law 785 = .ok (.iaload, 1) := by decide +kernel
theorem dL_law_786 : decode cL_law 786 = .ok (.invokevirtual 104, 3) := by decide +kernel
theorem dL_law_789 : decode cL_law 789 = .ok (.aload_n 2, 1) := by decide +kernel
theorem dL_law_790 : decode cL_law 790 = .ok (.aload_n 0, 1) := by decide +kernel
theorem dL_law_791 : decode cL_law 791 = .ok (.iload_n 3, 1) := by decide +kernel
theorem dL_law_792 : decode cL_law 792 = .ok (.iconst 1, 1) := by decide +kernel
theorem dL_law_793 : decode cL_law 793 = .ok (.iadd, 1) := by decide +kernel
theorem dL_law_794 : decode cL_law 794 = .ok (.iaload, 1) := by decide +kernel
theorem dL_law_795 : decode cL_law 795 = .ok (.aload_n 0, 1) := by decide +kernel
theorem dL_law_796 : decode cL_law 796 = .ok (.iload_n 3, 1) := by decide +kernel
theorem dL_law_797 : decode cL_law 797 = .ok (.iconst 2, 1) := by decide +kernel
theorem dL_law_798 : decode cL_law 798 = .ok (.iadd, 1) := by decide +kernel
theorem dL_law_799 : decode cL_law 799 = .ok (.iaload, 1) := by decide +kernel
theorem dL_law_800 : decode cL_law 800 = .ok (.invokevirtual 107, 3) := by decide +kernel
theorem dL_law_803 : decode cL_law 803 = .ok (.if_icmp .eq 147, 3) := by decide +kernel
theorem dL_law_806 : decode cL_law 806 = .ok (.iconst 0, 1) := by decide +kernel
theorem dL_law_807 : decode cL_law 807 = .ok (.ireturn, 1) := by decide +kernel
theorem dL_law_808 : decode cL_law 808 = .ok (.aload_n 1, 1) := by decide +kernel
theorem dL_law_809 : decode cL_law 809 = .ok (.aload_n 0, 1) := by decide +kernel
theorem dL_law_810 : decode cL_law 810 = .ok (.iload_n 3, 1) := by decide +kernel
theorem dL_law_811 : decode cL_law 811 = .ok (.iconst 1, 1) := by decide +kernel
theorem dL_law_812 : decode cL_law 812 = .ok (.iadd, 1) := by decide +kernel
theorem dL_law_813 : decode cL_law 813 = .ok (.iaload, 1) := by decide +kernel
theorem dL_law_814 : decode cL_law 814 = .ok (.aload_n 0, 1) := by decide +kernel
theorem dL_law_815 : decode cL_law 815 = .ok (.iload_n 3, 1) := by decide +kernel
theorem dL_law_816 : decode cL_law 816 = .ok (.iconst 2, 1) := by decide +kernel
theorem dL_law_817 : decode cL_law 817 = .ok (.iadd, 1) := by decide +kernel
theorem dL_law_818 : decode cL_law 818 = .ok (.iaload, 1) := by decide +kernel
theorem dL_law_819 : decode cL_law 819 = .ok (.aload_n 0, 1) := by decide +kernel
theorem dL_law_820 : decode cL_law 820 = .ok (.iload_n 3, 1) := by decide +kernel
theorem dL_law_821 : decode cL_law 821 = .ok (.iconst 3, 1) := by decide +kernel
theorem dL_law_822 : decode cL_law 822 = .ok (.iadd, 1) := by decide +kernel
theorem dL_law_823 : decode cL_law 823 = .ok (.iaload, 1) := by decide +kernel
theorem dL_law_824 : decode cL_law 824 = .ok (.invokevirtual 108, 3) := by decide +kernel
theorem dL_law_827 : decode cL_law 827 = .ok (.f2d, 1) := by decide +kernel
theorem dL_law_828 : decode cL_law 828 = .ok (.dstore 4, 2) := by decide +kernel
theorem dL_law_830 : decode cL_law 830 = .ok (.aload_n 2, 1) := by decide +kernel
theorem dL_law_831 : decode cL_law 831 = .ok (.aload_n 0, 1) := by decide +kernel
theorem dL_law_832 : decode cL_law 832 = .ok (.iload_n 3, 1) := by decide +kernel
theorem dL_law_833 : decode cL_law 833 = .ok (.iconst 1, 1) := by decide +kernel
theorem dL_law_834 : decode cL_law 834 = .ok (.iadd, 1) := by decide +kernel
theorem dL_law_835 : decode cL_law 835 = .ok (.iaload, 1) := by decide +kernel
theorem dL_law_836 : decode cL_law 836 = .ok (.aload_n 0, 1) := by decide +kernel
theorem dL_law_837 : decode cL_law 837 = .ok (.iload_n 3, 1) := by decide +kernel
theorem dL_law_838 : decode cL_law 838 = .ok (.iconst 2, 1) := by decide +kernel
theorem dL_law_839 : decode cL_law 839 = .ok (.iadd, 1) := by decide +kernel
theorem dL_law_840 : decode cL_law 840 = .ok (.iaload, 1) := by decide +kernel
theorem dL_law_841 : decode cL_law 841 = .ok (.aload_n 0, 1) := by decide +kernel
theorem dL_law_842 : decode cL_law 842 = .ok (.iload_n 3, 1) := by decide +kernel
theorem dL_law_843 : decode cL_law 843 = .ok (.iconst 3, 1) := by decide +kernel
theorem dL_law_844 : decode cL_law 844 = .ok (.iadd, 1) := by decide +kernel
theorem dL_law_845 : decode cL_law 845 = .ok (.iaload, 1) := by decide +kernel
theorem dL_law_846 : decode cL_law 846 = .ok (.invokevirtual 112, 3) := by decide +kernel
theorem dL_law_849 : decode cL_law 849 = .ok (.f2d, 1) := by decide +kernel
theorem dL_law_850 : decode cL_law 850 = .ok (.dstore 6, 2) := by decide +kernel
theorem dL_law_852 : decode cL_law 852 = .ok (.dload 4, 2) := by decide +kernel
theorem dL_law_854 : decode cL_law 854 = .ok (.dload 6, 2) := by decide +kernel
theorem dL_law_856 : decode cL_law 856 = .ok (.dcmp .l, 1) := by decide +kernel
theorem dL_law_857 : decode cL_law 857 = .ok (.ifCond .eq 21, 3) := by decide +kernel
theorem dL_law_860 : decode cL_law 860 = .ok (.dload 4, 2) := by decide +kernel
theorem dL_law_862 : decode cL_law 862 = .ok (.dload 4, 2) := by decide +kernel
theorem dL_law_864 : decode cL_law 864 = .ok (.dcmp .l, 1) := by decide +kernel
theorem dL_law_865 : decode cL_law 865 = .ok (.ifCond .eq 11, 3) := by decide +kernel
theorem dL_law_868 : decode cL_law 868 = .ok (.dload 6, 2) := by decide +kernel
theorem dL_law_870 : decode cL_law 870 = .ok (.dload 6, 2) := by decide +kernel
theorem dL_law_872 : decode cL_law 872 = .ok (.dcmp .l, 1) := by decide +kernel
theorem dL_law_873 : decode cL_law 873 = .ok (.ifCond .ne 5, 3) := by decide +kernel
theorem dL_law_876 : decode cL_law 876 = .ok (.iconst 0, 1) := by decide +kernel
theorem dL_law_877 : decode cL_law 877 = .ok (.ireturn, 1) := by decide +kernel
theorem dL_law_878 : decode cL_law 878 = .ok (.goto 72, 3) := by decide +kernel
theorem dL_law_881 : decode cL_law 881 = .ok (.aload_n 1, 1) := by decide +kernel
theorem dL_law_882 : decode cL_law 882 = .ok (.aload_n 0, 1) := by decide +kernel
theorem dL_law_883 : decode cL_law 883 = .ok (.iload_n 3, 1) := by decide +kernel
theorem dL_law_884 : decode cL_law 884 = .ok (.iconst 1, 1) := by decide +kernel
theorem dL_law_885 : decode cL_law 885 = .ok (.iadd, 1) := by decide +kernel
theorem dL_law_886 : decode cL_law 886 = .ok (.iaload, 1) := by decide +kernel
theorem dL_law_887 : decode cL_law 887 = .ok (.invokevirtual 113, 3) := by decide +kernel
theorem dL_law_890 : decode cL_law 890 = .ok (.aload_n 2, 1) := by decide +kernel
theorem dL_law_891 : decode cL_law 891 = .ok (.aload_n 0, 1) := by decide +kernel
theorem dL_law_892 : decode cL_law 892 = .ok (.iload_n 3, 1) := by decide +kernel
theorem dL_law_893 : decode cL_law 893 = .ok (.iconst 1, 1) := by decide +kernel
theorem dL_law_894 : decode cL_law 894 = .ok (.iadd, 1) := by decide +kernel
theorem dL_law_895 : decode cL_law 895 = .ok (.iaload, 1) := by decide +kernel
theorem dL_law_896 : decode cL_law 896 = .ok (.invokevirtual 116, 3) := by decide +kernel
theorem dL_law_899 : decode cL_law 899 = .ok (.if_icmp .eq 51, 3) := by decide +kernel
theorem dL_law_902 : decode cL_law 902 = .ok (.iconst 0, 1) := by decide +kernel
theorem dL_law_903 : decode cL_law 903 = .ok (.ireturn, 1) := by decide +kernel
theorem dL_law_904 : decode cL_law 904 = .ok (.aload_n 1, 1) := by decide +kernel
theorem dL_law_905 : decode cL_law 905 = .ok (.aload_n 0, 1) := by decide +kernel
theorem dL_law_906 : decode cL_law 906 = .ok (.iload_n 3, 1) := by decide +kernel
theorem dL_law_907 : decode cL_law 907 = .ok (.iconst 1, 1) := by decide +kernel
theorem dL_law_908 : decode cL_law 908 = .ok (.iadd, 1) := by decide +kernel
theorem dL_law_909 : decode cL_law 909 = .ok (.iaload, 1) := by decide +kernel
theorem dL_law_910 : decode cL_law 910 = .ok (.invokevirtual 117, 3) := by decide +kernel
theorem dL_law_913 : decode cL_law 913 = .ok (.aload_n 2, 1) := by decide +kernel
theorem dL_law_914 : decode cL_law 914 = .ok (.aload_n 0, 1) := by decide +kernel
theorem dL_law_915 : decode cL_law 915 = .ok (.iload_n 3, 1) := by decide +kernel
theorem dL_law_916 : decode cL_law 916 = .ok (.iconst 1, 1) := by decide +kernel
theorem dL_law_917 : decode cL_law 917 = .ok (.iadd, 1) := by decide +kernel
theorem dL_law_918 : decode cL_law 918 = .ok (.iaload, 1) := by decide +kernel
theorem dL_law_919 : decode cL_law 919 = .ok (.invokevirtual 120, 3) := by decide +kernel
theorem dL_law_922 : decode cL_law 922 = .ok (.if_icmp .eq 28, 3) := by decide +kernel
theorem dL_law_925 : decode cL_law 925 = .ok (.iconst 0, 1) := by decide +kernel
theorem dL_law_926 : decode cL_law 926 = .ok (.ireturn, 1) := by decide +kernel
theorem dL_law_927 : decode cL_law 927 = .ok (.aload_n 1, 1) := by decide +kernel
theorem dL_law_928 : decode cL_law 928 = .ok (.aload_n 0, 1) := by decide +kernel
theorem dL_law_929 : decode cL_law 929 = .ok (.iload_n 3, 1) := by decide +kernel
theorem dL_law_930 : decode cL_law 930 = .ok (.iconst 1, 1) := by decide +kernel
theorem dL_law_931 : decode cL_law 931 = .ok (.iadd, 1) := by decide +kernel
theorem dL_law_932 : decode cL_law 932 = .ok (.iaload, 1) := by decide +kernel
theorem dL_law_933 : decode cL_law 933 = .ok (.invokevirtual 121, 3) := by decide +kernel
theorem dL_law_936 : decode cL_law 936 = .ok (.aload_n 2, 1) := by decide +kernel
theorem dL_law_937 : decode cL_law 937 = .ok (.aload_n 0, 1) := by decide +kernel
theorem dL_law_938 : decode cL_law 938 = .ok (.iload_n 3, 1) := by decide +kernel
theorem dL_law_939 : decode cL_law 939 = .ok (.iconst 1, 1) := by decide +kernel
theorem dL_law_940 : decode cL_law 940 = .ok (.iadd, 1) := by decide +kernel
theorem dL_law_941 : decode cL_law 941 = .ok (.iaload, 1) := by decide +kernel
theorem dL_law_942 : decode cL_law 942 = .ok (.invokevirtual 124, 3) := by decide +kernel
theorem dL_law_945 : decode cL_law 945 = .ok (.if_icmp .eq 5, 3) := by decide +kernel
theorem dL_law_948 : decode cL_law 948 = .ok (.iconst 0, 1) := by decide +kernel
theorem dL_law_949 : decode cL_law 949 = .ok (.ireturn, 1) := by decide +kernel
theorem dL_law_950 : decode cL_law 950 = .ok (.iinc 3 4, 3) := by decide +kernel
theorem dL_law_953 : decode cL_law 953 = .ok (.goto (-935), 3) := by decide +kernel
theorem dL_law_956 : decode cL_law 956 = .ok (.iconst 1, 1) := by decide +kernel
theorem dL_law_957 : decode cL_law 957 = .ok (.ireturn, 1) := by decide +kernel
end
section
/-! THE CORE: the heap of the claim as a flat picture: 245 cells at fixed places (0: the class's object .. 234; 235: the reference .. 244); Mem: the ints and the floats that they hold; what a method does to a Mem is a function f_..; OX o pc L st M: 'from here the machine ends as o says' -/
abbrev Mem : Type := (Nat → Nat → Int32) × (Nat → Nat → UInt32)
abbrev bkG : Type := Nat × va_G × ClassId × ClassId × ClassId × Nat
def kdS : List Nat := [4, 0, 20, 20, 20, 20, 20, 20, 20, 20, 20, 6, 20, 6, 20, 5, 20, 20, 20, 20, 20, 20, 20, 5, 20, 20, 20, 20, 20, 20, 20, 3, 20]
def lnS : List Nat := [0, 0, 48, 48, 48, 48, 48, 6, 6, 6, 2, 0, 24, 0, 24, 0, 20, 20, 20, 20, 20, 20, 20, 0, 20, 20, 20, 20, 20, 20, 20, 0, 3]
def kdL : List Nat := 7 :: (kdS ++ (kdS ++ (kdS ++ (1 :: (kdS ++ (kdS ++ (kdS ++ (kdS ++ [2, 22, 8, 20, 20, 20, 20, 21, 21, 21, 21, 22]))))))))
def lnL : List Nat := 0 :: (lnS ++ (lnS ++ (lnS ++ (0 :: (lnS ++ (lnS ++ (lnS ++ (lnS ++ [0, 60, 0, 592, 2368, 592, 592, 7, 28, 7, 7, 60]))))))))
def kd (k : Nat) : Nat := kdL.getD k 99
def ln (k : Nat) : Nat := lnL.getD k 0
theorem kdL_len : kdL.length = 245 := by decide +kernel
theorem kd_lt {k : Nat} (h : kd k < 99) : k < 245 := by
  rcases Nat.lt_or_ge k 245 with q | q
  · exact q
  · have e : kd k = 99 := by
      unfold kd
      rw [List.getD_eq_getElem?_getD, List.getElem?_eq_none (by rw [kdL_len]; exact q)]
      rfl
    omega
/-- what is true of all places below 245 of a kind is true of all of that kind -/
theorem kd_all {P : Nat → Prop} [DecidablePred P] {c : Nat} (hc : c < 99) (h : (List.range 245).all (fun k => decide (kd k = c → P k)) = true) : ∀ k, kd k = c → P k := by
  intro k hk
  have hl : k < 245 := kd_lt (by omega)
  have h1 := List.all_eq_true.mp h k (List.mem_range.mpr hl)
  exact (of_decide_eq_true h1) hk
abbrev rv (G : bkG) (k : Nat) : Value := .ref (G.1 + k)
def lm : Nat → Int32 := fun j => if j = 0 then 1073741825 else if j = 1 then 1082130433 else 1065353217
def flds (G : bkG) (M : Mem) (k : Nat) : Nat → List Value := fun ci => match ci with
  | 0 => [.int (M.1 k 0), .int (M.1 k 1), rv G (k + 1), rv G (k + 2), rv G (k + 3), rv G (k + 4), rv G (k + 5), rv G (k + 6), rv G (k + 7), rv G (k + 8), rv G (k + 9)]
  | 1 => [.int (M.1 k 0), rv G (M.1 k 1).toNatClampNeg, rv G (M.1 k 2).toNatClampNeg, rv G (M.1 k 3).toNatClampNeg, rv G (M.1 k 4).toNatClampNeg]
  | 2 => [.int (M.1 k 0), rv G (k + 1)]
  | 3 => [rv G (k + 1), .float (M.2 k 1), .float (M.2 k 2), .float (M.2 k 3)]
  | 4 => [rv G (k + 1), rv G (k + 11), rv G (k + 13), rv G (k + 15), rv G (k + 23), rv G (k + 31), .int (M.1 k 6), .int (M.1 k 7), .int (M.1 k 8), .int (M.1 k 9)]
  | 5 => [.int (M.1 k 0), rv G (k + 1), rv G (k + 2), rv G (k + 3), rv G (k + 4), rv G (k + 5), rv G (k + 6), rv G (k + 7)]
  | 6 => [.float (M.2 k 0), .float (M.2 k 1), .int (M.1 k 2), .int (M.1 k 3), .int (M.1 k 4), .int (M.1 k 5), .int (M.1 k 6), rv G (k + 1)]
  | 7 => [rv G (k + 1), rv G (k + 34), rv G (k + 67), rv G (k + 100), rv G (k + 233), .int (M.1 k 5)]
  | 8 => [rv G (k + 1), rv G (k + 2), rv G (k + 3), rv G (k + 4), rv G (k + 5), rv G (k + 6), rv G (k + 7), rv G (k + 8), .int (M.1 k 8), .int (M.1 k 9), rv G (k + 9), .int (M.1 k 11), .int (M.1 k 12), .int (M.1 k 13), .int (M.1 k 14)]
  | _ => []
def cel (G : bkG) (M : Mem) (k : Nat) : va_E := if kd k = 20 then .inl (G.2.2.1, ln k, .inl (M.1 k)) else if kd k = 21 then .inl (G.2.2.2.1, ln k, .inr (.inr (.inl (M.2 k)))) else if kd k = 22 then .inl (G.2.2.2.2.1, ln k, .inl (M.1 k)) else .inr (kd k, flds G M k (kd k))
def wo (G : bkG) (M : Mem) : va_W := (List.range 245).map (fun k => (G.1 + k, cel G M k))
def tysG (G : bkG) : List (ClassId × FieldType) := [(G.2.2.1, .int), (G.2.2.2.1, .float), (G.2.2.2.2.1, .char)]
def An (G : bkG) : Nat → Prop := fun q => G.1 ≤ q
theorem wo_at {G : bkG} {M : Mem} {k : Nat} (h : k < 245) : (wo G M)[k]? = some (G.1 + k, cel G M k) := by
  unfold wo
  rw [List.getElem?_map, List.getElem?_range h]
  rfl
theorem wo_len {G : bkG} {M : Mem} : (wo G M).length = 245 := by simp [wo]
theorem wo_D (G : bkG) (M : Mem) : va_D (An G) (wo G M) := by
  have key : ∀ (k : Nat) (q : Nat × va_E), (wo G M)[k]? = some q → k < 245 ∧ q.1 = G.1 + k := by
    intro k q hk
    have hl : k < 245 := by
      have := (List.getElem?_eq_some_iff.mp hk).1
      rw [wo_len] at this
      exact this
    rw [wo_at hl] at hk
    cases hk
    exact ⟨hl, rfl⟩
  refine ⟨fun i j x y hi hj hxy => ?_, fun k q hk => ?_⟩
  · have h1 := (key i x hi).2
    have h2 := (key j y hj).2
    omega
  · have h1 := (key k q hk).2
    show G.1 ≤ q.1
    omega
theorem wo_set {G : bkG} {M M' : Mem} {k : Nat} {e : va_E} (h : k < 245) (he : cel G M' k = e) (ho : ∀ j, j ≠ k → cel G M' j = cel G M j) : (wo G M).set k (G.1 + k, e) = wo G M' := by
  apply List.ext_getElem?
  intro j
  by_cases hj : j = k
  · subst hj
    rw [List.getElem?_set_self (by rw [wo_len]; exact h), wo_at h, he]
  · rw [List.getElem?_set_ne (Ne.symm hj)]
    rcases Nat.lt_or_ge j 245 with q | q
    · rw [wo_at q, wo_at q, ho j hj]
    · rw [List.getElem?_eq_none (by rw [wo_len]; exact q), List.getElem?_eq_none (by rw [wo_len]; exact q)]
def w1 (M : Mem) (a i : Nat) (x : Int32) : Mem := (fun b => if b = a then upd (M.1 a) i x else M.1 b, M.2)
def w2 (M : Mem) (a i : Nat) (x : UInt32) : Mem := (M.1, fun b => if b = a then vf_upd (M.2 a) i x else M.2 b)
/-- a whole array anew -/
def wa (M : Mem) (a : Nat) (f : Nat → Int32) : Mem := (fun b => if b = a then f else M.1 b, M.2)
theorem w1_self {M : Mem} {a i : Nat} {x : Int32} : (w1 M a i x).1 a = upd (M.1 a) i x := by simp [w1]
theorem w2_self {M : Mem} {a i : Nat} {x : UInt32} : (w2 M a i x).2 a = vf_upd (M.2 a) i x := by simp [w2]
theorem wa_self {M : Mem} {a : Nat} {f : Nat → Int32} : (wa M a f).1 a = f := by simp [wa]
theorem flds_congr {G : bkG} {M M' : Mem} {k ci : Nat} (h1 : M'.1 k = M.1 k) (h2 : M'.2 k = M.2 k) : flds G M' k ci = flds G M k ci := by
  unfold flds
  rw [h1, h2]
theorem cel_congr {G : bkG} {M M' : Mem} {k : Nat} (h1 : M'.1 k = M.1 k) (h2 : M'.2 k = M.2 k) : cel G M' k = cel G M k := by
  unfold cel
  rw [h1, h2, flds_congr h1 h2]
theorem w1_other {G : bkG} {M : Mem} {a i : Nat} {x : Int32} : ∀ j, j ≠ a → cel G (w1 M a i x) j = cel G M j := fun j hj => cel_congr (by simp [w1, hj]) rfl
theorem w2_other {G : bkG} {M : Mem} {a i : Nat} {x : UInt32} : ∀ j, j ≠ a → cel G (w2 M a i x) j = cel G M j := fun j hj => cel_congr rfl (by simp [w2, hj])
theorem wa_other {G : bkG} {M : Mem} {a : Nat} {f : Nat → Int32} : ∀ j, j ≠ a → cel G (wa M a f) j = cel G M j := fun j hj => cel_congr (by simp [wa, hj]) rfl
theorem cel_i {G : bkG} {M : Mem} {a : Nat} (h : kd a = 20) : cel G M a = .inl (G.2.2.1, ln a, .inl (M.1 a)) := by unfold cel; rw [if_pos h]
theorem cel_f {G : bkG} {M : Mem} {a : Nat} (h : kd a = 21) : cel G M a = .inl (G.2.2.2.1, ln a, .inr (.inr (.inl (M.2 a)))) := by unfold cel; rw [if_neg (by omega), if_pos h]
theorem cel_c {G : bkG} {M : Mem} {a : Nat} (h : kd a = 22) : cel G M a = .inl (G.2.2.2.2.1, ln a, .inl (M.1 a)) := by unfold cel; rw [if_neg (by omega), if_neg (by omega), if_pos h]
theorem cel_o {G : bkG} {M : Mem} {a ci : Nat} (h : kd a = ci) (hc : ci < 20) : cel G M a = .inr (ci, flds G M a ci) := by
  subst h
  unfold cel
  rw [if_neg (by omega), if_neg (by omega), if_neg (by omega)]
theorem at_i {G : bkG} {M : Mem} {a : Nat} (h : kd a = 20) : (wo G M)[a]? = some (G.1 + a, .inl (G.2.2.1, ln a, .inl (M.1 a))) := by rw [wo_at (kd_lt (by omega)), cel_i h]
theorem at_f {G : bkG} {M : Mem} {a : Nat} (h : kd a = 21) : (wo G M)[a]? = some (G.1 + a, .inl (G.2.2.2.1, ln a, .inr (.inr (.inl (M.2 a))))) := by rw [wo_at (kd_lt (by omega)), cel_f h]
theorem at_c {G : bkG} {M : Mem} {a : Nat} (h : kd a = 22) : (wo G M)[a]? = some (G.1 + a, .inl (G.2.2.2.2.1, ln a, .inl (M.1 a))) := by rw [wo_at (kd_lt (by omega)), cel_c h]
theorem at_o {G : bkG} {M : Mem} {a ci : Nat} (h : kd a = ci) (hc : ci < 20) : (wo G M)[a]? = some (G.1 + a, .inr (ci, flds G M a ci)) := by rw [wo_at (kd_lt (by omega)), cel_o h hc]
/-- the locals by their places -/
def lh (ls : Array Slot) (nL : Nat) (L : List (Option Value)) : Prop := ls.size = nL ∧ lv_wf ls ∧ ∀ (i : Nat) (v : Value), L[i]? = some (some v) → ls[i]? = some (.val v)
def lh_l (L : List (Option Value)) : List (Nat × Value) := L.zipIdx.filterMap (fun q => q.1.map (fun v => (q.2, v)))
theorem lh_lv {ls : Array Slot} {nL : Nat} {L : List (Option Value)} (h : lh ls nL L) : lv_has ls nL (lh_l L) := by
  refine ⟨h.1, h.2.1, fun q hq => ?_⟩
  unfold lh_l at hq
  obtain ⟨x, hx, he⟩ := List.mem_filterMap.mp hq
  obtain ⟨o, i⟩ := x
  have hx2 := List.mem_zipIdx_iff_getElem?.mp hx
  cases o with
  | none => simp at he
  | some v =>
    simp at he
    subst he
    exact h.2.2 i v hx2
theorem lh_wk {ls : Array Slot} {nL : Nat} {L L2 : List (Option Value)} (h : lh ls nL L) (h2 : ∀ (i : Nat) (v : Value), L2[i]? = some (some v) → L[i]? = some (some v)) : lh ls nL L2 := ⟨h.1, h.2.1, fun i v hv => h.2.2 i v (h2 i v hv)⟩
/-- behind a store -/
theorem lh_st {ls' : Array Slot} {nL i : Nat} {v : Value} {L : List (Option Value)} (h : lv_has ls' nL ((i, v) :: (lh_l L).filter (fun q => !(q.1 == i) && !(q.1 + 1 == i && q.2.category == 2)))) (hc : ∀ (j : Nat) (w : Value), L[j]? = some (some w) → w.category = 1) (hi : i < L.length) : lh ls' nL (L.set i (some v)) := by
  refine ⟨h.1, h.2.1, fun j w hw => ?_⟩
  by_cases hj : j = i
  · subst hj
    rw [List.getElem?_set_self hi] at hw
    cases hw
    exact h.2.2 (j, v) List.mem_cons_self
  · rw [List.getElem?_set_ne (Ne.symm hj)] at hw
    refine h.2.2 (j, w) (List.mem_cons_of_mem _ (List.mem_filter.mpr ⟨List.mem_filterMap.mpr ⟨(some w, j), List.mem_zipIdx_iff_getElem?.mpr hw, rfl⟩, ?_⟩))
    have h1 := hc j w hw
    simp [hj, h1]
/-- all values that are listed are of one slot -/
def c1 : List (Option Value) → Bool
  | [] => true
  | none :: r => c1 r
  | some v :: r => (v.category == 1) && c1 r
theorem c1_spec : ∀ {L : List (Option Value)}, c1 L = true → ∀ (j : Nat) (w : Value), L[j]? = some (some w) → w.category = 1
  | [], _, j, w, h => by simp at h
  | none :: r, hc, 0, w, h => by simp at h
  | none :: r, hc, j + 1, w, h => c1_spec (L := r) (by simpa [c1] using hc) j w (by simpa using h)
  | some v :: r, hc, 0, w, h => by
    simp [c1] at hc
    simp at h
    rw [← h]
    exact hc.1
  | some v :: r, hc, j + 1, w, h => c1_spec (L := r) (by simp [c1] at hc; exact hc.2) j w (by simpa using h)
/-- fewer values listed -/
def wk : List (Option Value) → List (Option Value) → Prop
  | _, [] => True
  | [], b :: r2 => b = none ∧ wk [] r2
  | a :: r, b :: r2 => (b = none ∨ b = a) ∧ wk r r2
theorem wk_spec : ∀ {L L2 : List (Option Value)}, wk L L2 → ∀ (i : Nat) (v : Value), L2[i]? = some (some v) → L[i]? = some (some v)
  | _, [], _, i, v, h => by simp at h
  | [], b :: r2, hw, 0, v, h => by
    simp at h
    rw [hw.1] at h
    cases h
  | [], b :: r2, hw, i + 1, v, h => by
    have := wk_spec (L := []) (L2 := r2) hw.2 i v (by simpa using h)
    simp at this
  | a :: r, b :: r2, hw, 0, v, h => by
    simp at h
    rcases hw.1 with q | q
    · rw [q] at h; cases h
    · simp [← q, h]
  | a :: r, b :: r2, hw, i + 1, v, h => by
    have := wk_spec (L := r) (L2 := r2) hw.2 i v (by simpa using h)
    simpa using this
theorem lv_args_mem : ∀ (av : List Value) (k : Nat), (∀ v ∈ av, v.category = 1) → ∀ (i : Nat) (v : Value), av[i]? = some v → (k + i, v) ∈ lv_args k av
  | [], k, _, i, v, h => by simp at h
  | a :: r, k, hc, 0, v, h => by
    simp at h
    subst h
    exact List.mem_cons_self
  | a :: r, k, hc, i + 1, v, h => by
    have h1 : a.category = 1 := hc a List.mem_cons_self
    have := lv_args_mem r (k + 1) (fun w hw => hc w (List.mem_cons_of_mem _ hw)) i v (by simpa using h)
    rw [lv_args, if_neg (by omega)]
    exact List.mem_cons_of_mem _ (by rw [show k + (i + 1) = k + 1 + i by omega]; exact this)
theorem sl_len : ∀ (av : List Value), (∀ v ∈ av, v.category = 1) → (lg_sl av).length = av.length
  | [], _ => rfl
  | a :: r, hc => by
    have h1 : a.category = 1 := hc a List.mem_cons_self
    have := sl_len r (fun w hw => hc w (List.mem_cons_of_mem _ hw))
    simp only [lg_sl, List.flatMap_cons] at this ⊢
    rw [if_neg (by omega)]
    simp [this]
theorem lh_in (av : List Value) (n : Nat) (hc : ∀ v ∈ av, v.category = 1) (hn : av.length ≤ n) {L : List (Option Value)} (hL : av.map some ++ List.replicate (n - av.length) none = L) : lh ((lg_sl av ++ List.replicate (n - (lg_sl av).length) Slot.unset).toArray) n L := by
  have h := lv_entry av (n := n) (by rw [sl_len av hc]; exact hn)
  refine ⟨h.1, h.2.1, fun i v hv => ?_⟩
  subst hL
  by_cases hi : i < av.length
  · rw [List.getElem?_append_left (by simpa using hi), List.getElem?_map] at hv
    have h2 : av[i]? = some v := by
      cases hq : av[i]? with
      | none => rw [hq] at hv; cases hv
      | some w => rw [hq] at hv; simp at hv; rw [hv]
    have := lv_args_mem av 0 hc i v h2
    exact h.2.2 (i, v) (by simpa using this)
  · rw [List.getElem?_append_right (by simpa using Nat.not_lt.mp hi)] at hv
    have := List.eq_of_mem_replicate (List.mem_of_getElem? hv)
    cases this
end
section
def Wd (G : bkG) (M : Mem) (U : State) : Prop := va_P G.2.1 vwCl (wo G M) U.heap ∧ va_K G.2.1 vwCl (tysG G) U ∧ va_Z "BlanketKeys$Settings" "LEAST_TOO_MUCH" "[I" (.ref G.2.2.2.2.2) (An G) U U.heap ∧ va_T .int G.2.2.2.2.2 3 (fun j => .int (lm j)) (An G) U U.heap
def QQ (G : bkG) (v : Option Value) (M' : Mem) : Array Value → State → Outcome → State → Prop := fun _ st oc t => oc = .returned v ∧ va_P G.2.1 vwCl (wo G M') t.heap ∧ va_F (An G) st t
/-- what holds all along a body: the machine, the code, the words, the classes, the static array -/
def Cx (G : bkG) (p : Program) (s : State) (m : MethodId) (args : Array Value) (meth : Method) (c : Code) (cc : ByteArray) (nL : Nat) (own : String) (ret : Option FieldType) : Prop :=
  p.tables.exec = Jvm.exec ∧ c.code = cc ∧ c.maxLocals = nL ∧ s.vm.findClass own = some m.cls ∧ (∀ w ∈ TT, w.before args s = true) ∧ va_K G.2.1 vwCl (tysG G) s ∧
  va_Z "BlanketKeys$Settings" "LEAST_TOO_MUCH" "[I" (.ref G.2.2.2.2.2) (An G) s s.heap ∧ va_T .int G.2.2.2.2.2 3 (fun j => .int (lm j)) (An G) s s.heap ∧ meth.sig.returnType = ret ∧ meth.locks = false
def OX {β : Type} (G : bkG) (p : Program) (l : Launch) (e : Env) (R : Room) (s : State) (m : MethodId) (args : Array Value) (below : List Frame) (meth : Method) (c : Code) (nL cells slots : Nat) (Z : β → State → Prop) (o : Option β) (pc : Nat) (L : List (Option Value)) (st : List Value) (M : Mem) : Prop :=
  ∀ r, o = some r → ∀ (H : Heap) (locs : List Loc) (ls : Array Slot), lh ls nL L → va_P G.2.1 vwCl (wo G M) H → va_S (An G) s.heap H locs → W p l e R s m args below meth c H locs cells slots (Z r) (F0 m pc ls st)
/-- the end of a method whose answer is told by vl -/
abbrev Zm {α : Type} (vl : α → Option Value) (G : bkG) (below : List Frame) (args : Array Value) (s : State) : α × Mem → State → Prop := fun r => MQ below (QQ G (vl r.1) r.2) args s 0 0 (An G)
theorem mkMet {α : Type} {vl : α → Option Value} {l : Launch} {y : MethodName} {cc : ByteArray} {maxL : Nat} {ret : Option FieldType} {rm : Room} {av : List Value} {G : bkG} {M : Mem} {o : Option (α × Mem)} (hy : plainName y.cls = true) (hc : c1 (av.map some) = true) (hn : av.length ≤ maxL) (L : List (Option Value)) (hL : av.map some ++ List.replicate (maxL - av.length) none = L)
    (body : ∀ (p : Program) (e : Env) (s : State) (m : MethodId) (args : Array Value) (below : List Frame) (meth : Method) (c : Code), Cx G p s m args meth c cc maxL y.cls ret → (y.name = "<init>" → meth.name = "<init>") →
      OX G p l e rm s m args below meth c maxL 0 0 (Zm vl G below args s) o 0 L [] M) :
    ∀ r, o = some r → Met l y (Cond.code y cc maxL ret :: TT) rm (va_Pc av (Wd G M)) (QQ G (vl r.1) r.2) 0 0 (An G) := by
  intro r hr
  refine Met.ofW (cc := cc) (maxL := maxL) (ret := ret) hy rfl ?_
  intro p e s m args below meth c s₁ B hml hv
  obtain ⟨rfl, hP, hK, hZ, hT⟩ := hv
  have hts := atoms_spec (ws := Cond.code y cc maxL ret :: TT) B.pre
  have hown : s.vm.findClass y.cls = some m.cls := findClass_of_methodNamed B.named
  rw [lg_entry_eq]
  exact body p e s m av.toArray below meth c ⟨B.exec, B.bytes, hml, hown, fun w h => hts w (List.mem_cons_of_mem _ h), hK, hZ, hT, B.returns, B.notSynchronized⟩ (fun h => by rw [← h]; exact (name_of_methodNamed B.named B.method).1) r hr s.heap [] _
    (lh_in av maxL (fun v hv => by
      obtain ⟨i, hi⟩ := List.getElem?_of_mem hv
      exact c1_spec hc i v (by rw [List.getElem?_map, hi]; rfl)) hn hL) hP va_S.rf
theorem wd_blind (G : bkG) (M : Mem) (av : List Value) : FrameBlind (va_Pc av (Wd G M)) := by
  intro a U g mk h
  obtain ⟨h1, h2, h3, h4, h5⟩ := h
  exact ⟨h1, h2, va_K.moved (u := U) (U := U.calling g mk a) (Vm.Alike.refl U.vm) h3, va_Z.moved (u := U) (U := U.calling g mk a) (Vm.Alike.refl U.vm) h4, va_T.moved (u := U) (U := U.calling g mk a) (Vm.Alike.refl U.vm) h5⟩
/-! the words of the answers -/
def asr {β : Type} (b : Bool) (k : Option β) : Option β := if b = true then k else none
def bnd {γ δ : Type} (e : γ) (k : γ → δ) : δ := k e
def cal {γ β : Type} (x : Option (γ × Mem)) (k : γ → Mem → Option β) : Option β := match x with
  | none => none
  | some r => k r.1 r.2
def jn {γ β δ : Type} (K : γ → Mem → Option β) (F : (γ → Mem → Option β) → δ) : δ := F K
def lp {γ β : Type} (F : (γ → Mem → Option β) → γ → Mem → Option β) : Nat → γ → Mem → Option β
  | 0 => fun _ _ => none
  | n + 1 => F (lp F n)
def inb (i : Int32) (n : Nat) : Bool := decide (0 ≤ i.toInt ∧ i.toInt < n)
theorem inb_in {i : Int32} {n : Nat} (h : inb i n = true) : vp_in i n := vp_in_iff.mpr (of_decide_eq_true h)
def nzb (x : Int32) : Bool := decide (¬ x = 0)
def nnb (r : UInt32) : Bool := decide (r &&& 0x7fffffff ≤ 0x7f800000)
theorem nnb_n {r : UInt32} (h : nnb r = true) : vf_n32 r := by
  unfold vf_n32
  exact of_decide_eq_true h
def ngb (i : Int32) : Bool := decide (0 ≤ i.toInt)
def i2cv (x : Int32) : Int32 := (x.toUInt32 % 65536).toInt32
def ushr (x y : Int32) : Int32 := (x.toUInt32 >>> (y.toUInt32 &&& Int32.toUInt32 31)).toInt32
def remv (x y : Int32) : Int32 := x - x / y * y
def fcg (x y : UInt32) : Int32 := Op.cmpValue (FP.fcmp x y) CmpOp.g
def fcl (x y : UInt32) : Int32 := Op.cmpValue (FP.fcmp x y) CmpOp.l
theorem asr_some {β : Type} {b : Bool} {k : Option β} {r : β} (h : asr b k = some r) : b = true ∧ k = some r := by
  unfold asr at h
  split at h
  · exact ⟨by assumption, h⟩
  · cases h
theorem cal_some {γ β : Type} {x : Option (γ × Mem)} {k : γ → Mem → Option β} {r : β} (h : cal x k = some r) : ∃ v M1, x = some (v, M1) ∧ k v M1 = some r := by
  unfold cal at h
  cases x with
  | none => cases h
  | some q => exact ⟨q.1, q.2, rfl, h⟩
section ROWS
variable {β : Type} {G : bkG} {p : Program} {l : Launch} {e : Env} {R : Room} {s : State} {m : MethodId} {args : Array Value} {below : List Frame} {meth : Method} {c : Code} {nL cells slots : Nat} {Z : β → State → Prop}
variable {cc : ByteArray} {own : String} {ret : Option FieldType} {o : Option β} {pc : Nat} {L : List (Option Value)} {st : List Value} {M : Mem}
theorem x_asr {b : Bool} (kk : b = true → OX G p l e R s m args below meth c nL cells slots Z o pc L st M) : OX G p l e R s m args below meth c nL cells slots Z (asr b o) pc L st M := fun r hr => kk (asr_some hr).1 r (asr_some hr).2
theorem x_topi {x : Int32} {k : Int32 → Option β} (kk : ∀ y, OX G p l e R s m args below meth c nL cells slots Z (k y) pc L (.int y :: st) M) : OX G p l e R s m args below meth c nL cells slots Z (bnd x k) pc L (.int x :: st) M := kk x
theorem x_topf {x : UInt32} {k : UInt32 → Option β} (kk : ∀ y, OX G p l e R s m args below meth c nL cells slots Z (k y) pc L (.float y :: st) M) : OX G p l e R s m args below meth c nL cells slots Z (bnd x k) pc L (.float x :: st) M := kk x
theorem x_ite {q : Prop} {_ : Decidable q} {a b : Option β} (kt : q → OX G p l e R s m args below meth c nL cells slots Z a pc L st M) (kf : ¬ q → OX G p l e R s m args below meth c nL cells slots Z b pc L st M) : OX G p l e R s m args below meth c nL cells slots Z (if q then a else b) pc L st M := by
  by_cases h : q
  · rw [if_pos h]; exact kt h
  · rw [if_neg h]; exact kf h
theorem x_wk (L2 : List (Option Value)) (hw : wk L L2) (kk : OX G p l e R s m args below meth c nL cells slots Z o pc L2 st M) : OX G p l e R s m args below meth c nL cells slots Z o pc L st M := fun r hr H locs ls hl hP hS => kk r hr H locs ls (lh_wk hl (wk_spec hw)) hP hS
theorem x_jn {γ : Type} {K : γ → Mem → Option β} {F : (γ → Mem → Option β) → Option β} (pcJ : Nat) (P : γ → List (Option Value)) (S : γ → List Value) (hJ : ∀ b M1, OX G p l e R s m args below meth c nL cells slots Z (K b M1) pcJ (P b) (S b) M1)
    (hF : ∀ j : γ → Mem → Option β, (∀ b M1, OX G p l e R s m args below meth c nL cells slots Z (j b M1) pcJ (P b) (S b) M1) → OX G p l e R s m args below meth c nL cells slots Z (F j) pc L st M) : OX G p l e R s m args below meth c nL cells slots Z (jn K F) pc L st M := hF K hJ
theorem x_lp {γ : Type} {F : (γ → Mem → Option β) → γ → Mem → Option β} (P : γ → List (Option Value)) {n : Nat} {b : γ}
    (h : ∀ rec : γ → Mem → Option β, (∀ b M1, OX G p l e R s m args below meth c nL cells slots Z (rec b M1) pc (P b) [] M1) → ∀ b M1, OX G p l e R s m args below meth c nL cells slots Z (F rec b M1) pc (P b) [] M1) : OX G p l e R s m args below meth c nL cells slots Z (lp F n b M) pc (P b) [] M := by
  have key : ∀ (n : Nat) (b : γ) (M1 : Mem), OX G p l e R s m args below meth c nL cells slots Z (lp F n b M1) pc (P b) [] M1 := by
    intro n
    induction n with
    | zero => exact fun b M1 r hr => by cases hr
    | succ n ih => exact h _ ih
  exact key n b M
theorem x_iconst (C : Cx G p s m args meth c cc nL own ret) {n : Int} {v : Int32} {pc2 : Nat} (hdg : decode cc pc = .ok (.iconst n, 1)) (hv : Int32.ofInt n = v) (hp : pc + 1 = pc2) (kk : OX G p l e R s m args below meth c nL cells slots Z o pc2 L (.int v :: st) M) : OX G p l e R s m args below meth c nL cells slots Z o pc L st M := by
  subst hp
  exact fun r hr H locs ls hl hP hS => lv_iconst C.1 C.2.1 hdg hv (kk r hr H locs ls hl hP hS)
theorem x_bipush (C : Cx G p s m args meth c cc nL own ret) {n : Int} {v : Int32} {pc2 : Nat} (hdg : decode cc pc = .ok (.bipush n, 2)) (hv : (Int8.ofInt n).toInt32 = v) (hp : pc + 2 = pc2) (kk : OX G p l e R s m args below meth c nL cells slots Z o pc2 L (.int v :: st) M) : OX G p l e R s m args below meth c nL cells slots Z o pc L st M := by
  subst hp
  exact fun r hr H locs ls hl hP hS => lv_bipush C.1 C.2.1 hdg hv (kk r hr H locs ls hl hP hS)
theorem x_sipush (C : Cx G p s m args meth c cc nL own ret) {n : Int} {v : Int32} {pc2 : Nat} (hdg : decode cc pc = .ok (.sipush n, 3)) (hv : (Int16.ofInt n).toInt32 = v) (hp : pc + 3 = pc2) (kk : OX G p l e R s m args below meth c nL cells slots Z o pc2 L (.int v :: st) M) : OX G p l e R s m args below meth c nL cells slots Z o pc L st M := by
  subst hp
  exact fun r hr H locs ls hl hP hS => lv_sipush C.1 C.2.1 hdg hv (kk r hr H locs ls hl hP hS)
theorem x_ldc (C : Cx G p s m args meth c cc nL own ret) {ix : Nat} {v : Int32} {pc2 : Nat} (hw : Cond.constant own ix v ∈ TT) (hdg : decode cc pc = .ok (.ldc ix, 2)) (hp : pc + 2 = pc2) (kk : OX G p l e R s m args below meth c nL cells slots Z o pc2 L (.int v :: st) M) : OX G p l e R s m args below meth c nL cells slots Z o pc L st M := by
  subst hp
  exact fun r hr H locs ls hl hP hS => lv_ldc C.1 C.2.1 C.2.2.2.1 (C.2.2.2.2.1 _ hw) hdg (kk r hr H locs ls hl hP hS)
theorem x_ldcw (C : Cx G p s m args meth c cc nL own ret) {ix : Nat} {v : Int32} {pc2 : Nat} (hw : Cond.constant own ix v ∈ TT) (hdg : decode cc pc = .ok (.ldc_w ix, 3)) (hp : pc + 3 = pc2) (kk : OX G p l e R s m args below meth c nL cells slots Z o pc2 L (.int v :: st) M) : OX G p l e R s m args below meth c nL cells slots Z o pc L st M := by
  subst hp
  exact fun r hr H locs ls hl hP hS => lv_ldcw C.1 C.2.1 C.2.2.2.1 (C.2.2.2.2.1 _ hw) hdg (kk r hr H locs ls hl hP hS)
theorem x_ldcf (C : Cx G p s m args meth c cc nL own ret) {ix : Nat} {v : UInt32} {pc2 : Nat} (hw : Cond.constantFloat own ix v ∈ TT) (hdg : decode cc pc = .ok (.ldc ix, 2)) (hp : pc + 2 = pc2) (kk : OX G p l e R s m args below meth c nL cells slots Z o pc2 L (.float v :: st) M) : OX G p l e R s m args below meth c nL cells slots Z o pc L st M := by
  subst hp
  exact fun r hr H locs ls hl hP hS => lv_ldcf C.1 C.2.1 C.2.2.2.1 (C.2.2.2.2.1 _ hw) hdg (kk r hr H locs ls hl hP hS)
theorem x_fconst0 (C : Cx G p s m args meth c cc nL own ret) {pc2 : Nat} (hdg : decode cc pc = .ok (.fconst 0, 1)) (hp : pc + 1 = pc2) (kk : OX G p l e R s m args below meth c nL cells slots Z o pc2 L (.float FP.fconst0 :: st) M) : OX G p l e R s m args below meth c nL cells slots Z o pc L st M := by
  subst hp
  exact fun r hr H locs ls hl hP hS => lv_fconst0 C.1 C.2.1 hdg (kk r hr H locs ls hl hP hS)
theorem x_iadd (C : Cx G p s m args meth c cc nL own ret) {x y : Int32} {pc2 : Nat}  (hdg : decode cc pc = .ok (.iadd, 1)) (hp : pc + 1 = pc2) (kk : OX G p l e R s m args below meth c nL cells slots Z o pc2 L (.int (x + y) :: st) M) : OX G p l e R s m args below meth c nL cells slots Z o pc L (.int y :: .int x :: st) M := by
  subst hp
  exact fun r hr H locs ls hl hP hS => lv_iadd C.1 C.2.1 hdg (kk r hr H locs ls hl hP hS)
theorem x_isub (C : Cx G p s m args meth c cc nL own ret) {x y : Int32} {pc2 : Nat}  (hdg : decode cc pc = .ok (.isub, 1)) (hp : pc + 1 = pc2) (kk : OX G p l e R s m args below meth c nL cells slots Z o pc2 L (.int (x - y) :: st) M) : OX G p l e R s m args below meth c nL cells slots Z o pc L (.int y :: .int x :: st) M := by
  subst hp
  exact fun r hr H locs ls hl hP hS => lv_isub C.1 C.2.1 hdg (kk r hr H locs ls hl hP hS)
theorem x_imul (C : Cx G p s m args meth c cc nL own ret) {x y : Int32} {pc2 : Nat}  (hdg : decode cc pc = .ok (.imul, 1)) (hp : pc + 1 = pc2) (kk : OX G p l e R s m args below meth c nL cells slots Z o pc2 L (.int (x * y) :: st) M) : OX G p l e R s m args below meth c nL cells slots Z o pc L (.int y :: .int x :: st) M := by
  subst hp
  exact fun r hr H locs ls hl hP hS => lv_imul C.1 C.2.1 hdg (kk r hr H locs ls hl hP hS)
theorem x_iand (C : Cx G p s m args meth c cc nL own ret) {x y : Int32} {pc2 : Nat}  (hdg : decode cc pc = .ok (.iand, 1)) (hp : pc + 1 = pc2) (kk : OX G p l e R s m args below meth c nL cells slots Z o pc2 L (.int (x &&& y) :: st) M) : OX G p l e R s m args below meth c nL cells slots Z o pc L (.int y :: .int x :: st) M := by
  subst hp
  exact fun r hr H locs ls hl hP hS => lv_iand C.1 C.2.1 hdg (kk r hr H locs ls hl hP hS)
theorem x_ior (C : Cx G p s m args meth c cc nL own ret) {x y : Int32} {pc2 : Nat}  (hdg : decode cc pc = .ok (.ior, 1)) (hp : pc + 1 = pc2) (kk : OX G p l e R s m args below meth c nL cells slots Z o pc2 L (.int (x ||| y) :: st) M) : OX G p l e R s m args below meth c nL cells slots Z o pc L (.int y :: .int x :: st) M := by
  subst hp
  exact fun r hr H locs ls hl hP hS => lv_ior C.1 C.2.1 hdg (kk r hr H locs ls hl hP hS)
theorem x_ixor (C : Cx G p s m args meth c cc nL own ret) {x y : Int32} {pc2 : Nat}  (hdg : decode cc pc = .ok (.ixor, 1)) (hp : pc + 1 = pc2) (kk : OX G p l e R s m args below meth c nL cells slots Z o pc2 L (.int (x ^^^ y) :: st) M) : OX G p l e R s m args below meth c nL cells slots Z o pc L (.int y :: .int x :: st) M := by
  subst hp
  exact fun r hr H locs ls hl hP hS => lv_ixor C.1 C.2.1 hdg (kk r hr H locs ls hl hP hS)
theorem x_ishl (C : Cx G p s m args meth c cc nL own ret) {x y : Int32} {pc2 : Nat}  (hdg : decode cc pc = .ok (.ishl, 1)) (hp : pc + 1 = pc2) (kk : OX G p l e R s m args below meth c nL cells slots Z o pc2 L (.int (x <<< (y &&& 31)) :: st) M) : OX G p l e R s m args below meth c nL cells slots Z o pc L (.int y :: .int x :: st) M := by
  subst hp
  exact fun r hr H locs ls hl hP hS => lv_ishl C.1 C.2.1 hdg (kk r hr H locs ls hl hP hS)
theorem x_ishr (C : Cx G p s m args meth c cc nL own ret) {x y : Int32} {pc2 : Nat}  (hdg : decode cc pc = .ok (.ishr, 1)) (hp : pc + 1 = pc2) (kk : OX G p l e R s m args below meth c nL cells slots Z o pc2 L (.int (x >>> (y &&& 31)) :: st) M) : OX G p l e R s m args below meth c nL cells slots Z o pc L (.int y :: .int x :: st) M := by
  subst hp
  exact fun r hr H locs ls hl hP hS => lv_ishr C.1 C.2.1 hdg (kk r hr H locs ls hl hP hS)
theorem x_iushr (C : Cx G p s m args meth c cc nL own ret) {x y : Int32} {pc2 : Nat}  (hdg : decode cc pc = .ok (.iushr, 1)) (hp : pc + 1 = pc2) (kk : OX G p l e R s m args below meth c nL cells slots Z o pc2 L (.int (ushr x y) :: st) M) : OX G p l e R s m args below meth c nL cells slots Z o pc L (.int y :: .int x :: st) M := by
  subst hp
  exact fun r hr H locs ls hl hP hS => lv_iushr C.1 C.2.1 hdg rfl (kk r hr H locs ls hl hP hS)
theorem x_ineg (C : Cx G p s m args meth c cc nL own ret) {x : Int32} {pc2 : Nat}  (hdg : decode cc pc = .ok (.ineg, 1)) (hp : pc + 1 = pc2) (kk : OX G p l e R s m args below meth c nL cells slots Z o pc2 L (.int (-x) :: st) M) : OX G p l e R s m args below meth c nL cells slots Z o pc L (.int x :: st) M := by
  subst hp
  exact fun r hr H locs ls hl hP hS => lv_ineg C.1 C.2.1 hdg (kk r hr H locs ls hl hP hS)
theorem x_idivL (C : Cx G p s m args meth c cc nL own ret) {x y : Int32} {pc2 : Nat} (hne : ¬ y = 0) (hdg : decode cc pc = .ok (.idiv, 1)) (hp : pc + 1 = pc2) (kk : OX G p l e R s m args below meth c nL cells slots Z o pc2 L (.int (x / y) :: st) M) : OX G p l e R s m args below meth c nL cells slots Z o pc L (.int y :: .int x :: st) M := by
  subst hp
  exact fun r hr H locs ls hl hP hS => lv_idiv C.1 C.2.1 hdg hne (kk r hr H locs ls hl hP hS)
theorem x_iremL (C : Cx G p s m args meth c cc nL own ret) {x y : Int32} {pc2 : Nat} (hne : ¬ y = 0) (hdg : decode cc pc = .ok (.irem, 1)) (hp : pc + 1 = pc2) (kk : OX G p l e R s m args below meth c nL cells slots Z o pc2 L (.int (remv x y) :: st) M) : OX G p l e R s m args below meth c nL cells slots Z o pc L (.int y :: .int x :: st) M := by
  subst hp
  exact fun r hr H locs ls hl hP hS => lv_irem C.1 C.2.1 hdg hne (kk r hr H locs ls hl hP hS)
theorem x_idiv (C : Cx G p s m args meth c cc nL own ret) {x y : Int32} {pc2 : Nat}  (hdg : decode cc pc = .ok (.idiv, 1)) (hp : pc + 1 = pc2) (kk : OX G p l e R s m args below meth c nL cells slots Z o pc2 L (.int (x / y) :: st) M) : OX G p l e R s m args below meth c nL cells slots Z (asr (nzb y) o) pc L (.int y :: .int x :: st) M := by
  subst hp
  intro r hr H locs ls hl hP hS
  obtain ⟨hb, hr⟩ := asr_some hr
  skip
  exact lv_idiv C.1 C.2.1 hdg (of_decide_eq_true hb) (kk r hr H locs ls hl hP hS)
theorem x_irem (C : Cx G p s m args meth c cc nL own ret) {x y : Int32} {pc2 : Nat}  (hdg : decode cc pc = .ok (.irem, 1)) (hp : pc + 1 = pc2) (kk : OX G p l e R s m args below meth c nL cells slots Z o pc2 L (.int (remv x y) :: st) M) : OX G p l e R s m args below meth c nL cells slots Z (asr (nzb y) o) pc L (.int y :: .int x :: st) M := by
  subst hp
  intro r hr H locs ls hl hP hS
  obtain ⟨hb, hr⟩ := asr_some hr
  skip
  exact lv_irem C.1 C.2.1 hdg (of_decide_eq_true hb) (kk r hr H locs ls hl hP hS)
theorem x_i2c (C : Cx G p s m args meth c cc nL own ret) {x : Int32} {pc2 : Nat}  (hdg : decode cc pc = .ok (.i2c, 1)) (hp : pc + 1 = pc2) (kk : OX G p l e R s m args below meth c nL cells slots Z o pc2 L (.int (i2cv x) :: st) M) : OX G p l e R s m args below meth c nL cells slots Z o pc L (.int x :: st) M := by
  subst hp
  exact fun r hr H locs ls hl hP hS => lv_i2c C.1 C.2.1 hdg rfl (kk r hr H locs ls hl hP hS)
theorem x_i2f (C : Cx G p s m args meth c cc nL own ret) {x : Int32} {pc2 : Nat}  (hdg : decode cc pc = .ok (.i2f, 1)) (hp : pc + 1 = pc2) (kk : OX G p l e R s m args below meth c nL cells slots Z o pc2 L (.float (FP.i2f x) :: st) M) : OX G p l e R s m args below meth c nL cells slots Z o pc L (.int x :: st) M := by
  subst hp
  exact fun r hr H locs ls hl hP hS => lv_i2f C.1 C.2.1 hdg (kk r hr H locs ls hl hP hS)
theorem x_f2i (C : Cx G p s m args meth c cc nL own ret) {x : UInt32} {pc2 : Nat}  (hdg : decode cc pc = .ok (.f2i, 1)) (hp : pc + 1 = pc2) (kk : OX G p l e R s m args below meth c nL cells slots Z o pc2 L (.int (FP.f2i x) :: st) M) : OX G p l e R s m args below meth c nL cells slots Z o pc L (.float x :: st) M := by
  subst hp
  exact fun r hr H locs ls hl hP hS => lv_f2i C.1 C.2.1 hdg (kk r hr H locs ls hl hP hS)
theorem x_fneg (C : Cx G p s m args meth c cc nL own ret) {x : UInt32} {pc2 : Nat}  (hdg : decode cc pc = .ok (.fneg, 1)) (hp : pc + 1 = pc2) (kk : OX G p l e R s m args below meth c nL cells slots Z o pc2 L (.float (FP.fneg x) :: st) M) : OX G p l e R s m args below meth c nL cells slots Z o pc L (.float x :: st) M := by
  subst hp
  exact fun r hr H locs ls hl hP hS => lv_fneg C.1 C.2.1 hdg (kk r hr H locs ls hl hP hS)
theorem x_fcmpg (C : Cx G p s m args meth c cc nL own ret) {x y : UInt32} {pc2 : Nat}  (hdg : decode cc pc = .ok (.fcmp .g, 1)) (hp : pc + 1 = pc2) (kk : OX G p l e R s m args below meth c nL cells slots Z o pc2 L (.int (fcg x y) :: st) M) : OX G p l e R s m args below meth c nL cells slots Z o pc L (.float y :: .float x :: st) M := by
  subst hp
  exact fun r hr H locs ls hl hP hS => lv_fcmp C.1 C.2.1 hdg (kk r hr H locs ls hl hP hS)
theorem x_fcmpl (C : Cx G p s m args meth c cc nL own ret) {x y : UInt32} {pc2 : Nat}  (hdg : decode cc pc = .ok (.fcmp .l, 1)) (hp : pc + 1 = pc2) (kk : OX G p l e R s m args below meth c nL cells slots Z o pc2 L (.int (fcl x y) :: st) M) : OX G p l e R s m args below meth c nL cells slots Z o pc L (.float y :: .float x :: st) M := by
  subst hp
  exact fun r hr H locs ls hl hP hS => lv_fcmp C.1 C.2.1 hdg (kk r hr H locs ls hl hP hS)
theorem x_fadd (C : Cx G p s m args meth c cc nL own ret) {x y : UInt32} {pc2 : Nat}  (hdg : decode cc pc = .ok (.fadd, 1)) (hp : pc + 1 = pc2) (kk : OX G p l e R s m args below meth c nL cells slots Z o pc2 L (.float (FP.fadd x y) :: st) M) : OX G p l e R s m args below meth c nL cells slots Z (asr (nnb (FP.fadd x y)) o) pc L (.float y :: .float x :: st) M := by
  subst hp
  intro r hr H locs ls hl hP hS
  obtain ⟨hb, hr⟩ := asr_some hr
  skip
  exact lv_fadd C.1 C.2.1 hdg (nnb_n hb) (kk r hr H locs ls hl hP hS)
theorem x_fsub (C : Cx G p s m args meth c cc nL own ret) {x y : UInt32} {pc2 : Nat}  (hdg : decode cc pc = .ok (.fsub, 1)) (hp : pc + 1 = pc2) (kk : OX G p l e R s m args below meth c nL cells slots Z o pc2 L (.float (FP.fsub x y) :: st) M) : OX G p l e R s m args below meth c nL cells slots Z (asr (nnb (FP.fsub x y)) o) pc L (.float y :: .float x :: st) M := by
  subst hp
  intro r hr H locs ls hl hP hS
  obtain ⟨hb, hr⟩ := asr_some hr
  skip
  exact lv_fsub C.1 C.2.1 hdg (nnb_n hb) (kk r hr H locs ls hl hP hS)
theorem x_fmul (C : Cx G p s m args meth c cc nL own ret) {x y : UInt32} {pc2 : Nat}  (hdg : decode cc pc = .ok (.fmul, 1)) (hp : pc + 1 = pc2) (kk : OX G p l e R s m args below meth c nL cells slots Z o pc2 L (.float (FP.fmul x y) :: st) M) : OX G p l e R s m args below meth c nL cells slots Z (asr (nnb (FP.fmul x y)) o) pc L (.float y :: .float x :: st) M := by
  subst hp
  intro r hr H locs ls hl hP hS
  obtain ⟨hb, hr⟩ := asr_some hr
  skip
  exact lv_fmul C.1 C.2.1 hdg (nnb_n hb) (kk r hr H locs ls hl hP hS)
theorem x_fdiv (C : Cx G p s m args meth c cc nL own ret) {x y : UInt32} {pc2 : Nat}  (hdg : decode cc pc = .ok (.fdiv, 1)) (hp : pc + 1 = pc2) (kk : OX G p l e R s m args below meth c nL cells slots Z o pc2 L (.float (FP.fdiv x y) :: st) M) : OX G p l e R s m args below meth c nL cells slots Z (asr (nnb (FP.fdiv x y)) o) pc L (.float y :: .float x :: st) M := by
  subst hp
  intro r hr H locs ls hl hP hS
  obtain ⟨hb, hr⟩ := asr_some hr
  skip
  exact lv_fdiv C.1 C.2.1 hdg (nnb_n hb) (kk r hr H locs ls hl hP hS)
theorem x_dup (C : Cx G p s m args meth c cc nL own ret) {v : Value} {pc2 : Nat} (hv : v.category = 1) (hdg : decode cc pc = .ok (.dup, 1)) (hp : pc + 1 = pc2) (kk : OX G p l e R s m args below meth c nL cells slots Z o pc2 L (v :: v :: st) M) : OX G p l e R s m args below meth c nL cells slots Z o pc L (v :: st) M := by
  subst hp
  exact fun r hr H locs ls hl hP hS => lv_dup C.1 C.2.1 hdg hv (kk r hr H locs ls hl hP hS)
theorem x_pop (C : Cx G p s m args meth c cc nL own ret) {v : Value} {pc2 : Nat} (hv : v.category = 1) (hdg : decode cc pc = .ok (.pop, 1)) (hp : pc + 1 = pc2) (kk : OX G p l e R s m args below meth c nL cells slots Z o pc2 L st M) : OX G p l e R s m args below meth c nL cells slots Z o pc L (v :: st) M := by
  subst hp
  exact fun r hr H locs ls hl hP hS => lv_pop C.1 C.2.1 hdg hv (kk r hr H locs ls hl hP hS)
theorem x_dup2 (C : Cx G p s m args meth c cc nL own ret) {v w : Value} {pc2 : Nat} (hv : v.category = 1) (hw : w.category = 1) (hdg : decode cc pc = .ok (.dup2, 1)) (hp : pc + 1 = pc2) (kk : OX G p l e R s m args below meth c nL cells slots Z o pc2 L (v :: w :: v :: w :: st) M) : OX G p l e R s m args below meth c nL cells slots Z o pc L (v :: w :: st) M := by
  subst hp
  exact fun r hr H locs ls hl hP hS => lv_dup2_11 C.1 C.2.1 hdg hv hw (kk r hr H locs ls hl hP hS)
theorem x_iload (C : Cx G p s m args meth c cc nL own ret) {i : Nat} {x : Int32} {pc2 : Nat} (hi : L[i]? = some (some (.int x))) (hdg : decode cc pc = .ok (.iload i, 2)) (hp : pc + 2 = pc2) (kk : OX G p l e R s m args below meth c nL cells slots Z o pc2 L (.int x :: st) M) : OX G p l e R s m args below meth c nL cells slots Z o pc L st M := by
  subst hp
  exact fun r hr H locs ls hl hP hS => lv_iload C.1 C.2.1 hdg (hl.2.2 i _ hi) (kk r hr H locs ls hl hP hS)
theorem x_fload (C : Cx G p s m args meth c cc nL own ret) {i : Nat} {x : UInt32} {pc2 : Nat} (hi : L[i]? = some (some (.float x))) (hdg : decode cc pc = .ok (.fload i, 2)) (hp : pc + 2 = pc2) (kk : OX G p l e R s m args below meth c nL cells slots Z o pc2 L (.float x :: st) M) : OX G p l e R s m args below meth c nL cells slots Z o pc L st M := by
  subst hp
  exact fun r hr H locs ls hl hP hS => lv_fload C.1 C.2.1 hdg (hl.2.2 i _ hi) (kk r hr H locs ls hl hP hS)
theorem x_aload (C : Cx G p s m args meth c cc nL own ret) {i x : Nat} {pc2 : Nat} (hi : L[i]? = some (some (.ref x))) (hdg : decode cc pc = .ok (.aload i, 2)) (hp : pc + 2 = pc2) (kk : OX G p l e R s m args below meth c nL cells slots Z o pc2 L (.ref x :: st) M) : OX G p l e R s m args below meth c nL cells slots Z o pc L st M := by
  subst hp
  exact fun r hr H locs ls hl hP hS => lv_aload C.1 C.2.1 hdg (hl.2.2 i _ hi) (kk r hr H locs ls hl hP hS)
theorem x_iload_n (C : Cx G p s m args meth c cc nL own ret) {k : Fin 4} {x : Int32} {pc2 : Nat} (hi : L[(k : Nat)]? = some (some (.int x))) (hdg : decode cc pc = .ok (.iload_n k, 1)) (hp : pc + 1 = pc2) (kk : OX G p l e R s m args below meth c nL cells slots Z o pc2 L (.int x :: st) M) : OX G p l e R s m args below meth c nL cells slots Z o pc L st M := by
  subst hp
  exact fun r hr H locs ls hl hP hS => lv_iload_n C.1 C.2.1 hdg rfl (hl.2.2 k _ hi) (kk r hr H locs ls hl hP hS)
theorem x_fload_n (C : Cx G p s m args meth c cc nL own ret) {k : Fin 4} {x : UInt32} {pc2 : Nat} (hi : L[(k : Nat)]? = some (some (.float x))) (hdg : decode cc pc = .ok (.fload_n k, 1)) (hp : pc + 1 = pc2) (kk : OX G p l e R s m args below meth c nL cells slots Z o pc2 L (.float x :: st) M) : OX G p l e R s m args below meth c nL cells slots Z o pc L st M := by
  subst hp
  exact fun r hr H locs ls hl hP hS => lv_fload_n C.1 C.2.1 hdg rfl (hl.2.2 k _ hi) (kk r hr H locs ls hl hP hS)
theorem x_aload_n (C : Cx G p s m args meth c cc nL own ret) {k : Fin 4} {x : Nat} {pc2 : Nat} (hi : L[(k : Nat)]? = some (some (.ref x))) (hdg : decode cc pc = .ok (.aload_n k, 1)) (hp : pc + 1 = pc2) (kk : OX G p l e R s m args below meth c nL cells slots Z o pc2 L (.ref x :: st) M) : OX G p l e R s m args below meth c nL cells slots Z o pc L st M := by
  subst hp
  exact fun r hr H locs ls hl hP hS => lv_aload_n C.1 C.2.1 hdg rfl (hl.2.2 k _ hi) (kk r hr H locs ls hl hP hS)
theorem x_istore (C : Cx G p s m args meth c cc nL own ret) {i : Nat} {x : Int32} {pc2 : Nat} (L2 : List (Option Value)) (hL : L.set i (some (.int x)) = L2) (hc : (c1 L && decide (i < L.length) && decide (i < nL)) = true) (hdg : decode cc pc = .ok (.istore i, 2)) (hp : pc + 2 = pc2) (kk : OX G p l e R s m args below meth c nL cells slots Z o pc2 L2 st M) : OX G p l e R s m args below meth c nL cells slots Z o pc L (.int x :: st) M := by
  subst hp hL
  simp only [Bool.and_eq_true, decide_eq_true_eq] at hc
  exact fun r hr H locs ls hl hP hS => lv_istore C.1 C.2.1 hdg (lh_lv hl) hc.2 rfl (fun ls2 hl2 => kk r hr H locs ls2 (lh_st hl2 (c1_spec hc.1.1) hc.1.2) hP hS)
theorem x_istore_n (C : Cx G p s m args meth c cc nL own ret) {k : Fin 4} {x : Int32} {pc2 : Nat} (L2 : List (Option Value)) (hL : L.set (k : Nat) (some (.int x)) = L2) (hc : (c1 L && decide ((k : Nat) < L.length) && decide ((k : Nat) < nL)) = true) (hdg : decode cc pc = .ok (.istore_n k, 1)) (hp : pc + 1 = pc2) (kk : OX G p l e R s m args below meth c nL cells slots Z o pc2 L2 st M) : OX G p l e R s m args below meth c nL cells slots Z o pc L (.int x :: st) M := by
  subst hp hL
  simp only [Bool.and_eq_true, decide_eq_true_eq] at hc
  exact fun r hr H locs ls hl hP hS => lv_istore_n C.1 C.2.1 hdg rfl (lh_lv hl) hc.2 rfl (fun ls2 hl2 => kk r hr H locs ls2 (lh_st hl2 (c1_spec hc.1.1) hc.1.2) hP hS)
theorem x_fstore (C : Cx G p s m args meth c cc nL own ret) {i : Nat} {x : UInt32} {pc2 : Nat} (L2 : List (Option Value)) (hL : L.set i (some (.float x)) = L2) (hc : (c1 L && decide (i < L.length) && decide (i < nL)) = true) (hdg : decode cc pc = .ok (.fstore i, 2)) (hp : pc + 2 = pc2) (kk : OX G p l e R s m args below meth c nL cells slots Z o pc2 L2 st M) : OX G p l e R s m args below meth c nL cells slots Z o pc L (.float x :: st) M := by
  subst hp hL
  simp only [Bool.and_eq_true, decide_eq_true_eq] at hc
  exact fun r hr H locs ls hl hP hS => lv_fstore C.1 C.2.1 hdg (lh_lv hl) hc.2 rfl (fun ls2 hl2 => kk r hr H locs ls2 (lh_st hl2 (c1_spec hc.1.1) hc.1.2) hP hS)
theorem x_fstore_n (C : Cx G p s m args meth c cc nL own ret) {k : Fin 4} {x : UInt32} {pc2 : Nat} (L2 : List (Option Value)) (hL : L.set (k : Nat) (some (.float x)) = L2) (hc : (c1 L && decide ((k : Nat) < L.length) && decide ((k : Nat) < nL)) = true) (hdg : decode cc pc = .ok (.fstore_n k, 1)) (hp : pc + 1 = pc2) (kk : OX G p l e R s m args below meth c nL cells slots Z o pc2 L2 st M) : OX G p l e R s m args below meth c nL cells slots Z o pc L (.float x :: st) M := by
  subst hp hL
  simp only [Bool.and_eq_true, decide_eq_true_eq] at hc
  exact fun r hr H locs ls hl hP hS => lv_fstore_n C.1 C.2.1 hdg rfl (lh_lv hl) hc.2 rfl (fun ls2 hl2 => kk r hr H locs ls2 (lh_st hl2 (c1_spec hc.1.1) hc.1.2) hP hS)
theorem x_astore (C : Cx G p s m args meth c cc nL own ret) {i : Nat} {x : Nat} {pc2 : Nat} (L2 : List (Option Value)) (hL : L.set i (some (.ref x)) = L2) (hc : (c1 L && decide (i < L.length) && decide (i < nL)) = true) (hdg : decode cc pc = .ok (.astore i, 2)) (hp : pc + 2 = pc2) (kk : OX G p l e R s m args below meth c nL cells slots Z o pc2 L2 st M) : OX G p l e R s m args below meth c nL cells slots Z o pc L (.ref x :: st) M := by
  subst hp hL
  simp only [Bool.and_eq_true, decide_eq_true_eq] at hc
  exact fun r hr H locs ls hl hP hS => lv_astore C.1 C.2.1 hdg (lh_lv hl) hc.2 rfl (fun ls2 hl2 => kk r hr H locs ls2 (lh_st hl2 (c1_spec hc.1.1) hc.1.2) hP hS)
theorem x_astore_n (C : Cx G p s m args meth c cc nL own ret) {k : Fin 4} {x : Nat} {pc2 : Nat} (L2 : List (Option Value)) (hL : L.set (k : Nat) (some (.ref x)) = L2) (hc : (c1 L && decide ((k : Nat) < L.length) && decide ((k : Nat) < nL)) = true) (hdg : decode cc pc = .ok (.astore_n k, 1)) (hp : pc + 1 = pc2) (kk : OX G p l e R s m args below meth c nL cells slots Z o pc2 L2 st M) : OX G p l e R s m args below meth c nL cells slots Z o pc L (.ref x :: st) M := by
  subst hp hL
  simp only [Bool.and_eq_true, decide_eq_true_eq] at hc
  exact fun r hr H locs ls hl hP hS => lv_astore_n C.1 C.2.1 hdg rfl (lh_lv hl) hc.2 rfl (fun ls2 hl2 => kk r hr H locs ls2 (lh_st hl2 (c1_spec hc.1.1) hc.1.2) hP hS)
theorem x_iinc (C : Cx G p s m args meth c cc nL own ret) {i : Nat} {n : Int} {x v : Int32} {pc2 : Nat} (hi : L[i]? = some (some (.int x))) (hv : x + Int32.ofInt n = v) (L2 : List (Option Value)) (hL : L.set i (some (.int v)) = L2) (hc : (c1 L && decide (i < L.length) && decide (i < nL)) = true) (hdg : decode cc pc = .ok (.iinc i n, 3)) (hp : pc + 3 = pc2) (kk : OX G p l e R s m args below meth c nL cells slots Z o pc2 L2 st M) : OX G p l e R s m args below meth c nL cells slots Z o pc L st M := by
  subst hp hL
  simp only [Bool.and_eq_true, decide_eq_true_eq] at hc
  intro r hr H locs ls hl hP hS
  obtain ⟨k, hk⟩ := List.getElem?_of_mem (show (i, Value.int x) ∈ lh_l L from List.mem_filterMap.mpr ⟨(some (.int x), i), List.mem_zipIdx_iff_getElem?.mpr hi, rfl⟩)
  exact lv_iinc C.1 C.2.1 hdg (lh_lv hl) hk hv hc.2 rfl (fun ls2 hl2 => kk r hr H locs ls2 (lh_st hl2 (c1_spec hc.1.1) hc.1.2) hP hS)
theorem x_if_eq (C : Cx G p s m args meth c cc nL own ret) {x : Int32} {off : Int} {tgt pc2 : Nat} {a b : Option β} (hdg : decode cc pc = .ok (.ifCond .eq off, 3)) (ht : (pc : Int) + off = (tgt : Int)) (hp : pc + 3 = pc2) (kt : OX G p l e R s m args below meth c nL cells slots Z a tgt L st M) (kf : OX G p l e R s m args below meth c nL cells slots Z b pc2 L st M) : OX G p l e R s m args below meth c nL cells slots Z (if x = 0 then a else b) pc L (.int x :: st) M := by
  subst hp
  intro r hr H locs ls hl hP hS
  refine lv_if_eq C.1 C.2.1 hdg ht (fun h => kt r ?_ H locs ls hl hP hS) (fun h => kf r ?_ H locs ls hl hP hS)
  · rw [if_pos h] at hr; exact hr
  · rw [if_neg h] at hr; exact hr
theorem x_if_ne (C : Cx G p s m args meth c cc nL own ret) {x : Int32} {off : Int} {tgt pc2 : Nat} {a b : Option β} (hdg : decode cc pc = .ok (.ifCond .ne off, 3)) (ht : (pc : Int) + off = (tgt : Int)) (hp : pc + 3 = pc2) (kt : OX G p l e R s m args below meth c nL cells slots Z a tgt L st M) (kf : OX G p l e R s m args below meth c nL cells slots Z b pc2 L st M) : OX G p l e R s m args below meth c nL cells slots Z (if x = 0 then b else a) pc L (.int x :: st) M := by
  subst hp
  intro r hr H locs ls hl hP hS
  refine lv_if_ne C.1 C.2.1 hdg ht (fun h => kt r ?_ H locs ls hl hP hS) (fun h => kf r ?_ H locs ls hl hP hS)
  · rw [if_neg h] at hr; exact hr
  · rw [if_pos h] at hr; exact hr
theorem x_if_lt (C : Cx G p s m args meth c cc nL own ret) {x : Int32} {off : Int} {tgt pc2 : Nat} {a b : Option β} (hdg : decode cc pc = .ok (.ifCond .lt off, 3)) (ht : (pc : Int) + off = (tgt : Int)) (hp : pc + 3 = pc2) (kt : OX G p l e R s m args below meth c nL cells slots Z a tgt L st M) (kf : OX G p l e R s m args below meth c nL cells slots Z b pc2 L st M) : OX G p l e R s m args below meth c nL cells slots Z (if x < 0 then a else b) pc L (.int x :: st) M := by
  subst hp
  intro r hr H locs ls hl hP hS
  refine lv_if_lt C.1 C.2.1 hdg ht (fun h => kt r ?_ H locs ls hl hP hS) (fun h => kf r ?_ H locs ls hl hP hS)
  · rw [if_pos h] at hr; exact hr
  · rw [if_neg h] at hr; exact hr
theorem x_if_ge (C : Cx G p s m args meth c cc nL own ret) {x : Int32} {off : Int} {tgt pc2 : Nat} {a b : Option β} (hdg : decode cc pc = .ok (.ifCond .ge off, 3)) (ht : (pc : Int) + off = (tgt : Int)) (hp : pc + 3 = pc2) (kt : OX G p l e R s m args below meth c nL cells slots Z a tgt L st M) (kf : OX G p l e R s m args below meth c nL cells slots Z b pc2 L st M) : OX G p l e R s m args below meth c nL cells slots Z (if 0 ≤ x then a else b) pc L (.int x :: st) M := by
  subst hp
  intro r hr H locs ls hl hP hS
  refine lv_if_ge C.1 C.2.1 hdg ht (fun h => kt r ?_ H locs ls hl hP hS) (fun h => kf r ?_ H locs ls hl hP hS)
  · rw [if_pos h] at hr; exact hr
  · rw [if_neg h] at hr; exact hr
theorem x_if_gt (C : Cx G p s m args meth c cc nL own ret) {x : Int32} {off : Int} {tgt pc2 : Nat} {a b : Option β} (hdg : decode cc pc = .ok (.ifCond .gt off, 3)) (ht : (pc : Int) + off = (tgt : Int)) (hp : pc + 3 = pc2) (kt : OX G p l e R s m args below meth c nL cells slots Z a tgt L st M) (kf : OX G p l e R s m args below meth c nL cells slots Z b pc2 L st M) : OX G p l e R s m args below meth c nL cells slots Z (if 0 < x then a else b) pc L (.int x :: st) M := by
  subst hp
  intro r hr H locs ls hl hP hS
  refine lv_if_gt C.1 C.2.1 hdg ht (fun h => kt r ?_ H locs ls hl hP hS) (fun h => kf r ?_ H locs ls hl hP hS)
  · rw [if_pos h] at hr; exact hr
  · rw [if_neg h] at hr; exact hr
theorem x_if_le (C : Cx G p s m args meth c cc nL own ret) {x : Int32} {off : Int} {tgt pc2 : Nat} {a b : Option β} (hdg : decode cc pc = .ok (.ifCond .le off, 3)) (ht : (pc : Int) + off = (tgt : Int)) (hp : pc + 3 = pc2) (kt : OX G p l e R s m args below meth c nL cells slots Z a tgt L st M) (kf : OX G p l e R s m args below meth c nL cells slots Z b pc2 L st M) : OX G p l e R s m args below meth c nL cells slots Z (if x ≤ 0 then a else b) pc L (.int x :: st) M := by
  subst hp
  intro r hr H locs ls hl hP hS
  refine lv_if_le C.1 C.2.1 hdg ht (fun h => kt r ?_ H locs ls hl hP hS) (fun h => kf r ?_ H locs ls hl hP hS)
  · rw [if_pos h] at hr; exact hr
  · rw [if_neg h] at hr; exact hr
theorem x_icmp_eq (C : Cx G p s m args meth c cc nL own ret) {x y : Int32} {off : Int} {tgt pc2 : Nat} {a b : Option β} (hdg : decode cc pc = .ok (.if_icmp .eq off, 3)) (ht : (pc : Int) + off = (tgt : Int)) (hp : pc + 3 = pc2) (kt : OX G p l e R s m args below meth c nL cells slots Z a tgt L st M) (kf : OX G p l e R s m args below meth c nL cells slots Z b pc2 L st M) : OX G p l e R s m args below meth c nL cells slots Z (if x = y then a else b) pc L (.int y :: .int x :: st) M := by
  subst hp
  intro r hr H locs ls hl hP hS
  refine lv_icmp_eq C.1 C.2.1 hdg ht (fun h => kt r ?_ H locs ls hl hP hS) (fun h => kf r ?_ H locs ls hl hP hS)
  · rw [if_pos h] at hr; exact hr
  · rw [if_neg h] at hr; exact hr
theorem x_icmp_ne (C : Cx G p s m args meth c cc nL own ret) {x y : Int32} {off : Int} {tgt pc2 : Nat} {a b : Option β} (hdg : decode cc pc = .ok (.if_icmp .ne off, 3)) (ht : (pc : Int) + off = (tgt : Int)) (hp : pc + 3 = pc2) (kt : OX G p l e R s m args below meth c nL cells slots Z a tgt L st M) (kf : OX G p l e R s m args below meth c nL cells slots Z b pc2 L st M) : OX G p l e R s m args below meth c nL cells slots Z (if x = y then b else a) pc L (.int y :: .int x :: st) M := by
  subst hp
  intro r hr H locs ls hl hP hS
  refine lv_icmp_ne C.1 C.2.1 hdg ht (fun h => kt r ?_ H locs ls hl hP hS) (fun h => kf r ?_ H locs ls hl hP hS)
  · rw [if_neg h] at hr; exact hr
  · rw [if_pos h] at hr; exact hr
theorem x_icmp_lt (C : Cx G p s m args meth c cc nL own ret) {x y : Int32} {off : Int} {tgt pc2 : Nat} {a b : Option β} (hdg : decode cc pc = .ok (.if_icmp .lt off, 3)) (ht : (pc : Int) + off = (tgt : Int)) (hp : pc + 3 = pc2) (kt : OX G p l e R s m args below meth c nL cells slots Z a tgt L st M) (kf : OX G p l e R s m args below meth c nL cells slots Z b pc2 L st M) : OX G p l e R s m args below meth c nL cells slots Z (if x < y then a else b) pc L (.int y :: .int x :: st) M := by
  subst hp
  intro r hr H locs ls hl hP hS
  refine lv_icmp_lt C.1 C.2.1 hdg ht (fun h => kt r ?_ H locs ls hl hP hS) (fun h => kf r ?_ H locs ls hl hP hS)
  · rw [if_pos h] at hr; exact hr
  · rw [if_neg h] at hr; exact hr
theorem x_icmp_ge (C : Cx G p s m args meth c cc nL own ret) {x y : Int32} {off : Int} {tgt pc2 : Nat} {a b : Option β} (hdg : decode cc pc = .ok (.if_icmp .ge off, 3)) (ht : (pc : Int) + off = (tgt : Int)) (hp : pc + 3 = pc2) (kt : OX G p l e R s m args below meth c nL cells slots Z a tgt L st M) (kf : OX G p l e R s m args below meth c nL cells slots Z b pc2 L st M) : OX G p l e R s m args below meth c nL cells slots Z (if y ≤ x then a else b) pc L (.int y :: .int x :: st) M := by
  subst hp
  intro r hr H locs ls hl hP hS
  refine lv_icmp_ge C.1 C.2.1 hdg ht (fun h => kt r ?_ H locs ls hl hP hS) (fun h => kf r ?_ H locs ls hl hP hS)
  · rw [if_pos h] at hr; exact hr
  · rw [if_neg h] at hr; exact hr
theorem x_icmp_gt (C : Cx G p s m args meth c cc nL own ret) {x y : Int32} {off : Int} {tgt pc2 : Nat} {a b : Option β} (hdg : decode cc pc = .ok (.if_icmp .gt off, 3)) (ht : (pc : Int) + off = (tgt : Int)) (hp : pc + 3 = pc2) (kt : OX G p l e R s m args below meth c nL cells slots Z a tgt L st M) (kf : OX G p l e R s m args below meth c nL cells slots Z b pc2 L st M) : OX G p l e R s m args below meth c nL cells slots Z (if y < x then a else b) pc L (.int y :: .int x :: st) M := by
  subst hp
  intro r hr H locs ls hl hP hS
  refine lv_icmp_gt C.1 C.2.1 hdg ht (fun h => kt r ?_ H locs ls hl hP hS) (fun h => kf r ?_ H locs ls hl hP hS)
  · rw [if_pos h] at hr; exact hr
  · rw [if_neg h] at hr; exact hr
theorem x_icmp_le (C : Cx G p s m args meth c cc nL own ret) {x y : Int32} {off : Int} {tgt pc2 : Nat} {a b : Option β} (hdg : decode cc pc = .ok (.if_icmp .le off, 3)) (ht : (pc : Int) + off = (tgt : Int)) (hp : pc + 3 = pc2) (kt : OX G p l e R s m args below meth c nL cells slots Z a tgt L st M) (kf : OX G p l e R s m args below meth c nL cells slots Z b pc2 L st M) : OX G p l e R s m args below meth c nL cells slots Z (if x ≤ y then a else b) pc L (.int y :: .int x :: st) M := by
  subst hp
  intro r hr H locs ls hl hP hS
  refine lv_icmp_le C.1 C.2.1 hdg ht (fun h => kt r ?_ H locs ls hl hP hS) (fun h => kf r ?_ H locs ls hl hP hS)
  · rw [if_pos h] at hr; exact hr
  · rw [if_neg h] at hr; exact hr
theorem x_goto (C : Cx G p s m args meth c cc nL own ret) {off : Int} {tgt : Nat} (hdg : decode cc pc = .ok (.goto off, 3)) (ht : (pc : Int) + off = (tgt : Int)) (kk : OX G p l e R s m args below meth c nL cells slots Z o tgt L st M) : OX G p l e R s m args below meth c nL cells slots Z o pc L st M := fun r hr H locs ls hl hP hS => lv_goto C.1 C.2.1 hdg ht (kk r hr H locs ls hl hP hS)
theorem x_tin (C : Cx G p s m args meth c cc nL own ret) {dflt lo hi : Int} {offs : Array Int} {len : Nat} {x k : Int32} {off : Int} {tgt : Nat} (hx : x = k) (hdg : decode cc pc = .ok (.tableswitch dflt lo hi offs, len)) (h1 : ¬ k.toInt < lo) (h2 : ¬ hi < k.toInt) (ho : offs[(k.toInt - lo).toNat]? = some off) (ht : (pc : Int) + off = (tgt : Int)) (kk : OX G p l e R s m args below meth c nL cells slots Z o tgt L st M) : OX G p l e R s m args below meth c nL cells slots Z o pc L (.int x :: st) M := by
  subst hx
  exact fun r hr H locs ls hl hP hS => lv_tableIn C.1 C.2.1 hdg h1 h2 ho ht (kk r hr H locs ls hl hP hS)
theorem x_tout (C : Cx G p s m args meth c cc nL own ret) {dflt lo hi : Int} {offs : Array Int} {len : Nat} {x : Int32} {tgt : Nat} (hdg : decode cc pc = .ok (.tableswitch dflt lo hi offs, len)) (h : x.toInt < lo ∨ hi < x.toInt) (ht : (pc : Int) + dflt = (tgt : Int)) (kk : OX G p l e R s m args below meth c nL cells slots Z o tgt L st M) : OX G p l e R s m args below meth c nL cells slots Z o pc L (.int x :: st) M := fun r hr H locs ls hl hP hS => lv_tableOut C.1 C.2.1 hdg h ht (kk r hr H locs ls hl hP hS)
theorem x_lsw (C : Cx G p s m args meth c cc nL own ret) {dflt : Int} {ps : Array (Int × Int)} {len : Nat} {x : Int32} {off : Int} {tgt : Nat} (hdg : decode cc pc = .ok (.lookupswitch dflt ps, len)) (hp : (ps.toList.zip (ps.toList.drop 1)).all (fun (a, next) => a.1 < next.1) = true) (ho : Op.lookupswitch.offset ps.toList dflt x.toInt = off) (ht : (pc : Int) + off = (tgt : Int)) (kk : OX G p l e R s m args below meth c nL cells slots Z o tgt L st M) : OX G p l e R s m args below meth c nL cells slots Z o pc L (.int x :: st) M := fun r hr H locs ls hl hP hS => lv_lookup C.1 C.2.1 hdg hp ho ht (kk r hr H locs ls hl hP hS)
/-- a field by its link: class ci, place j -/
def FL (own : String) (ix ci j : Nat) (nf : Bool) : Prop := ∃ (C : String) (T : u_T) (N : Nat) (ty : Nat → FieldType), vwCl[ci]? = some (C, T, N) ∧ j < N ∧ Cond.fieldLink own ix C (T j).2.1 (T j).2.2.1 ∈ TT ∧ (T j).1 = C ∧ (∀ w ∈ u_ws C T N, w ∈ TT) ∧ (∀ k, k < N → parseFieldDescriptor (T k).2.2.1 = some (ty k)) ∧ (∀ a, a < N → ∀ b, b < N → a ≠ b → (T a).2.1 ≠ (T b).2.1) ∧ (T j).2.2.2 = !nf
/-- a field that may be written, of the type ty -/
def FT (own : String) (ix ci j : Nat) (ty : FieldType) : Prop := ∃ (C : String) (T : u_T) (N : Nat) (ty0 : Nat → FieldType), vwCl[ci]? = some (C, T, N) ∧ j < N ∧ Cond.fieldLink own ix C (T j).2.1 (T j).2.2.1 ∈ TT ∧ (T j).1 = C ∧ (∀ w ∈ u_ws C T N, w ∈ TT) ∧ (∀ k, k < N → parseFieldDescriptor (T k).2.2.1 = some (ty0 k)) ∧ (∀ a, a < N → ∀ b, b < N → a ≠ b → (T a).2.1 ≠ (T b).2.1) ∧ (T j).2.2.2 = false ∧ parseFieldDescriptor (T j).2.2.1 = some ty
theorem x_get (C : Cx G p s m args meth c cc nL own ret) {k ci j ix : Nat} {nf : Bool} {v : Value} {pc2 : Nat} (F : FL own ix ci j nf) (hk : kd k = ci) (hc : ci < 20) (hv : (flds G M k ci)[j]? = some v) (hdg : decode cc pc = .ok (.getfield ix, 3)) (hp : pc + 3 = pc2) (kk : OX G p l e R s m args below meth c nL cells slots Z o pc2 L (v :: st) M) : OX G p l e R s m args below meth c nL cells slots Z o pc L (rv G k :: st) M := by
  subst hp
  obtain ⟨Cn, T, N, ty, h1, h2, h3, h4, h5, -, -, -⟩ := F
  exact fun r hr H locs ls hl hP hS => va_get C.1 C.2.1 C.2.2.2.2.1 h5 C.2.2.2.1 C.2.2.2.2.2.1 hP k (at_o hk hc) h1 j h2 (C.2.2.2.2.1 _ h3) (fun x hx => by rw [h4] at hx; exact hx) hv hdg (kk r hr H locs ls hl hP hS)
theorem x_putv (C : Cx G p s m args meth c cc nL own ret) {k ci j ix : Nat} {ty : FieldType} {v : Value} {M' : Mem} {pc2 : Nat} (F : FT own ix ci j ty) (hk : kd k = ci) (hc : ci < 20) (hn : narrow ty v = v) (hf : fits ty v = true) (hset : (flds G M k ci).set j v = flds G M' k ci) (hlen : j < (flds G M k ci).length) (hoth : ∀ i, i ≠ k → cel G M' i = cel G M i) (hdg : decode cc pc = .ok (.putfield ix, 3)) (hp : pc + 3 = pc2) (kk : OX G p l e R s m args below meth c nL cells slots Z o pc2 L st M') : OX G p l e R s m args below meth c nL cells slots Z o pc L (v :: rv G k :: st) M := by
  subst hp
  obtain ⟨Cn, T, N, ty0, h1, h2, h3, h4, h5, h6, h7, h8, h9⟩ := F
  intro r hr H locs ls hl hP hS
  refine va_put C.1 C.2.1 C.2.2.2.2.1 h5 ty0 h6 h7 C.2.2.2.1 C.2.2.2.2.2.1 hP (wo_D G M) hS k (at_o hk hc) h1 j h2 (C.2.2.2.2.1 _ h3) (fun x hx => by rw [h4] at hx; exact hx) h8 h9 hn hf hlen hdg (fun H1 locs1 hP1 _ hS1 => ?_)
  rw [wo_set (M' := M') (kd_lt (by omega)) (by rw [cel_o hk hc, hset]) hoth] at hP1
  exact kk r hr H1 locs1 ls hl hP1 hS1
theorem x_puti (C : Cx G p s m args meth c cc nL own ret) {k ci j ix : Nat} {x : Int32} {q : Mem → Option β} {pc2 : Nat} (F : FT own ix ci j .int) (hk : kd k = ci) (hc : ci < 20) (hset : (flds G M k ci).set j (.int x) = flds G (w1 M k j x) k ci) (hlen : j < (flds G M k ci).length) (hdg : decode cc pc = .ok (.putfield ix, 3)) (hp : pc + 3 = pc2) (kk : ∀ M1, OX G p l e R s m args below meth c nL cells slots Z (q M1) pc2 L st M1) : OX G p l e R s m args below meth c nL cells slots Z (bnd (w1 M k j x) q) pc L (.int x :: rv G k :: st) M :=
  x_putv C F hk hc rfl rfl hset hlen w1_other hdg hp (kk _)
theorem x_putf (C : Cx G p s m args meth c cc nL own ret) {k ci j ix : Nat} {x : UInt32} {q : Mem → Option β} {pc2 : Nat} (F : FT own ix ci j .float) (hk : kd k = ci) (hc : ci < 20) (hset : (flds G M k ci).set j (.float x) = flds G (w2 M k j x) k ci) (hlen : j < (flds G M k ci).length) (hdg : decode cc pc = .ok (.putfield ix, 3)) (hp : pc + 3 = pc2) (kk : ∀ M1, OX G p l e R s m args below meth c nL cells slots Z (q M1) pc2 L st M1) : OX G p l e R s m args below meth c nL cells slots Z (bnd (w2 M k j x) q) pc L (.float x :: rv G k :: st) M :=
  x_putv C F hk hc rfl rfl hset hlen w2_other hdg hp (kk _)
/-- a boolean -/
def bzb (x : Int32) : Bool := x == 0 || x == 1
theorem bzb_nar {x : Int32} (h : bzb x = true) : narrow .boolean (.int x) = .int x ∧ fits .boolean (.int x) = true := by
  refine ⟨?_, h⟩
  simp only [bzb, Bool.or_eq_true, beq_iff_eq] at h
  rcases h with rfl | rfl <;> rfl
theorem x_putz (C : Cx G p s m args meth c cc nL own ret) {k ci j ix : Nat} {x : Int32} {q : Mem → Option β} {pc2 : Nat} (F : FT own ix ci j .boolean) (hk : kd k = ci) (hc : ci < 20) (hset : (flds G M k ci).set j (.int x) = flds G (w1 M k j x) k ci) (hlen : j < (flds G M k ci).length) (hdg : decode cc pc = .ok (.putfield ix, 3)) (hp : pc + 3 = pc2) (kk : ∀ M1, OX G p l e R s m args below meth c nL cells slots Z (q M1) pc2 L st M1) : OX G p l e R s m args below meth c nL cells slots Z (asr (bzb x) (bnd (w1 M k j x) q)) pc L (.int x :: rv G k :: st) M :=
  x_asr (fun hb => x_putv C F hk hc (bzb_nar hb).1 (bzb_nar hb).2 hset hlen w1_other hdg hp (kk _))
/-- a reference that moves: the cell that the number names -/
theorem x_putr (C : Cx G p s m args meth c cc nL own ret) {k ci j ix t : Nat} {Cn : String} {q : Mem → Option β} {pc2 : Nat} (F : FT own ix ci j (.object Cn)) (hk : kd k = ci) (hc : ci < 20) (hset : (flds G M k ci).set j (rv G t) = flds G (w1 M k j (nI t)) k ci) (hlen : j < (flds G M k ci).length) (hdg : decode cc pc = .ok (.putfield ix, 3)) (hp : pc + 3 = pc2) (kk : ∀ M1, OX G p l e R s m args below meth c nL cells slots Z (q M1) pc2 L st M1) : OX G p l e R s m args below meth c nL cells slots Z (bnd (w1 M k j (nI t)) q) pc L (rv G t :: rv G k :: st) M :=
  x_putv C F hk hc rfl rfl hset hlen w1_other hdg hp (kk _)
theorem x_iald (C : Cx G p s m args meth c cc nL own ret) {a : Nat} {i : Int32} {pc2 : Nat} (hk : kd a = 20) (hdg : decode cc pc = .ok (.iaload, 1)) (hp : pc + 1 = pc2) (kk : OX G p l e R s m args below meth c nL cells slots Z o pc2 L (.int (M.1 a i.toNatClampNeg) :: st) M) : OX G p l e R s m args below meth c nL cells slots Z (asr (inb i (ln a)) o) pc L (.int i :: rv G a :: st) M := by
  subst hp
  exact x_asr fun hb r hr H locs ls hl hP hS => va_iald C.1 C.2.1 C.2.2.2.2.2.1 hP a 0 (at_i hk) rfl (inb_in hb) hdg (kk r hr H locs ls hl hP hS)
theorem x_cald (C : Cx G p s m args meth c cc nL own ret) {a : Nat} {i : Int32} {pc2 : Nat} (hk : kd a = 22) (hdg : decode cc pc = .ok (.caload, 1)) (hp : pc + 1 = pc2) (kk : OX G p l e R s m args below meth c nL cells slots Z o pc2 L (.int (M.1 a i.toNatClampNeg) :: st) M) : OX G p l e R s m args below meth c nL cells slots Z (asr (inb i (ln a)) o) pc L (.int i :: rv G a :: st) M := by
  subst hp
  exact x_asr fun hb r hr H locs ls hl hP hS => va_cald C.1 C.2.1 C.2.2.2.2.2.1 hP a 2 (at_c hk) rfl (inb_in hb) hdg (kk r hr H locs ls hl hP hS)
theorem x_fald (C : Cx G p s m args meth c cc nL own ret) {a : Nat} {i : Int32} {pc2 : Nat} (hk : kd a = 21) (hdg : decode cc pc = .ok (.faload, 1)) (hp : pc + 1 = pc2) (kk : OX G p l e R s m args below meth c nL cells slots Z o pc2 L (.float (M.2 a i.toNatClampNeg) :: st) M) : OX G p l e R s m args below meth c nL cells slots Z (asr (inb i (ln a)) o) pc L (.int i :: rv G a :: st) M := by
  subst hp
  exact x_asr fun hb r hr H locs ls hl hP hS => va_fald C.1 C.2.1 C.2.2.2.2.2.1 hP a 1 (at_f hk) rfl (inb_in hb) hdg (kk r hr H locs ls hl hP hS)
theorem x_iast (C : Cx G p s m args meth c cc nL own ret) {a : Nat} {i x : Int32} {q : Mem → Option β} {pc2 : Nat} (hk : kd a = 20) (hdg : decode cc pc = .ok (.iastore, 1)) (hp : pc + 1 = pc2) (kk : ∀ M1, OX G p l e R s m args below meth c nL cells slots Z (q M1) pc2 L st M1) : OX G p l e R s m args below meth c nL cells slots Z (asr (inb i (ln a)) (bnd (w1 M a i.toNatClampNeg x) q)) pc L (.int x :: .int i :: rv G a :: st) M := by
  subst hp
  refine x_asr fun hb r hr H locs ls hl hP hS => va_iast C.1 C.2.1 C.2.2.2.2.2.1 hP (wo_D G M) hS a 0 (at_i hk) rfl (inb_in hb) hdg (fun H1 locs1 hP1 _ hS1 => ?_)
  rw [wo_set (M' := w1 M a i.toNatClampNeg x) (kd_lt (by omega)) (by rw [cel_i hk, w1_self]) w1_other] at hP1
  exact kk _ r hr H1 locs1 ls hl hP1 hS1
theorem x_cast (C : Cx G p s m args meth c cc nL own ret) {a : Nat} {i x : Int32} {q : Mem → Option β} {pc2 : Nat} (hk : kd a = 22) (hdg : decode cc pc = .ok (.castore, 1)) (hp : pc + 1 = pc2) (kk : ∀ M1, OX G p l e R s m args below meth c nL cells slots Z (q M1) pc2 L st M1) : OX G p l e R s m args below meth c nL cells slots Z (asr (inb i (ln a)) (bnd (w1 M a i.toNatClampNeg (vp_nar .char x)) q)) pc L (.int x :: .int i :: rv G a :: st) M := by
  subst hp
  refine x_asr fun hb r hr H locs ls hl hP hS => va_cast C.1 C.2.1 C.2.2.2.2.2.1 hP (wo_D G M) hS a 2 (at_c hk) rfl (inb_in hb) hdg (fun H1 locs1 hP1 _ hS1 => ?_)
  rw [wo_set (M' := w1 M a i.toNatClampNeg (vp_nar .char x)) (kd_lt (by omega)) (by rw [cel_c hk, w1_self]) w1_other] at hP1
  exact kk _ r hr H1 locs1 ls hl hP1 hS1
theorem x_fast (C : Cx G p s m args meth c cc nL own ret) {a : Nat} {i : Int32} {x : UInt32} {q : Mem → Option β} {pc2 : Nat} (hk : kd a = 21) (hdg : decode cc pc = .ok (.fastore, 1)) (hp : pc + 1 = pc2) (kk : ∀ M1, OX G p l e R s m args below meth c nL cells slots Z (q M1) pc2 L st M1) : OX G p l e R s m args below meth c nL cells slots Z (asr (inb i (ln a)) (bnd (w2 M a i.toNatClampNeg x) q)) pc L (.float x :: .int i :: rv G a :: st) M := by
  subst hp
  refine x_asr fun hb r hr H locs ls hl hP hS => va_fast C.1 C.2.1 C.2.2.2.2.2.1 hP (wo_D G M) hS a 1 (at_f hk) rfl (inb_in hb) hdg (fun H1 locs1 hP1 _ hS1 => ?_)
  rw [wo_set (M' := w2 M a i.toNatClampNeg x) (kd_lt (by omega)) (by rw [cel_f hk, w2_self]) w2_other] at hP1
  exact kk _ r hr H1 locs1 ls hl hP1 hS1
theorem x_alen (C : Cx G p s m args meth c cc nL own ret) {a : Nat} {pc2 : Nat} (hk : kd a = 20) (hdg : decode cc pc = .ok (.arraylength, 1)) (hp : pc + 1 = pc2) (kk : OX G p l e R s m args below meth c nL cells slots Z o pc2 L (.int (nI (ln a)) :: st) M) : OX G p l e R s m args below meth c nL cells slots Z o pc L (rv G a :: st) M := by
  subst hp
  exact fun r hr H locs ls hl hP hS => va_alen C.1 C.2.1 C.2.2.2.2.2.1 hP a 0 (at_i hk) (ty := .int) rfl rfl hdg (kk r hr H locs ls hl hP hS)
theorem x_calen (C : Cx G p s m args meth c cc nL own ret) {a : Nat} {pc2 : Nat} (hk : kd a = 22) (hdg : decode cc pc = .ok (.arraylength, 1)) (hp : pc + 1 = pc2) (kk : OX G p l e R s m args below meth c nL cells slots Z o pc2 L (.int (nI (ln a)) :: st) M) : OX G p l e R s m args below meth c nL cells slots Z o pc L (rv G a :: st) M := by
  subst hp
  exact fun r hr H locs ls hl hP hS => va_alen C.1 C.2.1 C.2.2.2.2.2.1 hP a 2 (at_c hk) (ty := .char) rfl rfl hdg (kk r hr H locs ls hl hP hS)
/-- the static array -/
theorem x_gets (C : Cx G p s m args meth c cc nL own ret) {ix pc2 : Nat} (hw : Cond.fieldLink own ix "BlanketKeys$Settings" "LEAST_TOO_MUCH" "[I" ∈ TT) (hdg : decode cc pc = .ok (.getstatic ix, 3)) (hp : pc + 3 = pc2) (kk : OX G p l e R s m args below meth c nL cells slots Z o pc2 L (.ref G.2.2.2.2.2 :: st) M) : OX G p l e R s m args below meth c nL cells slots Z o pc L st M := by
  subst hp
  exact fun r hr H locs ls hl hP hS => va_gets C.1 C.2.1 C.2.2.2.2.2.2.1 hS C.2.2.2.1 (C.2.2.2.2.1 _ hw) (fun _ h => h) hdg (kk r hr H locs ls hl hP hS)
theorem x_slen (C : Cx G p s m args meth c cc nL own ret) {pc2 : Nat} (hdg : decode cc pc = .ok (.arraylength, 1)) (hp : pc + 1 = pc2) (kk : OX G p l e R s m args below meth c nL cells slots Z o pc2 L (.int 3 :: st) M) : OX G p l e R s m args below meth c nL cells slots Z o pc L (.ref G.2.2.2.2.2 :: st) M := by
  subst hp
  exact fun r hr H locs ls hl hP hS => va_tlen C.1 C.2.1 C.2.2.2.2.2.2.2.1 hS rfl hdg (kk r hr H locs ls hl hP hS)
theorem x_sld (C : Cx G p s m args meth c cc nL own ret) {i : Int32} {pc2 : Nat} (hdg : decode cc pc = .ok (.iaload, 1)) (hp : pc + 1 = pc2) (kk : OX G p l e R s m args below meth c nL cells slots Z o pc2 L (.int (lm i.toNatClampNeg) :: st) M) : OX G p l e R s m args below meth c nL cells slots Z (asr (inb i 3) o) pc L (.int i :: .ref G.2.2.2.2.2 :: st) M := by
  subst hp
  exact x_asr fun hb r hr H locs ls hl hP hS => va_ti C.1 C.2.1 C.2.2.2.2.2.2.2.1 hS (inb_in hb) rfl hdg (kk r hr H locs ls hl hP hS)
/-! calls -/
/-- a call's words: V an instance method of its own class, S a static one -/
def CLV (own : String) (ix : Nat) (y : MethodName) (bytes : ByteArray) (maxL : Nat) (ret : Option FieldType) (n : Nat) : Prop := Cond.methodLink own ix y ∈ TT ∧ Cond.instanceMethod y ∈ TT ∧ Cond.selects y.cls y y ∈ TT ∧ Cond.initialized y.cls ∈ TT ∧ Cond.code y bytes maxL ret ∈ TT ∧ (y.cls ≠ "java/lang/invoke/MethodHandle" ∧ y.cls ≠ "java/lang/invoke/VarHandle" ∧ (parseMethodDescriptor y.desc).map (fun d => d.parameters.length) = some n)
def CLS (own : String) (ix : Nat) (y : MethodName) (bytes : ByteArray) (maxL : Nat) (ret : Option FieldType) (n : Nat) : Prop := Cond.methodLink own ix y ∈ TT ∧ Cond.static y ∈ TT ∧ Cond.initialized y.cls ∈ TT ∧ Cond.code y bytes maxL ret ∈ TT ∧ (y.cls ≠ "java/lang/invoke/MethodHandle" ∧ y.cls ≠ "java/lang/invoke/VarHandle" ∧ (parseMethodDescriptor y.desc).map (fun d => d.parameters.length) = some n)
theorem gV {own : String} {ix : Nat} {y : MethodName} {bytes : ByteArray} {maxL n : Nat} {ret : Option FieldType} (F : CLV own ix y bytes maxL ret n) : GoodIn TT (wsV own ix y.cls y (Cond.code y bytes maxL ret :: TT)) := by
  intro w hw
  obtain ⟨h1, h2, h3, h4, h5, -⟩ := F
  rcases List.mem_append.mp hw with h | h
  · simp only [List.mem_cons, List.not_mem_nil, or_false] at h
    rcases h with rfl | rfl | rfl | rfl
    · exact TTg _ h1
    · exact TTg _ h2
    · exact TTg _ h3
    · exact TTg _ h4
  · rcases List.mem_cons.mp h with rfl | h
    · exact TTg _ h5
    · exact TTg _ h
theorem gS {own : String} {ix : Nat} {y : MethodName} {bytes : ByteArray} {maxL n : Nat} {ret : Option FieldType} (F : CLS own ix y bytes maxL ret n) : GoodIn TT (va_wsS own ix y (Cond.code y bytes maxL ret :: TT)) := by
  intro w hw
  obtain ⟨h1, h2, h3, h4, -⟩ := F
  rcases List.mem_append.mp hw with h | h
  · simp only [List.mem_cons, List.not_mem_nil, or_false] at h
    rcases h with rfl | rfl | rfl
    · exact TTg _ h1
    · exact TTg _ h2
    · exact TTg _ h3
  · rcases List.mem_cons.mp h with rfl | h
    · exact TTg _ h4
    · exact TTg _ h
/-- behind any call -/
theorem x_run {γ : Type} {x : Option (γ × Mem)} {k : γ → Mem → Option β} {vl : γ → Option Value} {pc2 : Nat} {rest : List Value} (hp : pc + 3 = pc2)
    (hrun : ∀ q, x = some q → ∀ (H : Heap) (locs : List Loc) (ls : Array Slot), lh ls nL L → va_P G.2.1 vwCl (wo G M) H → va_S (An G) s.heap H locs → va_Run p l e R s m args below meth c H locs cells slots 0 0 (F0 m pc ls st) rest (fun st0 oc t => QQ G (vl q.1) q.2 #[] st0 oc t) (An G))
    (kk : ∀ v M1, OX G p l e R s m args below meth c nL cells slots Z (k v M1) pc2 L ((vl v).toList ++ rest) M1) : OX G p l e R s m args below meth c nL cells slots Z (cal x k) pc L st M := by
  subst hp
  intro r hr H locs ls hl hP hS
  obtain ⟨v, M1, hx, hk⟩ := cal_some hr
  intro T hT X
  obtain ⟨v', st₀, t, T', Lc, h0, X', hL, e1, e2, ⟨hv, hP1, hz, hq⟩, st⟩ := hrun _ hx H locs ls hl hP hS T hT X
  cases hv
  rw [h0] at hz hq
  obtain ⟨t2, a1, b1⟩ := kk v M1 r hk T'.heap (locs ++ Lc) ls hl (by rw [e1]; exact hP1)
    ⟨Nat.le_trans hS.1 (by rw [e1]; exact hz), fun q h1 h2 => by rw [e1, hq q (Nat.lt_of_lt_of_le h1 hS.1) h2]; exact hS.2.1 q h1 h2, fun q hq => by
      rcases List.mem_append.mp hq with h | h
      · exact hS.2.2 q h
      · exact hL q h⟩ T' rfl X'
  exact ⟨t2, st t2 a1, b1⟩
theorem x_pre (C : Cx G p s m args meth c cc nL own ret) {H : Heap} {locs : List Loc} (hP : va_P G.2.1 vwCl (wo G M) H) (hS : va_S (An G) s.heap H locs) {av : List Value} : ∀ U : State, U.heap = H → s.WarmedH U.vm → va_Pc av (Wd G M) av.toArray U := by
  intro U hU hW
  refine ⟨rfl, by rw [hU]; exact hP, va_K.moved hW.alike C.2.2.2.2.2.1, ?_, ?_⟩
  · rw [hU]
    exact va_Z.moved hW.alike (C.2.2.2.2.2.2.1.kept (fun a h1 h2 => hS.2.1 a h1 h2))
  · rw [hU]
    exact va_T.moved hW.alike (C.2.2.2.2.2.2.2.1.kept (fun a h1 h2 => hS.2.1 a h1 h2))
theorem x_callV (C : Cx G p s m args meth c cc nL own ret) {γ : Type} {x : Option (γ × Mem)} {k : γ → Mem → Option β} {vl : γ → Option Value} {ix n b ci maxL2 pc2 N : Nat} {y : MethodName} {bytes : ByteArray} {ret2 : Option FieldType} {rm : Room} {T : u_T} (As rest : List Value) (F : CLV own ix y bytes maxL2 ret2 n) (hM : ∀ q, x = some q → Met l y (Cond.code y bytes maxL2 ret2 :: TT) rm (va_Pc (rv G b :: As) (Wd G M)) (QQ G (vl q.1) q.2) 0 0 (An G)) (hk : kd b = ci) (hcl : vwCl[ci]? = some (y.cls, T, N)) (hst : st = As.reverse ++ rv G b :: rest) (hn : As.length = n) (hR : rm.cells = 0 ∧ rm.slots = 0 ∧ rm.frames + 1 ≤ R.frames ∧ 8 + (maxL2 + 11) + rm.locals ≤ R.locals) (hcat : (rest.map fun v => v.category).sum ≤ 8) (hcs : cells ≤ R.cells ∧ slots ≤ R.slots) (hdg : decode cc pc = .ok (.invokevirtual ix, 3)) (hp : pc + 3 = pc2)
    (kk : ∀ v M1, OX G p l e R s m args below meth c nL cells slots Z (k v M1) pc2 L ((vl v).toList ++ rest) M1) : OX G p l e R s m args below meth c nL cells slots Z (cal x k) pc L st M := by
  have hc : ci < 20 := by
    have : ci < vwCl.length := (List.getElem?_eq_some_iff.mp hcl).1
    have e : vwCl.length = 9 := rfl
    omega
  refine x_run (vl := vl) hp (fun q hq H locs ls hl hP hS => ?_) kk
  exact va_runV (As := As) (rest := rest) (b := G.1 + b) ⟨C.1, C.2.1, C.2.2.1, C.2.2.2.1, C.2.2.2.2.1⟩ (hM q hq) (cwV n C.2.2.2.2.1 (gV F) rfl hR.1 hR.2.1 ⟨rfl, F.2.2.2.2.2⟩ hR.2.2) ⟨wd_blind G M _, va_recv C.2.2.2.2.2.1 hP hcl (at_o hk hc), x_pre C hP hS⟩ rfl hn hl.1 hst (lv_room hcat) hdg hcs
theorem x_callS (C : Cx G p s m args meth c cc nL own ret) {γ : Type} {x : Option (γ × Mem)} {k : γ → Mem → Option β} {vl : γ → Option Value} {ix n maxL2 pc2 : Nat} {y : MethodName} {bytes : ByteArray} {ret2 : Option FieldType} {rm : Room} (As rest : List Value) (F : CLS own ix y bytes maxL2 ret2 n) (hM : ∀ q, x = some q → Met l y (Cond.code y bytes maxL2 ret2 :: TT) rm (va_Pc As (Wd G M)) (QQ G (vl q.1) q.2) 0 0 (An G)) (hst : st = As.reverse ++ rest) (hn : As.length = n) (hR : rm.cells = 0 ∧ rm.slots = 0 ∧ rm.frames + 1 ≤ R.frames ∧ 8 + (maxL2 + 11) + rm.locals ≤ R.locals) (hcat : (rest.map fun v => v.category).sum ≤ 8) (hcs : cells ≤ R.cells ∧ slots ≤ R.slots) (hdg : decode cc pc = .ok (.invokestatic ix, 3)) (hp : pc + 3 = pc2)
    (kk : ∀ v M1, OX G p l e R s m args below meth c nL cells slots Z (k v M1) pc2 L ((vl v).toList ++ rest) M1) : OX G p l e R s m args below meth c nL cells slots Z (cal x k) pc L st M := by
  refine x_run (vl := vl) hp (fun q hq H locs ls hl hP hS => ?_) kk
  exact va_runS (As := As) (rest := rest) ⟨C.1, C.2.1, C.2.2.1, C.2.2.2.1, C.2.2.2.2.1⟩ (hM q hq) (va_cwS n C.2.2.2.2.1 (gS F) rfl hR.1 hR.2.1 F.2.2.2.2 hR.2.2) ⟨wd_blind G M _, x_pre C hP hS⟩ rfl hn hl.1 hst (lv_room hcat) hdg hcs
/-! ends -/
theorem x_iret (C : Cx G p s m args meth c cc nL own ret) {vl : Int32 → Option Value} {x : Int32} (hvl : vl = fun v => some (.int v)) (hr0 : ret = some .int) (hdg : decode cc pc = .ok (.ireturn, 1)) : OX G p l e R s m args below meth c nL 0 0 (Zm vl G below args s) (some (x, M)) pc L [.int x] M := by
  subst hvl
  intro r hr H locs ls hl hP hS
  cases hr
  exact W.iret (v := x) C.1 C.2.1 (C.2.2.2.2.2.2.2.2.1.trans hr0) (fun t ht hW => ⟨rfl, by rw [ht]; exact hP, hS.F ht⟩) hS.2.2 hdg C.2.2.2.2.2.2.2.2.2
theorem x_zret (C : Cx G p s m args meth c cc nL own ret) {vl : Int32 → Option Value} {x : Int32} {ty : FieldType} (hvl : vl = fun v => some (.int v)) (hr0 : ret = some ty) (hn : narrow ty (.int x) = .int x) (hdg : decode cc pc = .ok (.ireturn, 1)) : OX G p l e R s m args below meth c nL 0 0 (Zm vl G below args s) (some (x, M)) pc L [.int x] M := by
  subst hvl
  intro r hr H locs ls hl hP hS
  cases hr
  exact W.zret (v := x) C.1 C.2.1 (C.2.2.2.2.2.2.2.2.1.trans hr0) hn (fun t ht hW => ⟨rfl, by rw [ht]; exact hP, hS.F ht⟩) hS.2.2 hdg C.2.2.2.2.2.2.2.2.2
/-- a char that is one -/
def chb (x : Int32) : Bool := decide (vp_nar .char x = x)
theorem x_cret (C : Cx G p s m args meth c cc nL own ret) {vl : Int32 → Option Value} {x : Int32} (hvl : vl = fun v => some (.int v)) (hr0 : ret = some .char) (hdg : decode cc pc = .ok (.ireturn, 1)) : OX G p l e R s m args below meth c nL 0 0 (Zm vl G below args s) (asr (chb x) (some (x, M))) pc L [.int x] M :=
  x_asr fun hb => x_zret C hvl hr0 (by
    have h := of_decide_eq_true hb
    simp only [vp_nar, narrow] at h ⊢
    rw [h]) hdg
theorem x_fret (C : Cx G p s m args meth c cc nL own ret) {vl : UInt32 → Option Value} {x : UInt32} (hvl : vl = fun v => some (.float v)) (hr0 : ret = some .float) (hdg : decode cc pc = .ok (.freturn, 1)) : OX G p l e R s m args below meth c nL 0 0 (Zm vl G below args s) (some (x, M)) pc L [.float x] M := by
  subst hvl
  intro r hr H locs ls hl hP hS
  cases hr
  exact W.fret (v := x) C.1 C.2.1 (C.2.2.2.2.2.2.2.2.1.trans hr0) (fun t ht hW => ⟨rfl, by rw [ht]; exact hP, hS.F ht⟩) hS.2.2 hdg C.2.2.2.2.2.2.2.2.2
theorem x_vret (C : Cx G p s m args meth c cc nL own ret) {vl : Unit → Option Value} (hvl : vl = fun _ => none) (hr0 : ret = none) (hdg : decode cc pc = .ok (.return_, 1)) : OX G p l e R s m args below meth c nL 0 0 (Zm vl G below args s) (some ((), M)) pc L [] M := by
  subst hvl
  intro r hr H locs ls hl hP hS
  cases hr
  exact W.vret C.1 C.2.1 (C.2.2.2.2.2.2.2.2.1.trans hr0) (fun t ht hW => ⟨rfl, by rw [ht]; exact hP, hS.F ht⟩) hS.2.2 hdg C.2.2.2.2.2.2.2.2.2
end ROWS
end
