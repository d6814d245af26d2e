-- ===== PART A: goes FIRST, ahead of the names: the tables' words, and 'selects' of the private methods out of them =====
/-- a private method of a class that the tables say can be made, by its rows of tables_1 -/
def lw_okq (q : MethodName × Nat) : Prop := (q.1.cls ≠ "java/lang/invoke/MethodHandle" ∧ q.1.cls ≠ "java/lang/invoke/VarHandle") ∧ Cond.instantiable q.1.cls q.2 ∈ tables_1 ∧ Cond.privateMethod q.1 ∈ tables_1 ∧ Cond.instanceMethod q.1 ∈ tables_1
theorem lwb_1 {w : Cond} (h : w ∈ tables_1_1) : w ∈ tables_1 := (List.mem_append_left _ h)
theorem lwb_2 {w : Cond} (h : w ∈ tables_1_2) : w ∈ tables_1 := (List.mem_append_right _ (List.mem_append_left _ h))
theorem lwb_3 {w : Cond} (h : w ∈ tables_1_3) : w ∈ tables_1 := (List.mem_append_right _ (List.mem_append_right _ (List.mem_append_left _ h)))
theorem lwb_4 {w : Cond} (h : w ∈ tables_1_4) : w ∈ tables_1 := (List.mem_append_right _ (List.mem_append_right _ (List.mem_append_right _ (List.mem_append_left _ h))))
theorem lwb_5 {w : Cond} (h : w ∈ tables_1_5) : w ∈ tables_1 := (List.mem_append_right _ (List.mem_append_right _ (List.mem_append_right _ (List.mem_append_right _ (List.mem_append_left _ h)))))
theorem lwb_6 {w : Cond} (h : w ∈ tables_1_6) : w ∈ tables_1 := (List.mem_append_right _ (List.mem_append_right _ (List.mem_append_right _ (List.mem_append_right _ (List.mem_append_right _ (List.mem_append_left _ h))))))
theorem lwb_7 {w : Cond} (h : w ∈ tables_1_7) : w ∈ tables_1 := (List.mem_append_right _ (List.mem_append_right _ (List.mem_append_right _ (List.mem_append_right _ (List.mem_append_right _ (List.mem_append_right _ (List.mem_append_left _ h)))))))
theorem lwb_8 {w : Cond} (h : w ∈ tables_1_8) : w ∈ tables_1 := (List.mem_append_right _ (List.mem_append_right _ (List.mem_append_right _ (List.mem_append_right _ (List.mem_append_right _ (List.mem_append_right _ (List.mem_append_right _ (List.mem_append_left _ h))))))))
theorem lwb_9 {w : Cond} (h : w ∈ tables_1_9) : w ∈ tables_1 := (List.mem_append_right _ (List.mem_append_right _ (List.mem_append_right _ (List.mem_append_right _ (List.mem_append_right _ (List.mem_append_right _ (List.mem_append_right _ (List.mem_append_right _ h))))))))
theorem lw_p0 : lw_okq (⟨"GrassPark", "tapeTellsPark", "(II)Z"⟩, 16) := ⟨⟨by decide +kernel, by decide +kernel⟩, lwb_1 (List.mem_of_getElem? (i := 26) (by decide +kernel)), lwb_3 (List.mem_of_getElem? (i := 99) (by decide +kernel)), lwb_3 (List.mem_of_getElem? (i := 100) (by decide +kernel))⟩
theorem lw_p1 : lw_okq (⟨"GrassPark", "isCell", "(I)Z"⟩, 16) := ⟨⟨by decide +kernel, by decide +kernel⟩, lwb_1 (List.mem_of_getElem? (i := 26) (by decide +kernel)), lwb_3 (List.mem_of_getElem? (i := 117) (by decide +kernel)), lwb_3 (List.mem_of_getElem? (i := 118) (by decide +kernel))⟩
theorem lw_p2 : lw_okq (⟨"GrassPark$Reader", "findTokens", "()V"⟩, 14) := ⟨⟨by decide +kernel, by decide +kernel⟩, lwb_1 (List.mem_of_getElem? (i := 53) (by decide +kernel)), lwb_3 (List.mem_of_getElem? (i := 142) (by decide +kernel)), lwb_3 (List.mem_of_getElem? (i := 143) (by decide +kernel))⟩
theorem lw_p3 : lw_okq (⟨"GrassPark$Reader", "tokenAt", "(I)I"⟩, 14) := ⟨⟨by decide +kernel, by decide +kernel⟩, lwb_1 (List.mem_of_getElem? (i := 53) (by decide +kernel)), lwb_3 (List.mem_of_getElem? (i := 149) (by decide +kernel)), lwb_3 (List.mem_of_getElem? (i := 150) (by decide +kernel))⟩
theorem lw_p4 : lw_okq (⟨"GrassPark$Reader", "signAt", "(I)I"⟩, 14) := ⟨⟨by decide +kernel, by decide +kernel⟩, lwb_1 (List.mem_of_getElem? (i := 53) (by decide +kernel)), lwb_3 (List.mem_of_getElem? (i := 154) (by decide +kernel)), lwb_3 (List.mem_of_getElem? (i := 155) (by decide +kernel))⟩
theorem lw_p5 : lw_okq (⟨"GrassPark$Reader", "fail", "(I)Z"⟩, 14) := ⟨⟨by decide +kernel, by decide +kernel⟩, lwb_1 (List.mem_of_getElem? (i := 53) (by decide +kernel)), lwb_3 (List.mem_of_getElem? (i := 161) (by decide +kernel)), lwb_3 (List.mem_of_getElem? (i := 162) (by decide +kernel))⟩
theorem lw_p6 : lw_okq (⟨"GrassPark$Reader", "line", "()Z"⟩, 14) := ⟨⟨by decide +kernel, by decide +kernel⟩, lwb_1 (List.mem_of_getElem? (i := 53) (by decide +kernel)), lwb_3 (List.mem_of_getElem? (i := 165) (by decide +kernel)), lwb_3 (List.mem_of_getElem? (i := 166) (by decide +kernel))⟩
theorem lw_p7 : lw_okq (⟨"GrassPark$Reader", "among", "(Ljava/lang/String;)I"⟩, 14) := ⟨⟨by decide +kernel, by decide +kernel⟩, lwb_1 (List.mem_of_getElem? (i := 53) (by decide +kernel)), lwb_3 (List.mem_of_getElem? (i := 171) (by decide +kernel)), lwb_3 (List.mem_of_getElem? (i := 172) (by decide +kernel))⟩
theorem lw_p8 : lw_okq (⟨"GrassPark$Reader", "goOn", "()V"⟩, 14) := ⟨⟨by decide +kernel, by decide +kernel⟩, lwb_1 (List.mem_of_getElem? (i := 53) (by decide +kernel)), lwb_3 (List.mem_of_getElem? (i := 223) (by decide +kernel)), lwb_3 (List.mem_of_getElem? (i := 224) (by decide +kernel))⟩
theorem lw_p9 : lw_okq (⟨"GrassPark$Reader", "weighed", "(I)Z"⟩, 14) := ⟨⟨by decide +kernel, by decide +kernel⟩, lwb_1 (List.mem_of_getElem? (i := 53) (by decide +kernel)), lwb_3 (List.mem_of_getElem? (i := 227) (by decide +kernel)), lwb_3 (List.mem_of_getElem? (i := 228) (by decide +kernel))⟩
theorem lw_p10 : lw_okq (⟨"GrassPark$Reader", "numbered", "(II)Z"⟩, 14) := ⟨⟨by decide +kernel, by decide +kernel⟩, lwb_1 (List.mem_of_getElem? (i := 53) (by decide +kernel)), lwb_3 (List.mem_of_getElem? (i := 232) (by decide +kernel)), lwb_3 (List.mem_of_getElem? (i := 233) (by decide +kernel))⟩
theorem lw_p11 : lw_okq (⟨"GrassPark$Reader", "cond", "(I)Z"⟩, 14) := ⟨⟨by decide +kernel, by decide +kernel⟩, lwb_1 (List.mem_of_getElem? (i := 53) (by decide +kernel)), lwb_3 (List.mem_of_getElem? (i := 237) (by decide +kernel)), lwb_3 (List.mem_of_getElem? (i := 238) (by decide +kernel))⟩
theorem lw_p12 : lw_okq (⟨"GrassPark$Reader", "all", "(I)Z"⟩, 14) := ⟨⟨by decide +kernel, by decide +kernel⟩, lwb_1 (List.mem_of_getElem? (i := 53) (by decide +kernel)), lwb_4 (List.mem_of_getElem? (i := 1) (by decide +kernel)), lwb_4 (List.mem_of_getElem? (i := 2) (by decide +kernel))⟩
theorem lw_p13 : lw_okq (⟨"GrassPark$Reader", "one", "(I)Z"⟩, 14) := ⟨⟨by decide +kernel, by decide +kernel⟩, lwb_1 (List.mem_of_getElem? (i := 53) (by decide +kernel)), lwb_4 (List.mem_of_getElem? (i := 5) (by decide +kernel)), lwb_4 (List.mem_of_getElem? (i := 6) (by decide +kernel))⟩
theorem lw_p14 : lw_okq (⟨"GrassPark$Reader", "emit", "(III)V"⟩, 14) := ⟨⟨by decide +kernel, by decide +kernel⟩, lwb_1 (List.mem_of_getElem? (i := 53) (by decide +kernel)), lwb_4 (List.mem_of_getElem? (i := 12) (by decide +kernel)), lwb_4 (List.mem_of_getElem? (i := 13) (by decide +kernel))⟩
theorem lw_p15 : lw_okq (⟨"GrassPark$Reader", "comparison", "(I)Z"⟩, 14) := ⟨⟨by decide +kernel, by decide +kernel⟩, lwb_1 (List.mem_of_getElem? (i := 53) (by decide +kernel)), lwb_4 (List.mem_of_getElem? (i := 16) (by decide +kernel)), lwb_4 (List.mem_of_getElem? (i := 17) (by decide +kernel))⟩
def lw_privs_1 : List (MethodName × Nat) := [(⟨"GrassPark", "tapeTellsPark", "(II)Z"⟩, 16), (⟨"GrassPark", "isCell", "(I)Z"⟩, 16), (⟨"GrassPark$Reader", "findTokens", "()V"⟩, 14), (⟨"GrassPark$Reader", "tokenAt", "(I)I"⟩, 14), (⟨"GrassPark$Reader", "signAt", "(I)I"⟩, 14), (⟨"GrassPark$Reader", "fail", "(I)Z"⟩, 14), (⟨"GrassPark$Reader", "line", "()Z"⟩, 14), (⟨"GrassPark$Reader", "among", "(Ljava/lang/String;)I"⟩, 14), (⟨"GrassPark$Reader", "goOn", "()V"⟩, 14), (⟨"GrassPark$Reader", "weighed", "(I)Z"⟩, 14), (⟨"GrassPark$Reader", "numbered", "(II)Z"⟩, 14), (⟨"GrassPark$Reader", "cond", "(I)Z"⟩, 14), (⟨"GrassPark$Reader", "all", "(I)Z"⟩, 14), (⟨"GrassPark$Reader", "one", "(I)Z"⟩, 14), (⟨"GrassPark$Reader", "emit", "(III)V"⟩, 14), (⟨"GrassPark$Reader", "comparison", "(I)Z"⟩, 14)]
theorem lw_r1 : ∀ q ∈ lw_privs_1, lw_okq q := List.forall_mem_cons.mpr ⟨lw_p0, List.forall_mem_cons.mpr ⟨lw_p1, List.forall_mem_cons.mpr ⟨lw_p2, List.forall_mem_cons.mpr ⟨lw_p3, List.forall_mem_cons.mpr ⟨lw_p4, List.forall_mem_cons.mpr ⟨lw_p5, List.forall_mem_cons.mpr ⟨lw_p6, List.forall_mem_cons.mpr ⟨lw_p7, List.forall_mem_cons.mpr ⟨lw_p8, List.forall_mem_cons.mpr ⟨lw_p9, List.forall_mem_cons.mpr ⟨lw_p10, List.forall_mem_cons.mpr ⟨lw_p11, List.forall_mem_cons.mpr ⟨lw_p12, List.forall_mem_cons.mpr ⟨lw_p13, List.forall_mem_cons.mpr ⟨lw_p14, List.forall_mem_cons.mpr ⟨lw_p15, fun _ h => absurd h List.not_mem_nil⟩⟩⟩⟩⟩⟩⟩⟩⟩⟩⟩⟩⟩⟩⟩⟩
theorem lw_p16 : lw_okq (⟨"GrassPark", "readingEnds", "(ZLGrassPark$Text;)I"⟩, 16) := ⟨⟨by decide +kernel, by decide +kernel⟩, lwb_1 (List.mem_of_getElem? (i := 26) (by decide +kernel)), lwb_4 (List.mem_of_getElem? (i := 25) (by decide +kernel)), lwb_4 (List.mem_of_getElem? (i := 26) (by decide +kernel))⟩
theorem lw_p17 : lw_okq (⟨"GrassPark", "twoDoors", "(II)Z"⟩, 16) := ⟨⟨by decide +kernel, by decide +kernel⟩, lwb_1 (List.mem_of_getElem? (i := 26) (by decide +kernel)), lwb_4 (List.mem_of_getElem? (i := 42) (by decide +kernel)), lwb_4 (List.mem_of_getElem? (i := 43) (by decide +kernel))⟩
theorem lw_p18 : lw_okq (⟨"GrassPark", "isDoor", "(I)Z"⟩, 16) := ⟨⟨by decide +kernel, by decide +kernel⟩, lwb_1 (List.mem_of_getElem? (i := 26) (by decide +kernel)), lwb_4 (List.mem_of_getElem? (i := 46) (by decide +kernel)), lwb_4 (List.mem_of_getElem? (i := 47) (by decide +kernel))⟩
theorem lw_p19 : lw_okq (⟨"GrassPark", "isWish", "(I)Z"⟩, 16) := ⟨⟨by decide +kernel, by decide +kernel⟩, lwb_1 (List.mem_of_getElem? (i := 26) (by decide +kernel)), lwb_4 (List.mem_of_getElem? (i := 55) (by decide +kernel)), lwb_4 (List.mem_of_getElem? (i := 56) (by decide +kernel))⟩
theorem lw_p20 : lw_okq (⟨"GrassPark$Grid", "at", "(II)I"⟩, 5) := ⟨⟨by decide +kernel, by decide +kernel⟩, lwb_2 (List.mem_of_getElem? (i := 45) (by decide +kernel)), lwb_4 (List.mem_of_getElem? (i := 75) (by decide +kernel)), lwb_4 (List.mem_of_getElem? (i := 76) (by decide +kernel))⟩
theorem lw_p21 : lw_okq (⟨"GrassPark$Walk", "forget", "()V"⟩, 12) := ⟨⟨by decide +kernel, by decide +kernel⟩, lwb_2 (List.mem_of_getElem? (i := 39) (by decide +kernel)), lwb_4 (List.mem_of_getElem? (i := 80) (by decide +kernel)), lwb_4 (List.mem_of_getElem? (i := 81) (by decide +kernel))⟩
theorem lw_p22 : lw_okq (⟨"GrassPark$Walk", "begin", "()V"⟩, 12) := ⟨⟨by decide +kernel, by decide +kernel⟩, lwb_2 (List.mem_of_getElem? (i := 39) (by decide +kernel)), lwb_4 (List.mem_of_getElem? (i := 89) (by decide +kernel)), lwb_4 (List.mem_of_getElem? (i := 90) (by decide +kernel))⟩
theorem lw_p23 : lw_okq (⟨"GrassPark$Walk", "choose", "(LGrassPark$Walker;II)I"⟩, 12) := ⟨⟨by decide +kernel, by decide +kernel⟩, lwb_2 (List.mem_of_getElem? (i := 39) (by decide +kernel)), lwb_4 (List.mem_of_getElem? (i := 101) (by decide +kernel)), lwb_4 (List.mem_of_getElem? (i := 102) (by decide +kernel))⟩
theorem lw_p24 : lw_okq (⟨"GrassPark$Walk", "look", "(LGrassPark$Text;II)V"⟩, 12) := ⟨⟨by decide +kernel, by decide +kernel⟩, lwb_2 (List.mem_of_getElem? (i := 39) (by decide +kernel)), lwb_4 (List.mem_of_getElem? (i := 110) (by decide +kernel)), lwb_4 (List.mem_of_getElem? (i := 111) (by decide +kernel))⟩
theorem lw_p25 : lw_okq (⟨"GrassPark$Walk", "holds", "(LGrassPark$Text;II)Z"⟩, 12) := ⟨⟨by decide +kernel, by decide +kernel⟩, lwb_2 (List.mem_of_getElem? (i := 39) (by decide +kernel)), lwb_4 (List.mem_of_getElem? (i := 114) (by decide +kernel)), lwb_4 (List.mem_of_getElem? (i := 115) (by decide +kernel))⟩
theorem lw_p26 : lw_okq (⟨"GrassPark$Walk", "asked", "(II)I"⟩, 12) := ⟨⟨by decide +kernel, by decide +kernel⟩, lwb_2 (List.mem_of_getElem? (i := 39) (by decide +kernel)), lwb_4 (List.mem_of_getElem? (i := 118) (by decide +kernel)), lwb_4 (List.mem_of_getElem? (i := 119) (by decide +kernel))⟩
theorem lw_p27 : lw_okq (⟨"GrassPark$Walk", "weigh", "(LGrassPark$Walker;III)I"⟩, 12) := ⟨⟨by decide +kernel, by decide +kernel⟩, lwb_2 (List.mem_of_getElem? (i := 39) (by decide +kernel)), lwb_4 (List.mem_of_getElem? (i := 131) (by decide +kernel)), lwb_4 (List.mem_of_getElem? (i := 132) (by decide +kernel))⟩
theorem lw_p28 : lw_okq (⟨"GrassPark$Walk", "wornAhead", "(III)I"⟩, 12) := ⟨⟨by decide +kernel, by decide +kernel⟩, lwb_2 (List.mem_of_getElem? (i := 39) (by decide +kernel)), lwb_4 (List.mem_of_getElem? (i := 141) (by decide +kernel)), lwb_4 (List.mem_of_getElem? (i := 142) (by decide +kernel))⟩
theorem lw_p29 : lw_okq (⟨"GrassPark$Walk", "tread", "(I)V"⟩, 12) := ⟨⟨by decide +kernel, by decide +kernel⟩, lwb_2 (List.mem_of_getElem? (i := 39) (by decide +kernel)), lwb_4 (List.mem_of_getElem? (i := 153) (by decide +kernel)), lwb_4 (List.mem_of_getElem? (i := 154) (by decide +kernel))⟩
theorem lw_p30 : lw_okq (⟨"GrassPark$Walk", "firstNumber", "(III)I"⟩, 12) := ⟨⟨by decide +kernel, by decide +kernel⟩, lwb_2 (List.mem_of_getElem? (i := 39) (by decide +kernel)), lwb_4 (List.mem_of_getElem? (i := 157) (by decide +kernel)), lwb_4 (List.mem_of_getElem? (i := 158) (by decide +kernel))⟩
theorem lw_p31 : lw_okq (⟨"GrassPark$Walk", "leaveIfDone", "(LGrassPark$Walker;I)V"⟩, 12) := ⟨⟨by decide +kernel, by decide +kernel⟩, lwb_2 (List.mem_of_getElem? (i := 39) (by decide +kernel)), lwb_4 (List.mem_of_getElem? (i := 162) (by decide +kernel)), lwb_4 (List.mem_of_getElem? (i := 163) (by decide +kernel))⟩
def lw_privs_2 : List (MethodName × Nat) := [(⟨"GrassPark", "readingEnds", "(ZLGrassPark$Text;)I"⟩, 16), (⟨"GrassPark", "twoDoors", "(II)Z"⟩, 16), (⟨"GrassPark", "isDoor", "(I)Z"⟩, 16), (⟨"GrassPark", "isWish", "(I)Z"⟩, 16), (⟨"GrassPark$Grid", "at", "(II)I"⟩, 5), (⟨"GrassPark$Walk", "forget", "()V"⟩, 12), (⟨"GrassPark$Walk", "begin", "()V"⟩, 12), (⟨"GrassPark$Walk", "choose", "(LGrassPark$Walker;II)I"⟩, 12), (⟨"GrassPark$Walk", "look", "(LGrassPark$Text;II)V"⟩, 12), (⟨"GrassPark$Walk", "holds", "(LGrassPark$Text;II)Z"⟩, 12), (⟨"GrassPark$Walk", "asked", "(II)I"⟩, 12), (⟨"GrassPark$Walk", "weigh", "(LGrassPark$Walker;III)I"⟩, 12), (⟨"GrassPark$Walk", "wornAhead", "(III)I"⟩, 12), (⟨"GrassPark$Walk", "tread", "(I)V"⟩, 12), (⟨"GrassPark$Walk", "firstNumber", "(III)I"⟩, 12), (⟨"GrassPark$Walk", "leaveIfDone", "(LGrassPark$Walker;I)V"⟩, 12)]
theorem lw_r2 : ∀ q ∈ lw_privs_2, lw_okq q := List.forall_mem_cons.mpr ⟨lw_p16, List.forall_mem_cons.mpr ⟨lw_p17, List.forall_mem_cons.mpr ⟨lw_p18, List.forall_mem_cons.mpr ⟨lw_p19, List.forall_mem_cons.mpr ⟨lw_p20, List.forall_mem_cons.mpr ⟨lw_p21, List.forall_mem_cons.mpr ⟨lw_p22, List.forall_mem_cons.mpr ⟨lw_p23, List.forall_mem_cons.mpr ⟨lw_p24, List.forall_mem_cons.mpr ⟨lw_p25, List.forall_mem_cons.mpr ⟨lw_p26, List.forall_mem_cons.mpr ⟨lw_p27, List.forall_mem_cons.mpr ⟨lw_p28, List.forall_mem_cons.mpr ⟨lw_p29, List.forall_mem_cons.mpr ⟨lw_p30, List.forall_mem_cons.mpr ⟨lw_p31, fun _ h => absurd h List.not_mem_nil⟩⟩⟩⟩⟩⟩⟩⟩⟩⟩⟩⟩⟩⟩⟩⟩
theorem lw_p32 : lw_okq (⟨"GrassPark$Walk", "sweep", "()V"⟩, 12) := ⟨⟨by decide +kernel, by decide +kernel⟩, lwb_2 (List.mem_of_getElem? (i := 39) (by decide +kernel)), lwb_4 (List.mem_of_getElem? (i := 166) (by decide +kernel)), lwb_4 (List.mem_of_getElem? (i := 167) (by decide +kernel))⟩
theorem lw_p33 : lw_okq (⟨"GrassPark$Net", "spread", "([III)V"⟩, 5) := ⟨⟨by decide +kernel, by decide +kernel⟩, lwb_2 (List.mem_of_getElem? (i := 203) (by decide +kernel)), lwb_4 (List.mem_of_getElem? (i := 221) (by decide +kernel)), lwb_4 (List.mem_of_getElem? (i := 222) (by decide +kernel))⟩
theorem lw_p34 : lw_okq (⟨"GrassPark$Net", "cheaper", "([IIII)Z"⟩, 5) := ⟨⟨by decide +kernel, by decide +kernel⟩, lwb_2 (List.mem_of_getElem? (i := 203) (by decide +kernel)), lwb_4 (List.mem_of_getElem? (i := 225) (by decide +kernel)), lwb_4 (List.mem_of_getElem? (i := 226) (by decide +kernel))⟩
theorem lw_p35 : lw_okq (⟨"GrassPark", "openCase", "()V"⟩, 16) := ⟨⟨by decide +kernel, by decide +kernel⟩, lwb_1 (List.mem_of_getElem? (i := 26) (by decide +kernel)), lwb_4 (List.mem_of_getElem? (i := 234) (by decide +kernel)), lwb_4 (List.mem_of_getElem? (i := 235) (by decide +kernel))⟩
theorem lw_p36 : lw_okq (⟨"GrassPark", "oneWeek", "(I)V"⟩, 16) := ⟨⟨by decide +kernel, by decide +kernel⟩, lwb_1 (List.mem_of_getElem? (i := 26) (by decide +kernel)), lwb_5 (List.mem_of_getElem? (i := 18) (by decide +kernel)), lwb_5 (List.mem_of_getElem? (i := 19) (by decide +kernel))⟩
theorem lw_p37 : lw_okq (⟨"GrassPark", "leastOfTape", "()I"⟩, 16) := ⟨⟨by decide +kernel, by decide +kernel⟩, lwb_1 (List.mem_of_getElem? (i := 26) (by decide +kernel)), lwb_5 (List.mem_of_getElem? (i := 37) (by decide +kernel)), lwb_5 (List.mem_of_getElem? (i := 38) (by decide +kernel))⟩
theorem lw_p38 : lw_okq (⟨"GrassPark$Net", "meet", "(II)V"⟩, 5) := ⟨⟨by decide +kernel, by decide +kernel⟩, lwb_2 (List.mem_of_getElem? (i := 203) (by decide +kernel)), lwb_5 (List.mem_of_getElem? (i := 48) (by decide +kernel)), lwb_5 (List.mem_of_getElem? (i := 49) (by decide +kernel))⟩
theorem lw_p39 : lw_okq (⟨"GrassPark$Net", "shortest", "(II)I"⟩, 5) := ⟨⟨by decide +kernel, by decide +kernel⟩, lwb_2 (List.mem_of_getElem? (i := 203) (by decide +kernel)), lwb_5 (List.mem_of_getElem? (i := 60) (by decide +kernel)), lwb_5 (List.mem_of_getElem? (i := 61) (by decide +kernel))⟩
theorem lw_p40 : lw_okq (⟨"GrassPark", "pavingTold", "(II)Z"⟩, 16) := ⟨⟨by decide +kernel, by decide +kernel⟩, lwb_1 (List.mem_of_getElem? (i := 26) (by decide +kernel)), lwb_5 (List.mem_of_getElem? (i := 76) (by decide +kernel)), lwb_5 (List.mem_of_getElem? (i := 77) (by decide +kernel))⟩
theorem lw_p41 : lw_okq (⟨"GrassPark", "keepWeeks", "(II)V"⟩, 16) := ⟨⟨by decide +kernel, by decide +kernel⟩, lwb_1 (List.mem_of_getElem? (i := 26) (by decide +kernel)), lwb_5 (List.mem_of_getElem? (i := 80) (by decide +kernel)), lwb_5 (List.mem_of_getElem? (i := 81) (by decide +kernel))⟩
theorem lw_p42 : lw_okq (⟨"GrassPark", "fencesTold", "(II)Z"⟩, 16) := ⟨⟨by decide +kernel, by decide +kernel⟩, lwb_1 (List.mem_of_getElem? (i := 26) (by decide +kernel)), lwb_5 (List.mem_of_getElem? (i := 96) (by decide +kernel)), lwb_5 (List.mem_of_getElem? (i := 97) (by decide +kernel))⟩
theorem lw_p43 : lw_okq (⟨"GrassPark", "fewestFences", "(II)I"⟩, 16) := ⟨⟨by decide +kernel, by decide +kernel⟩, lwb_1 (List.mem_of_getElem? (i := 26) (by decide +kernel)), lwb_5 (List.mem_of_getElem? (i := 100) (by decide +kernel)), lwb_5 (List.mem_of_getElem? (i := 101) (by decide +kernel))⟩
theorem lw_p44 : lw_okq (⟨"GrassPark", "nobodySteps", "(IIII)Z"⟩, 16) := ⟨⟨by decide +kernel, by decide +kernel⟩, lwb_1 (List.mem_of_getElem? (i := 26) (by decide +kernel)), lwb_5 (List.mem_of_getElem? (i := 104) (by decide +kernel)), lwb_5 (List.mem_of_getElem? (i := 105) (by decide +kernel))⟩
theorem lw_p45 : lw_okq (⟨"GrassPark", "setFences", "(III)I"⟩, 16) := ⟨⟨by decide +kernel, by decide +kernel⟩, lwb_1 (List.mem_of_getElem? (i := 26) (by decide +kernel)), lwb_5 (List.mem_of_getElem? (i := 108) (by decide +kernel)), lwb_5 (List.mem_of_getElem? (i := 109) (by decide +kernel))⟩
theorem lw_p46 : lw_okq (⟨"GrassPark", "wayTold", "(III)Z"⟩, 16) := ⟨⟨by decide +kernel, by decide +kernel⟩, lwb_1 (List.mem_of_getElem? (i := 26) (by decide +kernel)), lwb_5 (List.mem_of_getElem? (i := 125) (by decide +kernel)), lwb_5 (List.mem_of_getElem? (i := 126) (by decide +kernel))⟩
theorem lw_p47 : lw_okq (⟨"GrassPark", "tellWays", "()Z"⟩, 16) := ⟨⟨by decide +kernel, by decide +kernel⟩, lwb_1 (List.mem_of_getElem? (i := 26) (by decide +kernel)), lwb_5 (List.mem_of_getElem? (i := 141) (by decide +kernel)), lwb_5 (List.mem_of_getElem? (i := 142) (by decide +kernel))⟩
def lw_privs_3 : List (MethodName × Nat) := [(⟨"GrassPark$Walk", "sweep", "()V"⟩, 12), (⟨"GrassPark$Net", "spread", "([III)V"⟩, 5), (⟨"GrassPark$Net", "cheaper", "([IIII)Z"⟩, 5), (⟨"GrassPark", "openCase", "()V"⟩, 16), (⟨"GrassPark", "oneWeek", "(I)V"⟩, 16), (⟨"GrassPark", "leastOfTape", "()I"⟩, 16), (⟨"GrassPark$Net", "meet", "(II)V"⟩, 5), (⟨"GrassPark$Net", "shortest", "(II)I"⟩, 5), (⟨"GrassPark", "pavingTold", "(II)Z"⟩, 16), (⟨"GrassPark", "keepWeeks", "(II)V"⟩, 16), (⟨"GrassPark", "fencesTold", "(II)Z"⟩, 16), (⟨"GrassPark", "fewestFences", "(II)I"⟩, 16), (⟨"GrassPark", "nobodySteps", "(IIII)Z"⟩, 16), (⟨"GrassPark", "setFences", "(III)I"⟩, 16), (⟨"GrassPark", "wayTold", "(III)Z"⟩, 16), (⟨"GrassPark", "tellWays", "()Z"⟩, 16)]
theorem lw_r3 : ∀ q ∈ lw_privs_3, lw_okq q := List.forall_mem_cons.mpr ⟨lw_p32, List.forall_mem_cons.mpr ⟨lw_p33, List.forall_mem_cons.mpr ⟨lw_p34, List.forall_mem_cons.mpr ⟨lw_p35, List.forall_mem_cons.mpr ⟨lw_p36, List.forall_mem_cons.mpr ⟨lw_p37, List.forall_mem_cons.mpr ⟨lw_p38, List.forall_mem_cons.mpr ⟨lw_p39, List.forall_mem_cons.mpr ⟨lw_p40, List.forall_mem_cons.mpr ⟨lw_p41, List.forall_mem_cons.mpr ⟨lw_p42, List.forall_mem_cons.mpr ⟨lw_p43, List.forall_mem_cons.mpr ⟨lw_p44, List.forall_mem_cons.mpr ⟨lw_p45, List.forall_mem_cons.mpr ⟨lw_p46, List.forall_mem_cons.mpr ⟨lw_p47, fun _ h => absurd h List.not_mem_nil⟩⟩⟩⟩⟩⟩⟩⟩⟩⟩⟩⟩⟩⟩⟩⟩
theorem lw_p48 : lw_okq (⟨"GrassPark$Snow", "tell", "(I)I"⟩, 11) := ⟨⟨by decide +kernel, by decide +kernel⟩, lwb_2 (List.mem_of_getElem? (i := 227) (by decide +kernel)), lwb_5 (List.mem_of_getElem? (i := 156) (by decide +kernel)), lwb_5 (List.mem_of_getElem? (i := 157) (by decide +kernel))⟩
theorem lw_p49 : lw_okq (⟨"GrassPark$Snow", "note", "()I"⟩, 11) := ⟨⟨by decide +kernel, by decide +kernel⟩, lwb_2 (List.mem_of_getElem? (i := 227) (by decide +kernel)), lwb_5 (List.mem_of_getElem? (i := 160) (by decide +kernel)), lwb_5 (List.mem_of_getElem? (i := 161) (by decide +kernel))⟩
theorem lw_p50 : lw_okq (⟨"GrassPark$Snow", "mayEnd", "(I)Z"⟩, 11) := ⟨⟨by decide +kernel, by decide +kernel⟩, lwb_2 (List.mem_of_getElem? (i := 227) (by decide +kernel)), lwb_5 (List.mem_of_getElem? (i := 165) (by decide +kernel)), lwb_5 (List.mem_of_getElem? (i := 166) (by decide +kernel))⟩
theorem lw_p51 : lw_okq (⟨"GrassPark$Snow", "take", "(II)Z"⟩, 11) := ⟨⟨by decide +kernel, by decide +kernel⟩, lwb_2 (List.mem_of_getElem? (i := 227) (by decide +kernel)), lwb_5 (List.mem_of_getElem? (i := 169) (by decide +kernel)), lwb_5 (List.mem_of_getElem? (i := 170) (by decide +kernel))⟩
theorem lw_p52 : lw_okq (⟨"GrassPark", "fitting", "(II)I"⟩, 16) := ⟨⟨by decide +kernel, by decide +kernel⟩, lwb_1 (List.mem_of_getElem? (i := 26) (by decide +kernel)), lwb_5 (List.mem_of_getElem? (i := 182) (by decide +kernel)), lwb_5 (List.mem_of_getElem? (i := 183) (by decide +kernel))⟩
theorem lw_p53 : lw_okq (⟨"GrassPark", "tapeTellsTrail", "()Z"⟩, 16) := ⟨⟨by decide +kernel, by decide +kernel⟩, lwb_1 (List.mem_of_getElem? (i := 26) (by decide +kernel)), lwb_5 (List.mem_of_getElem? (i := 186) (by decide +kernel)), lwb_5 (List.mem_of_getElem? (i := 187) (by decide +kernel))⟩
theorem lw_p54 : lw_okq (⟨"java/lang/Throwable", "fillInStackTrace", "(I)Ljava/lang/Throwable;"⟩, 6) := ⟨⟨by decide +kernel, by decide +kernel⟩, lwb_6 (List.mem_of_getElem? (i := 10) (by decide +kernel)), lwb_6 (List.mem_of_getElem? (i := 8) (by decide +kernel)), lwb_6 (List.mem_of_getElem? (i := 9) (by decide +kernel))⟩
theorem lw_p55 : lw_okq (⟨"GrassPark", "isWorn", "(I)Z"⟩, 16) := ⟨⟨by decide +kernel, by decide +kernel⟩, lwb_1 (List.mem_of_getElem? (i := 26) (by decide +kernel)), lwb_6 (List.mem_of_getElem? (i := 39) (by decide +kernel)), lwb_6 (List.mem_of_getElem? (i := 40) (by decide +kernel))⟩
theorem lw_p56 : lw_okq (⟨"GrassParkModel", "four", "(I)V"⟩, 63) := ⟨⟨by decide +kernel, by decide +kernel⟩, lwb_6 (List.mem_of_getElem? (i := 49) (by decide +kernel)), lwb_6 (List.mem_of_getElem? (i := 47) (by decide +kernel)), lwb_6 (List.mem_of_getElem? (i := 48) (by decide +kernel))⟩
theorem lw_p57 : lw_okq (⟨"GrassParkModel", "taken", "()V"⟩, 63) := ⟨⟨by decide +kernel, by decide +kernel⟩, lwb_6 (List.mem_of_getElem? (i := 49) (by decide +kernel)), lwb_7 (List.mem_of_getElem? (i := 15) (by decide +kernel)), lwb_7 (List.mem_of_getElem? (i := 16) (by decide +kernel))⟩
theorem lw_p58 : lw_okq (⟨"GrassParkModel", "octet", "(I)I"⟩, 63) := ⟨⟨by decide +kernel, by decide +kernel⟩, lwb_6 (List.mem_of_getElem? (i := 49) (by decide +kernel)), lwb_7 (List.mem_of_getElem? (i := 22) (by decide +kernel)), lwb_7 (List.mem_of_getElem? (i := 23) (by decide +kernel))⟩
theorem lw_p59 : lw_okq (⟨"GrassParkModel", "set", "(III)V"⟩, 63) := ⟨⟨by decide +kernel, by decide +kernel⟩, lwb_6 (List.mem_of_getElem? (i := 49) (by decide +kernel)), lwb_7 (List.mem_of_getElem? (i := 26) (by decide +kernel)), lwb_7 (List.mem_of_getElem? (i := 27) (by decide +kernel))⟩
theorem lw_p60 : lw_okq (⟨"GrassParkModel", "isCell", "(I)Z"⟩, 63) := ⟨⟨by decide +kernel, by decide +kernel⟩, lwb_6 (List.mem_of_getElem? (i := 49) (by decide +kernel)), lwb_7 (List.mem_of_getElem? (i := 34) (by decide +kernel)), lwb_7 (List.mem_of_getElem? (i := 35) (by decide +kernel))⟩
theorem lw_p61 : lw_okq (⟨"GrassParkModel", "cells", "()I"⟩, 63) := ⟨⟨by decide +kernel, by decide +kernel⟩, lwb_6 (List.mem_of_getElem? (i := 49) (by decide +kernel)), lwb_7 (List.mem_of_getElem? (i := 38) (by decide +kernel)), lwb_7 (List.mem_of_getElem? (i := 39) (by decide +kernel))⟩
theorem lw_p62 : lw_okq (⟨"GrassParkModel", "bears", "(I)Z"⟩, 63) := ⟨⟨by decide +kernel, by decide +kernel⟩, lwb_6 (List.mem_of_getElem? (i := 49) (by decide +kernel)), lwb_7 (List.mem_of_getElem? (i := 42) (by decide +kernel)), lwb_7 (List.mem_of_getElem? (i := 43) (by decide +kernel))⟩
theorem lw_p63 : lw_okq (⟨"GrassParkModel", "of", "(II)I"⟩, 63) := ⟨⟨by decide +kernel, by decide +kernel⟩, lwb_6 (List.mem_of_getElem? (i := 49) (by decide +kernel)), lwb_7 (List.mem_of_getElem? (i := 46) (by decide +kernel)), lwb_7 (List.mem_of_getElem? (i := 47) (by decide +kernel))⟩
def lw_privs_4 : List (MethodName × Nat) := [(⟨"GrassPark$Snow", "tell", "(I)I"⟩, 11), (⟨"GrassPark$Snow", "note", "()I"⟩, 11), (⟨"GrassPark$Snow", "mayEnd", "(I)Z"⟩, 11), (⟨"GrassPark$Snow", "take", "(II)Z"⟩, 11), (⟨"GrassPark", "fitting", "(II)I"⟩, 16), (⟨"GrassPark", "tapeTellsTrail", "()Z"⟩, 16), (⟨"java/lang/Throwable", "fillInStackTrace", "(I)Ljava/lang/Throwable;"⟩, 6), (⟨"GrassPark", "isWorn", "(I)Z"⟩, 16), (⟨"GrassParkModel", "four", "(I)V"⟩, 63), (⟨"GrassParkModel", "taken", "()V"⟩, 63), (⟨"GrassParkModel", "octet", "(I)I"⟩, 63), (⟨"GrassParkModel", "set", "(III)V"⟩, 63), (⟨"GrassParkModel", "isCell", "(I)Z"⟩, 63), (⟨"GrassParkModel", "cells", "()I"⟩, 63), (⟨"GrassParkModel", "bears", "(I)Z"⟩, 63), (⟨"GrassParkModel", "of", "(II)I"⟩, 63)]
theorem lw_r4 : ∀ q ∈ lw_privs_4, lw_okq q := List.forall_mem_cons.mpr ⟨lw_p48, List.forall_mem_cons.mpr ⟨lw_p49, List.forall_mem_cons.mpr ⟨lw_p50, List.forall_mem_cons.mpr ⟨lw_p51, List.forall_mem_cons.mpr ⟨lw_p52, List.forall_mem_cons.mpr ⟨lw_p53, List.forall_mem_cons.mpr ⟨lw_p54, List.forall_mem_cons.mpr ⟨lw_p55, List.forall_mem_cons.mpr ⟨lw_p56, List.forall_mem_cons.mpr ⟨lw_p57, List.forall_mem_cons.mpr ⟨lw_p58, List.forall_mem_cons.mpr ⟨lw_p59, List.forall_mem_cons.mpr ⟨lw_p60, List.forall_mem_cons.mpr ⟨lw_p61, List.forall_mem_cons.mpr ⟨lw_p62, List.forall_mem_cons.mpr ⟨lw_p63, fun _ h => absurd h List.not_mem_nil⟩⟩⟩⟩⟩⟩⟩⟩⟩⟩⟩⟩⟩⟩⟩⟩
theorem lw_p64 : lw_okq (⟨"GrassParkModel", "isDoorAt", "(I)Z"⟩, 63) := ⟨⟨by decide +kernel, by decide +kernel⟩, lwb_6 (List.mem_of_getElem? (i := 49) (by decide +kernel)), lwb_7 (List.mem_of_getElem? (i := 50) (by decide +kernel)), lwb_7 (List.mem_of_getElem? (i := 51) (by decide +kernel))⟩
theorem lw_p65 : lw_okq (⟨"GrassParkModel", "text", "(IZ)I"⟩, 63) := ⟨⟨by decide +kernel, by decide +kernel⟩, lwb_6 (List.mem_of_getElem? (i := 49) (by decide +kernel)), lwb_7 (List.mem_of_getElem? (i := 58) (by decide +kernel)), lwb_7 (List.mem_of_getElem? (i := 59) (by decide +kernel))⟩
theorem lw_p66 : lw_okq (⟨"GrassParkModel", "next", "()V"⟩, 63) := ⟨⟨by decide +kernel, by decide +kernel⟩, lwb_6 (List.mem_of_getElem? (i := 49) (by decide +kernel)), lwb_7 (List.mem_of_getElem? (i := 62) (by decide +kernel)), lwb_7 (List.mem_of_getElem? (i := 63) (by decide +kernel))⟩
theorem lw_p67 : lw_okq (⟨"GrassParkModel", "peek", "()I"⟩, 63) := ⟨⟨by decide +kernel, by decide +kernel⟩, lwb_6 (List.mem_of_getElem? (i := 49) (by decide +kernel)), lwb_7 (List.mem_of_getElem? (i := 66) (by decide +kernel)), lwb_7 (List.mem_of_getElem? (i := 67) (by decide +kernel))⟩
theorem lw_p68 : lw_okq (⟨"GrassParkModel", "read", "(Z)Z"⟩, 63) := ⟨⟨by decide +kernel, by decide +kernel⟩, lwb_6 (List.mem_of_getElem? (i := 49) (by decide +kernel)), lwb_7 (List.mem_of_getElem? (i := 76) (by decide +kernel)), lwb_7 (List.mem_of_getElem? (i := 77) (by decide +kernel))⟩
theorem lw_p69 : lw_okq (⟨"GrassParkModel", "lineOf", "(Z)I"⟩, 63) := ⟨⟨by decide +kernel, by decide +kernel⟩, lwb_6 (List.mem_of_getElem? (i := 49) (by decide +kernel)), lwb_7 (List.mem_of_getElem? (i := 80) (by decide +kernel)), lwb_7 (List.mem_of_getElem? (i := 81) (by decide +kernel))⟩
theorem lw_p70 : lw_okq (⟨"GrassParkModel", "bad", "(I)Z"⟩, 63) := ⟨⟨by decide +kernel, by decide +kernel⟩, lwb_6 (List.mem_of_getElem? (i := 49) (by decide +kernel)), lwb_7 (List.mem_of_getElem? (i := 92) (by decide +kernel)), lwb_7 (List.mem_of_getElem? (i := 93) (by decide +kernel))⟩
theorem lw_p71 : lw_okq (⟨"GrassParkModel", "find", "(II)I"⟩, 63) := ⟨⟨by decide +kernel, by decide +kernel⟩, lwb_6 (List.mem_of_getElem? (i := 49) (by decide +kernel)), lwb_7 (List.mem_of_getElem? (i := 96) (by decide +kernel)), lwb_7 (List.mem_of_getElem? (i := 97) (by decide +kernel))⟩
theorem lw_p72 : lw_okq (⟨"GrassParkModel", "line", "(II)Z"⟩, 63) := ⟨⟨by decide +kernel, by decide +kernel⟩, lwb_6 (List.mem_of_getElem? (i := 49) (by decide +kernel)), lwb_7 (List.mem_of_getElem? (i := 100) (by decide +kernel)), lwb_7 (List.mem_of_getElem? (i := 101) (by decide +kernel))⟩
theorem lw_p73 : lw_okq (⟨"GrassParkModel", "measure", "()I"⟩, 63) := ⟨⟨by decide +kernel, by decide +kernel⟩, lwb_6 (List.mem_of_getElem? (i := 49) (by decide +kernel)), lwb_7 (List.mem_of_getElem? (i := 104) (by decide +kernel)), lwb_7 (List.mem_of_getElem? (i := 105) (by decide +kernel))⟩
theorem lw_p74 : lw_okq (⟨"GrassParkModel", "takes", "(II)Z"⟩, 63) := ⟨⟨by decide +kernel, by decide +kernel⟩, lwb_6 (List.mem_of_getElem? (i := 49) (by decide +kernel)), lwb_7 (List.mem_of_getElem? (i := 114) (by decide +kernel)), lwb_7 (List.mem_of_getElem? (i := 115) (by decide +kernel))⟩
theorem lw_p75 : lw_okq (⟨"GrassParkModel", "isWord", "(J)Z"⟩, 63) := ⟨⟨by decide +kernel, by decide +kernel⟩, lwb_6 (List.mem_of_getElem? (i := 49) (by decide +kernel)), lwb_7 (List.mem_of_getElem? (i := 119) (by decide +kernel)), lwb_7 (List.mem_of_getElem? (i := 120) (by decide +kernel))⟩
theorem lw_p76 : lw_okq (⟨"GrassParkModel", "cond", "()Z"⟩, 63) := ⟨⟨by decide +kernel, by decide +kernel⟩, lwb_6 (List.mem_of_getElem? (i := 49) (by decide +kernel)), lwb_7 (List.mem_of_getElem? (i := 123) (by decide +kernel)), lwb_7 (List.mem_of_getElem? (i := 124) (by decide +kernel))⟩
theorem lw_p77 : lw_okq (⟨"GrassParkModel", "one", "()Z"⟩, 63) := ⟨⟨by decide +kernel, by decide +kernel⟩, lwb_6 (List.mem_of_getElem? (i := 49) (by decide +kernel)), lwb_7 (List.mem_of_getElem? (i := 127) (by decide +kernel)), lwb_7 (List.mem_of_getElem? (i := 128) (by decide +kernel))⟩
theorem lw_p78 : lw_okq (⟨"GrassParkModel", "atom", "()I"⟩, 63) := ⟨⟨by decide +kernel, by decide +kernel⟩, lwb_6 (List.mem_of_getElem? (i := 49) (by decide +kernel)), lwb_7 (List.mem_of_getElem? (i := 132) (by decide +kernel)), lwb_7 (List.mem_of_getElem? (i := 133) (by decide +kernel))⟩
theorem lw_p79 : lw_okq (⟨"GrassParkModel", "isSign", "(I)Z"⟩, 63) := ⟨⟨by decide +kernel, by decide +kernel⟩, lwb_6 (List.mem_of_getElem? (i := 49) (by decide +kernel)), lwb_7 (List.mem_of_getElem? (i := 146) (by decide +kernel)), lwb_7 (List.mem_of_getElem? (i := 147) (by decide +kernel))⟩
def lw_privs_5 : List (MethodName × Nat) := [(⟨"GrassParkModel", "isDoorAt", "(I)Z"⟩, 63), (⟨"GrassParkModel", "text", "(IZ)I"⟩, 63), (⟨"GrassParkModel", "next", "()V"⟩, 63), (⟨"GrassParkModel", "peek", "()I"⟩, 63), (⟨"GrassParkModel", "read", "(Z)Z"⟩, 63), (⟨"GrassParkModel", "lineOf", "(Z)I"⟩, 63), (⟨"GrassParkModel", "bad", "(I)Z"⟩, 63), (⟨"GrassParkModel", "find", "(II)I"⟩, 63), (⟨"GrassParkModel", "line", "(II)Z"⟩, 63), (⟨"GrassParkModel", "measure", "()I"⟩, 63), (⟨"GrassParkModel", "takes", "(II)Z"⟩, 63), (⟨"GrassParkModel", "isWord", "(J)Z"⟩, 63), (⟨"GrassParkModel", "cond", "()Z"⟩, 63), (⟨"GrassParkModel", "one", "()Z"⟩, 63), (⟨"GrassParkModel", "atom", "()I"⟩, 63), (⟨"GrassParkModel", "isSign", "(I)Z"⟩, 63)]
theorem lw_r5 : ∀ q ∈ lw_privs_5, lw_okq q := List.forall_mem_cons.mpr ⟨lw_p64, List.forall_mem_cons.mpr ⟨lw_p65, List.forall_mem_cons.mpr ⟨lw_p66, List.forall_mem_cons.mpr ⟨lw_p67, List.forall_mem_cons.mpr ⟨lw_p68, List.forall_mem_cons.mpr ⟨lw_p69, List.forall_mem_cons.mpr ⟨lw_p70, List.forall_mem_cons.mpr ⟨lw_p71, List.forall_mem_cons.mpr ⟨lw_p72, List.forall_mem_cons.mpr ⟨lw_p73, List.forall_mem_cons.mpr ⟨lw_p74, List.forall_mem_cons.mpr ⟨lw_p75, List.forall_mem_cons.mpr ⟨lw_p76, List.forall_mem_cons.mpr ⟨lw_p77, List.forall_mem_cons.mpr ⟨lw_p78, List.forall_mem_cons.mpr ⟨lw_p79, fun _ h => absurd h List.not_mem_nil⟩⟩⟩⟩⟩⟩⟩⟩⟩⟩⟩⟩⟩⟩⟩⟩
theorem lw_p80 : lw_okq (⟨"GrassParkModel", "open", "()I"⟩, 63) := ⟨⟨by decide +kernel, by decide +kernel⟩, lwb_6 (List.mem_of_getElem? (i := 49) (by decide +kernel)), lwb_7 (List.mem_of_getElem? (i := 150) (by decide +kernel)), lwb_7 (List.mem_of_getElem? (i := 151) (by decide +kernel))⟩
theorem lw_p81 : lw_okq (⟨"GrassParkModel", "write", "(III)V"⟩, 63) := ⟨⟨by decide +kernel, by decide +kernel⟩, lwb_6 (List.mem_of_getElem? (i := 49) (by decide +kernel)), lwb_7 (List.mem_of_getElem? (i := 154) (by decide +kernel)), lwb_7 (List.mem_of_getElem? (i := 155) (by decide +kernel))⟩
theorem lw_p82 : lw_okq (⟨"GrassParkModel", "writeDown", "(I)V"⟩, 63) := ⟨⟨by decide +kernel, by decide +kernel⟩, lwb_6 (List.mem_of_getElem? (i := 49) (by decide +kernel)), lwb_7 (List.mem_of_getElem? (i := 158) (by decide +kernel)), lwb_7 (List.mem_of_getElem? (i := 159) (by decide +kernel))⟩
theorem lw_p83 : lw_okq (⟨"GrassParkModel", "isOpen", "()Z"⟩, 63) := ⟨⟨by decide +kernel, by decide +kernel⟩, lwb_6 (List.mem_of_getElem? (i := 49) (by decide +kernel)), lwb_7 (List.mem_of_getElem? (i := 165) (by decide +kernel)), lwb_7 (List.mem_of_getElem? (i := 166) (by decide +kernel))⟩
theorem lw_p84 : lw_okq (⟨"GrassParkModel", "sign", "(I)Z"⟩, 63) := ⟨⟨by decide +kernel, by decide +kernel⟩, lwb_6 (List.mem_of_getElem? (i := 49) (by decide +kernel)), lwb_7 (List.mem_of_getElem? (i := 171) (by decide +kernel)), lwb_7 (List.mem_of_getElem? (i := 172) (by decide +kernel))⟩
theorem lw_p85 : lw_okq (⟨"GrassParkModel", "told", "(II)I"⟩, 63) := ⟨⟨by decide +kernel, by decide +kernel⟩, lwb_6 (List.mem_of_getElem? (i := 49) (by decide +kernel)), lwb_7 (List.mem_of_getElem? (i := 175) (by decide +kernel)), lwb_7 (List.mem_of_getElem? (i := 176) (by decide +kernel))⟩
theorem lw_p86 : lw_okq (⟨"GrassParkModel", "isDoor", "(I)Z"⟩, 63) := ⟨⟨by decide +kernel, by decide +kernel⟩, lwb_6 (List.mem_of_getElem? (i := 49) (by decide +kernel)), lwb_7 (List.mem_of_getElem? (i := 191) (by decide +kernel)), lwb_7 (List.mem_of_getElem? (i := 192) (by decide +kernel))⟩
theorem lw_p87 : lw_okq (⟨"GrassParkModel", "isWish", "(I)Z"⟩, 63) := ⟨⟨by decide +kernel, by decide +kernel⟩, lwb_6 (List.mem_of_getElem? (i := 49) (by decide +kernel)), lwb_7 (List.mem_of_getElem? (i := 200) (by decide +kernel)), lwb_7 (List.mem_of_getElem? (i := 201) (by decide +kernel))⟩
theorem lw_p88 : lw_okq (⟨"GrassParkModel", "tick", "()V"⟩, 63) := ⟨⟨by decide +kernel, by decide +kernel⟩, lwb_6 (List.mem_of_getElem? (i := 49) (by decide +kernel)), lwb_7 (List.mem_of_getElem? (i := 208) (by decide +kernel)), lwb_7 (List.mem_of_getElem? (i := 209) (by decide +kernel))⟩
theorem lw_p89 : lw_okq (⟨"GrassParkModel", "goes", "(I)Z"⟩, 63) := ⟨⟨by decide +kernel, by decide +kernel⟩, lwb_6 (List.mem_of_getElem? (i := 49) (by decide +kernel)), lwb_7 (List.mem_of_getElem? (i := 212) (by decide +kernel)), lwb_7 (List.mem_of_getElem? (i := 213) (by decide +kernel))⟩
theorem lw_p90 : lw_okq (⟨"GrassParkModel", "choose", "()I"⟩, 63) := ⟨⟨by decide +kernel, by decide +kernel⟩, lwb_6 (List.mem_of_getElem? (i := 49) (by decide +kernel)), lwb_7 (List.mem_of_getElem? (i := 216) (by decide +kernel)), lwb_7 (List.mem_of_getElem? (i := 217) (by decide +kernel))⟩
theorem lw_p91 : lw_okq (⟨"GrassParkModel", "across", "(II)I"⟩, 63) := ⟨⟨by decide +kernel, by decide +kernel⟩, lwb_6 (List.mem_of_getElem? (i := 49) (by decide +kernel)), lwb_7 (List.mem_of_getElem? (i := 220) (by decide +kernel)), lwb_7 (List.mem_of_getElem? (i := 221) (by decide +kernel))⟩
theorem lw_p92 : lw_okq (⟨"GrassParkModel", "along", "(II)I"⟩, 63) := ⟨⟨by decide +kernel, by decide +kernel⟩, lwb_6 (List.mem_of_getElem? (i := 49) (by decide +kernel)), lwb_7 (List.mem_of_getElem? (i := 227) (by decide +kernel)), lwb_7 (List.mem_of_getElem? (i := 228) (by decide +kernel))⟩
theorem lw_p93 : lw_okq (⟨"GrassParkModel", "beside", "(II)I"⟩, 63) := ⟨⟨by decide +kernel, by decide +kernel⟩, lwb_6 (List.mem_of_getElem? (i := 49) (by decide +kernel)), lwb_7 (List.mem_of_getElem? (i := 231) (by decide +kernel)), lwb_7 (List.mem_of_getElem? (i := 232) (by decide +kernel))⟩
theorem lw_p94 : lw_okq (⟨"GrassParkModel", "mayNot", "(I)Z"⟩, 63) := ⟨⟨by decide +kernel, by decide +kernel⟩, lwb_6 (List.mem_of_getElem? (i := 49) (by decide +kernel)), lwb_8 (List.mem_of_getElem? (i := 1) (by decide +kernel)), lwb_8 (List.mem_of_getElem? (i := 2) (by decide +kernel))⟩
theorem lw_p95 : lw_okq (⟨"GrassParkModel", "holds", "(II)Z"⟩, 63) := ⟨⟨by decide +kernel, by decide +kernel⟩, lwb_6 (List.mem_of_getElem? (i := 49) (by decide +kernel)), lwb_8 (List.mem_of_getElem? (i := 5) (by decide +kernel)), lwb_8 (List.mem_of_getElem? (i := 6) (by decide +kernel))⟩
def lw_privs_6 : List (MethodName × Nat) := [(⟨"GrassParkModel", "open", "()I"⟩, 63), (⟨"GrassParkModel", "write", "(III)V"⟩, 63), (⟨"GrassParkModel", "writeDown", "(I)V"⟩, 63), (⟨"GrassParkModel", "isOpen", "()Z"⟩, 63), (⟨"GrassParkModel", "sign", "(I)Z"⟩, 63), (⟨"GrassParkModel", "told", "(II)I"⟩, 63), (⟨"GrassParkModel", "isDoor", "(I)Z"⟩, 63), (⟨"GrassParkModel", "isWish", "(I)Z"⟩, 63), (⟨"GrassParkModel", "tick", "()V"⟩, 63), (⟨"GrassParkModel", "goes", "(I)Z"⟩, 63), (⟨"GrassParkModel", "choose", "()I"⟩, 63), (⟨"GrassParkModel", "across", "(II)I"⟩, 63), (⟨"GrassParkModel", "along", "(II)I"⟩, 63), (⟨"GrassParkModel", "beside", "(II)I"⟩, 63), (⟨"GrassParkModel", "mayNot", "(I)Z"⟩, 63), (⟨"GrassParkModel", "holds", "(II)Z"⟩, 63)]
theorem lw_r6 : ∀ q ∈ lw_privs_6, lw_okq q := List.forall_mem_cons.mpr ⟨lw_p80, List.forall_mem_cons.mpr ⟨lw_p81, List.forall_mem_cons.mpr ⟨lw_p82, List.forall_mem_cons.mpr ⟨lw_p83, List.forall_mem_cons.mpr ⟨lw_p84, List.forall_mem_cons.mpr ⟨lw_p85, List.forall_mem_cons.mpr ⟨lw_p86, List.forall_mem_cons.mpr ⟨lw_p87, List.forall_mem_cons.mpr ⟨lw_p88, List.forall_mem_cons.mpr ⟨lw_p89, List.forall_mem_cons.mpr ⟨lw_p90, List.forall_mem_cons.mpr ⟨lw_p91, List.forall_mem_cons.mpr ⟨lw_p92, List.forall_mem_cons.mpr ⟨lw_p93, List.forall_mem_cons.mpr ⟨lw_p94, List.forall_mem_cons.mpr ⟨lw_p95, fun _ h => absurd h List.not_mem_nil⟩⟩⟩⟩⟩⟩⟩⟩⟩⟩⟩⟩⟩⟩⟩⟩
theorem lw_p96 : lw_okq (⟨"GrassParkModel", "is", "(II)Z"⟩, 63) := ⟨⟨by decide +kernel, by decide +kernel⟩, lwb_6 (List.mem_of_getElem? (i := 49) (by decide +kernel)), lwb_8 (List.mem_of_getElem? (i := 9) (by decide +kernel)), lwb_8 (List.mem_of_getElem? (i := 10) (by decide +kernel))⟩
theorem lw_p97 : lw_okq (⟨"GrassParkModel", "isMuddy", "(I)Z"⟩, 63) := ⟨⟨by decide +kernel, by decide +kernel⟩, lwb_6 (List.mem_of_getElem? (i := 49) (by decide +kernel)), lwb_8 (List.mem_of_getElem? (i := 13) (by decide +kernel)), lwb_8 (List.mem_of_getElem? (i := 14) (by decide +kernel))⟩
theorem lw_p98 : lw_okq (⟨"GrassParkModel", "isWorn", "(I)Z"⟩, 63) := ⟨⟨by decide +kernel, by decide +kernel⟩, lwb_6 (List.mem_of_getElem? (i := 49) (by decide +kernel)), lwb_8 (List.mem_of_getElem? (i := 17) (by decide +kernel)), lwb_8 (List.mem_of_getElem? (i := 18) (by decide +kernel))⟩
theorem lw_p99 : lw_okq (⟨"GrassParkModel", "weight", "(II)I"⟩, 63) := ⟨⟨by decide +kernel, by decide +kernel⟩, lwb_6 (List.mem_of_getElem? (i := 49) (by decide +kernel)), lwb_8 (List.mem_of_getElem? (i := 21) (by decide +kernel)), lwb_8 (List.mem_of_getElem? (i := 22) (by decide +kernel))⟩
theorem lw_p100 : lw_okq (⟨"GrassParkModel", "measured", "(III)I"⟩, 63) := ⟨⟨by decide +kernel, by decide +kernel⟩, lwb_6 (List.mem_of_getElem? (i := 49) (by decide +kernel)), lwb_8 (List.mem_of_getElem? (i := 25) (by decide +kernel)), lwb_8 (List.mem_of_getElem? (i := 26) (by decide +kernel))⟩
theorem lw_p101 : lw_okq (⟨"GrassParkModel", "isGreen", "(I)Z"⟩, 63) := ⟨⟨by decide +kernel, by decide +kernel⟩, lwb_6 (List.mem_of_getElem? (i := 49) (by decide +kernel)), lwb_8 (List.mem_of_getElem? (i := 29) (by decide +kernel)), lwb_8 (List.mem_of_getElem? (i := 30) (by decide +kernel))⟩
theorem lw_p102 : lw_okq (⟨"GrassParkModel", "crowd", "(I)I"⟩, 63) := ⟨⟨by decide +kernel, by decide +kernel⟩, lwb_6 (List.mem_of_getElem? (i := 49) (by decide +kernel)), lwb_8 (List.mem_of_getElem? (i := 33) (by decide +kernel)), lwb_8 (List.mem_of_getElem? (i := 34) (by decide +kernel))⟩
theorem lw_p103 : lw_okq (⟨"GrassParkModel", "sees", "(II)I"⟩, 63) := ⟨⟨by decide +kernel, by decide +kernel⟩, lwb_6 (List.mem_of_getElem? (i := 49) (by decide +kernel)), lwb_8 (List.mem_of_getElem? (i := 37) (by decide +kernel)), lwb_8 (List.mem_of_getElem? (i := 38) (by decide +kernel))⟩
theorem lw_p104 : lw_okq (⟨"GrassParkModel", "tread", "(I)V"⟩, 63) := ⟨⟨by decide +kernel, by decide +kernel⟩, lwb_6 (List.mem_of_getElem? (i := 49) (by decide +kernel)), lwb_8 (List.mem_of_getElem? (i := 41) (by decide +kernel)), lwb_8 (List.mem_of_getElem? (i := 42) (by decide +kernel))⟩
theorem lw_p105 : lw_okq (⟨"GrassParkModel", "first", "(III)I"⟩, 63) := ⟨⟨by decide +kernel, by decide +kernel⟩, lwb_6 (List.mem_of_getElem? (i := 49) (by decide +kernel)), lwb_8 (List.mem_of_getElem? (i := 45) (by decide +kernel)), lwb_8 (List.mem_of_getElem? (i := 46) (by decide +kernel))⟩
theorem lw_p106 : lw_okq (⟨"GrassParkModel", "leave", "(I)V"⟩, 63) := ⟨⟨by decide +kernel, by decide +kernel⟩, lwb_6 (List.mem_of_getElem? (i := 49) (by decide +kernel)), lwb_8 (List.mem_of_getElem? (i := 49) (by decide +kernel)), lwb_8 (List.mem_of_getElem? (i := 50) (by decide +kernel))⟩
theorem lw_p107 : lw_okq (⟨"GrassParkModel", "endWeek", "()V"⟩, 63) := ⟨⟨by decide +kernel, by decide +kernel⟩, lwb_6 (List.mem_of_getElem? (i := 49) (by decide +kernel)), lwb_8 (List.mem_of_getElem? (i := 57) (by decide +kernel)), lwb_8 (List.mem_of_getElem? (i := 58) (by decide +kernel))⟩
theorem lw_p108 : lw_okq (⟨"GrassParkModel", "wornMany", "()I"⟩, 63) := ⟨⟨by decide +kernel, by decide +kernel⟩, lwb_6 (List.mem_of_getElem? (i := 49) (by decide +kernel)), lwb_8 (List.mem_of_getElem? (i := 61) (by decide +kernel)), lwb_8 (List.mem_of_getElem? (i := 62) (by decide +kernel))⟩
theorem lw_p109 : lw_okq (⟨"GrassParkModel", "isWalkerAt", "(I)Z"⟩, 63) := ⟨⟨by decide +kernel, by decide +kernel⟩, lwb_6 (List.mem_of_getElem? (i := 49) (by decide +kernel)), lwb_8 (List.mem_of_getElem? (i := 77) (by decide +kernel)), lwb_8 (List.mem_of_getElem? (i := 78) (by decide +kernel))⟩
theorem lw_p110 : lw_okq (⟨"GrassParkModel", "put", "(II)V"⟩, 63) := ⟨⟨by decide +kernel, by decide +kernel⟩, lwb_6 (List.mem_of_getElem? (i := 49) (by decide +kernel)), lwb_8 (List.mem_of_getElem? (i := 81) (by decide +kernel)), lwb_8 (List.mem_of_getElem? (i := 82) (by decide +kernel))⟩
theorem lw_p111 : lw_okq (⟨"GrassParkModel", "throwsIf", "(Z)Z"⟩, 63) := ⟨⟨by decide +kernel, by decide +kernel⟩, lwb_6 (List.mem_of_getElem? (i := 49) (by decide +kernel)), lwb_8 (List.mem_of_getElem? (i := 89) (by decide +kernel)), lwb_8 (List.mem_of_getElem? (i := 90) (by decide +kernel))⟩
def lw_privs_7 : List (MethodName × Nat) := [(⟨"GrassParkModel", "is", "(II)Z"⟩, 63), (⟨"GrassParkModel", "isMuddy", "(I)Z"⟩, 63), (⟨"GrassParkModel", "isWorn", "(I)Z"⟩, 63), (⟨"GrassParkModel", "weight", "(II)I"⟩, 63), (⟨"GrassParkModel", "measured", "(III)I"⟩, 63), (⟨"GrassParkModel", "isGreen", "(I)Z"⟩, 63), (⟨"GrassParkModel", "crowd", "(I)I"⟩, 63), (⟨"GrassParkModel", "sees", "(II)I"⟩, 63), (⟨"GrassParkModel", "tread", "(I)V"⟩, 63), (⟨"GrassParkModel", "first", "(III)I"⟩, 63), (⟨"GrassParkModel", "leave", "(I)V"⟩, 63), (⟨"GrassParkModel", "endWeek", "()V"⟩, 63), (⟨"GrassParkModel", "wornMany", "()I"⟩, 63), (⟨"GrassParkModel", "isWalkerAt", "(I)Z"⟩, 63), (⟨"GrassParkModel", "put", "(II)V"⟩, 63), (⟨"GrassParkModel", "throwsIf", "(Z)Z"⟩, 63)]
theorem lw_r7 : ∀ q ∈ lw_privs_7, lw_okq q := List.forall_mem_cons.mpr ⟨lw_p96, List.forall_mem_cons.mpr ⟨lw_p97, List.forall_mem_cons.mpr ⟨lw_p98, List.forall_mem_cons.mpr ⟨lw_p99, List.forall_mem_cons.mpr ⟨lw_p100, List.forall_mem_cons.mpr ⟨lw_p101, List.forall_mem_cons.mpr ⟨lw_p102, List.forall_mem_cons.mpr ⟨lw_p103, List.forall_mem_cons.mpr ⟨lw_p104, List.forall_mem_cons.mpr ⟨lw_p105, List.forall_mem_cons.mpr ⟨lw_p106, List.forall_mem_cons.mpr ⟨lw_p107, List.forall_mem_cons.mpr ⟨lw_p108, List.forall_mem_cons.mpr ⟨lw_p109, List.forall_mem_cons.mpr ⟨lw_p110, List.forall_mem_cons.mpr ⟨lw_p111, fun _ h => absurd h List.not_mem_nil⟩⟩⟩⟩⟩⟩⟩⟩⟩⟩⟩⟩⟩⟩⟩⟩
theorem lw_p112 : lw_okq (⟨"GrassParkModel", "spread", "()V"⟩, 63) := ⟨⟨by decide +kernel, by decide +kernel⟩, lwb_6 (List.mem_of_getElem? (i := 49) (by decide +kernel)), lwb_8 (List.mem_of_getElem? (i := 105) (by decide +kernel)), lwb_8 (List.mem_of_getElem? (i := 106) (by decide +kernel))⟩
theorem lw_p113 : lw_okq (⟨"GrassParkModel", "layAside", "()V"⟩, 63) := ⟨⟨by decide +kernel, by decide +kernel⟩, lwb_6 (List.mem_of_getElem? (i := 49) (by decide +kernel)), lwb_8 (List.mem_of_getElem? (i := 113) (by decide +kernel)), lwb_8 (List.mem_of_getElem? (i := 114) (by decide +kernel))⟩
theorem lw_p114 : lw_okq (⟨"GrassParkModel", "note", "([Z)V"⟩, 63) := ⟨⟨by decide +kernel, by decide +kernel⟩, lwb_6 (List.mem_of_getElem? (i := 49) (by decide +kernel)), lwb_8 (List.mem_of_getElem? (i := 117) (by decide +kernel)), lwb_8 (List.mem_of_getElem? (i := 118) (by decide +kernel))⟩
theorem lw_p115 : lw_okq (⟨"GrassParkModel", "go", "(I)V"⟩, 63) := ⟨⟨by decide +kernel, by decide +kernel⟩, lwb_6 (List.mem_of_getElem? (i := 49) (by decide +kernel)), lwb_8 (List.mem_of_getElem? (i := 121) (by decide +kernel)), lwb_8 (List.mem_of_getElem? (i := 122) (by decide +kernel))⟩
theorem lw_p116 : lw_okq (⟨"GrassParkModel", "isNoted", "([Z)Z"⟩, 63) := ⟨⟨by decide +kernel, by decide +kernel⟩, lwb_6 (List.mem_of_getElem? (i := 49) (by decide +kernel)), lwb_8 (List.mem_of_getElem? (i := 125) (by decide +kernel)), lwb_8 (List.mem_of_getElem? (i := 126) (by decide +kernel))⟩
theorem lw_p117 : lw_okq (⟨"GrassParkModel", "layBack", "()V"⟩, 63) := ⟨⟨by decide +kernel, by decide +kernel⟩, lwb_6 (List.mem_of_getElem? (i := 49) (by decide +kernel)), lwb_8 (List.mem_of_getElem? (i := 129) (by decide +kernel)), lwb_8 (List.mem_of_getElem? (i := 130) (by decide +kernel))⟩
theorem lw_p118 : lw_okq (⟨"GrassParkModel", "price", "(I)I"⟩, 63) := ⟨⟨by decide +kernel, by decide +kernel⟩, lwb_6 (List.mem_of_getElem? (i := 49) (by decide +kernel)), lwb_8 (List.mem_of_getElem? (i := 138) (by decide +kernel)), lwb_8 (List.mem_of_getElem? (i := 139) (by decide +kernel))⟩
theorem lw_p119 : lw_okq (⟨"GrassParkModel", "widen", "(II)V"⟩, 63) := ⟨⟨by decide +kernel, by decide +kernel⟩, lwb_6 (List.mem_of_getElem? (i := 49) (by decide +kernel)), lwb_8 (List.mem_of_getElem? (i := 142) (by decide +kernel)), lwb_8 (List.mem_of_getElem? (i := 143) (by decide +kernel))⟩
theorem lw_p120 : lw_okq (⟨"GrassParkModel", "shortest", "(IIZ)I"⟩, 63) := ⟨⟨by decide +kernel, by decide +kernel⟩, lwb_6 (List.mem_of_getElem? (i := 49) (by decide +kernel)), lwb_8 (List.mem_of_getElem? (i := 150) (by decide +kernel)), lwb_8 (List.mem_of_getElem? (i := 151) (by decide +kernel))⟩
theorem lw_p121 : lw_okq (⟨"GrassParkModel", "pave", "(III)V"⟩, 63) := ⟨⟨by decide +kernel, by decide +kernel⟩, lwb_6 (List.mem_of_getElem? (i := 49) (by decide +kernel)), lwb_8 (List.mem_of_getElem? (i := 162) (by decide +kernel)), lwb_8 (List.mem_of_getElem? (i := 163) (by decide +kernel))⟩
theorem lw_p122 : lw_okq (⟨"GrassParkModel", "isTrod", "(III)Z"⟩, 63) := ⟨⟨by decide +kernel, by decide +kernel⟩, lwb_6 (List.mem_of_getElem? (i := 49) (by decide +kernel)), lwb_8 (List.mem_of_getElem? (i := 174) (by decide +kernel)), lwb_8 (List.mem_of_getElem? (i := 175) (by decide +kernel))⟩
theorem lw_p123 : lw_okq (⟨"GrassParkModel", "keep", "(III)I"⟩, 63) := ⟨⟨by decide +kernel, by decide +kernel⟩, lwb_6 (List.mem_of_getElem? (i := 49) (by decide +kernel)), lwb_8 (List.mem_of_getElem? (i := 178) (by decide +kernel)), lwb_8 (List.mem_of_getElem? (i := 179) (by decide +kernel))⟩
theorem lw_p124 : lw_okq (⟨"GrassParkModel", "isWay", "(III)Z"⟩, 63) := ⟨⟨by decide +kernel, by decide +kernel⟩, lwb_6 (List.mem_of_getElem? (i := 49) (by decide +kernel)), lwb_8 (List.mem_of_getElem? (i := 194) (by decide +kernel)), lwb_8 (List.mem_of_getElem? (i := 195) (by decide +kernel))⟩
theorem lw_p125 : lw_okq (⟨"GrassParkModel", "walk", "(III)I"⟩, 63) := ⟨⟨by decide +kernel, by decide +kernel⟩, lwb_6 (List.mem_of_getElem? (i := 49) (by decide +kernel)), lwb_8 (List.mem_of_getElem? (i := 198) (by decide +kernel)), lwb_8 (List.mem_of_getElem? (i := 199) (by decide +kernel))⟩
theorem lw_p126 : lw_okq (⟨"GrassParkModel", "isSnow", "(I)Z"⟩, 63) := ⟨⟨by decide +kernel, by decide +kernel⟩, lwb_6 (List.mem_of_getElem? (i := 49) (by decide +kernel)), lwb_8 (List.mem_of_getElem? (i := 210) (by decide +kernel)), lwb_8 (List.mem_of_getElem? (i := 211) (by decide +kernel))⟩
def lw_privs_8 : List (MethodName × Nat) := [(⟨"GrassParkModel", "spread", "()V"⟩, 63), (⟨"GrassParkModel", "layAside", "()V"⟩, 63), (⟨"GrassParkModel", "note", "([Z)V"⟩, 63), (⟨"GrassParkModel", "go", "(I)V"⟩, 63), (⟨"GrassParkModel", "isNoted", "([Z)Z"⟩, 63), (⟨"GrassParkModel", "layBack", "()V"⟩, 63), (⟨"GrassParkModel", "price", "(I)I"⟩, 63), (⟨"GrassParkModel", "widen", "(II)V"⟩, 63), (⟨"GrassParkModel", "shortest", "(IIZ)I"⟩, 63), (⟨"GrassParkModel", "pave", "(III)V"⟩, 63), (⟨"GrassParkModel", "isTrod", "(III)Z"⟩, 63), (⟨"GrassParkModel", "keep", "(III)I"⟩, 63), (⟨"GrassParkModel", "isWay", "(III)Z"⟩, 63), (⟨"GrassParkModel", "walk", "(III)I"⟩, 63), (⟨"GrassParkModel", "isSnow", "(I)Z"⟩, 63)]
theorem lw_r8 : ∀ q ∈ lw_privs_8, lw_okq q := List.forall_mem_cons.mpr ⟨lw_p112, List.forall_mem_cons.mpr ⟨lw_p113, List.forall_mem_cons.mpr ⟨lw_p114, List.forall_mem_cons.mpr ⟨lw_p115, List.forall_mem_cons.mpr ⟨lw_p116, List.forall_mem_cons.mpr ⟨lw_p117, List.forall_mem_cons.mpr ⟨lw_p118, List.forall_mem_cons.mpr ⟨lw_p119, List.forall_mem_cons.mpr ⟨lw_p120, List.forall_mem_cons.mpr ⟨lw_p121, List.forall_mem_cons.mpr ⟨lw_p122, List.forall_mem_cons.mpr ⟨lw_p123, List.forall_mem_cons.mpr ⟨lw_p124, List.forall_mem_cons.mpr ⟨lw_p125, List.forall_mem_cons.mpr ⟨lw_p126, fun _ h => absurd h List.not_mem_nil⟩⟩⟩⟩⟩⟩⟩⟩⟩⟩⟩⟩⟩⟩⟩
def lw_privs : List (MethodName × Nat) := lw_privs_1 ++ (lw_privs_2 ++ (lw_privs_3 ++ (lw_privs_4 ++ (lw_privs_5 ++ (lw_privs_6 ++ (lw_privs_7 ++ (lw_privs_8)))))))
def lw_tbl : List Cond := k2_sels lw_privs ++ tables_1
theorem lw_privs_ok : ∀ q ∈ lw_privs, lw_okq q := by
  show ∀ q ∈ lw_privs_1 ++ (lw_privs_2 ++ (lw_privs_3 ++ (lw_privs_4 ++ (lw_privs_5 ++ (lw_privs_6 ++ (lw_privs_7 ++ (lw_privs_8))))))), lw_okq q
  exact List.forall_mem_append.mpr ⟨lw_r1, List.forall_mem_append.mpr ⟨lw_r2, List.forall_mem_append.mpr ⟨lw_r3, List.forall_mem_append.mpr ⟨lw_r4, List.forall_mem_append.mpr ⟨lw_r5, List.forall_mem_append.mpr ⟨lw_r6, List.forall_mem_append.mpr ⟨lw_r7, lw_r8⟩⟩⟩⟩⟩⟩⟩
def RX0 : String := "GrassPark$Grid"
def TX0 : u_T := fun k => match k with
  | 0 => ("GrassPark$Grid", "x", "[I", true)
  | 1 => ("GrassPark$Grid", "y", "[I", true)
  | 2 => ("GrassPark$Grid", "beside", "[I", true)
  | 3 => ("GrassPark$Grid", "w", "I", false)
  | _ => ("GrassPark$Grid", "h", "I", false)
def tyX0 : Nat → FieldType := fun k => match k with
  | 0 => .array .int
  | 1 => .array .int
  | 2 => .array .int
  | 3 => .int
  | _ => .int
abbrev wsX00 : List Cond := u_ws RX0 TX0 5
theorem nmX0 : ∀ a, a < 5 → ∀ b, b < 5 → a ≠ b → (TX0 a).2.1 ≠ (TX0 b).2.1 := by decide +kernel
theorem tyX0_ok : ∀ k, k < 5 → parseFieldDescriptor (TX0 k).2.2.1 = some (tyX0 k) := by decide +kernel
abbrev cX0_init : ByteArray := prog_2_method_1_code
def yX0_init : MethodName := ⟨RX0, "<init>", "()V"⟩
abbrev cX0_shape : ByteArray := prog_2_method_2_code
def yX0_shape : MethodName := ⟨RX0, "shape", "(II)V"⟩
abbrev cX0_at : ByteArray := prog_2_method_3_code
def yX0_at : MethodName := ⟨RX0, "at", "(II)I"⟩
abbrev cX0_wayTo : ByteArray := prog_2_method_4_code
def yX0_wayTo : MethodName := ⟨RX0, "wayTo", "(II)I"⟩
abbrev cX0_distance : ByteArray := prog_2_method_5_code
def yX0_distance : MethodName := ⟨RX0, "distance", "(II)I"⟩
def RX1 : String := "GrassPark$Land"
def TX1 : u_T := fun k => match k with
  | 0 => ("GrassPark$Land", "w", "I", false)
  | 1 => ("GrassPark$Land", "h", "I", false)
  | 2 => ("GrassPark$Land", "kind", "[I", true)
  | 3 => ("GrassPark$Land", "sign", "[I", true)
  | 4 => ("GrassPark$Land", "height", "[I", true)
  | 5 => ("GrassPark$Land", "wear", "[I", true)
  | 6 => ("GrassPark$Land", "wet", "[I", true)
  | 7 => ("GrassPark$Land", "trod", "[I", true)
  | 8 => ("GrassPark$Land", "snow", "[I", true)
  | 9 => ("GrassPark$Land", "crowd", "[I", true)
  | 10 => ("GrassPark$Land", "door", "[I", true)
  | 11 => ("GrassPark$Land", "doors", "I", false)
  | 12 => ("GrassPark$Land", "wish", "[LGrassPark$Wish;", true)
  | 13 => ("GrassPark$Land", "wishes", "I", false)
  | 14 => ("GrassPark$Land", "walker", "[LGrassPark$Walker;", true)
  | 15 => ("GrassPark$Land", "walkers", "I", false)
  | 16 => ("GrassPark$Land", "tick", "I", false)
  | 17 => ("GrassPark$Land", "arrived", "I", false)
  | 18 => ("GrassPark$Land", "lost", "I", false)
  | _ => ("GrassPark$Land", "turnedAway", "I", false)
def tyX1 : Nat → FieldType := fun k => match k with
  | 0 => .int
  | 1 => .int
  | 2 => .array .int
  | 3 => .array .int
  | 4 => .array .int
  | 5 => .array .int
  | 6 => .array .int
  | 7 => .array .int
  | 8 => .array .int
  | 9 => .array .int
  | 10 => .array .int
  | 11 => .int
  | 12 => .array (.object "GrassPark$Wish")
  | 13 => .int
  | 14 => .array (.object "GrassPark$Walker")
  | 15 => .int
  | 16 => .int
  | 17 => .int
  | 18 => .int
  | _ => .int
abbrev wsX10 : List Cond := u_ws RX1 TX1 20
theorem nmX1 : ∀ a, a < 20 → ∀ b, b < 20 → a ≠ b → (TX1 a).2.1 ≠ (TX1 b).2.1 := by decide +kernel
theorem tyX1_ok : ∀ k, k < 20 → parseFieldDescriptor (TX1 k).2.2.1 = some (tyX1 k) := by decide +kernel
abbrev cX1_init : ByteArray := prog_3_method_1_code
def yX1_init : MethodName := ⟨RX1, "<init>", "()V"⟩
abbrev cX1_cells : ByteArray := prog_3_method_2_code
def yX1_cells : MethodName := ⟨RX1, "cells", "()I"⟩
abbrev cX1_open : ByteArray := prog_3_method_3_code
def yX1_open : MethodName := ⟨RX1, "open", "(I)Z"⟩
abbrev cX1_green : ByteArray := prog_3_method_4_code
def yX1_green : MethodName := ⟨RX1, "green", "(I)Z"⟩
abbrev cX1_hasDoor : ByteArray := prog_3_method_5_code
def yX1_hasDoor : MethodName := ⟨RX1, "hasDoor", "(I)Z"⟩
abbrev cX1_setKind : ByteArray := prog_3_method_6_code
def yX1_setKind : MethodName := ⟨RX1, "setKind", "(II)V"⟩
abbrev cX1_wishesThatAre : ByteArray := prog_3_method_7_code
def yX1_wishesThatAre : MethodName := ⟨RX1, "wishesThatAre", "()I"⟩
abbrev cX1_renew : ByteArray := prog_3_method_8_code
def yX1_renew : MethodName := ⟨RX1, "renew", "(IILGrassPark$Tape;)V"⟩
abbrev cX1_copy : ByteArray := prog_3_method_9_code
def yX1_copy : MethodName := ⟨RX1, "copy", "(LGrassPark$Land;)V"⟩
def RX2 : String := "GrassPark$Net"
def TX2 : u_T := fun k => match k with
  | 0 => ("GrassPark$Net", "bits", "[J", true)
  | 1 => ("GrassPark$Net", "row", "[I", true)
  | 2 => ("GrassPark$Net", "price", "[I", true)
  | 3 => ("GrassPark$Net", "joined", "[[I", true)
  | _ => ("GrassPark$Net", "walk", "LGrassPark$Walk;", true)
def tyX2 : Nat → FieldType := fun k => match k with
  | 0 => .array .long
  | 1 => .array .int
  | 2 => .array .int
  | 3 => .array (.array .int)
  | _ => .object "GrassPark$Walk"
abbrev wsX20 : List Cond := u_ws RX2 TX2 5
theorem nmX2 : ∀ a, a < 5 → ∀ b, b < 5 → a ≠ b → (TX2 a).2.1 ≠ (TX2 b).2.1 := by decide +kernel
theorem tyX2_ok : ∀ k, k < 5 → parseFieldDescriptor (TX2 k).2.2.1 = some (tyX2 k) := by decide +kernel
abbrev cX2_init : ByteArray := prog_4_method_1_code
def yX2_init : MethodName := ⟨RX2, "<init>", "(LGrassPark$Walk;)V"⟩
abbrev cX2_keep : ByteArray := prog_4_method_2_code
def yX2_keep : MethodName := ⟨RX2, "keep", "(I)V"⟩
abbrev cX2_size : ByteArray := prog_4_method_3_code
def yX2_size : MethodName := ⟨RX2, "size", "(I)I"⟩
abbrev cX2_alone : ByteArray := prog_4_method_4_code
def yX2_alone : MethodName := ⟨RX2, "alone", "(II)I"⟩
abbrev cX2_parts : ByteArray := prog_4_method_5_code
def yX2_parts : MethodName := ⟨RX2, "parts", "()I"⟩
abbrev cX2_hundredths : ByteArray := prog_4_method_6_code
def yX2_hundredths : MethodName := ⟨RX2, "hundredths", "(II)I"⟩
abbrev cX2_shortest : ByteArray := prog_4_method_7_code
def yX2_shortest : MethodName := ⟨RX2, "shortest", "(II)I"⟩
abbrev cX2_leastCost : ByteArray := prog_4_method_8_code
def yX2_leastCost : MethodName := ⟨RX2, "leastCost", "([II)I"⟩
abbrev cX2_meet : ByteArray := prog_4_method_9_code
def yX2_meet : MethodName := ⟨RX2, "meet", "(II)V"⟩
abbrev cX2_spread : ByteArray := prog_4_method_10_code
def yX2_spread : MethodName := ⟨RX2, "spread", "([III)V"⟩
abbrev cX2_cheaper : ByteArray := prog_4_method_11_code
def yX2_cheaper : MethodName := ⟨RX2, "cheaper", "([IIII)Z"⟩
def RX3 : String := "GrassPark$Reader"
def TX3 : u_T := fun k => match k with
  | 0 => ("GrassPark$Reader", "tape", "LGrassPark$Tape;", true)
  | 1 => ("GrassPark$Reader", "types", "[I", true)
  | 2 => ("GrassPark$Reader", "starts", "[I", true)
  | 3 => ("GrassPark$Reader", "stops", "[I", true)
  | 4 => ("GrassPark$Reader", "values", "[I", true)
  | 5 => ("GrassPark$Reader", "tokens", "I", false)
  | 6 => ("GrassPark$Reader", "now", "I", false)
  | 7 => ("GrassPark$Reader", "type", "I", false)
  | 8 => ("GrassPark$Reader", "text", "LGrassPark$Text;", false)
  | 9 => ("GrassPark$Reader", "asLaw", "Z", false)
  | 10 => ("GrassPark$Reader", "told", "I", false)
  | 11 => ("GrassPark$Reader", "ones", "I", false)
  | 12 => ("GrassPark$Reader", "fault", "I", false)
  | _ => ("GrassPark$Reader", "place", "I", false)
def tyX3 : Nat → FieldType := fun k => match k with
  | 0 => .object "GrassPark$Tape"
  | 1 => .array .int
  | 2 => .array .int
  | 3 => .array .int
  | 4 => .array .int
  | 5 => .int
  | 6 => .int
  | 7 => .int
  | 8 => .object "GrassPark$Text"
  | 9 => .boolean
  | 10 => .int
  | 11 => .int
  | 12 => .int
  | _ => .int
abbrev wsX30 : List Cond := u_ws RX3 TX3 14
theorem nmX3 : ∀ a, a < 14 → ∀ b, b < 14 → a ≠ b → (TX3 a).2.1 ≠ (TX3 b).2.1 := by decide +kernel
theorem tyX3_ok : ∀ k, k < 14 → parseFieldDescriptor (TX3 k).2.2.1 = some (tyX3 k) := by decide +kernel
abbrev cX3_init : ByteArray := prog_5_method_1_code
def yX3_init : MethodName := ⟨RX3, "<init>", "(LGrassPark$Tape;)V"⟩
abbrev cX3_readText : ByteArray := prog_5_method_2_code
def yX3_readText : MethodName := ⟨RX3, "readText", "(LGrassPark$Text;Z)Z"⟩
abbrev cX3_fail : ByteArray := prog_5_method_3_code
def yX3_fail : MethodName := ⟨RX3, "fail", "(I)Z"⟩
abbrev cX3_findTokens : ByteArray := prog_5_method_4_code
def yX3_findTokens : MethodName := ⟨RX3, "findTokens", "()V"⟩
abbrev cX3_tokenAt : ByteArray := prog_5_method_5_code
def yX3_tokenAt : MethodName := ⟨RX3, "tokenAt", "(I)I"⟩
abbrev cX3_signAt : ByteArray := prog_5_method_6_code
def yX3_signAt : MethodName := ⟨RX3, "signAt", "(I)I"⟩
abbrev cX3_goOn : ByteArray := prog_5_method_7_code
def yX3_goOn : MethodName := ⟨RX3, "goOn", "()V"⟩
abbrev cX3_among : ByteArray := prog_5_method_8_code
def yX3_among : MethodName := ⟨RX3, "among", "(Ljava/lang/String;)I"⟩
abbrev cX3_line : ByteArray := prog_5_method_9_code
def yX3_line : MethodName := ⟨RX3, "line", "()Z"⟩
abbrev cX3_weighed : ByteArray := prog_5_method_10_code
def yX3_weighed : MethodName := ⟨RX3, "weighed", "(I)Z"⟩
abbrev cX3_numbered : ByteArray := prog_5_method_11_code
def yX3_numbered : MethodName := ⟨RX3, "numbered", "(II)Z"⟩
abbrev cX3_cond : ByteArray := prog_5_method_12_code
def yX3_cond : MethodName := ⟨RX3, "cond", "(I)Z"⟩
abbrev cX3_all : ByteArray := prog_5_method_13_code
def yX3_all : MethodName := ⟨RX3, "all", "(I)Z"⟩
abbrev cX3_one : ByteArray := prog_5_method_14_code
def yX3_one : MethodName := ⟨RX3, "one", "(I)Z"⟩
abbrev cX3_comparison : ByteArray := prog_5_method_15_code
def yX3_comparison : MethodName := ⟨RX3, "comparison", "(I)Z"⟩
abbrev cX3_emit : ByteArray := prog_5_method_16_code
def yX3_emit : MethodName := ⟨RX3, "emit", "(III)V"⟩
def RX4 : String := "GrassPark$Snow"
def TX4 : u_T := fun k => match k with
  | 0 => ("GrassPark$Snow", "cells", "[[I", true)
  | 1 => ("GrassPark$Snow", "lengths", "[I", true)
  | 2 => ("GrassPark$Snow", "ways", "I", false)
  | 3 => ("GrassPark$Snow", "left", "[I", true)
  | 4 => ("GrassPark$Snow", "leftInAll", "I", false)
  | 5 => ("GrassPark$Snow", "tried", "[I", true)
  | 6 => ("GrassPark$Snow", "lowest", "[I", true)
  | 7 => ("GrassPark$Snow", "highest", "[I", true)
  | 8 => ("GrassPark$Snow", "waysRead", "I", false)
  | 9 => ("GrassPark$Snow", "fewest", "[I", true)
  | _ => ("GrassPark$Snow", "most", "[I", true)
def tyX4 : Nat → FieldType := fun k => match k with
  | 0 => .array (.array .int)
  | 1 => .array .int
  | 2 => .int
  | 3 => .array .int
  | 4 => .int
  | 5 => .array .int
  | 6 => .array .int
  | 7 => .array .int
  | 8 => .int
  | 9 => .array .int
  | _ => .array .int
abbrev wsX40 : List Cond := u_ws RX4 TX4 11
theorem nmX4 : ∀ a, a < 11 → ∀ b, b < 11 → a ≠ b → (TX4 a).2.1 ≠ (TX4 b).2.1 := by decide +kernel
theorem tyX4_ok : ∀ k, k < 11 → parseFieldDescriptor (TX4 k).2.2.1 = some (tyX4 k) := by decide +kernel
abbrev cX4_init : ByteArray := prog_6_method_1_code
def yX4_init : MethodName := ⟨RX4, "<init>", "()V"⟩
abbrev cX4_setWay : ByteArray := prog_6_method_2_code
def yX4_setWay : MethodName := ⟨RX4, "setWay", "(I[II)V"⟩
abbrev cX4_tellings : ByteArray := prog_6_method_3_code
def yX4_tellings : MethodName := ⟨RX4, "tellings", "(LGrassPark$Land;)I"⟩
abbrev cX4_tell : ByteArray := prog_6_method_4_code
def yX4_tell : MethodName := ⟨RX4, "tell", "(I)I"⟩
abbrev cX4_mayEnd : ByteArray := prog_6_method_5_code
def yX4_mayEnd : MethodName := ⟨RX4, "mayEnd", "(I)Z"⟩
abbrev cX4_take : ByteArray := prog_6_method_6_code
def yX4_take : MethodName := ⟨RX4, "take", "(II)Z"⟩
abbrev cX4_note : ByteArray := prog_6_method_7_code
def yX4_note : MethodName := ⟨RX4, "note", "()I"⟩
def RX5 : String := "GrassPark$Tape"
def TX5 : u_T := fun k => match k with
  | 0 => ("GrassPark$Tape", "bytes", "[I", true)
  | _ => ("GrassPark$Tape", "length", "I", false)
def tyX5 : Nat → FieldType := fun k => match k with
  | 0 => .array .int
  | _ => .int
abbrev wsX50 : List Cond := u_ws RX5 TX5 2
theorem nmX5 : ∀ a, a < 2 → ∀ b, b < 2 → a ≠ b → (TX5 a).2.1 ≠ (TX5 b).2.1 := by decide +kernel
theorem tyX5_ok : ∀ k, k < 2 → parseFieldDescriptor (TX5 k).2.2.1 = some (tyX5 k) := by decide +kernel
abbrev cX5_init : ByteArray := prog_7_method_1_code
def yX5_init : MethodName := ⟨RX5, "<init>", "()V"⟩
abbrev cX5_put : ByteArray := prog_7_method_2_code
def yX5_put : MethodName := ⟨RX5, "put", "(I)V"⟩
def RX6 : String := "GrassPark$Text"
def TX6 : u_T := fun k => match k with
  | 0 => ("GrassPark$Text", "what", "[I", true)
  | 1 => ("GrassPark$Text", "measure", "[I", true)
  | 2 => ("GrassPark$Text", "number", "[I", true)
  | 3 => ("GrassPark$Text", "start", "[I", true)
  | 4 => ("GrassPark$Text", "stop", "[I", true)
  | 5 => ("GrassPark$Text", "ask", "[I", true)
  | 6 => ("GrassPark$Text", "low", "[I", true)
  | 7 => ("GrassPark$Text", "high", "[I", true)
  | 8 => ("GrassPark$Text", "lines", "I", false)
  | 9 => ("GrassPark$Text", "codes", "I", false)
  | 10 => ("GrassPark$Text", "line", "I", false)
  | 11 => ("GrassPark$Text", "mud", "I", false)
  | 12 => ("GrassPark$Text", "dry", "I", false)
  | _ => ("GrassPark$Text", "sight", "I", false)
def tyX6 : Nat → FieldType := fun k => match k with
  | 0 => .array .int
  | 1 => .array .int
  | 2 => .array .int
  | 3 => .array .int
  | 4 => .array .int
  | 5 => .array .int
  | 6 => .array .int
  | 7 => .array .int
  | 8 => .int
  | 9 => .int
  | 10 => .int
  | 11 => .int
  | 12 => .int
  | _ => .int
abbrev wsX60 : List Cond := u_ws RX6 TX6 14
theorem nmX6 : ∀ a, a < 14 → ∀ b, b < 14 → a ≠ b → (TX6 a).2.1 ≠ (TX6 b).2.1 := by decide +kernel
theorem tyX6_ok : ∀ k, k < 14 → parseFieldDescriptor (TX6 k).2.2.1 = some (tyX6 k) := by decide +kernel
abbrev cX6_init : ByteArray := prog_8_method_1_code
def yX6_init : MethodName := ⟨RX6, "<init>", "()V"⟩
abbrev cX6_clear : ByteArray := prog_8_method_2_code
def yX6_clear : MethodName := ⟨RX6, "clear", "()V"⟩
abbrev cX6_firstLineWeighed : ByteArray := prog_8_method_3_code
def yX6_firstLineWeighed : MethodName := ⟨RX6, "firstLineWeighed", "()I"⟩
def RX7 : String := "GrassPark$Walk"
def TX7 : u_T := fun k => match k with
  | 0 => ("GrassPark$Walk", "grid", "LGrassPark$Grid;", true)
  | 1 => ("GrassPark$Walk", "habits", "[LGrassPark$Text;", true)
  | 2 => ("GrassPark$Walk", "law", "LGrassPark$Text;", false)
  | 3 => ("GrassPark$Walk", "spare", "LGrassPark$Text;", false)
  | 4 => ("GrassPark$Walk", "verdict", "[I", true)
  | 5 => ("GrassPark$Walk", "sums", "[[I", true)
  | 6 => ("GrassPark$Walk", "single", "LGrassPark$Walker;", true)
  | 7 => ("GrassPark$Walk", "land", "LGrassPark$Land;", false)
  | 8 => ("GrassPark$Walk", "alone", "Z", false)
  | 9 => ("GrassPark$Walk", "watched", "I", false)
  | 10 => ("GrassPark$Walk", "watchedTrod", "Z", false)
  | _ => ("GrassPark$Walk", "steps", "I", false)
def tyX7 : Nat → FieldType := fun k => match k with
  | 0 => .object "GrassPark$Grid"
  | 1 => .array (.object "GrassPark$Text")
  | 2 => .object "GrassPark$Text"
  | 3 => .object "GrassPark$Text"
  | 4 => .array .int
  | 5 => .array (.array .int)
  | 6 => .object "GrassPark$Walker"
  | 7 => .object "GrassPark$Land"
  | 8 => .boolean
  | 9 => .int
  | 10 => .boolean
  | _ => .int
abbrev wsX70 : List Cond := u_ws RX7 TX7 12
theorem nmX7 : ∀ a, a < 12 → ∀ b, b < 12 → a ≠ b → (TX7 a).2.1 ≠ (TX7 b).2.1 := by decide +kernel
theorem tyX7_ok : ∀ k, k < 12 → parseFieldDescriptor (TX7 k).2.2.1 = some (tyX7 k) := by decide +kernel
abbrev cX7_init : ByteArray := prog_9_method_1_code
def yX7_init : MethodName := ⟨RX7, "<init>", "(LGrassPark$Land;)V"⟩
abbrev cX7_enter : ByteArray := prog_9_method_2_code
def yX7_enter : MethodName := ⟨RX7, "enter", "(LGrassPark$Land;)V"⟩
abbrev cX7_forget : ByteArray := prog_9_method_3_code
def yX7_forget : MethodName := ⟨RX7, "forget", "()V"⟩
abbrev cX7_worn : ByteArray := prog_9_method_4_code
def yX7_worn : MethodName := ⟨RX7, "worn", "(I)Z"⟩
abbrev cX7_wornCells : ByteArray := prog_9_method_5_code
def yX7_wornCells : MethodName := ⟨RX7, "wornCells", "()I"⟩
abbrev cX7_go : ByteArray := prog_9_method_6_code
def yX7_go : MethodName := ⟨RX7, "go", "(I)I"⟩
abbrev cX7_begin : ByteArray := prog_9_method_7_code
def yX7_begin : MethodName := ⟨RX7, "begin", "()V"⟩
abbrev cX7_leaveIfDone : ByteArray := prog_9_method_8_code
def yX7_leaveIfDone : MethodName := ⟨RX7, "leaveIfDone", "(LGrassPark$Walker;I)V"⟩
abbrev cX7_sweep : ByteArray := prog_9_method_9_code
def yX7_sweep : MethodName := ⟨RX7, "sweep", "()V"⟩
abbrev cX7_tread : ByteArray := prog_9_method_10_code
def yX7_tread : MethodName := ⟨RX7, "tread", "(I)V"⟩
abbrev cX7_endWeek : ByteArray := prog_9_method_11_code
def yX7_endWeek : MethodName := ⟨RX7, "endWeek", "()V"⟩
abbrev cX7_firstNumber : ByteArray := prog_9_method_12_code
def yX7_firstNumber : MethodName := ⟨RX7, "firstNumber", "(III)I"⟩
abbrev cX7_arrives : ByteArray := prog_9_method_13_code
def yX7_arrives : MethodName := ⟨RX7, "arrives", "(III[I)Z"⟩
abbrev cX7_choose : ByteArray := prog_9_method_14_code
def yX7_choose : MethodName := ⟨RX7, "choose", "(LGrassPark$Walker;II)I"⟩
abbrev cX7_look : ByteArray := prog_9_method_15_code
def yX7_look : MethodName := ⟨RX7, "look", "(LGrassPark$Text;II)V"⟩
abbrev cX7_weigh : ByteArray := prog_9_method_16_code
def yX7_weigh : MethodName := ⟨RX7, "weigh", "(LGrassPark$Walker;III)I"⟩
abbrev cX7_wornAhead : ByteArray := prog_9_method_17_code
def yX7_wornAhead : MethodName := ⟨RX7, "wornAhead", "(III)I"⟩
abbrev cX7_holds : ByteArray := prog_9_method_18_code
def yX7_holds : MethodName := ⟨RX7, "holds", "(LGrassPark$Text;II)Z"⟩
abbrev cX7_asked : ByteArray := prog_9_method_19_code
def yX7_asked : MethodName := ⟨RX7, "asked", "(II)I"⟩
def RX8 : String := "GrassPark$Walker"
def TX8 : u_T := fun k => match k with
  | 0 => ("GrassPark$Walker", "cell", "I", false)
  | 1 => ("GrassPark$Walker", "wish", "I", false)
  | 2 => ("GrassPark$Walker", "age", "I", false)
  | 3 => ("GrassPark$Walker", "came", "I", false)
  | _ => ("GrassPark$Walker", "way", "I", false)
def tyX8 : Nat → FieldType := fun k => match k with
  | 0 => .int
  | 1 => .int
  | 2 => .int
  | 3 => .int
  | _ => .int
abbrev wsX80 : List Cond := u_ws RX8 TX8 5
theorem nmX8 : ∀ a, a < 5 → ∀ b, b < 5 → a ≠ b → (TX8 a).2.1 ≠ (TX8 b).2.1 := by decide +kernel
theorem tyX8_ok : ∀ k, k < 5 → parseFieldDescriptor (TX8 k).2.2.1 = some (tyX8 k) := by decide +kernel
abbrev cX8_init : ByteArray := prog_10_method_1_code
def yX8_init : MethodName := ⟨RX8, "<init>", "()V"⟩
abbrev cX8_begin : ByteArray := prog_10_method_2_code
def yX8_begin : MethodName := ⟨RX8, "begin", "(II)V"⟩
abbrev cX8_step : ByteArray := prog_10_method_3_code
def yX8_step : MethodName := ⟨RX8, "step", "(II)V"⟩
abbrev cX8_copy : ByteArray := prog_10_method_4_code
def yX8_copy : MethodName := ⟨RX8, "copy", "(LGrassPark$Walker;)V"⟩
def RX9 : String := "GrassPark$Wish"
def TX9 : u_T := fun k => match k with
  | 0 => ("GrassPark$Wish", "from", "I", false)
  | 1 => ("GrassPark$Wish", "to", "I", false)
  | 2 => ("GrassPark$Wish", "habit", "I", false)
  | 3 => ("GrassPark$Wish", "every", "I", false)
  | 4 => ("GrassPark$Wish", "first", "I", false)
  | _ => ("GrassPark$Wish", "is", "Z", false)
def tyX9 : Nat → FieldType := fun k => match k with
  | 0 => .int
  | 1 => .int
  | 2 => .int
  | 3 => .int
  | 4 => .int
  | _ => .boolean
abbrev wsX90 : List Cond := u_ws RX9 TX9 6
theorem nmX9 : ∀ a, a < 6 → ∀ b, b < 6 → a ≠ b → (TX9 a).2.1 ≠ (TX9 b).2.1 := by decide +kernel
theorem tyX9_ok : ∀ k, k < 6 → parseFieldDescriptor (TX9 k).2.2.1 = some (tyX9 k) := by decide +kernel
abbrev cX9_init : ByteArray := prog_11_method_1_code
def yX9_init : MethodName := ⟨RX9, "<init>", "()V"⟩
abbrev cX9_copy : ByteArray := prog_11_method_2_code
def yX9_copy : MethodName := ⟨RX9, "copy", "(LGrassPark$Wish;)V"⟩
abbrev cX9_due : ByteArray := prog_11_method_3_code
def yX9_due : MethodName := ⟨RX9, "due", "(I)Z"⟩
def RX10 : String := "GrassPark"
def TX10 : u_T := fun k => match k with
  | 0 => ("GrassPark", "tape", "LGrassPark$Tape;", true)
  | 1 => ("GrassPark", "reader", "LGrassPark$Reader;", true)
  | 2 => ("GrassPark", "land", "LGrassPark$Land;", true)
  | 3 => ("GrassPark", "walk", "LGrassPark$Walk;", true)
  | 4 => ("GrassPark", "nets", "LGrassPark$Net;", true)
  | 5 => ("GrassPark", "tracks", "LGrassPark$Snow;", true)
  | 6 => ("GrassPark", "trial", "LGrassPark$Land;", true)
  | 7 => ("GrassPark", "images", "[LGrassPark$Land;", true)
  | 8 => ("GrassPark", "kept", "[Z", true)
  | 9 => ("GrassPark", "path", "[I", true)
  | 10 => ("GrassPark", "trail", "[I", true)
  | 11 => ("GrassPark", "fence", "[I", true)
  | 12 => ("GrassPark", "ends", "[I", true)
  | 13 => ("GrassPark", "pathSteps", "I", false)
  | 14 => ("GrassPark", "fencesSet", "I", false)
  | _ => ("GrassPark", "faultKind", "I", false)
def tyX10 : Nat → FieldType := fun k => match k with
  | 0 => .object "GrassPark$Tape"
  | 1 => .object "GrassPark$Reader"
  | 2 => .object "GrassPark$Land"
  | 3 => .object "GrassPark$Walk"
  | 4 => .object "GrassPark$Net"
  | 5 => .object "GrassPark$Snow"
  | 6 => .object "GrassPark$Land"
  | 7 => .array (.object "GrassPark$Land")
  | 8 => .array .boolean
  | 9 => .array .int
  | 10 => .array .int
  | 11 => .array .int
  | 12 => .array .int
  | 13 => .int
  | 14 => .int
  | _ => .int
abbrev wsX100 : List Cond := u_ws RX10 TX10 16
theorem nmX10 : ∀ a, a < 16 → ∀ b, b < 16 → a ≠ b → (TX10 a).2.1 ≠ (TX10 b).2.1 := by decide +kernel
theorem tyX10_ok : ∀ k, k < 16 → parseFieldDescriptor (TX10 k).2.2.1 = some (tyX10 k) := by decide +kernel
abbrev cX10_init : ByteArray := prog_1_method_1_code
def yX10_init : MethodName := ⟨RX10, "<init>", "()V"⟩
abbrev cX10_feed : ByteArray := prog_1_method_2_code
def yX10_feed : MethodName := ⟨RX10, "feed", "(IIIII)I"⟩
abbrev cX10_end : ByteArray := prog_1_method_3_code
def yX10_end : MethodName := ⟨RX10, "end", "(I)Z"⟩
abbrev cX10_park : ByteArray := prog_1_method_4_code
def yX10_park : MethodName := ⟨RX10, "park", "(II)Z"⟩
abbrev cX10_tapeTellsPark : ByteArray := prog_1_method_5_code
def yX10_tapeTellsPark : MethodName := ⟨RX10, "tapeTellsPark", "(II)Z"⟩
abbrev cX10_door : ByteArray := prog_1_method_6_code
def yX10_door : MethodName := ⟨RX10, "door", "(I)I"⟩
abbrev cX10_law : ByteArray := prog_1_method_7_code
def yX10_law : MethodName := ⟨RX10, "law", "()I"⟩
abbrev cX10_habit : ByteArray := prog_1_method_8_code
def yX10_habit : MethodName := ⟨RX10, "habit", "(I)I"⟩
abbrev cX10_readingEnds : ByteArray := prog_1_method_9_code
def yX10_readingEnds : MethodName := ⟨RX10, "readingEnds", "(ZLGrassPark$Text;)I"⟩
abbrev cX10_fault : ByteArray := prog_1_method_10_code
def yX10_fault : MethodName := ⟨RX10, "fault", "()I"⟩
abbrev cX10_wish : ByteArray := prog_1_method_11_code
def yX10_wish : MethodName := ⟨RX10, "wish", "(IIIII)I"⟩
abbrev cX10_drop : ByteArray := prog_1_method_12_code
def yX10_drop : MethodName := ⟨RX10, "drop", "(I)Z"⟩
abbrev cX10_run : ByteArray := prog_1_method_13_code
def yX10_run : MethodName := ⟨RX10, "run", "(I)I"⟩
abbrev cX10_week : ByteArray := prog_1_method_14_code
def yX10_week : MethodName := ⟨RX10, "week", "()I"⟩
abbrev cX10_rain : ByteArray := prog_1_method_15_code
def yX10_rain : MethodName := ⟨RX10, "rain", "(I)Z"⟩
abbrev cX10_snow : ByteArray := prog_1_method_16_code
def yX10_snow : MethodName := ⟨RX10, "snow", "()V"⟩
abbrev cX10_lay : ByteArray := prog_1_method_17_code
def yX10_lay : MethodName := ⟨RX10, "lay", "(II)Z"⟩
abbrev cX10_cell : ByteArray := prog_1_method_18_code
def yX10_cell : MethodName := ⟨RX10, "cell", "(II)I"⟩
abbrev cX10_walker : ByteArray := prog_1_method_19_code
def yX10_walker : MethodName := ⟨RX10, "walker", "(II)I"⟩
abbrev cX10_net : ByteArray := prog_1_method_20_code
def yX10_net : MethodName := ⟨RX10, "net", "()I"⟩
abbrev cX10_pieces : ByteArray := prog_1_method_21_code
def yX10_pieces : MethodName := ⟨RX10, "pieces", "()I"⟩
abbrev cX10_rests : ByteArray := prog_1_method_22_code
def yX10_rests : MethodName := ⟨RX10, "rests", "(II)I"⟩
abbrev cX10_least : ByteArray := prog_1_method_23_code
def yX10_least : MethodName := ⟨RX10, "least", "()I"⟩
abbrev cX10_leastOfTape : ByteArray := prog_1_method_24_code
def yX10_leastOfTape : MethodName := ⟨RX10, "leastOfTape", "()I"⟩
abbrev cX10_longer : ByteArray := prog_1_method_25_code
def yX10_longer : MethodName := ⟨RX10, "longer", "(II)I"⟩
abbrev cX10_turns : ByteArray := prog_1_method_26_code
def yX10_turns : MethodName := ⟨RX10, "turns", "(IIII)I"⟩
abbrev cX10_paved : ByteArray := prog_1_method_27_code
def yX10_paved : MethodName := ⟨RX10, "paved", "(IIII)I"⟩
abbrev cX10_wait : ByteArray := prog_1_method_28_code
def yX10_wait : MethodName := ⟨RX10, "wait", "(II)I"⟩
abbrev cX10_pavingTold : ByteArray := prog_1_method_29_code
def yX10_pavingTold : MethodName := ⟨RX10, "pavingTold", "(II)Z"⟩
abbrev cX10_keepWeeks : ByteArray := prog_1_method_30_code
def yX10_keepWeeks : MethodName := ⟨RX10, "keepWeeks", "(II)V"⟩
abbrev cX10_fences : ByteArray := prog_1_method_31_code
def yX10_fences : MethodName := ⟨RX10, "fences", "(II)I"⟩
abbrev cX10_fencesTold : ByteArray := prog_1_method_32_code
def yX10_fencesTold : MethodName := ⟨RX10, "fencesTold", "(II)Z"⟩
abbrev cX10_fewestFences : ByteArray := prog_1_method_33_code
def yX10_fewestFences : MethodName := ⟨RX10, "fewestFences", "(II)I"⟩
abbrev cX10_nobodySteps : ByteArray := prog_1_method_34_code
def yX10_nobodySteps : MethodName := ⟨RX10, "nobodySteps", "(IIII)Z"⟩
abbrev cX10_setFences : ByteArray := prog_1_method_35_code
def yX10_setFences : MethodName := ⟨RX10, "setFences", "(III)I"⟩
abbrev cX10_fenceAt : ByteArray := prog_1_method_36_code
def yX10_fenceAt : MethodName := ⟨RX10, "fenceAt", "(I)I"⟩
abbrev cX10_lasts : ByteArray := prog_1_method_37_code
def yX10_lasts : MethodName := ⟨RX10, "lasts", "(IIII)I"⟩
abbrev cX10_way : ByteArray := prog_1_method_38_code
def yX10_way : MethodName := ⟨RX10, "way", "(III)I"⟩
abbrev cX10_wayAt : ByteArray := prog_1_method_39_code
def yX10_wayAt : MethodName := ⟨RX10, "wayAt", "(I)I"⟩
abbrev cX10_read : ByteArray := prog_1_method_40_code
def yX10_read : MethodName := ⟨RX10, "read", "()I"⟩
abbrev cX10_tellWays : ByteArray := prog_1_method_41_code
def yX10_tellWays : MethodName := ⟨RX10, "tellWays", "()Z"⟩
abbrev cX10_reads : ByteArray := prog_1_method_42_code
def yX10_reads : MethodName := ⟨RX10, "reads", "(II)I"⟩
abbrev cX10_fits : ByteArray := prog_1_method_43_code
def yX10_fits : MethodName := ⟨RX10, "fits", "(II)I"⟩
abbrev cX10_fitting : ByteArray := prog_1_method_44_code
def yX10_fitting : MethodName := ⟨RX10, "fitting", "(II)I"⟩
abbrev cX10_tapeTellsTrail : ByteArray := prog_1_method_45_code
def yX10_tapeTellsTrail : MethodName := ⟨RX10, "tapeTellsTrail", "()Z"⟩
abbrev cX10_image : ByteArray := prog_1_method_46_code
def yX10_image : MethodName := ⟨RX10, "image", "(I)Z"⟩
abbrev cX10_restore : ByteArray := prog_1_method_47_code
def yX10_restore : MethodName := ⟨RX10, "restore", "(I)Z"⟩
abbrev cX10_count : ByteArray := prog_1_method_48_code
def yX10_count : MethodName := ⟨RX10, "count", "(I)I"⟩
abbrev cX10_within : ByteArray := prog_1_method_49_code
def yX10_within : MethodName := ⟨RX10, "within", "(III)Z"⟩
abbrev cX10_isCell : ByteArray := prog_1_method_50_code
def yX10_isCell : MethodName := ⟨RX10, "isCell", "(I)Z"⟩
abbrev cX10_isDoor : ByteArray := prog_1_method_51_code
def yX10_isDoor : MethodName := ⟨RX10, "isDoor", "(I)Z"⟩
abbrev cX10_twoDoors : ByteArray := prog_1_method_52_code
def yX10_twoDoors : MethodName := ⟨RX10, "twoDoors", "(II)Z"⟩
abbrev cX10_isWish : ByteArray := prog_1_method_53_code
def yX10_isWish : MethodName := ⟨RX10, "isWish", "(I)Z"⟩
abbrev cX10_isWorn : ByteArray := prog_1_method_54_code
def yX10_isWorn : MethodName := ⟨RX10, "isWorn", "(I)Z"⟩
abbrev cX10_wayTold : ByteArray := prog_1_method_55_code
def yX10_wayTold : MethodName := ⟨RX10, "wayTold", "(III)Z"⟩
abbrev cX10_openCase : ByteArray := prog_1_method_56_code
def yX10_openCase : MethodName := ⟨RX10, "openCase", "()V"⟩
abbrev cX10_oneWeek : ByteArray := prog_1_method_57_code
def yX10_oneWeek : MethodName := ⟨RX10, "oneWeek", "(I)V"⟩
def RX11 : String := "GrassParkModel"
def TX11 : u_T := fun k => match k with
  | 0 => ("GrassParkModel", "thrown", "I", false)
  | 1 => ("GrassParkModel", "tape", "[B", true)
  | 2 => ("GrassParkModel", "length", "I", false)
  | 3 => ("GrassParkModel", "size", "I", false)
  | 4 => ("GrassParkModel", "p", "I", false)
  | 5 => ("GrassParkModel", "s", "[I", true)
  | 6 => ("GrassParkModel", "kept", "[I", true)
  | 7 => ("GrassParkModel", "aside", "[I", true)
  | 8 => ("GrassParkModel", "isKept", "[Z", true)
  | 9 => ("GrassParkModel", "lineMany", "[I", true)
  | 10 => ("GrassParkModel", "lineKind", "[I", true)
  | 11 => ("GrassParkModel", "lineWhat", "[I", true)
  | 12 => ("GrassParkModel", "lineNumber", "[I", true)
  | 13 => ("GrassParkModel", "lineFrom", "[I", true)
  | 14 => ("GrassParkModel", "lineTo", "[I", true)
  | 15 => ("GrassParkModel", "step", "[I", true)
  | 16 => ("GrassParkModel", "stepSign", "[I", true)
  | 17 => ("GrassParkModel", "stepNumber", "[I", true)
  | 18 => ("GrassParkModel", "pile", "[I", true)
  | 19 => ("GrassParkModel", "stepMany", "I", false)
  | 20 => ("GrassParkModel", "pileMany", "I", false)
  | 21 => ("GrassParkModel", "ones", "I", false)
  | 22 => ("GrassParkModel", "token", "I", false)
  | 23 => ("GrassParkModel", "at", "I", false)
  | 24 => ("GrassParkModel", "span", "I", false)
  | 25 => ("GrassParkModel", "number", "I", false)
  | 26 => ("GrassParkModel", "fault", "I", false)
  | 27 => ("GrassParkModel", "faultAt", "I", false)
  | 28 => ("GrassParkModel", "bound", "I", false)
  | 29 => ("GrassParkModel", "mud", "I", false)
  | 30 => ("GrassParkModel", "dry", "I", false)
  | 31 => ("GrassParkModel", "word", "J", false)
  | 32 => ("GrassParkModel", "told", "I", false)
  | 33 => ("GrassParkModel", "truth", "[Z", true)
  | 34 => ("GrassParkModel", "here", "I", false)
  | 35 => ("GrassParkModel", "goal", "I", false)
  | 36 => ("GrassParkModel", "text", "I", false)
  | 37 => ("GrassParkModel", "lastWay", "I", false)
  | 38 => ("GrassParkModel", "cameFrom", "I", false)
  | 39 => ("GrassParkModel", "alone", "Z", false)
  | 40 => ("GrassParkModel", "watched", "I", false)
  | 41 => ("GrassParkModel", "arrivedNow", "I", false)
  | 42 => ("GrassParkModel", "wasTrod", "Z", false)
  | 43 => ("GrassParkModel", "mark", "[Z", true)
  | 44 => ("GrassParkModel", "before", "[Z", true)
  | 45 => ("GrassParkModel", "behind", "[Z", true)
  | 46 => ("GrassParkModel", "during", "[Z", true)
  | 47 => ("GrassParkModel", "costs", "[I", true)
  | 48 => ("GrassParkModel", "ways", "[I", true)
  | 49 => ("GrassParkModel", "paveMany", "I", false)
  | 50 => ("GrassParkModel", "paveSoon", "I", false)
  | 51 => ("GrassParkModel", "paveMissed", "I", false)
  | 52 => ("GrassParkModel", "fenced", "[I", true)
  | 53 => ("GrassParkModel", "fencedMany", "I", false)
  | 54 => ("GrassParkModel", "path", "[I", true)
  | 55 => ("GrassParkModel", "pathKept", "[I", true)
  | 56 => ("GrassParkModel", "trodBy", "[I", true)
  | 57 => ("GrassParkModel", "least", "[I", true)
  | 58 => ("GrassParkModel", "greatest", "[I", true)
  | 59 => ("GrassParkModel", "tries", "[I", true)
  | 60 => ("GrassParkModel", "pathMany", "I", false)
  | 61 => ("GrassParkModel", "pathKeptMany", "I", false)
  | _ => ("GrassParkModel", "readMany", "I", false)
def tyX11 : Nat → FieldType := fun k => match k with
  | 0 => .int
  | 1 => .array .byte
  | 2 => .int
  | 3 => .int
  | 4 => .int
  | 5 => .array .int
  | 6 => .array .int
  | 7 => .array .int
  | 8 => .array .boolean
  | 9 => .array .int
  | 10 => .array .int
  | 11 => .array .int
  | 12 => .array .int
  | 13 => .array .int
  | 14 => .array .int
  | 15 => .array .int
  | 16 => .array .int
  | 17 => .array .int
  | 18 => .array .int
  | 19 => .int
  | 20 => .int
  | 21 => .int
  | 22 => .int
  | 23 => .int
  | 24 => .int
  | 25 => .int
  | 26 => .int
  | 27 => .int
  | 28 => .int
  | 29 => .int
  | 30 => .int
  | 31 => .long
  | 32 => .int
  | 33 => .array .boolean
  | 34 => .int
  | 35 => .int
  | 36 => .int
  | 37 => .int
  | 38 => .int
  | 39 => .boolean
  | 40 => .int
  | 41 => .int
  | 42 => .boolean
  | 43 => .array .boolean
  | 44 => .array .boolean
  | 45 => .array .boolean
  | 46 => .array .boolean
  | 47 => .array .int
  | 48 => .array .int
  | 49 => .int
  | 50 => .int
  | 51 => .int
  | 52 => .array .int
  | 53 => .int
  | 54 => .array .int
  | 55 => .array .int
  | 56 => .array .int
  | 57 => .array .int
  | 58 => .array .int
  | 59 => .array .int
  | 60 => .int
  | 61 => .int
  | _ => .int
abbrev wsX110 : List Cond := u_ws RX11 TX11 63
theorem nmX11 : ∀ a, a < 63 → ∀ b, b < 63 → a ≠ b → (TX11 a).2.1 ≠ (TX11 b).2.1 := by decide +kernel
theorem tyX11_ok : ∀ k, k < 63 → parseFieldDescriptor (TX11 k).2.2.1 = some (tyX11 k) := by decide +kernel
abbrev cX11_throwsIf : ByteArray := prog_13_method_2_code
def yX11_throwsIf : MethodName := ⟨RX11, "throwsIf", "(Z)Z"⟩
abbrev cX11_feed : ByteArray := prog_13_method_3_code
def yX11_feed : MethodName := ⟨RX11, "feed", "(IIIII)I"⟩
abbrev cX11_four : ByteArray := prog_13_method_4_code
def yX11_four : MethodName := ⟨RX11, "four", "(I)V"⟩
abbrev cX11_end : ByteArray := prog_13_method_5_code
def yX11_end : MethodName := ⟨RX11, "end", "(I)Z"⟩
abbrev cX11_taken : ByteArray := prog_13_method_6_code
def yX11_taken : MethodName := ⟨RX11, "taken", "()V"⟩
abbrev cX11_isIn : ByteArray := prog_13_method_7_code
def yX11_isIn : MethodName := ⟨RX11, "isIn", "(III)Z"⟩
abbrev cX11_plain : ByteArray := prog_13_method_8_code
def yX11_plain : MethodName := ⟨RX11, "plain", "(I)I"⟩
abbrev cX11_octet : ByteArray := prog_13_method_9_code
def yX11_octet : MethodName := ⟨RX11, "octet", "(I)I"⟩
abbrev cX11_init : ByteArray := prog_13_method_10_code
def yX11_init : MethodName := ⟨RX11, "<init>", "()V"⟩
abbrev cX11_cells : ByteArray := prog_13_method_11_code
def yX11_cells : MethodName := ⟨RX11, "cells", "()I"⟩
abbrev cX11_isCell : ByteArray := prog_13_method_12_code
def yX11_isCell : MethodName := ⟨RX11, "isCell", "(I)Z"⟩
abbrev cX11_of : ByteArray := prog_13_method_13_code
def yX11_of : MethodName := ⟨RX11, "of", "(II)I"⟩
abbrev cX11_set : ByteArray := prog_13_method_14_code
def yX11_set : MethodName := ⟨RX11, "set", "(III)V"⟩
abbrev cX11_bears : ByteArray := prog_13_method_15_code
def yX11_bears : MethodName := ⟨RX11, "bears", "(I)Z"⟩
abbrev cX11_isGreen : ByteArray := prog_13_method_16_code
def yX11_isGreen : MethodName := ⟨RX11, "isGreen", "(I)Z"⟩
abbrev cX11_isWorn : ByteArray := prog_13_method_17_code
def yX11_isWorn : MethodName := ⟨RX11, "isWorn", "(I)Z"⟩
abbrev cX11_isMuddy : ByteArray := prog_13_method_18_code
def yX11_isMuddy : MethodName := ⟨RX11, "isMuddy", "(I)Z"⟩
abbrev cX11_isDoor : ByteArray := prog_13_method_19_code
def yX11_isDoor : MethodName := ⟨RX11, "isDoor", "(I)Z"⟩
abbrev cX11_layAside : ByteArray := prog_13_method_20_code
def yX11_layAside : MethodName := ⟨RX11, "layAside", "()V"⟩
abbrev cX11_layBack : ByteArray := prog_13_method_21_code
def yX11_layBack : MethodName := ⟨RX11, "layBack", "()V"⟩
abbrev cX11_park : ByteArray := prog_13_method_22_code
def yX11_park : MethodName := ⟨RX11, "park", "(II)Z"⟩
abbrev cX11_door : ByteArray := prog_13_method_23_code
def yX11_door : MethodName := ⟨RX11, "door", "(I)I"⟩
abbrev cX11_isDoorAt : ByteArray := prog_13_method_24_code
def yX11_isDoorAt : MethodName := ⟨RX11, "isDoorAt", "(I)Z"⟩
abbrev cX11_isWalkerAt : ByteArray := prog_13_method_25_code
def yX11_isWalkerAt : MethodName := ⟨RX11, "isWalkerAt", "(I)Z"⟩
abbrev cX11_peek : ByteArray := prog_13_method_26_code
def yX11_peek : MethodName := ⟨RX11, "peek", "()I"⟩
abbrev cX11_isSmall : ByteArray := prog_13_method_27_code
def yX11_isSmall : MethodName := ⟨RX11, "isSmall", "(I)Z"⟩
abbrev cX11_isDigit : ByteArray := prog_13_method_28_code
def yX11_isDigit : MethodName := ⟨RX11, "isDigit", "(I)Z"⟩
abbrev cX11_next : ByteArray := prog_13_method_29_code
def yX11_next : MethodName := ⟨RX11, "next", "()V"⟩
abbrev cX11_bad : ByteArray := prog_13_method_30_code
def yX11_bad : MethodName := ⟨RX11, "bad", "(I)Z"⟩
abbrev cX11_isWord : ByteArray := prog_13_method_31_code
def yX11_isWord : MethodName := ⟨RX11, "isWord", "(J)Z"⟩
abbrev cX11_isSign : ByteArray := prog_13_method_32_code
def yX11_isSign : MethodName := ⟨RX11, "isSign", "(I)Z"⟩
abbrev cX11_sign : ByteArray := prog_13_method_33_code
def yX11_sign : MethodName := ⟨RX11, "sign", "(I)Z"⟩
abbrev cX11_takes : ByteArray := prog_13_method_34_code
def yX11_takes : MethodName := ⟨RX11, "takes", "(II)Z"⟩
abbrev cX11_lineOf : ByteArray := prog_13_method_35_code
def yX11_lineOf : MethodName := ⟨RX11, "lineOf", "(Z)I"⟩
abbrev cX11_read : ByteArray := prog_13_method_36_code
def yX11_read : MethodName := ⟨RX11, "read", "(Z)Z"⟩
abbrev cX11_line : ByteArray := prog_13_method_37_code
def yX11_line : MethodName := ⟨RX11, "line", "(II)Z"⟩
abbrev cX11_measure : ByteArray := prog_13_method_38_code
def yX11_measure : MethodName := ⟨RX11, "measure", "()I"⟩
abbrev cX11_find : ByteArray := prog_13_method_39_code
def yX11_find : MethodName := ⟨RX11, "find", "(II)I"⟩
abbrev cX11_atom : ByteArray := prog_13_method_40_code
def yX11_atom : MethodName := ⟨RX11, "atom", "()I"⟩
abbrev cX11_write : ByteArray := prog_13_method_41_code
def yX11_write : MethodName := ⟨RX11, "write", "(III)V"⟩
abbrev cX11_writeDown : ByteArray := prog_13_method_42_code
def yX11_writeDown : MethodName := ⟨RX11, "writeDown", "(I)V"⟩
abbrev cX11_binds : ByteArray := prog_13_method_43_code
def yX11_binds : MethodName := ⟨RX11, "binds", "(I)I"⟩
abbrev cX11_open : ByteArray := prog_13_method_44_code
def yX11_open : MethodName := ⟨RX11, "open", "()I"⟩
abbrev cX11_isOpen : ByteArray := prog_13_method_45_code
def yX11_isOpen : MethodName := ⟨RX11, "isOpen", "()Z"⟩
abbrev cX11_cond : ByteArray := prog_13_method_46_code
def yX11_cond : MethodName := ⟨RX11, "cond", "()Z"⟩
abbrev cX11_one : ByteArray := prog_13_method_47_code
def yX11_one : MethodName := ⟨RX11, "one", "()Z"⟩
abbrev cX11_text : ByteArray := prog_13_method_48_code
def yX11_text : MethodName := ⟨RX11, "text", "(IZ)I"⟩
abbrev cX11_told : ByteArray := prog_13_method_49_code
def yX11_told : MethodName := ⟨RX11, "told", "(II)I"⟩
abbrev cX11_law : ByteArray := prog_13_method_50_code
def yX11_law : MethodName := ⟨RX11, "law", "()I"⟩
abbrev cX11_habit : ByteArray := prog_13_method_51_code
def yX11_habit : MethodName := ⟨RX11, "habit", "(I)I"⟩
abbrev cX11_fault : ByteArray := prog_13_method_52_code
def yX11_fault : MethodName := ⟨RX11, "fault", "()I"⟩
abbrev cX11_is : ByteArray := prog_13_method_53_code
def yX11_is : MethodName := ⟨RX11, "is", "(II)Z"⟩
abbrev cX11_holds : ByteArray := prog_13_method_54_code
def yX11_holds : MethodName := ⟨RX11, "holds", "(II)Z"⟩
abbrev cX11_first : ByteArray := prog_13_method_55_code
def yX11_first : MethodName := ⟨RX11, "first", "(III)I"⟩
abbrev cX11_isWish : ByteArray := prog_13_method_56_code
def yX11_isWish : MethodName := ⟨RX11, "isWish", "(I)Z"⟩
abbrev cX11_wish : ByteArray := prog_13_method_57_code
def yX11_wish : MethodName := ⟨RX11, "wish", "(IIIII)I"⟩
abbrev cX11_drop : ByteArray := prog_13_method_58_code
def yX11_drop : MethodName := ⟨RX11, "drop", "(I)Z"⟩
abbrev cX11_east : ByteArray := prog_13_method_59_code
def yX11_east : MethodName := ⟨RX11, "east", "(I)I"⟩
abbrev cX11_south : ByteArray := prog_13_method_60_code
def yX11_south : MethodName := ⟨RX11, "south", "(I)I"⟩
abbrev cX11_beside : ByteArray := prog_13_method_61_code
def yX11_beside : MethodName := ⟨RX11, "beside", "(II)I"⟩
abbrev cX11_across : ByteArray := prog_13_method_62_code
def yX11_across : MethodName := ⟨RX11, "across", "(II)I"⟩
abbrev cX11_along : ByteArray := prog_13_method_63_code
def yX11_along : MethodName := ⟨RX11, "along", "(II)I"⟩
abbrev cX11_measured : ByteArray := prog_13_method_64_code
def yX11_measured : MethodName := ⟨RX11, "measured", "(III)I"⟩
abbrev cX11_crowd : ByteArray := prog_13_method_65_code
def yX11_crowd : MethodName := ⟨RX11, "crowd", "(I)I"⟩
abbrev cX11_sees : ByteArray := prog_13_method_66_code
def yX11_sees : MethodName := ⟨RX11, "sees", "(II)I"⟩
abbrev cX11_weight : ByteArray := prog_13_method_67_code
def yX11_weight : MethodName := ⟨RX11, "weight", "(II)I"⟩
abbrev cX11_mayNot : ByteArray := prog_13_method_68_code
def yX11_mayNot : MethodName := ⟨RX11, "mayNot", "(I)Z"⟩
abbrev cX11_choose : ByteArray := prog_13_method_69_code
def yX11_choose : MethodName := ⟨RX11, "choose", "()I"⟩
abbrev cX11_tread : ByteArray := prog_13_method_70_code
def yX11_tread : MethodName := ⟨RX11, "tread", "(I)V"⟩
abbrev cX11_tick : ByteArray := prog_13_method_71_code
def yX11_tick : MethodName := ⟨RX11, "tick", "()V"⟩
abbrev cX11_leave : ByteArray := prog_13_method_72_code
def yX11_leave : MethodName := ⟨RX11, "leave", "(I)V"⟩
abbrev cX11_goes : ByteArray := prog_13_method_73_code
def yX11_goes : MethodName := ⟨RX11, "goes", "(I)Z"⟩
abbrev cX11_run : ByteArray := prog_13_method_74_code
def yX11_run : MethodName := ⟨RX11, "run", "(I)I"⟩
abbrev cX11_endWeek : ByteArray := prog_13_method_75_code
def yX11_endWeek : MethodName := ⟨RX11, "endWeek", "()V"⟩
abbrev cX11_week : ByteArray := prog_13_method_76_code
def yX11_week : MethodName := ⟨RX11, "week", "()I"⟩
abbrev cX11_rain : ByteArray := prog_13_method_77_code
def yX11_rain : MethodName := ⟨RX11, "rain", "(I)Z"⟩
abbrev cX11_snow : ByteArray := prog_13_method_78_code
def yX11_snow : MethodName := ⟨RX11, "snow", "()V"⟩
abbrev cX11_lay : ByteArray := prog_13_method_79_code
def yX11_lay : MethodName := ⟨RX11, "lay", "(II)Z"⟩
abbrev cX11_put : ByteArray := prog_13_method_80_code
def yX11_put : MethodName := ⟨RX11, "put", "(II)V"⟩
abbrev cX11_cell : ByteArray := prog_13_method_81_code
def yX11_cell : MethodName := ⟨RX11, "cell", "(II)I"⟩
abbrev cX11_walker : ByteArray := prog_13_method_82_code
def yX11_walker : MethodName := ⟨RX11, "walker", "(II)I"⟩
abbrev cX11_wornMany : ByteArray := prog_13_method_83_code
def yX11_wornMany : MethodName := ⟨RX11, "wornMany", "()I"⟩
abbrev cX11_net : ByteArray := prog_13_method_84_code
def yX11_net : MethodName := ⟨RX11, "net", "()I"⟩
abbrev cX11_pieces : ByteArray := prog_13_method_85_code
def yX11_pieces : MethodName := ⟨RX11, "pieces", "()I"⟩
abbrev cX11_spread : ByteArray := prog_13_method_86_code
def yX11_spread : MethodName := ⟨RX11, "spread", "()V"⟩
abbrev cX11_note : ByteArray := prog_13_method_87_code
def yX11_note : MethodName := ⟨RX11, "note", "([Z)V"⟩
abbrev cX11_isNoted : ByteArray := prog_13_method_88_code
def yX11_isNoted : MethodName := ⟨RX11, "isNoted", "([Z)Z"⟩
abbrev cX11_go : ByteArray := prog_13_method_89_code
def yX11_go : MethodName := ⟨RX11, "go", "(I)V"⟩
abbrev cX11_rests : ByteArray := prog_13_method_90_code
def yX11_rests : MethodName := ⟨RX11, "rests", "(II)I"⟩
abbrev cX11_price : ByteArray := prog_13_method_91_code
def yX11_price : MethodName := ⟨RX11, "price", "(I)I"⟩
abbrev cX11_least : ByteArray := prog_13_method_92_code
def yX11_least : MethodName := ⟨RX11, "least", "()I"⟩
abbrev cX11_widen : ByteArray := prog_13_method_93_code
def yX11_widen : MethodName := ⟨RX11, "widen", "(II)V"⟩
abbrev cX11_shortest : ByteArray := prog_13_method_94_code
def yX11_shortest : MethodName := ⟨RX11, "shortest", "(IIZ)I"⟩
abbrev cX11_longer : ByteArray := prog_13_method_95_code
def yX11_longer : MethodName := ⟨RX11, "longer", "(II)I"⟩
abbrev cX11_turns : ByteArray := prog_13_method_96_code
def yX11_turns : MethodName := ⟨RX11, "turns", "(IIII)I"⟩
abbrev cX11_pave : ByteArray := prog_13_method_97_code
def yX11_pave : MethodName := ⟨RX11, "pave", "(III)V"⟩
abbrev cX11_paved : ByteArray := prog_13_method_98_code
def yX11_paved : MethodName := ⟨RX11, "paved", "(IIII)I"⟩
abbrev cX11_wait : ByteArray := prog_13_method_99_code
def yX11_wait : MethodName := ⟨RX11, "wait", "(II)I"⟩
abbrev cX11_isTrod : ByteArray := prog_13_method_100_code
def yX11_isTrod : MethodName := ⟨RX11, "isTrod", "(III)Z"⟩
abbrev cX11_keep : ByteArray := prog_13_method_101_code
def yX11_keep : MethodName := ⟨RX11, "keep", "(III)I"⟩
abbrev cX11_fences : ByteArray := prog_13_method_102_code
def yX11_fences : MethodName := ⟨RX11, "fences", "(II)I"⟩
abbrev cX11_fenceAt : ByteArray := prog_13_method_103_code
def yX11_fenceAt : MethodName := ⟨RX11, "fenceAt", "(I)I"⟩
abbrev cX11_lasts : ByteArray := prog_13_method_104_code
def yX11_lasts : MethodName := ⟨RX11, "lasts", "(IIII)I"⟩
abbrev cX11_walk : ByteArray := prog_13_method_105_code
def yX11_walk : MethodName := ⟨RX11, "walk", "(III)I"⟩
abbrev cX11_isWay : ByteArray := prog_13_method_106_code
def yX11_isWay : MethodName := ⟨RX11, "isWay", "(III)Z"⟩
abbrev cX11_way : ByteArray := prog_13_method_107_code
def yX11_way : MethodName := ⟨RX11, "way", "(III)I"⟩
abbrev cX11_wayAt : ByteArray := prog_13_method_108_code
def yX11_wayAt : MethodName := ⟨RX11, "wayAt", "(I)I"⟩
abbrev cX11_read_ : ByteArray := prog_13_method_109_code
def yX11_read_ : MethodName := ⟨RX11, "read", "()I"⟩
abbrev cX11_isSnow : ByteArray := prog_13_method_110_code
def yX11_isSnow : MethodName := ⟨RX11, "isSnow", "(I)Z"⟩
abbrev cX11_reads : ByteArray := prog_13_method_111_code
def yX11_reads : MethodName := ⟨RX11, "reads", "(II)I"⟩
abbrev cX11_fits : ByteArray := prog_13_method_112_code
def yX11_fits : MethodName := ⟨RX11, "fits", "(II)I"⟩
abbrev cX11_image : ByteArray := prog_13_method_113_code
def yX11_image : MethodName := ⟨RX11, "image", "(I)Z"⟩
abbrev cX11_restore : ByteArray := prog_13_method_114_code
def yX11_restore : MethodName := ⟨RX11, "restore", "(I)Z"⟩
abbrev cX11_count : ByteArray := prog_13_method_115_code
def yX11_count : MethodName := ⟨RX11, "count", "(I)I"⟩
def RJx145de : String := "java/io/Serializable"
def TJx145de : u_T := fun k => match k with
  | _ => ("", "", "", false)
def tyJx145de : Nat → FieldType := fun k => match k with
  | _ => .int
abbrev wsJx145de0 : List Cond := u_ws RJx145de TJx145de 0
theorem nmJx145de : ∀ a, a < 0 → ∀ b, b < 0 → a ≠ b → (TJx145de a).2.1 ≠ (TJx145de b).2.1 := by decide +kernel
theorem tyJx145de_ok : ∀ k, k < 0 → parseFieldDescriptor (TJx145de k).2.2.1 = some (tyJx145de k) := by decide +kernel
def RJx9f9b0 : String := "java/lang/CharSequence"
def TJx9f9b0 : u_T := fun k => match k with
  | _ => ("", "", "", false)
def tyJx9f9b0 : Nat → FieldType := fun k => match k with
  | _ => .int
abbrev wsJx9f9b00 : List Cond := u_ws RJx9f9b0 TJx9f9b0 0
theorem nmJx9f9b0 : ∀ a, a < 0 → ∀ b, b < 0 → a ≠ b → (TJx9f9b0 a).2.1 ≠ (TJx9f9b0 b).2.1 := by decide +kernel
theorem tyJx9f9b0_ok : ∀ k, k < 0 → parseFieldDescriptor (TJx9f9b0 k).2.2.1 = some (tyJx9f9b0 k) := by decide +kernel
def RJxb160c : String := "java/lang/Comparable"
def TJxb160c : u_T := fun k => match k with
  | _ => ("", "", "", false)
def tyJxb160c : Nat → FieldType := fun k => match k with
  | _ => .int
abbrev wsJxb160c0 : List Cond := u_ws RJxb160c TJxb160c 0
theorem nmJxb160c : ∀ a, a < 0 → ∀ b, b < 0 → a ≠ b → (TJxb160c a).2.1 ≠ (TJxb160c b).2.1 := by decide +kernel
theorem tyJxb160c_ok : ∀ k, k < 0 → parseFieldDescriptor (TJxb160c k).2.2.1 = some (tyJxb160c k) := by decide +kernel
def RJ13 : String := "java/lang/Long"
def TJ13 : u_T := fun k => match k with
  | _ => ("", "", "", false)
def tyJ13 : Nat → FieldType := fun k => match k with
  | _ => .int
abbrev wsJ130 : List Cond := u_ws RJ13 TJ13 0
theorem nmJ13 : ∀ a, a < 0 → ∀ b, b < 0 → a ≠ b → (TJ13 a).2.1 ≠ (TJ13 b).2.1 := by decide +kernel
theorem tyJ13_ok : ∀ k, k < 0 → parseFieldDescriptor (TJ13 k).2.2.1 = some (tyJ13 k) := by decide +kernel
abbrev cJ13_bitCount_95d88 : ByteArray := prog_18_method_50_code
def yJ13_bitCount_95d88 : MethodName := ⟨RJ13, "bitCount", "(J)I"⟩
def RJ9 : String := "java/lang/Math"
def TJ9 : u_T := fun k => match k with
  | _ => ("", "", "", false)
def tyJ9 : Nat → FieldType := fun k => match k with
  | _ => .int
abbrev wsJ90 : List Cond := u_ws RJ9 TJ9 0
theorem nmJ9 : ∀ a, a < 0 → ∀ b, b < 0 → a ≠ b → (TJ9 a).2.1 ≠ (TJ9 b).2.1 := by decide +kernel
theorem tyJ9_ok : ∀ k, k < 0 → parseFieldDescriptor (TJ9 k).2.2.1 = some (tyJ9 k) := by decide +kernel
abbrev cJ9_abs_0f7a4 : ByteArray := prog_19_method_59_code
def yJ9_abs_0f7a4 : MethodName := ⟨RJ9, "abs", "(I)I"⟩
abbrev cJ9_max_7cf53 : ByteArray := prog_19_method_65_code
def yJ9_max_7cf53 : MethodName := ⟨RJ9, "max", "(II)I"⟩
abbrev cJ9_min_7cf53 : ByteArray := prog_19_method_69_code
def yJ9_min_7cf53 : MethodName := ⟨RJ9, "min", "(II)I"⟩
def RJ0 : String := "java/lang/String"
def TJ0 : u_T := fun k => match k with
  | _ => ("", "", "", false)
def tyJ0 : Nat → FieldType := fun k => match k with
  | _ => .int
abbrev wsJ00 : List Cond := u_ws RJ0 TJ0 0
theorem nmJ0 : ∀ a, a < 0 → ∀ b, b < 0 → a ≠ b → (TJ0 a).2.1 ≠ (TJ0 b).2.1 := by decide +kernel
theorem tyJ0_ok : ∀ k, k < 0 → parseFieldDescriptor (TJ0 k).2.2.1 = some (tyJ0 k) := by decide +kernel
abbrev cJ0_length_8abf5 : ByteArray := prog_21_method_54_code
def yJ0_length_8abf5 : MethodName := ⟨RJ0, "length", "()I"⟩
abbrev cJ0_charAt_5068e : ByteArray := prog_21_method_56_code
def yJ0_charAt_5068e : MethodName := ⟨RJ0, "charAt", "(I)C"⟩
abbrev cJ0_coder_7d493 : ByteArray := prog_21_method_152_code
def yJ0_coder_7d493 : MethodName := ⟨RJ0, "coder", "()B"⟩
abbrev cJ0_isLatin1_aae02 : ByteArray := prog_21_method_154_code
def yJ0_isLatin1_aae02 : MethodName := ⟨RJ0, "isLatin1", "()Z"⟩
abbrev cJ0_checkIndex_df160 : ByteArray := prog_21_method_155_code
def yJ0_checkIndex_df160 : MethodName := ⟨RJ0, "checkIndex", "(II)V"⟩
def RJ1 : String := "java/lang/StringLatin1"
def TJ1 : u_T := fun k => match k with
  | _ => ("", "", "", false)
def tyJ1 : Nat → FieldType := fun k => match k with
  | _ => .int
abbrev wsJ10 : List Cond := u_ws RJ1 TJ1 0
theorem nmJ1 : ∀ a, a < 0 → ∀ b, b < 0 → a ≠ b → (TJ1 a).2.1 ≠ (TJ1 b).2.1 := by decide +kernel
theorem tyJ1_ok : ∀ k, k < 0 → parseFieldDescriptor (TJ1 k).2.2.1 = some (tyJ1 k) := by decide +kernel
abbrev cJ1_charAt_3b067 : ByteArray := prog_22_method_2_code
def yJ1_charAt_3b067 : MethodName := ⟨RJ1, "charAt", "([BI)C"⟩
def RJ2 : String := "java/lang/StringUTF16"
def TJ2 : u_T := fun k => match k with
  | _ => ("", "", "", false)
def tyJ2 : Nat → FieldType := fun k => match k with
  | _ => .int
abbrev wsJ20 : List Cond := u_ws RJ2 TJ2 0
theorem nmJ2 : ∀ a, a < 0 → ∀ b, b < 0 → a ≠ b → (TJ2 a).2.1 ≠ (TJ2 b).2.1 := by decide +kernel
theorem tyJ2_ok : ∀ k, k < 0 → parseFieldDescriptor (TJ2 k).2.2.1 = some (tyJ2 k) := by decide +kernel
abbrev cJ2_getChar_3b067 : ByteArray := prog_23_method_5_code
def yJ2_getChar_3b067 : MethodName := ⟨RJ2, "getChar", "([BI)C"⟩
abbrev cJ2_length_9d52b : ByteArray := prog_23_method_6_code
def yJ2_length_9d52b : MethodName := ⟨RJ2, "length", "([B)I"⟩
abbrev cJ2_charAt_3b067 : ByteArray := prog_23_method_83_code
def yJ2_charAt_3b067 : MethodName := ⟨RJ2, "charAt", "([BI)C"⟩
abbrev cJ2_checkIndex_2214a : ByteArray := prog_23_method_91_code
def yJ2_checkIndex_2214a : MethodName := ⟨RJ2, "checkIndex", "(I[B)V"⟩
def RJ10 : String := "java/lang/System"
def TJ10 : u_T := fun k => match k with
  | _ => ("", "", "", false)
def tyJ10 : Nat → FieldType := fun k => match k with
  | _ => .int
abbrev wsJ100 : List Cond := u_ws RJ10 TJ10 0
theorem nmJ10 : ∀ a, a < 0 → ∀ b, b < 0 → a ≠ b → (TJ10 a).2.1 ≠ (TJ10 b).2.1 := by decide +kernel
theorem tyJ10_ok : ∀ k, k < 0 → parseFieldDescriptor (TJ10 k).2.2.1 = some (tyJ10 k) := by decide +kernel
def RJxfd54e : String := "java/lang/constant/Constable"
def TJxfd54e : u_T := fun k => match k with
  | _ => ("", "", "", false)
def tyJxfd54e : Nat → FieldType := fun k => match k with
  | _ => .int
abbrev wsJxfd54e0 : List Cond := u_ws RJxfd54e TJxfd54e 0
theorem nmJxfd54e : ∀ a, a < 0 → ∀ b, b < 0 → a ≠ b → (TJxfd54e a).2.1 ≠ (TJxfd54e b).2.1 := by decide +kernel
theorem tyJxfd54e_ok : ∀ k, k < 0 → parseFieldDescriptor (TJxfd54e k).2.2.1 = some (tyJxfd54e k) := by decide +kernel
def RJx3cf43 : String := "java/lang/constant/ConstantDesc"
def TJx3cf43 : u_T := fun k => match k with
  | _ => ("", "", "", false)
def tyJx3cf43 : Nat → FieldType := fun k => match k with
  | _ => .int
abbrev wsJx3cf430 : List Cond := u_ws RJx3cf43 TJx3cf43 0
theorem nmJx3cf43 : ∀ a, a < 0 → ∀ b, b < 0 → a ≠ b → (TJx3cf43 a).2.1 ≠ (TJx3cf43 b).2.1 := by decide +kernel
theorem tyJx3cf43_ok : ∀ k, k < 0 → parseFieldDescriptor (TJx3cf43 k).2.2.1 = some (tyJx3cf43 k) := by decide +kernel
def RJ7 : String := "java/util/Arrays"
def TJ7 : u_T := fun k => match k with
  | _ => ("", "", "", false)
def tyJ7 : Nat → FieldType := fun k => match k with
  | _ => .int
abbrev wsJ70 : List Cond := u_ws RJ7 TJ7 0
theorem nmJ7 : ∀ a, a < 0 → ∀ b, b < 0 → a ≠ b → (TJ7 a).2.1 ≠ (TJ7 b).2.1 := by decide +kernel
theorem tyJ7_ok : ∀ k, k < 0 → parseFieldDescriptor (TJ7 k).2.2.1 = some (tyJ7 k) := by decide +kernel
abbrev cJ7_fill_53178 : ByteArray := prog_28_method_103_code
def yJ7_fill_53178 : MethodName := ⟨RJ7, "fill", "([II)V"⟩
def RJ3 : String := "jdk/internal/util/Preconditions"
def TJ3 : u_T := fun k => match k with
  | _ => ("", "", "", false)
def tyJ3 : Nat → FieldType := fun k => match k with
  | _ => .int
abbrev wsJ30 : List Cond := u_ws RJ3 TJ3 0
theorem nmJ3 : ∀ a, a < 0 → ∀ b, b < 0 → a ≠ b → (TJ3 a).2.1 ≠ (TJ3 b).2.1 := by decide +kernel
theorem tyJ3_ok : ∀ k, k < 0 → parseFieldDescriptor (TJ3 k).2.2.1 = some (tyJ3 k) := by decide +kernel
abbrev cJ3_checkIndex_8e157 : ByteArray := prog_30_method_11_code
def yJ3_checkIndex_8e157 : MethodName := ⟨RJ3, "checkIndex", "(IILjava/util/function/BiFunction;)I"⟩
def RL : String := "GrassParkLaw"
abbrev cL_cell : ByteArray := method_3_code
def yL_cell : MethodName := ⟨RL, "cell", "(LGrassPark;II[J)I"⟩
abbrev cL_law : ByteArray := code
def yL_law : MethodName := ⟨RL, "law", "([I)Z"⟩
