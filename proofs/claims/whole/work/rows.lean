section
-- ===== PART A: goes FIRST, ahead of the names: the tables' words, and 'selects' of the private methods out of them =====
/-- a private method of a class that the tables say can be made, by its rows of tables_1 -/
def lw_okq (q : MethodName × Nat) : Prop := (q.1.cls ≠ "java/lang/invoke/MethodHandle" ∧ q.1.cls ≠ "java/lang/invoke/VarHandle") ∧ Cond.instantiable q.1.cls q.2 ∈ tables_1 ∧ Cond.privateMethod q.1 ∈ tables_1 ∧ Cond.instanceMethod q.1 ∈ tables_1
theorem lw_p0 : lw_okq (⟨"VoiceDesk", "openLine", "(I)LVoiceDesk$Line;"⟩, 3) := ⟨⟨by decide +kernel, by decide +kernel⟩, List.mem_of_getElem? (i := 11) (by decide +kernel), List.mem_of_getElem? (i := 154) (by decide +kernel), List.mem_of_getElem? (i := 155) (by decide +kernel)⟩
theorem lw_p1 : lw_okq (⟨"VoiceDesk$Wideband", "push", "(II)V"⟩, 4) := ⟨⟨by decide +kernel, by decide +kernel⟩, List.mem_of_getElem? (i := 49) (by decide +kernel), List.mem_of_getElem? (i := 175) (by decide +kernel), List.mem_of_getElem? (i := 176) (by decide +kernel)⟩
theorem lw_p2 : lw_okq (⟨"VoiceDesk$Wideband", "evenSum", "()I"⟩, 4) := ⟨⟨by decide +kernel, by decide +kernel⟩, List.mem_of_getElem? (i := 49) (by decide +kernel), List.mem_of_getElem? (i := 179) (by decide +kernel), List.mem_of_getElem? (i := 180) (by decide +kernel)⟩
theorem lw_p3 : lw_okq (⟨"VoiceDesk$Wideband", "oddSum", "()I"⟩, 4) := ⟨⟨by decide +kernel, by decide +kernel⟩, List.mem_of_getElem? (i := 49) (by decide +kernel), List.mem_of_getElem? (i := 185) (by decide +kernel), List.mem_of_getElem? (i := 186) (by decide +kernel)⟩
theorem lw_p4 : lw_okq (⟨"VoiceDesk$Wideband", "lowCode", "(I)I"⟩, 4) := ⟨⟨by decide +kernel, by decide +kernel⟩, List.mem_of_getElem? (i := 49) (by decide +kernel), List.mem_of_getElem? (i := 196) (by decide +kernel), List.mem_of_getElem? (i := 197) (by decide +kernel)⟩
theorem lw_p5 : lw_okq (⟨"VoiceDesk$Wideband", "highCode", "(I)I"⟩, 4) := ⟨⟨by decide +kernel, by decide +kernel⟩, List.mem_of_getElem? (i := 49) (by decide +kernel), List.mem_of_getElem? (i := 206) (by decide +kernel), List.mem_of_getElem? (i := 207) (by decide +kernel)⟩
theorem lw_p6 : lw_okq (⟨"VoiceDesk$Wideband", "settle", "(II)V"⟩, 4) := ⟨⟨by decide +kernel, by decide +kernel⟩, List.mem_of_getElem? (i := 49) (by decide +kernel), List.mem_of_getElem? (i := 210) (by decide +kernel), List.mem_of_getElem? (i := 211) (by decide +kernel)⟩
theorem lw_p7 : lw_okq (⟨"VoiceDesk$Band", "difference", "(I)I"⟩, 1) := ⟨⟨by decide +kernel, by decide +kernel⟩, List.mem_of_getElem? (i := 55) (by decide +kernel), List.mem_of_getElem? (i := 222) (by decide +kernel), List.mem_of_getElem? (i := 223) (by decide +kernel)⟩
theorem lw_p8 : lw_okq (⟨"VoiceDesk$Band", "adaptScale", "(III)V"⟩, 1) := ⟨⟨by decide +kernel, by decide +kernel⟩, List.mem_of_getElem? (i := 55) (by decide +kernel), List.mem_of_getElem? (i := 226) (by decide +kernel), List.mem_of_getElem? (i := 227) (by decide +kernel)⟩
theorem lw_p9 : lw_okq (⟨"VoiceDesk$Band", "adaptPoles", "(I)V"⟩, 1) := ⟨⟨by decide +kernel, by decide +kernel⟩, List.mem_of_getElem? (i := 55) (by decide +kernel), List.mem_of_getElem? (i := 235) (by decide +kernel), List.mem_of_getElem? (i := 236) (by decide +kernel)⟩
theorem lw_p10 : lw_okq (⟨"VoiceDesk$Band", "adaptZeros", "(I)V"⟩, 1) := ⟨⟨by decide +kernel, by decide +kernel⟩, List.mem_of_getElem? (i := 55) (by decide +kernel), List.mem_of_getElem? (i := 245) (by decide +kernel), List.mem_of_getElem? (i := 246) (by decide +kernel)⟩
theorem lw_p11 : lw_okq (⟨"VoiceDesk$Band", "remember", "(III)V"⟩, 1) := ⟨⟨by decide +kernel, by decide +kernel⟩, List.mem_of_getElem? (i := 55) (by decide +kernel), List.mem_of_getElem? (i := 249) (by decide +kernel), List.mem_of_getElem? (i := 250) (by decide +kernel)⟩
theorem lw_p12 : lw_okq (⟨"VoiceDesk$Band", "product", "(II)I"⟩, 1) := ⟨⟨by decide +kernel, by decide +kernel⟩, List.mem_of_getElem? (i := 55) (by decide +kernel), List.mem_of_getElem? (i := 253) (by decide +kernel), List.mem_of_getElem? (i := 254) (by decide +kernel)⟩
theorem lw_p13 : lw_okq (⟨"VoiceDesk$Adpcm", "foresee", "()V"⟩, 5) := ⟨⟨by decide +kernel, by decide +kernel⟩, List.mem_of_getElem? (i := 26) (by decide +kernel), List.mem_of_getElem? (i := 265) (by decide +kernel), List.mem_of_getElem? (i := 266) (by decide +kernel)⟩
theorem lw_p14 : lw_okq (⟨"VoiceDesk$Adpcm", "stepNow", "()I"⟩, 5) := ⟨⟨by decide +kernel, by decide +kernel⟩, List.mem_of_getElem? (i := 26) (by decide +kernel), List.mem_of_getElem? (i := 284) (by decide +kernel), List.mem_of_getElem? (i := 285) (by decide +kernel)⟩
theorem lw_p15 : lw_okq (⟨"VoiceDesk$Adpcm", "codeOf", "(I)I"⟩, 5) := ⟨⟨by decide +kernel, by decide +kernel⟩, List.mem_of_getElem? (i := 26) (by decide +kernel), List.mem_of_getElem? (i := 288) (by decide +kernel), List.mem_of_getElem? (i := 289) (by decide +kernel)⟩
def lw_privs_1 : List (MethodName × Nat) := [(⟨"VoiceDesk", "openLine", "(I)LVoiceDesk$Line;"⟩, 3), (⟨"VoiceDesk$Wideband", "push", "(II)V"⟩, 4), (⟨"VoiceDesk$Wideband", "evenSum", "()I"⟩, 4), (⟨"VoiceDesk$Wideband", "oddSum", "()I"⟩, 4), (⟨"VoiceDesk$Wideband", "lowCode", "(I)I"⟩, 4), (⟨"VoiceDesk$Wideband", "highCode", "(I)I"⟩, 4), (⟨"VoiceDesk$Wideband", "settle", "(II)V"⟩, 4), (⟨"VoiceDesk$Band", "difference", "(I)I"⟩, 1), (⟨"VoiceDesk$Band", "adaptScale", "(III)V"⟩, 1), (⟨"VoiceDesk$Band", "adaptPoles", "(I)V"⟩, 1), (⟨"VoiceDesk$Band", "adaptZeros", "(I)V"⟩, 1), (⟨"VoiceDesk$Band", "remember", "(III)V"⟩, 1), (⟨"VoiceDesk$Band", "product", "(II)I"⟩, 1), (⟨"VoiceDesk$Adpcm", "foresee", "()V"⟩, 5), (⟨"VoiceDesk$Adpcm", "stepNow", "()I"⟩, 5), (⟨"VoiceDesk$Adpcm", "codeOf", "(I)I"⟩, 5)]
theorem lw_r1 : ∀ q ∈ lw_privs_1, lw_okq q := List.forall_mem_cons.mpr ⟨lw_p0, List.forall_mem_cons.mpr ⟨lw_p1, List.forall_mem_cons.mpr ⟨lw_p2, List.forall_mem_cons.mpr ⟨lw_p3, List.forall_mem_cons.mpr ⟨lw_p4, List.forall_mem_cons.mpr ⟨lw_p5, List.forall_mem_cons.mpr ⟨lw_p6, List.forall_mem_cons.mpr ⟨lw_p7, List.forall_mem_cons.mpr ⟨lw_p8, List.forall_mem_cons.mpr ⟨lw_p9, List.forall_mem_cons.mpr ⟨lw_p10, List.forall_mem_cons.mpr ⟨lw_p11, List.forall_mem_cons.mpr ⟨lw_p12, List.forall_mem_cons.mpr ⟨lw_p13, List.forall_mem_cons.mpr ⟨lw_p14, List.forall_mem_cons.mpr ⟨lw_p15, fun _ h => absurd h List.not_mem_nil⟩⟩⟩⟩⟩⟩⟩⟩⟩⟩⟩⟩⟩⟩⟩⟩
theorem lw_p16 : lw_okq (⟨"VoiceDesk$Adpcm", "settle", "(I)I"⟩, 5) := ⟨⟨by decide +kernel, by decide +kernel⟩, List.mem_of_getElem? (i := 26) (by decide +kernel), List.mem_of_getElem? (i := 294) (by decide +kernel), List.mem_of_getElem? (i := 295) (by decide +kernel)⟩
theorem lw_p17 : lw_okq (⟨"VoiceDesk$Adpcm", "tablePlace", "(I)I"⟩, 5) := ⟨⟨by decide +kernel, by decide +kernel⟩, List.mem_of_getElem? (i := 26) (by decide +kernel), List.mem_of_getElem? (i := 298) (by decide +kernel), List.mem_of_getElem? (i := 299) (by decide +kernel)⟩
theorem lw_p18 : lw_okq (⟨"VoiceDesk$Adpcm", "isTransition", "(I)Z"⟩, 5) := ⟨⟨by decide +kernel, by decide +kernel⟩, List.mem_of_getElem? (i := 26) (by decide +kernel), List.mem_of_getElem? (i := 308) (by decide +kernel), List.mem_of_getElem? (i := 309) (by decide +kernel)⟩
theorem lw_p19 : lw_okq (⟨"VoiceDesk$Adpcm", "adaptStep", "(I)V"⟩, 5) := ⟨⟨by decide +kernel, by decide +kernel⟩, List.mem_of_getElem? (i := 26) (by decide +kernel), List.mem_of_getElem? (i := 314) (by decide +kernel), List.mem_of_getElem? (i := 315) (by decide +kernel)⟩
theorem lw_p20 : lw_okq (⟨"VoiceDesk$Adpcm", "forgetFilters", "()V"⟩, 5) := ⟨⟨by decide +kernel, by decide +kernel⟩, List.mem_of_getElem? (i := 26) (by decide +kernel), List.mem_of_getElem? (i := 318) (by decide +kernel), List.mem_of_getElem? (i := 319) (by decide +kernel)⟩
theorem lw_p21 : lw_okq (⟨"VoiceDesk$Adpcm", "adaptA2", "(I)V"⟩, 5) := ⟨⟨by decide +kernel, by decide +kernel⟩, List.mem_of_getElem? (i := 26) (by decide +kernel), List.mem_of_getElem? (i := 322) (by decide +kernel), List.mem_of_getElem? (i := 323) (by decide +kernel)⟩
theorem lw_p22 : lw_okq (⟨"VoiceDesk$Adpcm", "adaptA1", "(I)V"⟩, 5) := ⟨⟨by decide +kernel, by decide +kernel⟩, List.mem_of_getElem? (i := 26) (by decide +kernel), List.mem_of_getElem? (i := 330) (by decide +kernel), List.mem_of_getElem? (i := 331) (by decide +kernel)⟩
theorem lw_p23 : lw_okq (⟨"VoiceDesk$Adpcm", "adaptZeros", "(IZ)V"⟩, 5) := ⟨⟨by decide +kernel, by decide +kernel⟩, List.mem_of_getElem? (i := 26) (by decide +kernel), List.mem_of_getElem? (i := 334) (by decide +kernel), List.mem_of_getElem? (i := 335) (by decide +kernel)⟩
theorem lw_p24 : lw_okq (⟨"VoiceDesk$Adpcm", "remember", "(III)V"⟩, 5) := ⟨⟨by decide +kernel, by decide +kernel⟩, List.mem_of_getElem? (i := 26) (by decide +kernel), List.mem_of_getElem? (i := 342) (by decide +kernel), List.mem_of_getElem? (i := 343) (by decide +kernel)⟩
theorem lw_p25 : lw_okq (⟨"VoiceDesk$Adpcm", "adaptPace", "(IZ)V"⟩, 5) := ⟨⟨by decide +kernel, by decide +kernel⟩, List.mem_of_getElem? (i := 26) (by decide +kernel), List.mem_of_getElem? (i := 348) (by decide +kernel), List.mem_of_getElem? (i := 349) (by decide +kernel)⟩
theorem lw_p26 : lw_okq (⟨"VoiceDeskModel", "isLine", "(I)Z"⟩, 43) := ⟨⟨by decide +kernel, by decide +kernel⟩, List.mem_of_getElem? (i := 538) (by decide +kernel), List.mem_of_getElem? (i := 680) (by decide +kernel), List.mem_of_getElem? (i := 681) (by decide +kernel)⟩
theorem lw_p27 : lw_okq (⟨"VoiceDeskModel", "isOpen", "(I)Z"⟩, 43) := ⟨⟨by decide +kernel, by decide +kernel⟩, List.mem_of_getElem? (i := 538) (by decide +kernel), List.mem_of_getElem? (i := 693) (by decide +kernel), List.mem_of_getElem? (i := 694) (by decide +kernel)⟩
theorem lw_p28 : lw_okq (⟨"VoiceDeskModel", "isPaired", "(I)Z"⟩, 43) := ⟨⟨by decide +kernel, by decide +kernel⟩, List.mem_of_getElem? (i := 538) (by decide +kernel), List.mem_of_getElem? (i := 697) (by decide +kernel), List.mem_of_getElem? (i := 698) (by decide +kernel)⟩
theorem lw_p29 : lw_okq (⟨"VoiceDeskModel", "isSample", "(I)Z"⟩, 43) := ⟨⟨by decide +kernel, by decide +kernel⟩, List.mem_of_getElem? (i := 538) (by decide +kernel), List.mem_of_getElem? (i := 701) (by decide +kernel), List.mem_of_getElem? (i := 702) (by decide +kernel)⟩
theorem lw_p30 : lw_okq (⟨"VoiceDeskModel", "says", "(II)I"⟩, 43) := ⟨⟨by decide +kernel, by decide +kernel⟩, List.mem_of_getElem? (i := 538) (by decide +kernel), List.mem_of_getElem? (i := 705) (by decide +kernel), List.mem_of_getElem? (i := 706) (by decide +kernel)⟩
theorem lw_p31 : lw_okq (⟨"VoiceDeskModel", "muSays", "(I)I"⟩, 43) := ⟨⟨by decide +kernel, by decide +kernel⟩, List.mem_of_getElem? (i := 538) (by decide +kernel), List.mem_of_getElem? (i := 709) (by decide +kernel), List.mem_of_getElem? (i := 710) (by decide +kernel)⟩
def lw_privs_2 : List (MethodName × Nat) := [(⟨"VoiceDesk$Adpcm", "settle", "(I)I"⟩, 5), (⟨"VoiceDesk$Adpcm", "tablePlace", "(I)I"⟩, 5), (⟨"VoiceDesk$Adpcm", "isTransition", "(I)Z"⟩, 5), (⟨"VoiceDesk$Adpcm", "adaptStep", "(I)V"⟩, 5), (⟨"VoiceDesk$Adpcm", "forgetFilters", "()V"⟩, 5), (⟨"VoiceDesk$Adpcm", "adaptA2", "(I)V"⟩, 5), (⟨"VoiceDesk$Adpcm", "adaptA1", "(I)V"⟩, 5), (⟨"VoiceDesk$Adpcm", "adaptZeros", "(IZ)V"⟩, 5), (⟨"VoiceDesk$Adpcm", "remember", "(III)V"⟩, 5), (⟨"VoiceDesk$Adpcm", "adaptPace", "(IZ)V"⟩, 5), (⟨"VoiceDeskModel", "isLine", "(I)Z"⟩, 43), (⟨"VoiceDeskModel", "isOpen", "(I)Z"⟩, 43), (⟨"VoiceDeskModel", "isPaired", "(I)Z"⟩, 43), (⟨"VoiceDeskModel", "isSample", "(I)Z"⟩, 43), (⟨"VoiceDeskModel", "says", "(II)I"⟩, 43), (⟨"VoiceDeskModel", "muSays", "(I)I"⟩, 43)]
theorem lw_r2 : ∀ q ∈ lw_privs_2, lw_okq q := List.forall_mem_cons.mpr ⟨lw_p16, List.forall_mem_cons.mpr ⟨lw_p17, List.forall_mem_cons.mpr ⟨lw_p18, List.forall_mem_cons.mpr ⟨lw_p19, List.forall_mem_cons.mpr ⟨lw_p20, List.forall_mem_cons.mpr ⟨lw_p21, List.forall_mem_cons.mpr ⟨lw_p22, List.forall_mem_cons.mpr ⟨lw_p23, List.forall_mem_cons.mpr ⟨lw_p24, List.forall_mem_cons.mpr ⟨lw_p25, List.forall_mem_cons.mpr ⟨lw_p26, List.forall_mem_cons.mpr ⟨lw_p27, List.forall_mem_cons.mpr ⟨lw_p28, List.forall_mem_cons.mpr ⟨lw_p29, List.forall_mem_cons.mpr ⟨lw_p30, List.forall_mem_cons.mpr ⟨lw_p31, fun _ h => absurd h List.not_mem_nil⟩⟩⟩⟩⟩⟩⟩⟩⟩⟩⟩⟩⟩⟩⟩⟩
theorem lw_p32 : lw_okq (⟨"VoiceDeskModel", "sign", "(I)I"⟩, 43) := ⟨⟨by decide +kernel, by decide +kernel⟩, List.mem_of_getElem? (i := 538) (by decide +kernel), List.mem_of_getElem? (i := 713) (by decide +kernel), List.mem_of_getElem? (i := 714) (by decide +kernel)⟩
theorem lw_p33 : lw_okq (⟨"VoiceDeskModel", "amount", "(I)I"⟩, 43) := ⟨⟨by decide +kernel, by decide +kernel⟩, List.mem_of_getElem? (i := 538) (by decide +kernel), List.mem_of_getElem? (i := 717) (by decide +kernel), List.mem_of_getElem? (i := 718) (by decide +kernel)⟩
theorem lw_p34 : lw_okq (⟨"VoiceDeskModel", "aSays", "(I)I"⟩, 43) := ⟨⟨by decide +kernel, by decide +kernel⟩, List.mem_of_getElem? (i := 538) (by decide +kernel), List.mem_of_getElem? (i := 721) (by decide +kernel), List.mem_of_getElem? (i := 722) (by decide +kernel)⟩
theorem lw_p35 : lw_okq (⟨"VoiceDeskModel", "says726", "(III)I"⟩, 43) := ⟨⟨by decide +kernel, by decide +kernel⟩, List.mem_of_getElem? (i := 538) (by decide +kernel), List.mem_of_getElem? (i := 725) (by decide +kernel), List.mem_of_getElem? (i := 726) (by decide +kernel)⟩
theorem lw_p36 : lw_okq (⟨"VoiceDeskModel", "forehand", "(I)V"⟩, 43) := ⟨⟨by decide +kernel, by decide +kernel⟩, List.mem_of_getElem? (i := 538) (by decide +kernel), List.mem_of_getElem? (i := 729) (by decide +kernel), List.mem_of_getElem? (i := 730) (by decide +kernel)⟩
theorem lw_p37 : lw_okq (⟨"VoiceDeskModel", "times", "(II)I"⟩, 43) := ⟨⟨by decide +kernel, by decide +kernel⟩, List.mem_of_getElem? (i := 538) (by decide +kernel), List.mem_of_getElem? (i := 733) (by decide +kernel), List.mem_of_getElem? (i := 734) (by decide +kernel)⟩
theorem lw_p38 : lw_okq (⟨"VoiceDeskModel", "size", "(I)I"⟩, 43) := ⟨⟨by decide +kernel, by decide +kernel⟩, List.mem_of_getElem? (i := 538) (by decide +kernel), List.mem_of_getElem? (i := 737) (by decide +kernel), List.mem_of_getElem? (i := 738) (by decide +kernel)⟩
theorem lw_p39 : lw_okq (⟨"VoiceDeskModel", "wrapped", "(I)I"⟩, 43) := ⟨⟨by decide +kernel, by decide +kernel⟩, List.mem_of_getElem? (i := 538) (by decide +kernel), List.mem_of_getElem? (i := 741) (by decide +kernel), List.mem_of_getElem? (i := 742) (by decide +kernel)⟩
theorem lw_p40 : lw_okq (⟨"VoiceDeskModel", "bound", "(II)I"⟩, 43) := ⟨⟨by decide +kernel, by decide +kernel⟩, List.mem_of_getElem? (i := 538) (by decide +kernel), List.mem_of_getElem? (i := 745) (by decide +kernel), List.mem_of_getElem? (i := 746) (by decide +kernel)⟩
theorem lw_p41 : lw_okq (⟨"VoiceDeskModel", "comes", "(III)I"⟩, 43) := ⟨⟨by decide +kernel, by decide +kernel⟩, List.mem_of_getElem? (i := 538) (by decide +kernel), List.mem_of_getElem? (i := 749) (by decide +kernel), List.mem_of_getElem? (i := 750) (by decide +kernel)⟩
theorem lw_p42 : lw_okq (⟨"VoiceDeskModel", "table", "(II)I"⟩, 43) := ⟨⟨by decide +kernel, by decide +kernel⟩, List.mem_of_getElem? (i := 538) (by decide +kernel), List.mem_of_getElem? (i := 753) (by decide +kernel), List.mem_of_getElem? (i := 754) (by decide +kernel)⟩
theorem lw_p43 : lw_okq (⟨"VoiceDeskModel", "half", "(II)I"⟩, 43) := ⟨⟨by decide +kernel, by decide +kernel⟩, List.mem_of_getElem? (i := 538) (by decide +kernel), List.mem_of_getElem? (i := 757) (by decide +kernel), List.mem_of_getElem? (i := 758) (by decide +kernel)⟩
theorem lw_p44 : lw_okq (⟨"VoiceDeskModel", "weight", "(II)I"⟩, 43) := ⟨⟨by decide +kernel, by decide +kernel⟩, List.mem_of_getElem? (i := 538) (by decide +kernel), List.mem_of_getElem? (i := 761) (by decide +kernel), List.mem_of_getElem? (i := 762) (by decide +kernel)⟩
theorem lw_p45 : lw_okq (⟨"VoiceDeskModel", "cut", "(III)I"⟩, 43) := ⟨⟨by decide +kernel, by decide +kernel⟩, List.mem_of_getElem? (i := 538) (by decide +kernel), List.mem_of_getElem? (i := 765) (by decide +kernel), List.mem_of_getElem? (i := 766) (by decide +kernel)⟩
theorem lw_p46 : lw_okq (⟨"VoiceDeskModel", "adapts", "(III)I"⟩, 43) := ⟨⟨by decide +kernel, by decide +kernel⟩, List.mem_of_getElem? (i := 538) (by decide +kernel), List.mem_of_getElem? (i := 769) (by decide +kernel), List.mem_of_getElem? (i := 770) (by decide +kernel)⟩
theorem lw_p47 : lw_okq (⟨"VoiceDeskModel", "floated", "(IZ)I"⟩, 43) := ⟨⟨by decide +kernel, by decide +kernel⟩, List.mem_of_getElem? (i := 538) (by decide +kernel), List.mem_of_getElem? (i := 773) (by decide +kernel), List.mem_of_getElem? (i := 774) (by decide +kernel)⟩
def lw_privs_3 : List (MethodName × Nat) := [(⟨"VoiceDeskModel", "sign", "(I)I"⟩, 43), (⟨"VoiceDeskModel", "amount", "(I)I"⟩, 43), (⟨"VoiceDeskModel", "aSays", "(I)I"⟩, 43), (⟨"VoiceDeskModel", "says726", "(III)I"⟩, 43), (⟨"VoiceDeskModel", "forehand", "(I)V"⟩, 43), (⟨"VoiceDeskModel", "times", "(II)I"⟩, 43), (⟨"VoiceDeskModel", "size", "(I)I"⟩, 43), (⟨"VoiceDeskModel", "wrapped", "(I)I"⟩, 43), (⟨"VoiceDeskModel", "bound", "(II)I"⟩, 43), (⟨"VoiceDeskModel", "comes", "(III)I"⟩, 43), (⟨"VoiceDeskModel", "table", "(II)I"⟩, 43), (⟨"VoiceDeskModel", "half", "(II)I"⟩, 43), (⟨"VoiceDeskModel", "weight", "(II)I"⟩, 43), (⟨"VoiceDeskModel", "cut", "(III)I"⟩, 43), (⟨"VoiceDeskModel", "adapts", "(III)I"⟩, 43), (⟨"VoiceDeskModel", "floated", "(IZ)I"⟩, 43)]
theorem lw_r3 : ∀ q ∈ lw_privs_3, lw_okq q := List.forall_mem_cons.mpr ⟨lw_p32, List.forall_mem_cons.mpr ⟨lw_p33, List.forall_mem_cons.mpr ⟨lw_p34, List.forall_mem_cons.mpr ⟨lw_p35, List.forall_mem_cons.mpr ⟨lw_p36, List.forall_mem_cons.mpr ⟨lw_p37, List.forall_mem_cons.mpr ⟨lw_p38, List.forall_mem_cons.mpr ⟨lw_p39, List.forall_mem_cons.mpr ⟨lw_p40, List.forall_mem_cons.mpr ⟨lw_p41, List.forall_mem_cons.mpr ⟨lw_p42, List.forall_mem_cons.mpr ⟨lw_p43, List.forall_mem_cons.mpr ⟨lw_p44, List.forall_mem_cons.mpr ⟨lw_p45, List.forall_mem_cons.mpr ⟨lw_p46, List.forall_mem_cons.mpr ⟨lw_p47, fun _ h => absurd h List.not_mem_nil⟩⟩⟩⟩⟩⟩⟩⟩⟩⟩⟩⟩⟩⟩⟩⟩
theorem lw_p48 : lw_okq (⟨"VoiceDeskModel", "pace", "(II)I"⟩, 43) := ⟨⟨by decide +kernel, by decide +kernel⟩, List.mem_of_getElem? (i := 538) (by decide +kernel), List.mem_of_getElem? (i := 777) (by decide +kernel), List.mem_of_getElem? (i := 778) (by decide +kernel)⟩
theorem lw_p49 : lw_okq (⟨"VoiceDeskModel", "limited", "(I)I"⟩, 43) := ⟨⟨by decide +kernel, by decide +kernel⟩, List.mem_of_getElem? (i := 538) (by decide +kernel), List.mem_of_getElem? (i := 781) (by decide +kernel), List.mem_of_getElem? (i := 782) (by decide +kernel)⟩
theorem lw_p50 : lw_okq (⟨"VoiceDeskModel", "says722", "(III)I"⟩, 43) := ⟨⟨by decide +kernel, by decide +kernel⟩, List.mem_of_getElem? (i := 538) (by decide +kernel), List.mem_of_getElem? (i := 789) (by decide +kernel), List.mem_of_getElem? (i := 790) (by decide +kernel)⟩
theorem lw_p51 : lw_okq (⟨"VoiceDeskModel", "sieves", "(III)V"⟩, 43) := ⟨⟨by decide +kernel, by decide +kernel⟩, List.mem_of_getElem? (i := 538) (by decide +kernel), List.mem_of_getElem? (i := 793) (by decide +kernel), List.mem_of_getElem? (i := 794) (by decide +kernel)⟩
theorem lw_p52 : lw_okq (⟨"VoiceDeskModel", "both", "(III)V"⟩, 43) := ⟨⟨by decide +kernel, by decide +kernel⟩, List.mem_of_getElem? (i := 538) (by decide +kernel), List.mem_of_getElem? (i := 797) (by decide +kernel), List.mem_of_getElem? (i := 798) (by decide +kernel)⟩
theorem lw_p53 : lw_okq (⟨"VoiceDeskModel", "root", "(II)I"⟩, 43) := ⟨⟨by decide +kernel, by decide +kernel⟩, List.mem_of_getElem? (i := 538) (by decide +kernel), List.mem_of_getElem? (i := 801) (by decide +kernel), List.mem_of_getElem? (i := 802) (by decide +kernel)⟩
theorem lw_p54 : lw_okq (⟨"VoiceDeskModel", "goesOn", "(II)V"⟩, 43) := ⟨⟨by decide +kernel, by decide +kernel⟩, List.mem_of_getElem? (i := 538) (by decide +kernel), List.mem_of_getElem? (i := 805) (by decide +kernel), List.mem_of_getElem? (i := 806) (by decide +kernel)⟩
theorem lw_p55 : lw_okq (⟨"VoiceDeskModel", "isCode", "(II)Z"⟩, 43) := ⟨⟨by decide +kernel, by decide +kernel⟩, List.mem_of_getElem? (i := 538) (by decide +kernel), List.mem_of_getElem? (i := 813) (by decide +kernel), List.mem_of_getElem? (i := 814) (by decide +kernel)⟩
theorem lw_p56 : lw_okq (⟨"VoiceDeskModel", "bitsOf", "(I)I"⟩, 43) := ⟨⟨by decide +kernel, by decide +kernel⟩, List.mem_of_getElem? (i := 538) (by decide +kernel), List.mem_of_getElem? (i := 817) (by decide +kernel), List.mem_of_getElem? (i := 818) (by decide +kernel)⟩
theorem lw_p57 : lw_okq (⟨"VoiceDeskModel", "hears", "(II)I"⟩, 43) := ⟨⟨by decide +kernel, by decide +kernel⟩, List.mem_of_getElem? (i := 538) (by decide +kernel), List.mem_of_getElem? (i := 821) (by decide +kernel), List.mem_of_getElem? (i := 822) (by decide +kernel)⟩
theorem lw_p58 : lw_okq (⟨"VoiceDeskModel", "muHears", "(I)I"⟩, 43) := ⟨⟨by decide +kernel, by decide +kernel⟩, List.mem_of_getElem? (i := 538) (by decide +kernel), List.mem_of_getElem? (i := 825) (by decide +kernel), List.mem_of_getElem? (i := 826) (by decide +kernel)⟩
theorem lw_p59 : lw_okq (⟨"VoiceDeskModel", "aHears", "(I)I"⟩, 43) := ⟨⟨by decide +kernel, by decide +kernel⟩, List.mem_of_getElem? (i := 538) (by decide +kernel), List.mem_of_getElem? (i := 829) (by decide +kernel), List.mem_of_getElem? (i := 830) (by decide +kernel)⟩
theorem lw_p60 : lw_okq (⟨"VoiceDeskModel", "hears726", "(III)I"⟩, 43) := ⟨⟨by decide +kernel, by decide +kernel⟩, List.mem_of_getElem? (i := 538) (by decide +kernel), List.mem_of_getElem? (i := 833) (by decide +kernel), List.mem_of_getElem? (i := 834) (by decide +kernel)⟩
theorem lw_p61 : lw_okq (⟨"VoiceDeskModel", "hears722", "(II)I"⟩, 43) := ⟨⟨by decide +kernel, by decide +kernel⟩, List.mem_of_getElem? (i := 538) (by decide +kernel), List.mem_of_getElem? (i := 837) (by decide +kernel), List.mem_of_getElem? (i := 838) (by decide +kernel)⟩
theorem lw_p62 : lw_okq (⟨"VoiceDeskModel", "heardBy", "(II)I"⟩, 43) := ⟨⟨by decide +kernel, by decide +kernel⟩, List.mem_of_getElem? (i := 538) (by decide +kernel), List.mem_of_getElem? (i := 841) (by decide +kernel), List.mem_of_getElem? (i := 842) (by decide +kernel)⟩
theorem lw_p63 : lw_okq (⟨"VoiceDeskModel", "puts", "(I)V"⟩, 43) := ⟨⟨by decide +kernel, by decide +kernel⟩, List.mem_of_getElem? (i := 538) (by decide +kernel), List.mem_of_getElem? (i := 857) (by decide +kernel), List.mem_of_getElem? (i := 858) (by decide +kernel)⟩
def lw_privs_4 : List (MethodName × Nat) := [(⟨"VoiceDeskModel", "pace", "(II)I"⟩, 43), (⟨"VoiceDeskModel", "limited", "(I)I"⟩, 43), (⟨"VoiceDeskModel", "says722", "(III)I"⟩, 43), (⟨"VoiceDeskModel", "sieves", "(III)V"⟩, 43), (⟨"VoiceDeskModel", "both", "(III)V"⟩, 43), (⟨"VoiceDeskModel", "root", "(II)I"⟩, 43), (⟨"VoiceDeskModel", "goesOn", "(II)V"⟩, 43), (⟨"VoiceDeskModel", "isCode", "(II)Z"⟩, 43), (⟨"VoiceDeskModel", "bitsOf", "(I)I"⟩, 43), (⟨"VoiceDeskModel", "hears", "(II)I"⟩, 43), (⟨"VoiceDeskModel", "muHears", "(I)I"⟩, 43), (⟨"VoiceDeskModel", "aHears", "(I)I"⟩, 43), (⟨"VoiceDeskModel", "hears726", "(III)I"⟩, 43), (⟨"VoiceDeskModel", "hears722", "(II)I"⟩, 43), (⟨"VoiceDeskModel", "heardBy", "(II)I"⟩, 43), (⟨"VoiceDeskModel", "puts", "(I)V"⟩, 43)]
theorem lw_r4 : ∀ q ∈ lw_privs_4, lw_okq q := List.forall_mem_cons.mpr ⟨lw_p48, List.forall_mem_cons.mpr ⟨lw_p49, List.forall_mem_cons.mpr ⟨lw_p50, List.forall_mem_cons.mpr ⟨lw_p51, List.forall_mem_cons.mpr ⟨lw_p52, List.forall_mem_cons.mpr ⟨lw_p53, List.forall_mem_cons.mpr ⟨lw_p54, List.forall_mem_cons.mpr ⟨lw_p55, List.forall_mem_cons.mpr ⟨lw_p56, List.forall_mem_cons.mpr ⟨lw_p57, List.forall_mem_cons.mpr ⟨lw_p58, List.forall_mem_cons.mpr ⟨lw_p59, List.forall_mem_cons.mpr ⟨lw_p60, List.forall_mem_cons.mpr ⟨lw_p61, List.forall_mem_cons.mpr ⟨lw_p62, List.forall_mem_cons.mpr ⟨lw_p63, fun _ h => absurd h List.not_mem_nil⟩⟩⟩⟩⟩⟩⟩⟩⟩⟩⟩⟩⟩⟩⟩⟩
theorem lw_p64 : lw_okq (⟨"VoiceDeskModel", "sampleAt", "(I)I"⟩, 43) := ⟨⟨by decide +kernel, by decide +kernel⟩, List.mem_of_getElem? (i := 538) (by decide +kernel), List.mem_of_getElem? (i := 877) (by decide +kernel), List.mem_of_getElem? (i := 878) (by decide +kernel)⟩
theorem lw_p65 : lw_okq (⟨"VoiceDeskModel", "bit", "(IIZ)V"⟩, 43) := ⟨⟨by decide +kernel, by decide +kernel⟩, List.mem_of_getElem? (i := 538) (by decide +kernel), List.mem_of_getElem? (i := 881) (by decide +kernel), List.mem_of_getElem? (i := 882) (by decide +kernel)⟩
theorem lw_p66 : lw_okq (⟨"VoiceDeskModel", "sample", "(I)V"⟩, 43) := ⟨⟨by decide +kernel, by decide +kernel⟩, List.mem_of_getElem? (i := 538) (by decide +kernel), List.mem_of_getElem? (i := 889) (by decide +kernel), List.mem_of_getElem? (i := 890) (by decide +kernel)⟩
theorem lw_p67 : lw_okq (⟨"VoiceDeskModel", "finds", "()V"⟩, 43) := ⟨⟨by decide +kernel, by decide +kernel⟩, List.mem_of_getElem? (i := 538) (by decide +kernel), List.mem_of_getElem? (i := 901) (by decide +kernel), List.mem_of_getElem? (i := 902) (by decide +kernel)⟩
def lw_privs_5 : List (MethodName × Nat) := [(⟨"VoiceDeskModel", "sampleAt", "(I)I"⟩, 43), (⟨"VoiceDeskModel", "bit", "(IIZ)V"⟩, 43), (⟨"VoiceDeskModel", "sample", "(I)V"⟩, 43), (⟨"VoiceDeskModel", "finds", "()V"⟩, 43)]
theorem lw_r5 : ∀ q ∈ lw_privs_5, lw_okq q := List.forall_mem_cons.mpr ⟨lw_p64, List.forall_mem_cons.mpr ⟨lw_p65, List.forall_mem_cons.mpr ⟨lw_p66, List.forall_mem_cons.mpr ⟨lw_p67, fun _ h => absurd h List.not_mem_nil⟩⟩⟩⟩
def lw_privs : List (MethodName × Nat) := lw_privs_1 ++ (lw_privs_2 ++ (lw_privs_3 ++ (lw_privs_4 ++ (lw_privs_5))))
def lw_tbl : List Cond := k2_sels lw_privs ++ tables_1
theorem lw_privs_ok : ∀ q ∈ lw_privs, lw_okq q := by
  show ∀ q ∈ lw_privs_1 ++ (lw_privs_2 ++ (lw_privs_3 ++ (lw_privs_4 ++ (lw_privs_5)))), lw_okq q
  exact List.forall_mem_append.mpr ⟨lw_r1, List.forall_mem_append.mpr ⟨lw_r2, List.forall_mem_append.mpr ⟨lw_r3, List.forall_mem_append.mpr ⟨lw_r4, lw_r5⟩⟩⟩⟩
end
section
/-! ===== BEGIN words of one list among another's, by their places ===== -/
theorem goodIn_r {big : List Cond} (ws : List Cond) (ps : List Nat) (hp : ws = ps.filterMap (fun i => big[i]?)) (h : ws.all goodWord = true) : GoodIn big ws := by
  intro w hw
  have h1 := List.all_eq_true.mp h w hw
  rw [hp] at hw
  obtain ⟨i, -, hi⟩ := List.mem_filterMap.mp hw
  have hm : w ∈ big := by first | exact List.mem_of_getElem? hi | exact List.getElem?_mem hi
  exact ⟨hm, good_of_word h1⟩
theorem goodIn_app {big a b : List Cond} (ha : GoodIn big a) (hb : GoodIn big b) : GoodIn big (a ++ b) := fun w h => (List.mem_append.mp h).elim (ha w) (hb w)
theorem goodIn_ca {big a b : List Cond} {c : Cond} (ha : GoodIn big (c :: a)) (hb : GoodIn big b) : GoodIn big (c :: (a ++ b)) := fun w h => (List.mem_cons.mp h).elim (fun e => ha w (List.mem_cons.mpr (Or.inl e))) (fun h => (List.mem_append.mp h).elim (fun h => ha w (List.mem_cons.mpr (Or.inr h))) (hb w))
theorem goodIn_sub {big ws : List Cond} (hm : ∀ w ∈ ws, w ∈ big) (h : ws.all goodWord = true) : GoodIn big ws := fun w hw => ⟨hm w hw, good_of_word (List.all_eq_true.mp h w hw)⟩
/-! ===== END ===== -/

/-! ===== BEGIN printed: names, fields, word lists, decode rows ===== -/
def RX0 : String := "VoiceDesk$Adpcm"
def TX0 : u_T := fun k => match k with
  | 0 => ("VoiceDesk$Adpcm", "numbers", "[I", true)
  | 1 => ("VoiceDesk$Adpcm", "bits", "I", false)
  | 2 => ("VoiceDesk$Adpcm", "se", "I", false)
  | 3 => ("VoiceDesk$Adpcm", "sz", "I", false)
  | _ => ("VoiceDesk$Adpcm", "step", "I", false)
def tyX0 : Nat → FieldType := fun k => match k with
  | 0 => .array .int
  | 1 => .int
  | 2 => .int
  | 3 => .int
  | _ => .int
abbrev wsX00 : List Cond := u_ws RX0 TX0 5
theorem nmX0 : ∀ a, a < 5 → ∀ b, b < 5 → a ≠ b → (TX0 a).2.1 ≠ (TX0 b).2.1 := by decide +kernel
theorem tyX0_ok : ∀ k, k < 5 → parseFieldDescriptor (TX0 k).2.2.1 = some (tyX0 k) := by decide +kernel
abbrev cX0_init : ByteArray := prog_2_method_1_code
def yX0_init : MethodName := ⟨RX0, "<init>", "()V"⟩
abbrev cX0_begin : ByteArray := prog_2_method_2_code
def yX0_begin : MethodName := ⟨RX0, "begin", "(I)V"⟩
abbrev cX0_number : ByteArray := prog_2_method_3_code
def yX0_number : MethodName := ⟨RX0, "number", "(I)I"⟩
abbrev cX0_encode : ByteArray := prog_2_method_4_code
def yX0_encode : MethodName := ⟨RX0, "encode", "(I)I"⟩
abbrev cX0_decode : ByteArray := prog_2_method_5_code
def yX0_decode : MethodName := ⟨RX0, "decode", "(I)I"⟩
abbrev cX0_foresee : ByteArray := prog_2_method_6_code
def yX0_foresee : MethodName := ⟨RX0, "foresee", "()V"⟩
abbrev cX0_stepNow : ByteArray := prog_2_method_7_code
def yX0_stepNow : MethodName := ⟨RX0, "stepNow", "()I"⟩
abbrev cX0_codeOf : ByteArray := prog_2_method_8_code
def yX0_codeOf : MethodName := ⟨RX0, "codeOf", "(I)I"⟩
abbrev cX0_settle : ByteArray := prog_2_method_9_code
def yX0_settle : MethodName := ⟨RX0, "settle", "(I)I"⟩
abbrev cX0_tablePlace : ByteArray := prog_2_method_10_code
def yX0_tablePlace : MethodName := ⟨RX0, "tablePlace", "(I)I"⟩
abbrev cX0_amount : ByteArray := prog_2_method_11_code
def yX0_amount : MethodName := ⟨RX0, "amount", "(I)I"⟩
abbrev cX0_isTransition : ByteArray := prog_2_method_12_code
def yX0_isTransition : MethodName := ⟨RX0, "isTransition", "(I)Z"⟩
abbrev cX0_adaptStep : ByteArray := prog_2_method_13_code
def yX0_adaptStep : MethodName := ⟨RX0, "adaptStep", "(I)V"⟩
abbrev cX0_forgetFilters : ByteArray := prog_2_method_14_code
def yX0_forgetFilters : MethodName := ⟨RX0, "forgetFilters", "()V"⟩
abbrev cX0_adaptA2 : ByteArray := prog_2_method_15_code
def yX0_adaptA2 : MethodName := ⟨RX0, "adaptA2", "(I)V"⟩
abbrev cX0_nudgedA2 : ByteArray := prog_2_method_16_code
def yX0_nudgedA2 : MethodName := ⟨RX0, "nudgedA2", "(II)I"⟩
abbrev cX0_adaptA1 : ByteArray := prog_2_method_17_code
def yX0_adaptA1 : MethodName := ⟨RX0, "adaptA1", "(I)V"⟩
abbrev cX0_adaptZeros : ByteArray := prog_2_method_18_code
def yX0_adaptZeros : MethodName := ⟨RX0, "adaptZeros", "(IZ)V"⟩
abbrev cX0_remember : ByteArray := prog_2_method_19_code
def yX0_remember : MethodName := ⟨RX0, "remember", "(III)V"⟩
abbrev cX0_adaptPace : ByteArray := prog_2_method_20_code
def yX0_adaptPace : MethodName := ⟨RX0, "adaptPace", "(IZ)V"⟩
abbrev cX0_size : ByteArray := prog_2_method_21_code
def yX0_size : MethodName := ⟨RX0, "size", "(I)I"⟩
abbrev cX0_times : ByteArray := prog_2_method_22_code
def yX0_times : MethodName := ⟨RX0, "times", "(II)I"⟩
abbrev cX0_shifted : ByteArray := prog_2_method_23_code
def yX0_shifted : MethodName := ⟨RX0, "shifted", "(II)I"⟩
abbrev cX0_floatOf : ByteArray := prog_2_method_24_code
def yX0_floatOf : MethodName := ⟨RX0, "floatOf", "(IZ)I"⟩
def RX1 : String := "VoiceDesk$Band"
def TX1 : u_T := fun k => match k with
  | _ => ("VoiceDesk$Band", "numbers", "[I", true)
def tyX1 : Nat → FieldType := fun k => match k with
  | _ => .array .int
abbrev wsX10 : List Cond := u_ws RX1 TX1 1
theorem nmX1 : ∀ a, a < 1 → ∀ b, b < 1 → a ≠ b → (TX1 a).2.1 ≠ (TX1 b).2.1 := by decide +kernel
theorem tyX1_ok : ∀ k, k < 1 → parseFieldDescriptor (TX1 k).2.2.1 = some (tyX1 k) := by decide +kernel
abbrev cX1_init : ByteArray := prog_3_method_1_code
def yX1_init : MethodName := ⟨RX1, "<init>", "()V"⟩
abbrev cX1_begin : ByteArray := prog_3_method_2_code
def yX1_begin : MethodName := ⟨RX1, "begin", "(I)V"⟩
abbrev cX1_number : ByteArray := prog_3_method_3_code
def yX1_number : MethodName := ⟨RX1, "number", "(I)I"⟩
abbrev cX1_error : ByteArray := prog_3_method_4_code
def yX1_error : MethodName := ⟨RX1, "error", "(I)I"⟩
abbrev cX1_scaled : ByteArray := prog_3_method_5_code
def yX1_scaled : MethodName := ⟨RX1, "scaled", "(I)I"⟩
abbrev cX1_heard : ByteArray := prog_3_method_6_code
def yX1_heard : MethodName := ⟨RX1, "heard", "(I)I"⟩
abbrev cX1_difference : ByteArray := prog_3_method_7_code
def yX1_difference : MethodName := ⟨RX1, "difference", "(I)I"⟩
abbrev cX1_settle : ByteArray := prog_3_method_8_code
def yX1_settle : MethodName := ⟨RX1, "settle", "(IIII)V"⟩
abbrev cX1_adaptScale : ByteArray := prog_3_method_9_code
def yX1_adaptScale : MethodName := ⟨RX1, "adaptScale", "(III)V"⟩
abbrev cX1_product : ByteArray := prog_3_method_10_code
def yX1_product : MethodName := ⟨RX1, "product", "(II)I"⟩
abbrev cX1_adaptPoles : ByteArray := prog_3_method_11_code
def yX1_adaptPoles : MethodName := ⟨RX1, "adaptPoles", "(I)V"⟩
abbrev cX1_adaptZeros : ByteArray := prog_3_method_12_code
def yX1_adaptZeros : MethodName := ⟨RX1, "adaptZeros", "(I)V"⟩
abbrev cX1_remember : ByteArray := prog_3_method_13_code
def yX1_remember : MethodName := ⟨RX1, "remember", "(III)V"⟩
def RX2 : String := "VoiceDesk$Bytes"
def TX2 : u_T := fun k => match k with
  | 0 => ("VoiceDesk$Bytes", "row", "[I", true)
  | _ => ("VoiceDesk$Bytes", "length", "I", false)
def tyX2 : Nat → FieldType := fun k => match k with
  | 0 => .array .int
  | _ => .int
abbrev wsX20 : List Cond := u_ws RX2 TX2 2
theorem nmX2 : ∀ a, a < 2 → ∀ b, b < 2 → a ≠ b → (TX2 a).2.1 ≠ (TX2 b).2.1 := by decide +kernel
theorem tyX2_ok : ∀ k, k < 2 → parseFieldDescriptor (TX2 k).2.2.1 = some (tyX2 k) := by decide +kernel
abbrev cX2_init : ByteArray := prog_4_method_1_code
def yX2_init : MethodName := ⟨RX2, "<init>", "()V"⟩
abbrev cX2_needed : ByteArray := prog_4_method_2_code
def yX2_needed : MethodName := ⟨RX2, "needed", "(I)I"⟩
abbrev cX2_byteAt : ByteArray := prog_4_method_3_code
def yX2_byteAt : MethodName := ⟨RX2, "byteAt", "(I)I"⟩
abbrev cX2_add : ByteArray := prog_4_method_4_code
def yX2_add : MethodName := ⟨RX2, "add", "(I)V"⟩
abbrev cX2_addInt : ByteArray := prog_4_method_5_code
def yX2_addInt : MethodName := ⟨RX2, "addInt", "(I)V"⟩
abbrev cX2_addSample : ByteArray := prog_4_method_6_code
def yX2_addSample : MethodName := ⟨RX2, "addSample", "(I)V"⟩
abbrev cX2_sampleAt : ByteArray := prog_4_method_7_code
def yX2_sampleAt : MethodName := ⟨RX2, "sampleAt", "(I)I"⟩
abbrev cX2_copyFrom : ByteArray := prog_4_method_8_code
def yX2_copyFrom : MethodName := ⟨RX2, "copyFrom", "(LVoiceDesk$Bytes;)V"⟩
abbrev cX2_clearFor : ByteArray := prog_4_method_9_code
def yX2_clearFor : MethodName := ⟨RX2, "clearFor", "(I)V"⟩
abbrev cX2_putCode : ByteArray := prog_4_method_10_code
def yX2_putCode : MethodName := ⟨RX2, "putCode", "(IIZI)V"⟩
abbrev cX2_codeAt : ByteArray := prog_4_method_11_code
def yX2_codeAt : MethodName := ⟨RX2, "codeAt", "(IIZ)I"⟩
abbrev cX2_codeBit : ByteArray := prog_4_method_12_code
def yX2_codeBit : MethodName := ⟨RX2, "codeBit", "(IIZ)I"⟩
abbrev cX2_byteBit : ByteArray := prog_4_method_13_code
def yX2_byteBit : MethodName := ⟨RX2, "byteBit", "(IZ)I"⟩
def RX3 : String := "VoiceDesk$Law"
def TX3 : u_T := fun k => match k with
  | _ => ("", "", "", false)
def tyX3 : Nat → FieldType := fun k => match k with
  | _ => .int
abbrev wsX30 : List Cond := u_ws RX3 TX3 0
theorem nmX3 : ∀ a, a < 0 → ∀ b, b < 0 → a ≠ b → (TX3 a).2.1 ≠ (TX3 b).2.1 := by decide +kernel
theorem tyX3_ok : ∀ k, k < 0 → parseFieldDescriptor (TX3 k).2.2.1 = some (tyX3 k) := by decide +kernel
abbrev cX3_muCode : ByteArray := prog_5_method_2_code
def yX3_muCode : MethodName := ⟨RX3, "muCode", "(I)I"⟩
abbrev cX3_muSample : ByteArray := prog_5_method_3_code
def yX3_muSample : MethodName := ⟨RX3, "muSample", "(I)I"⟩
abbrev cX3_aCode : ByteArray := prog_5_method_4_code
def yX3_aCode : MethodName := ⟨RX3, "aCode", "(I)I"⟩
abbrev cX3_aSample : ByteArray := prog_5_method_5_code
def yX3_aSample : MethodName := ⟨RX3, "aSample", "(I)I"⟩
abbrev cX3_segment : ByteArray := prog_5_method_6_code
def yX3_segment : MethodName := ⟨RX3, "segment", "(II)I"⟩
abbrev cX3_muEdge : ByteArray := prog_5_method_7_code
def yX3_muEdge : MethodName := ⟨RX3, "muEdge", "(IZ)I"⟩
abbrev cX3_aEdge : ByteArray := prog_5_method_8_code
def yX3_aEdge : MethodName := ⟨RX3, "aEdge", "(IZ)I"⟩
def RX4 : String := "VoiceDesk$Line"
def TX4 : u_T := fun k => match k with
  | 0 => ("VoiceDesk$Line", "adpcmSpeaker", "LVoiceDesk$Adpcm;", true)
  | 1 => ("VoiceDesk$Line", "adpcmHearer", "LVoiceDesk$Adpcm;", true)
  | 2 => ("VoiceDesk$Line", "wideSpeaker", "LVoiceDesk$Wideband;", true)
  | 3 => ("VoiceDesk$Line", "wideHearer", "LVoiceDesk$Wideband;", true)
  | _ => ("VoiceDesk$Line", "kind", "I", false)
def tyX4 : Nat → FieldType := fun k => match k with
  | 0 => .object "VoiceDesk$Adpcm"
  | 1 => .object "VoiceDesk$Adpcm"
  | 2 => .object "VoiceDesk$Wideband"
  | 3 => .object "VoiceDesk$Wideband"
  | _ => .int
abbrev wsX40 : List Cond := u_ws RX4 TX4 5
theorem nmX4 : ∀ a, a < 5 → ∀ b, b < 5 → a ≠ b → (TX4 a).2.1 ≠ (TX4 b).2.1 := by decide +kernel
theorem tyX4_ok : ∀ k, k < 5 → parseFieldDescriptor (TX4 k).2.2.1 = some (tyX4 k) := by decide +kernel
abbrev cX4_init : ByteArray := prog_6_method_1_code
def yX4_init : MethodName := ⟨RX4, "<init>", "()V"⟩
abbrev cX4_begin : ByteArray := prog_6_method_2_code
def yX4_begin : MethodName := ⟨RX4, "begin", "(I)V"⟩
abbrev cX4_isAdpcm : ByteArray := prog_6_method_3_code
def yX4_isAdpcm : MethodName := ⟨RX4, "isAdpcm", "()Z"⟩
abbrev cX4_isWide : ByteArray := prog_6_method_4_code
def yX4_isWide : MethodName := ⟨RX4, "isWide", "()Z"⟩
abbrev cX4_codeBits : ByteArray := prog_6_method_5_code
def yX4_codeBits : MethodName := ⟨RX4, "codeBits", "()I"⟩
abbrev cX4_hasCode : ByteArray := prog_6_method_6_code
def yX4_hasCode : MethodName := ⟨RX4, "hasCode", "(I)Z"⟩
abbrev cX4_encode : ByteArray := prog_6_method_7_code
def yX4_encode : MethodName := ⟨RX4, "encode", "(II)I"⟩
abbrev cX4_decode : ByteArray := prog_6_method_8_code
def yX4_decode : MethodName := ⟨RX4, "decode", "(I)I"⟩
abbrev cX4_secondHeard : ByteArray := prog_6_method_9_code
def yX4_secondHeard : MethodName := ⟨RX4, "secondHeard", "()I"⟩
abbrev cX4_number : ByteArray := prog_6_method_10_code
def yX4_number : MethodName := ⟨RX4, "number", "(ZI)I"⟩
def RX5 : String := "VoiceDesk$Wideband"
def TX5 : u_T := fun k => match k with
  | 0 => ("VoiceDesk$Wideband", "low", "LVoiceDesk$Band;", true)
  | 1 => ("VoiceDesk$Wideband", "high", "LVoiceDesk$Band;", true)
  | 2 => ("VoiceDesk$Wideband", "x", "[I", true)
  | _ => ("VoiceDesk$Wideband", "secondHeard", "I", false)
def tyX5 : Nat → FieldType := fun k => match k with
  | 0 => .object "VoiceDesk$Band"
  | 1 => .object "VoiceDesk$Band"
  | 2 => .array .int
  | _ => .int
abbrev wsX50 : List Cond := u_ws RX5 TX5 4
theorem nmX5 : ∀ a, a < 4 → ∀ b, b < 4 → a ≠ b → (TX5 a).2.1 ≠ (TX5 b).2.1 := by decide +kernel
theorem tyX5_ok : ∀ k, k < 4 → parseFieldDescriptor (TX5 k).2.2.1 = some (tyX5 k) := by decide +kernel
abbrev cX5_init : ByteArray := prog_7_method_1_code
def yX5_init : MethodName := ⟨RX5, "<init>", "()V"⟩
abbrev cX5_begin : ByteArray := prog_7_method_2_code
def yX5_begin : MethodName := ⟨RX5, "begin", "()V"⟩
abbrev cX5_number : ByteArray := prog_7_method_3_code
def yX5_number : MethodName := ⟨RX5, "number", "(I)I"⟩
abbrev cX5_encode : ByteArray := prog_7_method_4_code
def yX5_encode : MethodName := ⟨RX5, "encode", "(II)I"⟩
abbrev cX5_decode : ByteArray := prog_7_method_5_code
def yX5_decode : MethodName := ⟨RX5, "decode", "(II)I"⟩
abbrev cX5_push : ByteArray := prog_7_method_6_code
def yX5_push : MethodName := ⟨RX5, "push", "(II)V"⟩
abbrev cX5_evenSum : ByteArray := prog_7_method_7_code
def yX5_evenSum : MethodName := ⟨RX5, "evenSum", "()I"⟩
abbrev cX5_oddSum : ByteArray := prog_7_method_8_code
def yX5_oddSum : MethodName := ⟨RX5, "oddSum", "()I"⟩
abbrev cX5_lowCode : ByteArray := prog_7_method_9_code
def yX5_lowCode : MethodName := ⟨RX5, "lowCode", "(I)I"⟩
abbrev cX5_highCode : ByteArray := prog_7_method_10_code
def yX5_highCode : MethodName := ⟨RX5, "highCode", "(I)I"⟩
abbrev cX5_lowFactor : ByteArray := prog_7_method_11_code
def yX5_lowFactor : MethodName := ⟨RX5, "lowFactor", "(II)I"⟩
abbrev cX5_settle : ByteArray := prog_7_method_12_code
def yX5_settle : MethodName := ⟨RX5, "settle", "(II)V"⟩
def RX6 : String := "VoiceDesk"
def TX6 : u_T := fun k => match k with
  | 0 => ("VoiceDesk", "lines", "[LVoiceDesk$Line;", true)
  | 1 => ("VoiceDesk", "tape", "LVoiceDesk$Bytes;", true)
  | _ => ("VoiceDesk", "result", "LVoiceDesk$Bytes;", true)
def tyX6 : Nat → FieldType := fun k => match k with
  | 0 => .array (.object "VoiceDesk$Line")
  | 1 => .object "VoiceDesk$Bytes"
  | _ => .object "VoiceDesk$Bytes"
abbrev wsX60 : List Cond := u_ws RX6 TX6 3
theorem nmX6 : ∀ a, a < 3 → ∀ b, b < 3 → a ≠ b → (TX6 a).2.1 ≠ (TX6 b).2.1 := by decide +kernel
theorem tyX6_ok : ∀ k, k < 3 → parseFieldDescriptor (TX6 k).2.2.1 = some (tyX6 k) := by decide +kernel
abbrev cX6_init : ByteArray := prog_1_method_1_code
def yX6_init : MethodName := ⟨RX6, "<init>", "()V"⟩
abbrev cX6_open : ByteArray := prog_1_method_2_code
def yX6_open : MethodName := ⟨RX6, "open", "(II)Z"⟩
abbrev cX6_kind : ByteArray := prog_1_method_3_code
def yX6_kind : MethodName := ⟨RX6, "kind", "(I)I"⟩
abbrev cX6_say : ByteArray := prog_1_method_4_code
def yX6_say : MethodName := ⟨RX6, "say", "(II)I"⟩
abbrev cX6_pair : ByteArray := prog_1_method_5_code
def yX6_pair : MethodName := ⟨RX6, "pair", "(III)I"⟩
abbrev cX6_hear : ByteArray := prog_1_method_6_code
def yX6_hear : MethodName := ⟨RX6, "hear", "(II)I"⟩
abbrev cX6_second : ByteArray := prog_1_method_7_code
def yX6_second : MethodName := ⟨RX6, "second", "(I)I"⟩
abbrev cX6_inner : ByteArray := prog_1_method_8_code
def yX6_inner : MethodName := ⟨RX6, "inner", "(III)I"⟩
abbrev cX6_feed : ByteArray := prog_1_method_9_code
def yX6_feed : MethodName := ⟨RX6, "feed", "(IIIII)I"⟩
abbrev cX6_end : ByteArray := prog_1_method_10_code
def yX6_end : MethodName := ⟨RX6, "end", "(I)I"⟩
abbrev cX6_take : ByteArray := prog_1_method_11_code
def yX6_take : MethodName := ⟨RX6, "take", "()I"⟩
abbrev cX6_out : ByteArray := prog_1_method_12_code
def yX6_out : MethodName := ⟨RX6, "out", "(I)I"⟩
abbrev cX6_pack : ByteArray := prog_1_method_13_code
def yX6_pack : MethodName := ⟨RX6, "pack", "(IZ)I"⟩
abbrev cX6_unpack : ByteArray := prog_1_method_14_code
def yX6_unpack : MethodName := ⟨RX6, "unpack", "(IZI)I"⟩
abbrev cX6_pass : ByteArray := prog_1_method_15_code
def yX6_pass : MethodName := ⟨RX6, "pass", "(III)I"⟩
abbrev cX6_law : ByteArray := prog_1_method_16_code
def yX6_law : MethodName := ⟨RX6, "law", "(III)I"⟩
abbrev cX6_openLine : ByteArray := prog_1_method_17_code
def yX6_openLine : MethodName := ⟨RX6, "openLine", "(I)LVoiceDesk$Line;"⟩
abbrev cX6_isSample : ByteArray := prog_1_method_18_code
def yX6_isSample : MethodName := ⟨RX6, "isSample", "(I)Z"⟩
abbrev cX6_cut : ByteArray := prog_1_method_19_code
def yX6_cut : MethodName := ⟨RX6, "cut", "(III)I"⟩
abbrev cX6_limited : ByteArray := prog_1_method_20_code
def yX6_limited : MethodName := ⟨RX6, "limited", "(I)I"⟩
abbrev cX6_wrapped : ByteArray := prog_1_method_21_code
def yX6_wrapped : MethodName := ⟨RX6, "wrapped", "(I)I"⟩
abbrev cX6_sign : ByteArray := prog_1_method_22_code
def yX6_sign : MethodName := ⟨RX6, "sign", "(I)I"⟩
def RX7 : String := "VoiceDeskModel"
def TX7 : u_T := fun k => match k with
  | 0 => ("VoiceDeskModel", "told", "I", false)
  | 1 => ("VoiceDeskModel", "kinds", "[I", true)
  | 2 => ("VoiceDeskModel", "seconds", "[I", true)
  | 3 => ("VoiceDeskModel", "g", "[I", true)
  | 4 => ("VoiceDeskModel", "bounds2", "[I", true)
  | 5 => ("VoiceDeskModel", "bounds3", "[I", true)
  | 6 => ("VoiceDeskModel", "bounds4", "[I", true)
  | 7 => ("VoiceDeskModel", "bounds5", "[I", true)
  | 8 => ("VoiceDeskModel", "table2", "[I", true)
  | 9 => ("VoiceDeskModel", "table3", "[I", true)
  | 10 => ("VoiceDeskModel", "table4", "[I", true)
  | 11 => ("VoiceDeskModel", "table5", "[I", true)
  | 12 => ("VoiceDeskModel", "weight2", "[I", true)
  | 13 => ("VoiceDeskModel", "weight3", "[I", true)
  | 14 => ("VoiceDeskModel", "weight4", "[I", true)
  | 15 => ("VoiceDeskModel", "weight5", "[I", true)
  | 16 => ("VoiceDeskModel", "pace2", "[I", true)
  | 17 => ("VoiceDeskModel", "pace3", "[I", true)
  | 18 => ("VoiceDeskModel", "pace4", "[I", true)
  | 19 => ("VoiceDeskModel", "pace5", "[I", true)
  | 20 => ("VoiceDeskModel", "sumZ", "I", false)
  | 21 => ("VoiceDeskModel", "sumE", "I", false)
  | 22 => ("VoiceDeskModel", "stepY", "I", false)
  | 23 => ("VoiceDeskModel", "bands", "[I", true)
  | 24 => ("VoiceDeskModel", "sieve", "[I", true)
  | 25 => ("VoiceDeskModel", "coefficients", "[I", true)
  | 26 => ("VoiceDeskModel", "steps", "[I", true)
  | 27 => ("VoiceDeskModel", "roots", "[I", true)
  | 28 => ("VoiceDeskModel", "ups", "[I", true)
  | 29 => ("VoiceDeskModel", "highs", "[I", true)
  | 30 => ("VoiceDeskModel", "lowWeights", "[I", true)
  | 31 => ("VoiceDeskModel", "highWeights", "[I", true)
  | 32 => ("VoiceDeskModel", "heard56", "[I", true)
  | 33 => ("VoiceDeskModel", "heard64", "[I", true)
  | 34 => ("VoiceDeskModel", "odd", "I", false)
  | 35 => ("VoiceDeskModel", "even", "I", false)
  | 36 => ("VoiceDeskModel", "tape", "[I", true)
  | 37 => ("VoiceDeskModel", "taped", "I", false)
  | 38 => ("VoiceDeskModel", "out", "[I", true)
  | 39 => ("VoiceDeskModel", "outs", "I", false)
  | 40 => ("VoiceDeskModel", "isFound", "Z", false)
  | 41 => ("VoiceDeskModel", "least", "[I", true)
  | _ => ("VoiceDeskModel", "greatest", "[I", true)
def tyX7 : Nat → FieldType := fun k => match k with
  | 0 => .int
  | 1 => .array .int
  | 2 => .array .int
  | 3 => .array .int
  | 4 => .array .int
  | 5 => .array .int
  | 6 => .array .int
  | 7 => .array .int
  | 8 => .array .int
  | 9 => .array .int
  | 10 => .array .int
  | 11 => .array .int
  | 12 => .array .int
  | 13 => .array .int
  | 14 => .array .int
  | 15 => .array .int
  | 16 => .array .int
  | 17 => .array .int
  | 18 => .array .int
  | 19 => .array .int
  | 20 => .int
  | 21 => .int
  | 22 => .int
  | 23 => .array .int
  | 24 => .array .int
  | 25 => .array .int
  | 26 => .array .int
  | 27 => .array .int
  | 28 => .array .int
  | 29 => .array .int
  | 30 => .array .int
  | 31 => .array .int
  | 32 => .array .int
  | 33 => .array .int
  | 34 => .int
  | 35 => .int
  | 36 => .array .int
  | 37 => .int
  | 38 => .array .int
  | 39 => .int
  | 40 => .boolean
  | 41 => .array .int
  | _ => .array .int
abbrev wsX70 : List Cond := u_ws RX7 TX7 43
theorem nmX7 : ∀ a, a < 43 → ∀ b, b < 43 → a ≠ b → (TX7 a).2.1 ≠ (TX7 b).2.1 := by decide +kernel
theorem tyX7_ok : ∀ k, k < 43 → parseFieldDescriptor (TX7 k).2.2.1 = some (tyX7 k) := by decide +kernel
abbrev cX7_init : ByteArray := prog_9_method_1_code
def yX7_init : MethodName := ⟨RX7, "<init>", "()V"⟩
abbrev cX7_isLine : ByteArray := prog_9_method_3_code
def yX7_isLine : MethodName := ⟨RX7, "isLine", "(I)Z"⟩
abbrev cX7_isOpen : ByteArray := prog_9_method_4_code
def yX7_isOpen : MethodName := ⟨RX7, "isOpen", "(I)Z"⟩
abbrev cX7_isPaired : ByteArray := prog_9_method_5_code
def yX7_isPaired : MethodName := ⟨RX7, "isPaired", "(I)Z"⟩
abbrev cX7_limited : ByteArray := prog_9_method_6_code
def yX7_limited : MethodName := ⟨RX7, "limited", "(I)I"⟩
abbrev cX7_wrapped : ByteArray := prog_9_method_7_code
def yX7_wrapped : MethodName := ⟨RX7, "wrapped", "(I)I"⟩
abbrev cX7_cut : ByteArray := prog_9_method_8_code
def yX7_cut : MethodName := ⟨RX7, "cut", "(III)I"⟩
abbrev cX7_amount : ByteArray := prog_9_method_9_code
def yX7_amount : MethodName := ⟨RX7, "amount", "(I)I"⟩
abbrev cX7_sign : ByteArray := prog_9_method_10_code
def yX7_sign : MethodName := ⟨RX7, "sign", "(I)I"⟩
abbrev cX7_size : ByteArray := prog_9_method_11_code
def yX7_size : MethodName := ⟨RX7, "size", "(I)I"⟩
abbrev cX7_open : ByteArray := prog_9_method_12_code
def yX7_open : MethodName := ⟨RX7, "open", "(II)Z"⟩
abbrev cX7_kind : ByteArray := prog_9_method_13_code
def yX7_kind : MethodName := ⟨RX7, "kind", "(I)I"⟩
abbrev cX7_muSays : ByteArray := prog_9_method_14_code
def yX7_muSays : MethodName := ⟨RX7, "muSays", "(I)I"⟩
abbrev cX7_muHears : ByteArray := prog_9_method_15_code
def yX7_muHears : MethodName := ⟨RX7, "muHears", "(I)I"⟩
abbrev cX7_aSays : ByteArray := prog_9_method_16_code
def yX7_aSays : MethodName := ⟨RX7, "aSays", "(I)I"⟩
abbrev cX7_aHears : ByteArray := prog_9_method_17_code
def yX7_aHears : MethodName := ⟨RX7, "aHears", "(I)I"⟩
abbrev cX7_bound : ByteArray := prog_9_method_18_code
def yX7_bound : MethodName := ⟨RX7, "bound", "(II)I"⟩
abbrev cX7_half : ByteArray := prog_9_method_19_code
def yX7_half : MethodName := ⟨RX7, "half", "(II)I"⟩
abbrev cX7_table : ByteArray := prog_9_method_20_code
def yX7_table : MethodName := ⟨RX7, "table", "(II)I"⟩
abbrev cX7_weight : ByteArray := prog_9_method_21_code
def yX7_weight : MethodName := ⟨RX7, "weight", "(II)I"⟩
abbrev cX7_pace : ByteArray := prog_9_method_22_code
def yX7_pace : MethodName := ⟨RX7, "pace", "(II)I"⟩
abbrev cX7_times : ByteArray := prog_9_method_23_code
def yX7_times : MethodName := ⟨RX7, "times", "(II)I"⟩
abbrev cX7_forehand : ByteArray := prog_9_method_24_code
def yX7_forehand : MethodName := ⟨RX7, "forehand", "(I)V"⟩
abbrev cX7_says726 : ByteArray := prog_9_method_25_code
def yX7_says726 : MethodName := ⟨RX7, "says726", "(III)I"⟩
abbrev cX7_hears726 : ByteArray := prog_9_method_26_code
def yX7_hears726 : MethodName := ⟨RX7, "hears726", "(III)I"⟩
abbrev cX7_floated : ByteArray := prog_9_method_27_code
def yX7_floated : MethodName := ⟨RX7, "floated", "(IZ)I"⟩
abbrev cX7_comes : ByteArray := prog_9_method_28_code
def yX7_comes : MethodName := ⟨RX7, "comes", "(III)I"⟩
abbrev cX7_adapts : ByteArray := prog_9_method_29_code
def yX7_adapts : MethodName := ⟨RX7, "adapts", "(III)I"⟩
abbrev cX7_heardBy : ByteArray := prog_9_method_30_code
def yX7_heardBy : MethodName := ⟨RX7, "heardBy", "(II)I"⟩
abbrev cX7_sieves : ByteArray := prog_9_method_31_code
def yX7_sieves : MethodName := ⟨RX7, "sieves", "(III)V"⟩
abbrev cX7_says722 : ByteArray := prog_9_method_32_code
def yX7_says722 : MethodName := ⟨RX7, "says722", "(III)I"⟩
abbrev cX7_root : ByteArray := prog_9_method_33_code
def yX7_root : MethodName := ⟨RX7, "root", "(II)I"⟩
abbrev cX7_both : ByteArray := prog_9_method_34_code
def yX7_both : MethodName := ⟨RX7, "both", "(III)V"⟩
abbrev cX7_goesOn : ByteArray := prog_9_method_35_code
def yX7_goesOn : MethodName := ⟨RX7, "goesOn", "(II)V"⟩
abbrev cX7_hears722 : ByteArray := prog_9_method_36_code
def yX7_hears722 : MethodName := ⟨RX7, "hears722", "(II)I"⟩
abbrev cX7_isSample : ByteArray := prog_9_method_37_code
def yX7_isSample : MethodName := ⟨RX7, "isSample", "(I)Z"⟩
abbrev cX7_bitsOf : ByteArray := prog_9_method_38_code
def yX7_bitsOf : MethodName := ⟨RX7, "bitsOf", "(I)I"⟩
abbrev cX7_says : ByteArray := prog_9_method_39_code
def yX7_says : MethodName := ⟨RX7, "says", "(II)I"⟩
abbrev cX7_hears : ByteArray := prog_9_method_40_code
def yX7_hears : MethodName := ⟨RX7, "hears", "(II)I"⟩
abbrev cX7_say : ByteArray := prog_9_method_41_code
def yX7_say : MethodName := ⟨RX7, "say", "(II)I"⟩
abbrev cX7_pair : ByteArray := prog_9_method_42_code
def yX7_pair : MethodName := ⟨RX7, "pair", "(III)I"⟩
abbrev cX7_isCode : ByteArray := prog_9_method_43_code
def yX7_isCode : MethodName := ⟨RX7, "isCode", "(II)Z"⟩
abbrev cX7_hear : ByteArray := prog_9_method_44_code
def yX7_hear : MethodName := ⟨RX7, "hear", "(II)I"⟩
abbrev cX7_second : ByteArray := prog_9_method_45_code
def yX7_second : MethodName := ⟨RX7, "second", "(I)I"⟩
abbrev cX7_inner : ByteArray := prog_9_method_46_code
def yX7_inner : MethodName := ⟨RX7, "inner", "(III)I"⟩
abbrev cX7_puts : ByteArray := prog_9_method_47_code
def yX7_puts : MethodName := ⟨RX7, "puts", "(I)V"⟩
abbrev cX7_feed : ByteArray := prog_9_method_48_code
def yX7_feed : MethodName := ⟨RX7, "feed", "(IIIII)I"⟩
abbrev cX7_end : ByteArray := prog_9_method_49_code
def yX7_end : MethodName := ⟨RX7, "end", "(I)I"⟩
abbrev cX7_take : ByteArray := prog_9_method_50_code
def yX7_take : MethodName := ⟨RX7, "take", "()I"⟩
abbrev cX7_out : ByteArray := prog_9_method_51_code
def yX7_out : MethodName := ⟨RX7, "out", "(I)I"⟩
abbrev cX7_sampleAt : ByteArray := prog_9_method_52_code
def yX7_sampleAt : MethodName := ⟨RX7, "sampleAt", "(I)I"⟩
abbrev cX7_bit : ByteArray := prog_9_method_53_code
def yX7_bit : MethodName := ⟨RX7, "bit", "(IIZ)V"⟩
abbrev cX7_pack : ByteArray := prog_9_method_54_code
def yX7_pack : MethodName := ⟨RX7, "pack", "(IZ)I"⟩
abbrev cX7_sample : ByteArray := prog_9_method_55_code
def yX7_sample : MethodName := ⟨RX7, "sample", "(I)V"⟩
abbrev cX7_unpack : ByteArray := prog_9_method_56_code
def yX7_unpack : MethodName := ⟨RX7, "unpack", "(IZI)I"⟩
abbrev cX7_pass : ByteArray := prog_9_method_57_code
def yX7_pass : MethodName := ⟨RX7, "pass", "(III)I"⟩
abbrev cX7_finds : ByteArray := prog_9_method_58_code
def yX7_finds : MethodName := ⟨RX7, "finds", "()V"⟩
abbrev cX7_law : ByteArray := prog_9_method_59_code
def yX7_law : MethodName := ⟨RX7, "law", "(III)I"⟩
def RJ9 : String := "java/lang/Math"
def TJ9 : u_T := fun k => match k with
  | _ => ("", "", "", false)
def tyJ9 : Nat → FieldType := fun k => match k with
  | _ => .int
abbrev wsJ90 : List Cond := u_ws RJ9 TJ9 0
theorem nmJ9 : ∀ a, a < 0 → ∀ b, b < 0 → a ≠ b → (TJ9 a).2.1 ≠ (TJ9 b).2.1 := by decide +kernel
theorem tyJ9_ok : ∀ k, k < 0 → parseFieldDescriptor (TJ9 k).2.2.1 = some (tyJ9 k) := by decide +kernel
abbrev cJ9_abs_0f7a4 : ByteArray := prog_10_method_59_code
def yJ9_abs_0f7a4 : MethodName := ⟨RJ9, "abs", "(I)I"⟩
abbrev cJ9_max_7cf53 : ByteArray := prog_10_method_65_code
def yJ9_max_7cf53 : MethodName := ⟨RJ9, "max", "(II)I"⟩
abbrev cJ9_min_7cf53 : ByteArray := prog_10_method_69_code
def yJ9_min_7cf53 : MethodName := ⟨RJ9, "min", "(II)I"⟩
def RL : String := "VoiceDeskLaw"
abbrev cL_law : ByteArray := code
def yL_law : MethodName := ⟨RL, "law", "([I)Z"⟩
def wsL_law_r1 : List Cond := [Cond.classLink RL 7 RX6, Cond.instantiable RX6 3, Cond.initialized RX6, Cond.classLink RL 10 RX7, Cond.instantiable RX7 43, Cond.initialized RX7, Cond.methodLink RL 9 yX6_init, Cond.instanceMethod yX6_init, Cond.code yX6_init cX6_init 2 none, Cond.methodLink RX6 1 objectInit, Cond.instanceMethod objectInit, Cond.code objectInit ⟨#[0xb1]⟩ 1 none, Cond.classLink RX6 9 RX4, Cond.fieldLink RX6 11 "VoiceDesk" "lines" "[LVoiceDesk$Line;", Cond.instantiable RX4 5, Cond.initialized RX4, Cond.classLink RX6 16 RX2, Cond.instantiable RX2 2, Cond.initialized RX2, Cond.fieldLink RX6 19 "VoiceDesk" "tape" "LVoiceDesk$Bytes;", Cond.fieldLink RX6 23 "VoiceDesk" "result" "LVoiceDesk$Bytes;", Cond.instanceMethod yX4_init, Cond.code yX4_init cX4_init 1 none, Cond.methodLink RX4 3 objectInit]
def wsL_law_r2 : List Cond := [Cond.classLink RX4 9 RX0, Cond.instantiable RX0 5, Cond.initialized RX0, Cond.fieldLink RX4 12 "VoiceDesk$Line" "adpcmSpeaker" "LVoiceDesk$Adpcm;", Cond.fieldLink RX4 18 "VoiceDesk$Line" "adpcmHearer" "LVoiceDesk$Adpcm;", Cond.classLink RX4 21 RX5, Cond.instantiable RX5 4, Cond.initialized RX5, Cond.fieldLink RX4 24 "VoiceDesk$Line" "wideSpeaker" "LVoiceDesk$Wideband;", Cond.fieldLink RX4 28 "VoiceDesk$Line" "wideHearer" "LVoiceDesk$Wideband;", Cond.constant RX4 31 (-100000), Cond.fieldLink RX4 32 "VoiceDesk$Line" "kind" "I", Cond.instanceMethod yX0_init, Cond.code yX0_init cX0_init 1 none, Cond.methodLink RX0 3 objectInit, Cond.arrayClass .int, Cond.fieldLink RX0 11 "VoiceDesk$Adpcm" "numbers" "[I", Cond.fieldLink RX0 15 "VoiceDesk$Adpcm" "bits" "I", Cond.fieldLink RX0 19 "VoiceDesk$Adpcm" "se" "I", Cond.fieldLink RX0 22 "VoiceDesk$Adpcm" "sz" "I", Cond.fieldLink RX0 25 "VoiceDesk$Adpcm" "step" "I", Cond.instanceMethod yX5_init, Cond.code yX5_init cX5_init 1 none, Cond.methodLink RX5 3 objectInit]
def wsL_law_r3 : List Cond := [Cond.classLink RX5 9 RX1, Cond.instantiable RX1 1, Cond.initialized RX1, Cond.fieldLink RX5 12 "VoiceDesk$Wideband" "low" "LVoiceDesk$Band;", Cond.fieldLink RX5 18 "VoiceDesk$Wideband" "high" "LVoiceDesk$Band;", Cond.fieldLink RX5 21 "VoiceDesk$Wideband" "x" "[I", Cond.fieldLink RX5 25 "VoiceDesk$Wideband" "secondHeard" "I", Cond.instanceMethod yX1_init, Cond.code yX1_init cX1_init 1 none, Cond.methodLink RX1 3 objectInit, Cond.fieldLink RX1 11 "VoiceDesk$Band" "numbers" "[I", Cond.instanceMethod yX2_init, Cond.code yX2_init cX2_init 1 none, Cond.methodLink RX2 3 objectInit, Cond.fieldLink RX2 11 "VoiceDesk$Bytes" "row" "[I", Cond.fieldLink RX2 15 "VoiceDesk$Bytes" "length" "I", Cond.methodLink RL 12 yX7_init, Cond.instanceMethod yX7_init, Cond.code yX7_init cX7_init 1 none, Cond.methodLink RX7 1 objectInit, Cond.constant RX7 9 (-100000), Cond.fieldLink RX7 10 "VoiceDeskModel" "kinds" "[I", Cond.fieldLink RX7 14 "VoiceDeskModel" "seconds" "[I", Cond.fieldLink RX7 17 "VoiceDeskModel" "g" "[I"]
def wsL_law_r4 : List Cond := [Cond.fieldLink RX7 20 "VoiceDeskModel" "bounds2" "[I", Cond.fieldLink RX7 23 "VoiceDeskModel" "bounds3" "[I", Cond.fieldLink RX7 26 "VoiceDeskModel" "bounds4" "[I", Cond.fieldLink RX7 29 "VoiceDeskModel" "bounds5" "[I", Cond.fieldLink RX7 32 "VoiceDeskModel" "table2" "[I", Cond.fieldLink RX7 35 "VoiceDeskModel" "table3" "[I", Cond.fieldLink RX7 38 "VoiceDeskModel" "table4" "[I", Cond.fieldLink RX7 41 "VoiceDeskModel" "table5" "[I", Cond.fieldLink RX7 44 "VoiceDeskModel" "weight2" "[I", Cond.fieldLink RX7 47 "VoiceDeskModel" "weight3" "[I", Cond.constant RX7 50 (35904), Cond.fieldLink RX7 51 "VoiceDeskModel" "weight4" "[I", Cond.fieldLink RX7 54 "VoiceDeskModel" "weight5" "[I", Cond.fieldLink RX7 57 "VoiceDeskModel" "pace2" "[I", Cond.fieldLink RX7 60 "VoiceDeskModel" "pace3" "[I", Cond.fieldLink RX7 63 "VoiceDeskModel" "pace4" "[I", Cond.fieldLink RX7 66 "VoiceDeskModel" "pace5" "[I", Cond.fieldLink RX7 69 "VoiceDeskModel" "bands" "[I", Cond.fieldLink RX7 72 "VoiceDeskModel" "sieve" "[I", Cond.fieldLink RX7 75 "VoiceDeskModel" "coefficients" "[I", Cond.fieldLink RX7 78 "VoiceDeskModel" "steps" "[I", Cond.fieldLink RX7 81 "VoiceDeskModel" "roots" "[I", Cond.fieldLink RX7 84 "VoiceDeskModel" "ups" "[I", Cond.fieldLink RX7 87 "VoiceDeskModel" "highs" "[I"]
def wsL_law_r5 : List Cond := [Cond.fieldLink RX7 90 "VoiceDeskModel" "lowWeights" "[I", Cond.fieldLink RX7 93 "VoiceDeskModel" "highWeights" "[I", Cond.fieldLink RX7 96 "VoiceDeskModel" "heard56" "[I", Cond.fieldLink RX7 99 "VoiceDeskModel" "heard64" "[I", Cond.fieldLink RX7 102 "VoiceDeskModel" "tape" "[I", Cond.fieldLink RX7 105 "VoiceDeskModel" "out" "[I", Cond.fieldLink RX7 108 "VoiceDeskModel" "least" "[I", Cond.fieldLink RX7 111 "VoiceDeskModel" "greatest" "[I", Cond.methodLink RL 13 yX6_open, Cond.instanceMethod yX6_open, Cond.selects RX6 yX6_open yX6_open, Cond.code yX6_open cX6_open 3 (some .boolean), Cond.methodLink RX6 26 yX4_begin, Cond.instanceMethod yX4_begin, Cond.selects RX4 yX4_begin yX4_begin, Cond.code yX4_begin cX4_begin 2 none, Cond.methodLink RX4 36 yX4_isAdpcm, Cond.instanceMethod yX4_isAdpcm, Cond.selects RX4 yX4_isAdpcm yX4_isAdpcm, Cond.code yX4_isAdpcm cX4_isAdpcm 1 (some .boolean), Cond.methodLink RX4 40 yX0_begin, Cond.instanceMethod yX0_begin, Cond.selects RX0 yX0_begin yX0_begin, Cond.code yX0_begin cX0_begin 3 none]
def wsL_law_r6 : List Cond := [Cond.constant RX0 28 (34816), Cond.methodLink RX4 44 yX4_isWide, Cond.instanceMethod yX4_isWide, Cond.selects RX4 yX4_isWide yX4_isWide, Cond.code yX4_isWide cX4_isWide 1 (some .boolean), Cond.methodLink RX4 47 yX5_begin, Cond.instanceMethod yX5_begin, Cond.selects RX5 yX5_begin yX5_begin, Cond.code yX5_begin cX5_begin 2 none, Cond.methodLink RX5 29 yX1_begin, Cond.instanceMethod yX1_begin, Cond.selects RX1 yX1_begin yX1_begin, Cond.code yX1_begin cX1_begin 3 none, Cond.methodLink RL 17 yX7_open, Cond.instanceMethod yX7_open, Cond.selects RX7 yX7_open yX7_open, Cond.code yX7_open cX7_open 5 (some .boolean), Cond.fieldLink RX7 114 "VoiceDeskModel" "told" "I", Cond.constant RX7 122 (34816), Cond.methodLink RX7 118 yX7_isLine, Cond.instanceMethod yX7_isLine, Cond.selects RX7 yX7_isLine yX7_isLine, Cond.code yX7_isLine cX7_isLine 2 (some .boolean), Cond.methodLink RL 18 yX6_kind]
def wsL_law_r7 : List Cond := [Cond.instanceMethod yX6_kind, Cond.selects RX6 yX6_kind yX6_kind, Cond.code yX6_kind cX6_kind 3 (some .int), Cond.constant RX6 34 (-100000), Cond.methodLink RX6 30 yX6_openLine, Cond.instanceMethod yX6_openLine, Cond.selects RX6 yX6_openLine yX6_openLine, Cond.code yX6_openLine cX6_openLine 3 (some (.object "VoiceDesk$Line")), Cond.methodLink RL 22 yX7_kind, Cond.instanceMethod yX7_kind, Cond.selects RX7 yX7_kind yX7_kind, Cond.code yX7_kind cX7_kind 2 (some .int), Cond.methodLink RL 23 yX6_say, Cond.instanceMethod yX6_say, Cond.selects RX6 yX6_say yX6_say, Cond.code yX6_say cX6_say 4 (some .int), Cond.methodLink RX6 39 yX4_isWide, Cond.methodLink RX6 43 yX6_isSample, Cond.static yX6_isSample, Cond.code yX6_isSample cX6_isSample 1 (some .boolean), Cond.methodLink RX6 47 yX4_encode, Cond.instanceMethod yX4_encode, Cond.selects RX4 yX4_encode yX4_encode, Cond.code yX4_encode cX4_encode 3 (some .int)]
def wsL_law_r8 : List Cond := [Cond.methodLink RX4 53 yX5_encode, Cond.instanceMethod yX5_encode, Cond.selects RX5 yX5_encode yX5_encode, Cond.code yX5_encode cX5_encode 7 (some .int), Cond.methodLink RX5 38 yX5_push, Cond.instanceMethod yX5_push, Cond.selects RX5 yX5_push yX5_push, Cond.code yX5_push cX5_push 4 none, Cond.methodLink RX5 42 yX5_evenSum, Cond.instanceMethod yX5_evenSum, Cond.selects RX5 yX5_evenSum yX5_evenSum, Cond.code yX5_evenSum cX5_evenSum 3 (some .int), Cond.fieldLink RX5 74 "VoiceDesk$Wideband" "COEFFICIENTS" "[I", Cond.methodLink RX5 46 yX5_oddSum, Cond.instanceMethod yX5_oddSum, Cond.selects RX5 yX5_oddSum yX5_oddSum, Cond.code yX5_oddSum cX5_oddSum 3 (some .int), Cond.methodLink RX5 49 yX1_error, Cond.instanceMethod yX1_error, Cond.selects RX1 yX1_error yX1_error, Cond.code yX1_error cX1_error 2 (some .int), Cond.static yX6_limited, Cond.code yX6_limited cX6_limited 1 (some .int), Cond.methodLink RX5 52 yX5_lowCode]
def wsL_law_r9 : List Cond := [Cond.instanceMethod yX5_lowCode, Cond.selects RX5 yX5_lowCode yX5_lowCode, Cond.code yX5_lowCode cX5_lowCode 4 (some .int), Cond.fieldLink RX5 77 "VoiceDesk$Wideband" "Q" "[I", Cond.methodLink RX5 80 yX1_scaled, Cond.instanceMethod yX1_scaled, Cond.selects RX1 yX1_scaled yX1_scaled, Cond.code yX1_scaled cX1_scaled 2 (some .int), Cond.methodLink RX5 55 yX5_highCode, Cond.instanceMethod yX5_highCode, Cond.selects RX5 yX5_highCode yX5_highCode, Cond.code yX5_highCode cX5_highCode 4 (some .int), Cond.methodLink RX5 58 yX5_settle, Cond.instanceMethod yX5_settle, Cond.selects RX5 yX5_settle yX5_settle, Cond.code yX5_settle cX5_settle 4 none, Cond.fieldLink RX5 89 "VoiceDesk$Wideband" "U" "[I", Cond.fieldLink RX5 92 "VoiceDesk$Wideband" "WL" "[I", Cond.fieldLink RX5 68 "VoiceDesk$Wideband" "V" "[I", Cond.fieldLink RX5 98 "VoiceDesk$Wideband" "WH" "[I", Cond.methodLink RX5 95 yX1_settle, Cond.instanceMethod yX1_settle, Cond.selects RX1 yX1_settle yX1_settle, Cond.code yX1_settle cX1_settle 10 none]
def wsL_law_r10 : List Cond := [Cond.methodLink RX1 20 yX1_difference, Cond.instanceMethod yX1_difference, Cond.selects RX1 yX1_difference yX1_difference, Cond.code yX1_difference cX1_difference 2 (some .int), Cond.methodLink RX1 27 yX1_adaptScale, Cond.instanceMethod yX1_adaptScale, Cond.selects RX1 yX1_adaptScale yX1_adaptScale, Cond.code yX1_adaptScale cX1_adaptScale 7 none, Cond.fieldLink RX1 45 "VoiceDesk$Band" "ROOTS" "[I", Cond.static yX6_cut, Cond.code yX6_cut cX6_cut 3 (some .int), Cond.methodLink RX1 31 yX1_adaptPoles, Cond.instanceMethod yX1_adaptPoles, Cond.selects RX1 yX1_adaptPoles yX1_adaptPoles, Cond.code yX1_adaptPoles cX1_adaptPoles 8 none, Cond.methodLink RX1 51 Lib.Math.min.name, Cond.static Lib.Math.min.name, Cond.initialized "java/lang/Math", Cond.code Lib.Math.min.name Lib.Math.min.code 2 (some .int), Cond.static yX6_sign, Cond.code yX6_sign cX6_sign 1 (some .int), Cond.methodLink RX1 35 yX1_adaptZeros, Cond.instanceMethod yX1_adaptZeros, Cond.selects RX1 yX1_adaptZeros yX1_adaptZeros]
def wsL_law_r11 : List Cond := [Cond.code yX1_adaptZeros cX1_adaptZeros 4 none, Cond.methodLink RX1 38 yX1_remember, Cond.instanceMethod yX1_remember, Cond.selects RX1 yX1_remember yX1_remember, Cond.code yX1_remember cX1_remember 5 none, Cond.methodLink RX1 41 yX1_product, Cond.instanceMethod yX1_product, Cond.selects RX1 yX1_product yX1_product, Cond.code yX1_product cX1_product 3 (some .int), Cond.methodLink RX4 57 yX0_encode, Cond.instanceMethod yX0_encode, Cond.selects RX0 yX0_encode yX0_encode, Cond.code yX0_encode cX0_encode 3 (some .int), Cond.methodLink RX0 30 yX0_foresee, Cond.instanceMethod yX0_foresee, Cond.selects RX0 yX0_foresee yX0_foresee, Cond.code yX0_foresee cX0_foresee 3 none, Cond.methodLink RX0 43 yX0_times, Cond.static yX0_times, Cond.code yX0_times cX0_times 8 (some .int), Cond.methodLink RX0 54 Lib.Math.abs.name, Cond.static Lib.Math.abs.name, Cond.code Lib.Math.abs.name Lib.Math.abs.code 1 (some .int), Cond.methodLink RX0 59 yX0_size]
def wsL_law_r12 : List Cond := [Cond.static yX0_size, Cond.code yX0_size cX0_size 2 (some .int), Cond.methodLink RX0 122 yX0_shifted, Cond.static yX0_shifted, Cond.code yX0_shifted cX0_shifted 2 (some .int), Cond.static yX6_wrapped, Cond.code yX6_wrapped cX6_wrapped 1 (some .int), Cond.methodLink RX0 50 yX0_stepNow, Cond.instanceMethod yX0_stepNow, Cond.selects RX0 yX0_stepNow yX0_stepNow, Cond.code yX0_stepNow cX0_stepNow 4 (some .int), Cond.methodLink RX0 33 yX0_codeOf, Cond.instanceMethod yX0_codeOf, Cond.selects RX0 yX0_codeOf yX0_codeOf, Cond.code yX0_codeOf cX0_codeOf 8 (some .int), Cond.fieldLink RX0 62 "VoiceDesk$Adpcm" "BOUNDS" "[I", Cond.methodLink RX0 37 yX0_settle, Cond.instanceMethod yX0_settle, Cond.selects RX0 yX0_settle yX0_settle, Cond.code yX0_settle cX0_settle 8 (some .int), Cond.fieldLink RX0 68 "VoiceDesk$Adpcm" "TABLE" "[I", Cond.fieldLink RX0 78 "VoiceDesk$Adpcm" "WEIGHT" "[I", Cond.fieldLink RX0 109 "VoiceDesk$Adpcm" "PACE" "[I", Cond.methodLink RX0 65 yX0_tablePlace]
def wsL_law_r13 : List Cond := [Cond.instanceMethod yX0_tablePlace, Cond.selects RX0 yX0_tablePlace yX0_tablePlace, Cond.code yX0_tablePlace cX0_tablePlace 5 (some .int), Cond.methodLink RX0 71 yX0_amount, Cond.static yX0_amount, Cond.code yX0_amount cX0_amount 1 (some .int), Cond.methodLink RX0 74 yX0_isTransition, Cond.instanceMethod yX0_isTransition, Cond.selects RX0 yX0_isTransition yX0_isTransition, Cond.code yX0_isTransition cX0_isTransition 4 (some .boolean), Cond.methodLink RX0 81 yX0_adaptStep, Cond.instanceMethod yX0_adaptStep, Cond.selects RX0 yX0_adaptStep yX0_adaptStep, Cond.code yX0_adaptStep cX0_adaptStep 2 none, Cond.methodLink RX0 85 yX0_forgetFilters, Cond.instanceMethod yX0_forgetFilters, Cond.selects RX0 yX0_forgetFilters yX0_forgetFilters, Cond.code yX0_forgetFilters cX0_forgetFilters 2 none, Cond.methodLink RX0 88 yX0_adaptA2, Cond.instanceMethod yX0_adaptA2, Cond.selects RX0 yX0_adaptA2 yX0_adaptA2, Cond.code yX0_adaptA2 cX0_adaptA2 5 none, Cond.methodLink RX0 119 yX0_nudgedA2, Cond.static yX0_nudgedA2]
def wsL_law_r14 : List Cond := [Cond.code yX0_nudgedA2 cX0_nudgedA2 2 (some .int), Cond.methodLink RX0 91 yX0_adaptA1, Cond.instanceMethod yX0_adaptA1, Cond.selects RX0 yX0_adaptA1 yX0_adaptA1, Cond.code yX0_adaptA1 cX0_adaptA1 4 none, Cond.methodLink RX0 94 yX0_adaptZeros, Cond.instanceMethod yX0_adaptZeros, Cond.selects RX0 yX0_adaptZeros yX0_adaptZeros, Cond.code yX0_adaptZeros cX0_adaptZeros 6 none, Cond.methodLink RX0 98 yX0_floatOf, Cond.static yX0_floatOf, Cond.code yX0_floatOf cX0_floatOf 4 (some .int), Cond.constant RX0 125 (32768), Cond.methodLink RX0 105 yX0_remember, Cond.instanceMethod yX0_remember, Cond.selects RX0 yX0_remember yX0_remember, Cond.code yX0_remember cX0_remember 5 none, Cond.methodLink RX0 112 yX0_adaptPace, Cond.instanceMethod yX0_adaptPace, Cond.selects RX0 yX0_adaptPace yX0_adaptPace, Cond.code yX0_adaptPace cX0_adaptPace 4 none, Cond.methodLink RX4 60 yX3_muCode, Cond.static yX3_muCode, Cond.initialized RX3]
def wsL_law_r15 : List Cond := [Cond.code yX3_muCode cX3_muCode 5 (some .int), Cond.methodLink RX3 9 Lib.Math.abs.name, Cond.methodLink RX3 17 Lib.Math.min.name, Cond.methodLink RX3 21 yX3_segment, Cond.static yX3_segment, Cond.code yX3_segment cX3_segment 3 (some .int), Cond.methodLink RX4 65 yX3_aCode, Cond.static yX3_aCode, Cond.code yX3_aCode cX3_aCode 5 (some .int), Cond.methodLink RX3 24 Lib.Math.max.name, Cond.static Lib.Math.max.name, Cond.code Lib.Math.max.name Lib.Math.max.code 2 (some .int), Cond.methodLink RL 27 yX7_say, Cond.instanceMethod yX7_say, Cond.selects RX7 yX7_say yX7_say, Cond.code yX7_say cX7_say 3 (some .int), Cond.methodLink RX7 229 yX7_isOpen, Cond.instanceMethod yX7_isOpen, Cond.selects RX7 yX7_isOpen yX7_isOpen, Cond.code yX7_isOpen cX7_isOpen 2 (some .boolean), Cond.methodLink RX7 232 yX7_isPaired, Cond.instanceMethod yX7_isPaired, Cond.selects RX7 yX7_isPaired yX7_isPaired, Cond.code yX7_isPaired cX7_isPaired 2 (some .boolean)]
def wsL_law_r16 : List Cond := [Cond.methodLink RX7 235 yX7_isSample, Cond.instanceMethod yX7_isSample, Cond.selects RX7 yX7_isSample yX7_isSample, Cond.code yX7_isSample cX7_isSample 2 (some .boolean), Cond.methodLink RX7 238 yX7_says, Cond.instanceMethod yX7_says, Cond.selects RX7 yX7_says yX7_says, Cond.code yX7_says cX7_says 3 (some .int), Cond.methodLink RX7 208 yX7_muSays, Cond.instanceMethod yX7_muSays, Cond.selects RX7 yX7_muSays yX7_muSays, Cond.code yX7_muSays cX7_muSays 5 (some .int), Cond.methodLink RX7 123 yX7_sign, Cond.instanceMethod yX7_sign, Cond.selects RX7 yX7_sign yX7_sign, Cond.code yX7_sign cX7_sign 2 (some .int), Cond.methodLink RX7 127 yX7_amount, Cond.instanceMethod yX7_amount, Cond.selects RX7 yX7_amount yX7_amount, Cond.code yX7_amount cX7_amount 2 (some .int), Cond.methodLink RX7 211 yX7_aSays, Cond.instanceMethod yX7_aSays, Cond.selects RX7 yX7_aSays yX7_aSays, Cond.code yX7_aSays cX7_aSays 5 (some .int)]
def wsL_law_r17 : List Cond := [Cond.methodLink RX7 214 yX7_says726, Cond.instanceMethod yX7_says726, Cond.selects RX7 yX7_says726 yX7_says726, Cond.code yX7_says726 cX7_says726 11 (some .int), Cond.fieldLink RX7 146 "VoiceDeskModel" "sumE" "I", Cond.fieldLink RX7 149 "VoiceDeskModel" "stepY" "I", Cond.methodLink RX7 152 yX7_forehand, Cond.instanceMethod yX7_forehand, Cond.selects RX7 yX7_forehand yX7_forehand, Cond.code yX7_forehand cX7_forehand 7 none, Cond.fieldLink RX7 143 "VoiceDeskModel" "sumZ" "I", Cond.methodLink RX7 137 yX7_times, Cond.instanceMethod yX7_times, Cond.selects RX7 yX7_times yX7_times, Cond.code yX7_times cX7_times 9 (some .int), Cond.methodLink RX7 134 yX7_size, Cond.instanceMethod yX7_size, Cond.selects RX7 yX7_size yX7_size, Cond.code yX7_size cX7_size 3 (some .int), Cond.methodLink RX7 140 yX7_wrapped, Cond.instanceMethod yX7_wrapped, Cond.selects RX7 yX7_wrapped yX7_wrapped, Cond.code yX7_wrapped cX7_wrapped 2 (some .int), Cond.methodLink RX7 156 yX7_bound]
def wsL_law_r18 : List Cond := [Cond.instanceMethod yX7_bound, Cond.selects RX7 yX7_bound yX7_bound, Cond.code yX7_bound cX7_bound 3 (some .int), Cond.methodLink RX7 159 yX7_comes, Cond.instanceMethod yX7_comes, Cond.selects RX7 yX7_comes yX7_comes, Cond.code yX7_comes cX7_comes 16 (some .int), Cond.methodLink RX7 163 yX7_table, Cond.instanceMethod yX7_table, Cond.selects RX7 yX7_table yX7_table, Cond.code yX7_table cX7_table 4 (some .int), Cond.methodLink RX7 130 yX7_half, Cond.instanceMethod yX7_half, Cond.selects RX7 yX7_half yX7_half, Cond.code yX7_half cX7_half 3 (some .int), Cond.methodLink RX7 166 yX7_weight, Cond.instanceMethod yX7_weight, Cond.selects RX7 yX7_weight yX7_weight, Cond.code yX7_weight cX7_weight 4 (some .int), Cond.methodLink RX7 169 yX7_cut, Cond.instanceMethod yX7_cut, Cond.selects RX7 yX7_cut yX7_cut, Cond.code yX7_cut cX7_cut 4 (some .int), Cond.methodLink RX7 172 yX7_adapts]
def wsL_law_r19 : List Cond := [Cond.instanceMethod yX7_adapts, Cond.selects RX7 yX7_adapts yX7_adapts, Cond.code yX7_adapts cX7_adapts 10 (some .int), Cond.methodLink RX7 175 yX7_floated, Cond.instanceMethod yX7_floated, Cond.selects RX7 yX7_floated yX7_floated, Cond.code yX7_floated cX7_floated 5 (some .int), Cond.methodLink RX7 179 yX7_pace, Cond.instanceMethod yX7_pace, Cond.selects RX7 yX7_pace yX7_pace, Cond.code yX7_pace cX7_pace 4 (some .int), Cond.methodLink RX7 182 yX7_limited, Cond.instanceMethod yX7_limited, Cond.selects RX7 yX7_limited yX7_limited, Cond.code yX7_limited cX7_limited 2 (some .int), Cond.methodLink RL 28 yX6_pair, Cond.instanceMethod yX6_pair, Cond.selects RX6 yX6_pair yX6_pair, Cond.code yX6_pair cX6_pair 5 (some .int), Cond.methodLink RL 32 yX7_pair, Cond.instanceMethod yX7_pair, Cond.selects RX7 yX7_pair yX7_pair, Cond.code yX7_pair cX7_pair 4 (some .int), Cond.methodLink RX7 241 yX7_says722]
def wsL_law_r20 : List Cond := [Cond.instanceMethod yX7_says722, Cond.selects RX7 yX7_says722 yX7_says722, Cond.code yX7_says722 cX7_says722 13 (some .int), Cond.fieldLink RX7 188 "VoiceDeskModel" "even" "I", Cond.fieldLink RX7 185 "VoiceDeskModel" "odd" "I", Cond.methodLink RX7 191 yX7_sieves, Cond.instanceMethod yX7_sieves, Cond.selects RX7 yX7_sieves yX7_sieves, Cond.code yX7_sieves cX7_sieves 6 none, Cond.methodLink RX7 195 yX7_both, Cond.instanceMethod yX7_both, Cond.selects RX7 yX7_both yX7_both, Cond.code yX7_both cX7_both 8 none, Cond.methodLink RX7 198 yX7_root, Cond.instanceMethod yX7_root, Cond.selects RX7 yX7_root yX7_root, Cond.code yX7_root cX7_root 5 (some .int), Cond.methodLink RX7 201 yX7_goesOn, Cond.instanceMethod yX7_goesOn, Cond.selects RX7 yX7_goesOn yX7_goesOn, Cond.code yX7_goesOn cX7_goesOn 14 none, Cond.methodLink RL 33 yX6_hear, Cond.instanceMethod yX6_hear, Cond.selects RX6 yX6_hear yX6_hear]
def wsL_law_r21 : List Cond := [Cond.code yX6_hear cX6_hear 4 (some .int), Cond.methodLink RX6 51 yX4_hasCode, Cond.instanceMethod yX4_hasCode, Cond.selects RX4 yX4_hasCode yX4_hasCode, Cond.code yX4_hasCode cX4_hasCode 2 (some .boolean), Cond.methodLink RX4 49 yX4_codeBits, Cond.instanceMethod yX4_codeBits, Cond.selects RX4 yX4_codeBits yX4_codeBits, Cond.code yX4_codeBits cX4_codeBits 1 (some .int), Cond.methodLink RX6 54 yX4_decode, Cond.instanceMethod yX4_decode, Cond.selects RX4 yX4_decode yX4_decode, Cond.code yX4_decode cX4_decode 2 (some .int), Cond.methodLink RX4 68 yX5_decode, Cond.instanceMethod yX5_decode, Cond.selects RX5 yX5_decode yX5_decode, Cond.code yX5_decode cX5_decode 7 (some .int), Cond.methodLink RX5 61 yX5_lowFactor, Cond.static yX5_lowFactor, Cond.code yX5_lowFactor cX5_lowFactor 2 (some .int), Cond.fieldLink RX5 83 "VoiceDesk$Wideband" "X_64" "[I", Cond.fieldLink RX5 86 "VoiceDesk$Wideband" "X_56" "[I", Cond.methodLink RX5 65 yX1_heard, Cond.instanceMethod yX1_heard]
def wsL_law_r22 : List Cond := [Cond.selects RX1 yX1_heard yX1_heard, Cond.code yX1_heard cX1_heard 2 (some .int), Cond.methodLink RX4 71 yX0_decode, Cond.instanceMethod yX0_decode, Cond.selects RX0 yX0_decode yX0_decode, Cond.code yX0_decode cX0_decode 2 (some .int), Cond.methodLink RX4 73 yX3_muSample, Cond.static yX3_muSample, Cond.code yX3_muSample cX3_muSample 3 (some .int), Cond.methodLink RX4 76 yX3_aSample, Cond.static yX3_aSample, Cond.code yX3_aSample cX3_aSample 4 (some .int), Cond.methodLink RL 36 yX7_hear, Cond.instanceMethod yX7_hear, Cond.selects RX7 yX7_hear yX7_hear, Cond.code yX7_hear cX7_hear 3 (some .int), Cond.methodLink RX7 247 yX7_isCode, Cond.instanceMethod yX7_isCode, Cond.selects RX7 yX7_isCode yX7_isCode, Cond.code yX7_isCode cX7_isCode 3 (some .boolean), Cond.methodLink RX7 244 yX7_bitsOf, Cond.instanceMethod yX7_bitsOf, Cond.selects RX7 yX7_bitsOf yX7_bitsOf, Cond.code yX7_bitsOf cX7_bitsOf 2 (some .int)]
def wsL_law_r23 : List Cond := [Cond.methodLink RX7 251 yX7_hears, Cond.instanceMethod yX7_hears, Cond.selects RX7 yX7_hears yX7_hears, Cond.code yX7_hears cX7_hears 3 (some .int), Cond.methodLink RX7 217 yX7_muHears, Cond.instanceMethod yX7_muHears, Cond.selects RX7 yX7_muHears yX7_muHears, Cond.code yX7_muHears cX7_muHears 4 (some .int), Cond.methodLink RX7 220 yX7_aHears, Cond.instanceMethod yX7_aHears, Cond.selects RX7 yX7_aHears yX7_aHears, Cond.code yX7_aHears cX7_aHears 5 (some .int), Cond.methodLink RX7 223 yX7_hears726, Cond.instanceMethod yX7_hears726, Cond.selects RX7 yX7_hears726 yX7_hears726, Cond.code yX7_hears726 cX7_hears726 4 (some .int), Cond.methodLink RX7 226 yX7_hears722, Cond.instanceMethod yX7_hears722, Cond.selects RX7 yX7_hears722 yX7_hears722, Cond.code yX7_hears722 cX7_hears722 9 (some .int), Cond.methodLink RX7 205 yX7_heardBy, Cond.instanceMethod yX7_heardBy, Cond.selects RX7 yX7_heardBy yX7_heardBy, Cond.code yX7_heardBy cX7_heardBy 4 (some .int)]
def wsL_law_r24 : List Cond := [Cond.methodLink RL 37 yX6_second, Cond.instanceMethod yX6_second, Cond.selects RX6 yX6_second yX6_second, Cond.code yX6_second cX6_second 3 (some .int), Cond.methodLink RX6 58 yX4_secondHeard, Cond.instanceMethod yX4_secondHeard, Cond.selects RX4 yX4_secondHeard yX4_secondHeard, Cond.code yX4_secondHeard cX4_secondHeard 1 (some .int), Cond.methodLink RL 40 yX7_second, Cond.instanceMethod yX7_second, Cond.selects RX7 yX7_second yX7_second, Cond.code yX7_second cX7_second 2 (some .int), Cond.methodLink RL 41 yX6_inner, Cond.instanceMethod yX6_inner, Cond.selects RX6 yX6_inner yX6_inner, Cond.code yX6_inner cX6_inner 5 (some .int), Cond.methodLink RX6 62 yX4_number, Cond.instanceMethod yX4_number, Cond.selects RX4 yX4_number yX4_number, Cond.code yX4_number cX4_number 3 (some .int), Cond.methodLink RX4 82 yX5_number, Cond.instanceMethod yX5_number, Cond.selects RX5 yX5_number yX5_number, Cond.code yX5_number cX5_number 2 (some .int)]
def wsL_law_r25 : List Cond := [Cond.constant RX5 37 (-100000), Cond.methodLink RX5 33 yX1_number, Cond.instanceMethod yX1_number, Cond.selects RX1 yX1_number yX1_number, Cond.code yX1_number cX1_number 2 (some .int), Cond.constant RX1 15 (-100000), Cond.methodLink RX4 85 yX0_number, Cond.instanceMethod yX0_number, Cond.selects RX0 yX0_number yX0_number, Cond.code yX0_number cX0_number 2 (some .int), Cond.constant RX0 29 (-100000), Cond.methodLink RL 44 yX7_inner, Cond.instanceMethod yX7_inner, Cond.selects RX7 yX7_inner yX7_inner, Cond.code yX7_inner cX7_inner 5 (some .int), Cond.methodLink RL 45 yX6_feed, Cond.instanceMethod yX6_feed, Cond.selects RX6 yX6_feed yX6_feed, Cond.code yX6_feed cX6_feed 6 (some .int), Cond.methodLink RX6 69 yX2_addInt, Cond.instanceMethod yX2_addInt, Cond.selects RX2 yX2_addInt yX2_addInt, Cond.code yX2_addInt cX2_addInt 2 none, Cond.methodLink RX2 20 yX2_add]
def wsL_law_r26 : List Cond := [Cond.instanceMethod yX2_add, Cond.selects RX2 yX2_add yX2_add, Cond.code yX2_add cX2_add 2 none, Cond.methodLink RL 49 yX7_feed, Cond.instanceMethod yX7_feed, Cond.selects RX7 yX7_feed yX7_feed, Cond.code yX7_feed cX7_feed 6 (some .int), Cond.fieldLink RX7 254 "VoiceDeskModel" "taped" "I", Cond.methodLink RX7 257 yX7_puts, Cond.instanceMethod yX7_puts, Cond.selects RX7 yX7_puts yX7_puts, Cond.code yX7_puts cX7_puts 3 none, Cond.methodLink RL 50 yX6_end, Cond.instanceMethod yX6_end, Cond.selects RX6 yX6_end yX6_end, Cond.code yX6_end cX6_end 2 (some .int), Cond.methodLink RL 53 yX7_end, Cond.instanceMethod yX7_end, Cond.selects RX7 yX7_end yX7_end, Cond.code yX7_end cX7_end 2 (some .int), Cond.methodLink RL 54 yX6_take, Cond.instanceMethod yX6_take, Cond.selects RX6 yX6_take yX6_take, Cond.code yX6_take cX6_take 1 (some .int)]
def wsL_law_r27 : List Cond := [Cond.methodLink RX6 72 yX2_copyFrom, Cond.instanceMethod yX2_copyFrom, Cond.selects RX2 yX2_copyFrom yX2_copyFrom, Cond.code yX2_copyFrom cX2_copyFrom 3 none, Cond.methodLink RL 58 yX7_take, Cond.instanceMethod yX7_take, Cond.selects RX7 yX7_take yX7_take, Cond.code yX7_take cX7_take 2 (some .int), Cond.fieldLink RX7 260 "VoiceDeskModel" "outs" "I", Cond.methodLink RL 59 yX6_out, Cond.instanceMethod yX6_out, Cond.selects RX6 yX6_out yX6_out, Cond.code yX6_out cX6_out 2 (some .int), Cond.methodLink RX6 76 yX2_byteAt, Cond.instanceMethod yX2_byteAt, Cond.selects RX2 yX2_byteAt yX2_byteAt, Cond.code yX2_byteAt cX2_byteAt 2 (some .int), Cond.constant RX2 19 (-100000), Cond.methodLink RL 62 yX7_out, Cond.instanceMethod yX7_out, Cond.selects RX7 yX7_out yX7_out, Cond.code yX7_out cX7_out 2 (some .int), Cond.methodLink RL 63 yX6_pack, Cond.instanceMethod yX6_pack]
def wsL_law_r28 : List Cond := [Cond.selects RX6 yX6_pack yX6_pack, Cond.code yX6_pack cX6_pack 11 (some .int), Cond.methodLink RX6 79 yX4_codeBits, Cond.methodLink RX6 82 yX2_clearFor, Cond.instanceMethod yX2_clearFor, Cond.selects RX2 yX2_clearFor yX2_clearFor, Cond.code yX2_clearFor cX2_clearFor 3 none, Cond.methodLink RX2 34 Lib.Math.min.name, Cond.methodLink RX2 31 yX2_needed, Cond.static yX2_needed, Cond.code yX2_needed cX2_needed 1 (some .int), Cond.methodLink RX6 85 yX2_sampleAt, Cond.instanceMethod yX2_sampleAt, Cond.selects RX2 yX2_sampleAt yX2_sampleAt, Cond.code yX2_sampleAt cX2_sampleAt 2 (some .int), Cond.methodLink RX2 24 yX2_byteAt, Cond.methodLink RX6 88 yX2_putCode, Cond.instanceMethod yX2_putCode, Cond.selects RX2 yX2_putCode yX2_putCode, Cond.code yX2_putCode cX2_putCode 9 none, Cond.methodLink RX2 40 yX2_codeBit, Cond.static yX2_codeBit, Cond.code yX2_codeBit cX2_codeBit 3 (some .int), Cond.methodLink RX2 44 yX2_byteBit]
def wsL_law_r29 : List Cond := [Cond.static yX2_byteBit, Cond.code yX2_byteBit cX2_byteBit 2 (some .int), Cond.methodLink RL 67 yX7_pack, Cond.instanceMethod yX7_pack, Cond.selects RX7 yX7_pack yX7_pack, Cond.code yX7_pack cX7_pack 9 (some .int), Cond.methodLink RX7 263 yX7_sampleAt, Cond.instanceMethod yX7_sampleAt, Cond.selects RX7 yX7_sampleAt yX7_sampleAt, Cond.code yX7_sampleAt cX7_sampleAt 2 (some .int), Cond.methodLink RX7 266 yX7_bit, Cond.instanceMethod yX7_bit, Cond.selects RX7 yX7_bit yX7_bit, Cond.code yX7_bit cX7_bit 4 none, Cond.methodLink RL 68 yX6_unpack, Cond.instanceMethod yX6_unpack, Cond.selects RX6 yX6_unpack yX6_unpack, Cond.code yX6_unpack cX6_unpack 7 (some .int), Cond.methodLink RX6 92 yX2_needed, Cond.methodLink RX6 95 yX2_codeAt, Cond.instanceMethod yX2_codeAt, Cond.selects RX2 yX2_codeAt yX2_codeAt, Cond.code yX2_codeAt cX2_codeAt 8 (some .int), Cond.methodLink RX6 99 yX2_addSample]
def wsL_law_r30 : List Cond := [Cond.instanceMethod yX2_addSample, Cond.selects RX2 yX2_addSample yX2_addSample, Cond.code yX2_addSample cX2_addSample 2 none, Cond.methodLink RL 72 yX7_unpack, Cond.instanceMethod yX7_unpack, Cond.selects RX7 yX7_unpack yX7_unpack, Cond.code yX7_unpack cX7_unpack 10 (some .int), Cond.methodLink RX7 270 yX7_sample, Cond.instanceMethod yX7_sample, Cond.selects RX7 yX7_sample yX7_sample, Cond.code yX7_sample cX7_sample 2 none, Cond.methodLink RL 73 yX6_pass, Cond.instanceMethod yX6_pass, Cond.selects RX6 yX6_pass yX6_pass, Cond.code yX6_pass cX6_pass 7 (some .int), Cond.methodLink RL 76 yX7_pass, Cond.instanceMethod yX7_pass, Cond.selects RX7 yX7_pass yX7_pass, Cond.code yX7_pass cX7_pass 5 (some .int), Cond.methodLink RL 77 yX6_law, Cond.instanceMethod yX6_law, Cond.selects RX6 yX6_law yX6_law, Cond.code yX6_law cX6_law 4 (some .int), Cond.methodLink RX6 102 yX3_muEdge]
def wsL_law_r31 : List Cond := [Cond.static yX3_muEdge, Cond.code yX3_muEdge cX3_muEdge 8 (some .int), Cond.constant RX3 27 (-100000), Cond.methodLink RX6 108 yX3_aEdge, Cond.static yX3_aEdge, Cond.code yX3_aEdge cX3_aEdge 8 (some .int), Cond.methodLink RX6 111 yX3_muSample, Cond.methodLink RX6 114 yX3_muCode, Cond.methodLink RX6 117 yX3_aSample, Cond.methodLink RX6 120 yX3_aCode, Cond.methodLink RL 80 yX7_law, Cond.instanceMethod yX7_law, Cond.selects RX7 yX7_law yX7_law, Cond.code yX7_law cX7_law 4 (some .int), Cond.methodLink RX7 277 yX7_finds, Cond.instanceMethod yX7_finds, Cond.selects RX7 yX7_finds yX7_finds, Cond.code yX7_finds cX7_finds 3 none, Cond.fieldLink RX7 273 "VoiceDeskModel" "isFound" "Z"]
def wsL_law : List Cond := (wsL_law_r1 ++ (wsL_law_r2 ++ (wsL_law_r3 ++ (wsL_law_r4 ++ (wsL_law_r5 ++ (wsL_law_r6 ++ (wsL_law_r7 ++ (wsL_law_r8 ++ (wsL_law_r9 ++ (wsL_law_r10 ++ (wsL_law_r11 ++ (wsL_law_r12 ++ (wsL_law_r13 ++ (wsL_law_r14 ++ (wsL_law_r15 ++ (wsL_law_r16 ++ (wsL_law_r17 ++ (wsL_law_r18 ++ (wsL_law_r19 ++ (wsL_law_r20 ++ (wsL_law_r21 ++ (wsL_law_r22 ++ (wsL_law_r23 ++ (wsL_law_r24 ++ (wsL_law_r25 ++ (wsL_law_r26 ++ (wsL_law_r27 ++ (wsL_law_r28 ++ (wsL_law_r29 ++ (wsL_law_r30 ++ wsL_law_r31)))))))))))))))))))))))))))))) ++ wsX60 ++ wsX70 ++ wsX40 ++ wsX20 ++ wsX00 ++ wsX50 ++ wsX10 ++ ([] : List Cond)
theorem inlX0 : ∀ w ∈ wsX00, w ∈ wsL_law := fun _ h => List.mem_append_left _ (List.mem_append_left _ (List.mem_append_left _ (List.mem_append_right _ h)))
theorem inlX1 : ∀ w ∈ wsX10, w ∈ wsL_law := fun _ h => List.mem_append_left _ (List.mem_append_right _ h)
theorem inlX2 : ∀ w ∈ wsX20, w ∈ wsL_law := fun _ h => List.mem_append_left _ (List.mem_append_left _ (List.mem_append_left _ (List.mem_append_left _ (List.mem_append_right _ h))))
theorem inlX4 : ∀ w ∈ wsX40, w ∈ wsL_law := fun _ h => List.mem_append_left _ (List.mem_append_left _ (List.mem_append_left _ (List.mem_append_left _ (List.mem_append_left _ (List.mem_append_right _ h)))))
theorem inlX5 : ∀ w ∈ wsX50, w ∈ wsL_law := fun _ h => List.mem_append_left _ (List.mem_append_left _ (List.mem_append_right _ h))
theorem inlX6 : ∀ w ∈ wsX60, w ∈ wsL_law := fun _ h => List.mem_append_left _ (List.mem_append_left _ (List.mem_append_left _ (List.mem_append_left _ (List.mem_append_left _ (List.mem_append_left _ (List.mem_append_left _ (List.mem_append_right _ h)))))))
theorem inlX7 : ∀ w ∈ wsX70, w ∈ wsL_law := fun _ h => List.mem_append_left _ (List.mem_append_left _ (List.mem_append_left _ (List.mem_append_left _ (List.mem_append_left _ (List.mem_append_left _ (List.mem_append_right _ h))))))
abbrev vwCl : List vw_C := [(RX0, TX0, 5), (RX1, TX1, 1), (RX2, TX2, 2), (RX4, TX4, 5), (RX5, TX5, 4), (RX6, TX6, 3), (RX7, TX7, 43)]
end
section
/-! pure programs: names, reads, writes, branches, calls; a program that answers 'none' has left its rows or run out of fuel -/
def pq_nm {α β : Type} (e : α) (k : α → Option β) : Option β := k e
theorem pq_nmx {α β : Type} {e : α} {k : α → Option β} {r : β} (h : pq_nm e k = some r) (x : α) (hx : x = e) : k x = some r := by rw [hx]; exact h
def pq_rd {β : Type} (n : Nat) (f : Nat → Int32) (i : Int32) (k : Int32 → Option β) : Option β := if i < 0 ∨ n ≤ i.toNatClampNeg then none else k (f i.toNatClampNeg)
theorem pq_rdx {β : Type} {n : Nat} {f : Nat → Int32} {i : Int32} {k : Int32 → Option β} {r : β} (h : pq_rd n f i k = some r) : vp_in i n ∧ ∀ x, x = f i.toNatClampNeg → k x = some r := by
  unfold pq_rd at h
  by_cases hc : i < 0 ∨ n ≤ i.toNatClampNeg
  · rw [if_pos hc] at h; cases h
  · rw [if_neg hc] at h; exact ⟨hc, fun x hx => by rw [hx]; exact h⟩
def pq_wr {β : Type} (n : Nat) (f : Nat → Int32) (i v : Int32) (k : (Nat → Int32) → Option β) : Option β := if i < 0 ∨ n ≤ i.toNatClampNeg then none else k (upd f i.toNatClampNeg v)
theorem pq_wrx {β : Type} {n : Nat} {f : Nat → Int32} {i v : Int32} {k : (Nat → Int32) → Option β} {r : β} (h : pq_wr n f i v k = some r) : vp_in i n ∧ ∀ x, x = upd f i.toNatClampNeg v → k x = some r := by
  unfold pq_wr at h
  by_cases hc : i < 0 ∨ n ≤ i.toNatClampNeg
  · rw [if_pos hc] at h; cases h
  · rw [if_neg hc] at h; exact ⟨hc, fun x hx => by rw [hx]; exact h⟩
/-- a row of references is asked at i: only that i lies within -/
def pq_ix {β : Type} (n : Nat) (i : Int32) (k : Option β) : Option β := if i < 0 ∨ n ≤ i.toNatClampNeg then none else k
theorem pq_ixx {β : Type} {n : Nat} {i : Int32} {k : Option β} {r : β} (h : pq_ix n i k = some r) : vp_in i n ∧ k = some r := by
  unfold pq_ix at h
  by_cases hc : i < 0 ∨ n ≤ i.toNatClampNeg
  · rw [if_pos hc] at h; cases h
  · rw [if_neg hc] at h; exact ⟨hc, h⟩
def pq_nz {β : Type} (y : Int32) (k : Option β) : Option β := if y = 0 then none else k
theorem pq_nzx {β : Type} {y : Int32} {k : Option β} {r : β} (h : pq_nz y k = some r) : ¬ y = 0 ∧ k = some r := by
  unfold pq_nz at h
  by_cases hc : y = 0
  · rw [if_pos hc] at h; cases h
  · rw [if_neg hc] at h; exact ⟨hc, h⟩
def pq_br {β : Type} (c : Prop) [Decidable c] (a b : Option β) : Option β := if c then a else b
theorem pq_brt {β : Type} {c : Prop} [Decidable c] {a b : Option β} {r : β} (h : pq_br c a b = some r) (hc : c) : a = some r := by unfold pq_br at h; rw [if_pos hc] at h; exact h
theorem pq_brf {β : Type} {c : Prop} [Decidable c] {a b : Option β} {r : β} (h : pq_br c a b = some r) (hc : ¬ c) : b = some r := by unfold pq_br at h; rw [if_neg hc] at h; exact h
def pq_cl {α β : Type} (o : Option α) (k : α → Option β) : Option β := o.bind k
theorem pq_clx {α β : Type} {o : Option α} {k : α → Option β} {r : β} (h : pq_cl o k = some r) : ∃ v, o = some v ∧ k v = some r := by
  cases o with
  | none => cases h
  | some v => exact ⟨v, rfl, h⟩
end
section
/-! what every method of the class may take as given: nest mates' links, static tables -/
abbrev pq_nestM : List (String × Nat × MethodName × String) := [("VoiceDesk", 15, yX4_init, "VoiceDesk"), ("VoiceDesk$Line", 11, yX0_init, "VoiceDesk"), ("VoiceDesk$Line", 23, yX5_init, "VoiceDesk"), ("VoiceDesk$Wideband", 11, yX1_init, "VoiceDesk"), ("VoiceDesk", 18, yX2_init, "VoiceDesk"), ("VoiceDesk$Band", 16, yX6_limited, "VoiceDesk"), ("VoiceDesk$Band", 23, yX6_cut, "VoiceDesk"), ("VoiceDesk$Band", 48, yX6_sign, "VoiceDesk"), ("VoiceDesk$Adpcm", 47, yX6_wrapped, "VoiceDesk"), ("VoiceDesk$Adpcm", 115, yX6_cut, "VoiceDesk"), ("VoiceDesk$Adpcm", 102, yX6_sign, "VoiceDesk"), ("VoiceDesk$Wideband", 71, yX6_limited, "VoiceDesk"), ("VoiceDesk$Adpcm", 40, yX6_limited, "VoiceDesk"), ("VoiceDesk$Bytes", 28, yX6_wrapped, "VoiceDesk")]
abbrev pq_nestF : List (String × Nat × String × String × String × String) := [("VoiceDesk$Line", 79, "VoiceDesk$Wideband", "secondHeard", "I", "VoiceDesk"), ("VoiceDesk", 35, "VoiceDesk$Line", "kind", "I", "VoiceDesk"), ("VoiceDesk", 66, "VoiceDesk$Bytes", "length", "I", "VoiceDesk")]
def pq_t_COEFFICIENTS : Nat → Int32 := fun j => ([3, -11, 12, 32, -210, 951, 3876, -805, 362, -156, 53, -11] : List Int32).getD j 0
def pq_t_Q : Nat → Int32 := fun j => ([35, 72, 110, 150, 190, 233, 276, 323, 370, 422, 473, 530, 587, 650, 714, 786, 858, 940, 1023, 1121, 1219, 1339, 1458, 1612, 1765, 1980, 2195, 2557, 2919] : List Int32).getD j 0
def pq_t_U : Nat → Int32 := fun j => ([0, -20456, -12896, -8968, -6288, -4240, -2584, -1200, 20456, 12896, 8968, 6288, 4240, 2584, 1200, 0] : List Int32).getD j 0
def pq_t_WL : Nat → Int32 := fun j => ([-60, 3042, 1198, 538, 334, 172, 58, -30, 3042, 1198, 538, 334, 172, 58, -30, -60] : List Int32).getD j 0
def pq_t_ROOTS : Nat → Int32 := fun j => ([2048, 2093, 2139, 2186, 2233, 2282, 2332, 2383, 2435, 2489, 2543, 2599, 2656, 2714, 2774, 2834, 2896, 2960, 3025, 3091, 3158, 3228, 3298, 3371, 3444, 3520, 3597, 3676, 3756, 3838, 3922, 4008] : List Int32).getD j 0
def pq_t_V : Nat → Int32 := fun j => ([-7408, -1616, 7408, 1616] : List Int32).getD j 0
def pq_t_WH : Nat → Int32 := fun j => ([798, -214, 798, -214] : List Int32).getD j 0
def pq_t_BOUNDS : Nat → Int32 := fun j => ([261, 8, 218, 331, -124, 80, 178, 246, 300, 349, 400, -122, -16, 68, 139, 198, 250, 298, 339, 378, 413, 445, 475, 502, 528, 553] : List Int32).getD j 0
def pq_t_TABLE : Nat → Int32 := fun j => ([116, 365, -2048, 135, 273, 373, -2048, 4, 135, 213, 273, 323, 373, 425, -2048, -66, 28, 104, 169, 224, 274, 318, 358, 395, 429, 459, 488, 514, 539, 566] : List Int32).getD j 0
def pq_t_WEIGHT : Nat → Int32 := fun j => ([-704, 14048, -128, 960, 4384, 18624, -384, 576, 1312, 2048, 3584, 6336, 11360, 35904, 448, 448, 768, 1248, 1280, 1312, 1856, 3200, 4512, 5728, 7008, 8960, 11456, 14080, 16928, 22272] : List Int32).getD j 0
def pq_t_PACE : Nat → Int32 := fun j => ([0, 3584, 0, 512, 1024, 3584, 0, 0, 0, 512, 512, 512, 1536, 3584, 0, 0, 0, 0, 0, 512, 512, 512, 512, 512, 1024, 1536, 2048, 2560, 3072, 3072] : List Int32).getD j 0
def pq_t_X_64 : Nat → Int32 := fun j => ([-136, -136, -136, -136, -24808, -21904, -19008, -16704, -14984, -13512, -12280, -11192, -10232, -9360, -8576, -7856, -7192, -6576, -6000, -5456, -4944, -4464, -4008, -3576, -3168, -2776, -2400, -2032, -1688, -1360, -1040, -728, 24808, 21904, 19008, 16704, 14984, 13512, 12280, 11192, 10232, 9360, 8576, 7856, 7192, 6576, 6000, 5456, 4944, 4464, 4008, 3576, 3168, 2776, 2400, 2032, 1688, 1360, 1040, 728, 432, 136, -432, -136] : List Int32).getD j 0
def pq_t_X_56 : Nat → Int32 := fun j => ([-280, -280, -23352, -17560, -14120, -11664, -9752, -8184, -6864, -5712, -4696, -3784, -2960, -2208, -1520, -880, 23352, 17560, 14120, 11664, 9752, 8184, 6864, 5712, 4696, 3784, 2960, 2208, 1520, 880, 280, -280] : List Int32).getD j 0
abbrev pq_oM (ad : Nat → Nat) (c_told : Int32) (c_sumZ : Int32) (c_sumE : Int32) (c_stepY : Int32) (c_odd : Int32) (c_even : Int32) (c_taped : Int32) (c_outs : Int32) (c_isFound : Int32) : List Value := [.int c_told, .ref (ad 1), .ref (ad 2), .ref (ad 3), .ref (ad 4), .ref (ad 5), .ref (ad 6), .ref (ad 7), .ref (ad 8), .ref (ad 9), .ref (ad 10), .ref (ad 11), .ref (ad 12), .ref (ad 13), .ref (ad 14), .ref (ad 15), .ref (ad 16), .ref (ad 17), .ref (ad 18), .ref (ad 19), .int c_sumZ, .int c_sumE, .int c_stepY, .ref (ad 23), .ref (ad 24), .ref (ad 25), .ref (ad 26), .ref (ad 27), .ref (ad 28), .ref (ad 29), .ref (ad 30), .ref (ad 31), .ref (ad 32), .ref (ad 33), .int c_odd, .int c_even, .ref (ad 36), .int c_taped, .ref (ad 38), .int c_outs, .int c_isFound, .ref (ad 41), .ref (ad 42)]
abbrev pq_tabs : List (String × String × Nat × (Nat → Int32)) := [("VoiceDesk$Wideband", "COEFFICIENTS", 12, pq_t_COEFFICIENTS), ("VoiceDesk$Wideband", "Q", 29, pq_t_Q), ("VoiceDesk$Wideband", "U", 16, pq_t_U), ("VoiceDesk$Wideband", "WL", 16, pq_t_WL), ("VoiceDesk$Band", "ROOTS", 32, pq_t_ROOTS), ("VoiceDesk$Wideband", "V", 4, pq_t_V), ("VoiceDesk$Wideband", "WH", 4, pq_t_WH), ("VoiceDesk$Adpcm", "BOUNDS", 26, pq_t_BOUNDS), ("VoiceDesk$Adpcm", "TABLE", 30, pq_t_TABLE), ("VoiceDesk$Adpcm", "WEIGHT", 30, pq_t_WEIGHT), ("VoiceDesk$Adpcm", "PACE", 30, pq_t_PACE), ("VoiceDesk$Wideband", "X_64", 64, pq_t_X_64), ("VoiceDesk$Wideband", "X_56", 32, pq_t_X_56)]
def pq_G (A : Nat → Prop) (U : State) (H : Heap) : Prop :=
  (∀ w ∈ pq_nestM, va_Nw (.methodLinkNest w.1 w.2.1 w.2.2.1 w.2.2.2) U) ∧ (∀ w ∈ pq_nestF, va_Nw (.fieldLinkNest w.1 w.2.1 w.2.2.1 w.2.2.2.1 w.2.2.2.2.1 w.2.2.2.2.2) U) ∧ (∀ q ∈ pq_tabs, ∃ t : Nat, va_Z q.1 q.2.1 "[I" (.ref t) A U H ∧ va_T .int t q.2.2.1 (fun j => .int (q.2.2.2 j)) A U H) ∧ va_AO RX4 U
theorem pq_G.go {A B : Nat → Prop} {s U : State} {locs : List Loc} (h : pq_G A s s.heap) (hW : s.WarmedH U.vm) (hS : va_S A s.heap U.heap locs) (hAB : ∀ q, B q → A q) : pq_G B U U.heap := by
  refine ⟨fun w hw => va_Nw.warmM hW (h.1 w hw), fun w hw => va_Nw.warmF hW (h.2.1 w hw), fun q hq => ?_, va_AO.moved hW.alike h.2.2.2⟩
  obtain ⟨t, h1, h2⟩ := h.2.2.1 q hq
  exact ⟨t, ((va_Z.moved hW.alike h1).kept (fun a h3 h4 => hS.2.1 a h3 h4)).narrow hAB, ((va_T.moved hW.alike h2).kept (fun a h3 h4 => hS.2.1 a h3 h4)).narrow hAB⟩
theorem pq_G.call {A : Nat → Prop} {U : State} {g : JFrame} {mk : MethodId} {a : Array Value} (h : pq_G A U U.heap) : pq_G A (U.calling g mk a) (U.calling g mk a).heap := by
  refine ⟨fun w hw => va_Nw.same rfl (by rfl) (h.1 w hw), fun w hw => va_Nw.same rfl (by rfl) (h.2.1 w hw), fun q hq => ?_, va_AO.moved (u := U) (U := U.calling g mk a) (Vm.Alike.refl U.vm) h.2.2.2⟩
  obtain ⟨t, h1, h2⟩ := h.2.2.1 q hq
  exact ⟨t, va_Z.moved (u := U) (U := U.calling g mk a) (Vm.Alike.refl U.vm) h1, va_T.moved (u := U) (U := U.calling g mk a) (Vm.Alike.refl U.vm) h2⟩
abbrev pq_tys (cI cL : ClassId) : List (ClassId × FieldType) := [(cI, .int), (cL, .object RX4)]
/-- the fixed things of a walk -/
def pq_Cx (p : Program) (c : Code) (m : MethodId) (cc : ByteArray) (nL : Nat) (s : State) (args : Array Value) (Ts : List Cond) (own : String) (D : va_G) (cI cL : ClassId) (A : Nat → Prop) : Prop :=
  p.tables.exec = Jvm.exec ∧ c.code = cc ∧ c.maxLocals = nL ∧ s.vm.findClass own = some m.cls ∧ (∀ w ∈ Ts, w.before args s = true) ∧ va_K D vwCl (pq_tys cI cL) s ∧ pq_G A s s.heap ∧ ∀ q, s.heap.size ≤ q → A q
/-- the heap of a walk: the cells Wd -/
def pq_H (D : va_G) (A : Nat → Prop) (s : State) (Wd : va_W) (H : Heap) (locs : List Loc) : Prop := va_P D vwCl Wd H ∧ va_D A Wd ∧ va_S A s.heap H locs
def pq_Pre (D : va_G) (cI cL : ClassId) (Wd : va_W) (sz : Nat) : State → Prop := fun U => U.heap.size = sz ∧ va_P D vwCl Wd U.heap ∧ va_K D vwCl (pq_tys cI cL) U ∧ va_D (fun _ => True) Wd ∧ pq_G (va_A Wd sz) U U.heap
def pq_Post (D : va_G) (A : Nat → Prop) (Wd : va_W) : Unit → State → Prop := fun _ t => va_P D vwCl Wd t.heap ∧ va_D A Wd
abbrev pq_rm (fr lo : Nat) : Room := { frames := fr, cells := 0, slots := 0, locals := lo }
/-- contracts: a method that makes nothing, on the cells W0, leaves the cells W1; it answers an int r; nothing; a reference or null -/
def pq_CI (l : Launch) (y : MethodName) (ws : List Cond) (fr lo : Nat) (D : va_G) (cI cL : ClassId) (As : List Value) (W0 W1 : va_W) (r : Int32) : Prop :=
  ∀ sz, Met l y ws (pq_rm fr lo) (va_Pc As (pq_Pre D cI cL W0 sz)) (va_Qi (fun (r' : Int32) (_ : Unit) => r' = r) (pq_Post D (va_A W0 sz) W1) (va_A W0 sz)) 0 0 (va_A W0 sz)
def pq_CV (l : Launch) (y : MethodName) (ws : List Cond) (fr lo : Nat) (D : va_G) (cI cL : ClassId) (As : List Value) (W0 W1 : va_W) : Prop :=
  ∀ sz, Met l y ws (pq_rm fr lo) (va_Pc As (pq_Pre D cI cL W0 sz)) (va_Qv (fun (_ : Unit) => True) (pq_Post D (va_A W0 sz) W1) (va_A W0 sz)) 0 0 (va_A W0 sz)
def pq_CQ (l : Launch) (y : MethodName) (ws : List Cond) (fr lo : Nat) (D : va_G) (cI cL : ClassId) (As : List Value) (W0 W1 : va_W) (r : Option Nat) : Prop :=
  ∀ sz, Met l y ws (pq_rm fr lo) (va_Pc As (pq_Pre D cI cL W0 sz)) (va_Qq (fun (r' : Option Nat) (_ : Unit) => r' = r) (pq_Post D (va_A W0 sz) W1) (va_A W0 sz)) 0 0 (va_A W0 sz)
theorem pq_blind {D : va_G} {cI cL : ClassId} {Wd : va_W} {sz : Nat} {As : List Value} : FrameBlind (va_Pc As (pq_Pre D cI cL Wd sz)) := by
  intro a U g mk q
  obtain ⟨q0, q1, qP, qK, qD, qG⟩ := q
  exact ⟨q0, q1, qP, va_K.moved (u := U) (U := U.calling g mk a) (Vm.Alike.refl U.vm) qK, qD, qG.call⟩
section PQM
variable {p : Program} {l : Launch} {e : Env} {R : Room} {s : State} {m : MethodId} {args : Array Value} {below : List Frame} {meth : Method} {c : Code} {H : Heap} {locs : List Loc} {cells slots : Nat} {Q : State → Prop}
variable {cc : ByteArray} {pc : Nat} {ls : Array Slot} {rest : List Value} {D : va_G} {A : Nat → Prop} {a nL : Nat} {Wd : va_W} {Ts : List Cond} {own : String} {cI cL : ClassId}
set_option maxHeartbeats 1000000 in
theorem pq_mkI {y : MethodName} {ws ws' : List Cond} {maxL fr lo : Nat} {RT : FieldType} {As : List Value} {W0 W1 : va_W} {r : Int32} (hy : plainName y.cls = true) (hw : ws = Cond.code y cc maxL (some RT) :: ws') (hlen : (lg_sl As).length ≤ maxL)
    (body : ∀ (p : Program) (e : Env) (s : State) (m : MethodId) (args : Array Value) (below : List Frame) (meth : Method) (c : Code) (Q : State → Prop) (A : Nat → Prop), pq_Cx p c m cc maxL s args ws y.cls D cI cL A → pq_H D A s W0 s.heap [] →
      (∀ (H : Heap) (locs : List Loc) (pc : Nat) (ls : Array Slot), pq_H D A s W1 H locs → decode cc pc = .ok (.ireturn, 1) → narrow RT (.int r) = .int r → W p l e (pq_rm fr lo) s m args below meth c H locs 0 0 Q (F0 m pc ls [.int r])) →
      ∀ ls : Array Slot, lv_has ls maxL (lv_args 0 As) → W p l e (pq_rm fr lo) s m args below meth c s.heap [] 0 0 Q (F0 m 0 ls [])) : pq_CI l y ws fr lo D cI cL As W0 W1 r := by
  intro sz
  refine Met.ofW (cc := cc) (maxL := maxL) (ret := some RT) hy hw ?_
  intro p e s m args below meth c s₁ B hml hv
  obtain ⟨rfl, hsz, hP, hK, hD0, hG⟩ := hv
  have hx := B.exec
  have hb := B.bytes
  have hr := B.returns
  have hts := atoms_spec (ws := ws) B.pre
  have hown : s.vm.findClass y.cls = some m.cls := findClass_of_methodNamed B.named
  have hlocks := B.notSynchronized
  subst hsz
  have hD := hD0.self (sz := s.heap.size)
  generalize hAe : va_A W0 s.heap.size = A at hD hG ⊢
  have hA : ∀ q : Nat, s.heap.size ≤ q → A q := fun q h => by rw [← hAe]; exact Or.inr h
  have hl := lv_entry As (n := maxL) hlen
  rw [lg_entry_eq]
  generalize (lg_sl As ++ List.replicate (maxL - (lg_sl As).length) Slot.unset).toArray = ls at hl ⊢
  exact body p e s m _ below meth c _ A ⟨hx, hb, hml, hown, hts, hK, hG, hA⟩ ⟨hP, hD, va_S.rf⟩ (fun H locs pc ls hh hd hn => W.zret (v := r) hx hb hr hn (fun t ht hW => ⟨⟨r, (), rfl, rfl, by rw [ht]; exact hh.1, hh.2.1⟩, hh.2.2.F ht⟩) hh.2.2.2.2 hd) ls hl
set_option maxHeartbeats 1000000 in
theorem pq_mkV {y : MethodName} {ws ws' : List Cond} {maxL fr lo : Nat} {As : List Value} {W0 W1 : va_W} (hy : plainName y.cls = true) (hw : ws = Cond.code y cc maxL none :: ws') (hlen : (lg_sl As).length ≤ maxL)
    (body : ∀ (p : Program) (e : Env) (s : State) (m : MethodId) (args : Array Value) (below : List Frame) (meth : Method) (c : Code) (Q : State → Prop) (A : Nat → Prop), pq_Cx p c m cc maxL s args ws y.cls D cI cL A → pq_H D A s W0 s.heap [] →
      (∀ (H : Heap) (locs : List Loc) (pc : Nat) (ls : Array Slot), pq_H D A s W1 H locs → decode cc pc = .ok (.return_, 1) → W p l e (pq_rm fr lo) s m args below meth c H locs 0 0 Q (F0 m pc ls [])) →
      ∀ ls : Array Slot, lv_has ls maxL (lv_args 0 As) → W p l e (pq_rm fr lo) s m args below meth c s.heap [] 0 0 Q (F0 m 0 ls [])) : pq_CV l y ws fr lo D cI cL As W0 W1 := by
  intro sz
  refine Met.ofW (cc := cc) (maxL := maxL) (ret := none) hy hw ?_
  intro p e s m args below meth c s₁ B hml hv
  obtain ⟨rfl, hsz, hP, hK, hD0, hG⟩ := hv
  have hx := B.exec
  have hb := B.bytes
  have hr := B.returns
  have hts := atoms_spec (ws := ws) B.pre
  have hown : s.vm.findClass y.cls = some m.cls := findClass_of_methodNamed B.named
  have hlocks := B.notSynchronized
  subst hsz
  have hD := hD0.self (sz := s.heap.size)
  generalize hAe : va_A W0 s.heap.size = A at hD hG ⊢
  have hA : ∀ q : Nat, s.heap.size ≤ q → A q := fun q h => by rw [← hAe]; exact Or.inr h
  have hl := lv_entry As (n := maxL) hlen
  rw [lg_entry_eq]
  generalize (lg_sl As ++ List.replicate (maxL - (lg_sl As).length) Slot.unset).toArray = ls at hl ⊢
  exact body p e s m _ below meth c _ A ⟨hx, hb, hml, hown, hts, hK, hG, hA⟩ ⟨hP, hD, va_S.rf⟩ (fun H locs pc ls hh hd => W.vret hx hb hr (fun t ht hW => ⟨⟨(), rfl, trivial, by rw [ht]; exact hh.1, hh.2.1⟩, hh.2.2.F ht⟩) hh.2.2.2.2 hd) ls hl
set_option maxHeartbeats 1000000 in
theorem pq_mkQ {y : MethodName} {ws ws' : List Cond} {maxL fr lo : Nat} {RT : FieldType} {As : List Value} {W0 W1 : va_W} {r : Option Nat} (hy : plainName y.cls = true) (hw : ws = Cond.code y cc maxL (some RT) :: ws') (hrt : ∃ n, RT = .object n) (hlen : (lg_sl As).length ≤ maxL)
    (body : ∀ (p : Program) (e : Env) (s : State) (m : MethodId) (args : Array Value) (below : List Frame) (meth : Method) (c : Code) (Q : State → Prop) (A : Nat → Prop), pq_Cx p c m cc maxL s args ws y.cls D cI cL A → pq_H D A s W0 s.heap [] →
      (∀ (H : Heap) (locs : List Loc) (pc : Nat) (ls : Array Slot) (v : Value), pq_H D A s W1 H locs → decode cc pc = .ok (.areturn, 1) → v = va_rf r → W p l e (pq_rm fr lo) s m args below meth c H locs 0 0 Q (F0 m pc ls [v])) →
      ∀ ls : Array Slot, lv_has ls maxL (lv_args 0 As) → W p l e (pq_rm fr lo) s m args below meth c s.heap [] 0 0 Q (F0 m 0 ls [])) : pq_CQ l y ws fr lo D cI cL As W0 W1 r := by
  intro sz
  refine Met.ofW (cc := cc) (maxL := maxL) (ret := some RT) hy hw ?_
  intro p e s m args below meth c s₁ B hml hv
  obtain ⟨rfl, hsz, hP, hK, hD0, hG⟩ := hv
  have hx := B.exec
  have hb := B.bytes
  have hr := B.returns
  have hts := atoms_spec (ws := ws) B.pre
  have hown : s.vm.findClass y.cls = some m.cls := findClass_of_methodNamed B.named
  have hlocks := B.notSynchronized
  subst hsz
  have hD := hD0.self (sz := s.heap.size)
  generalize hAe : va_A W0 s.heap.size = A at hD hG ⊢
  have hA : ∀ q : Nat, s.heap.size ≤ q → A q := fun q h => by rw [← hAe]; exact Or.inr h
  have hl := lv_entry As (n := maxL) hlen
  rw [lg_entry_eq]
  generalize (lg_sl As ++ List.replicate (maxL - (lg_sl As).length) Slot.unset).toArray = ls at hl ⊢
  exact body p e s m _ below meth c _ A ⟨hx, hb, hml, hown, hts, hK, hG, hA⟩ ⟨hP, hD, va_S.rf⟩ (fun H locs pc ls v hh hd hv => by subst hv; exact W.aret (v := va_rf r) hx hb hr (Or.inl hrt) (va_rf_or r) (fun t ht hW => ⟨⟨r, (), rfl, rfl, by rw [ht]; exact hh.1, hh.2.1⟩, hh.2.2.F ht⟩) hh.2.2.2.2 hd) ls hl
theorem pq_aald (C : pq_Cx p c m cc nL s args Ts own D cI cL A) (hh : pq_H D A s Wd H locs) (q0 : Nat) {La : Nat → Nat} {ln : Nat} (ha : Wd[q0]? = some (a, .inl (cL, 4, .inr (.inr (.inr (.inr (fun j => some (La j)))))))) {i : Int32} (hin : vp_in i 4) (hLa : La i.toNatClampNeg = ln) (hdg : decode cc pc = .ok (.aaload, 1))
    (kk : W p l e R s m args below meth c H locs cells slots Q (F0 m (pc + 1) ls (.ref ln :: rest))) : W p l e R s m args below meth c H locs cells slots Q (F0 m pc ls (.int i :: .ref a :: rest)) :=
  va_aldq C.1 C.2.1 C.2.2.2.2.2.1 hh.1 q0 1 ha rfl hin hdg (by subst hLa; exact kk)
theorem pq_tsOut {x : Int32} {hi : Nat} (hh : hi < 2 ^ 31) (h : ∀ k : Nat, k ≤ hi → ¬ x = nI k) : x.toInt < ((0 : Nat) : Int) ∨ (hi : Int) < x.toInt := by
  by_cases h0 : x < 0
  · left; have := Int32.lt_iff_toInt_lt.mp h0; simpa using this
  · right
    obtain ⟨j, hj, rfl⟩ := nI_of h0
    rcases Nat.lt_or_ge hi j with q | q
    · rw [nI_toInt hj]; omega
    · exact absurd rfl (h j q)
theorem pq_iald (C : pq_Cx p c m cc nL s args Ts own D cI cL A) (hh : pq_H D A s Wd H locs) (q0 : Nat) {n : Nat} {f : Nat → Int32} (ha : Wd[q0]? = some (a, .inl (cI, n, .inl f))) {i : Int32} (hin : vp_in i n) (hdg : decode cc pc = .ok (.iaload, 1))
    (kk : ∀ v : Int32, v = f i.toNatClampNeg → W p l e R s m args below meth c H locs cells slots Q (F0 m (pc + 1) ls (.int v :: rest))) : W p l e R s m args below meth c H locs cells slots Q (F0 m pc ls (.int i :: .ref a :: rest)) :=
  va_iald C.1 C.2.1 C.2.2.2.2.2.1 hh.1 q0 0 ha rfl hin hdg (kk _ rfl)
theorem pq_iast (C : pq_Cx p c m cc nL s args Ts own D cI cL A) (hh : pq_H D A s Wd H locs) (q0 : Nat) {n : Nat} {f : Nat → Int32} (ha : Wd[q0]? = some (a, .inl (cI, n, .inl f))) {i x : Int32} (hin : vp_in i n) (hdg : decode cc pc = .ok (.iastore, 1))
    (kk : ∀ (H1 : Heap) (locs1 : List Loc) (f1 : Nat → Int32), f1 = upd f i.toNatClampNeg x → pq_H D A s (Wd.set q0 (a, .inl (cI, n, .inl f1))) H1 locs1 → W p l e R s m args below meth c H1 locs1 cells slots Q (F0 m (pc + 1) ls rest)) : W p l e R s m args below meth c H locs cells slots Q (F0 m pc ls (.int x :: .int i :: .ref a :: rest)) :=
  va_iast C.1 C.2.1 C.2.2.2.2.2.1 hh.1 hh.2.1 hh.2.2 q0 0 ha rfl hin hdg (fun H1 locs1 h1 h2 h3 => kk H1 locs1 _ rfl ⟨h1, h2, h3⟩)
theorem pq_get (C : pq_Cx p c m cc nL s args Ts own D cI cL A) (hh : pq_H D A s Wd H locs) {ref K : String} {T : u_T} {N index : Nat} (hin : ∀ w ∈ u_ws K T N, w ∈ Ts) (q0 ci : Nat) {fs : List Value} (he : Wd[q0]? = some (a, .inr (ci, fs))) (hc : vwCl[ci]? = some (K, T, N)) (k : Nat) (hk : k < N) (hlink : (Cond.fieldLink own index ref (T k).2.1 (T k).2.2.1).before args s = true) (hsame : (T k).1 = ref) {v : Value} (hv : fs[k]? = some v) (hdg : decode cc pc = .ok (.getfield index, 3))
    (kk : W p l e R s m args below meth c H locs cells slots Q (F0 m (pc + 3) ls (v :: rest))) : W p l e R s m args below meth c H locs cells slots Q (F0 m pc ls (.ref a :: rest)) :=
  va_get C.1 C.2.1 C.2.2.2.2.1 hin C.2.2.2.1 C.2.2.2.2.2.1 hh.1 q0 he hc k hk hlink (fun x h => by rw [← hsame]; exact h) hv hdg kk
theorem pq_getN (C : pq_Cx p c m cc nL s args Ts own D cI cL A) (hh : pq_H D A s Wd H locs) {ref K host : String} {T : u_T} {N index : Nat} (hin : ∀ w ∈ u_ws K T N, w ∈ Ts) (q0 ci : Nat) {fs : List Value} (he : Wd[q0]? = some (a, .inr (ci, fs))) (hc : vwCl[ci]? = some (K, T, N)) (k : Nat) (hk : k < N) (hlink : (own, index, ref, (T k).2.1, (T k).2.2.1, host) ∈ pq_nestF) (hsame : (T k).1 = ref) {v : Value} (hv : fs[k]? = some v) (hdg : decode cc pc = .ok (.getfield index, 3))
    (kk : W p l e R s m args below meth c H locs cells slots Q (F0 m (pc + 3) ls (v :: rest))) : W p l e R s m args below meth c H locs cells slots Q (F0 m pc ls (.ref a :: rest)) :=
  va_getN C.1 C.2.1 C.2.2.2.2.1 hin C.2.2.2.1 C.2.2.2.2.2.1 hh.1 q0 he hc k hk (va_Nw.use rfl (C.2.2.2.2.2.2.1.2.1 _ hlink)) (fun x h => by rw [← hsame]; exact h) hv hdg kk
theorem pq_put (C : pq_Cx p c m cc nL s args Ts own D cI cL A) (hh : pq_H D A s Wd H locs) {ref K : String} {T : u_T} {N index : Nat} (hin : ∀ w ∈ u_ws K T N, w ∈ Ts) (ty0 : Nat → FieldType) (hty : ∀ k, k < N → parseFieldDescriptor (T k).2.2.1 = some (ty0 k)) (hnm : ∀ a, a < N → ∀ b, b < N → a ≠ b → (T a).2.1 ≠ (T b).2.1) (q0 ci : Nat) {fs : List Value} (he : Wd[q0]? = some (a, .inr (ci, fs))) (hc : vwCl[ci]? = some (K, T, N)) (k : Nat) (hk : k < N) (hlink : (Cond.fieldLink own index ref (T k).2.1 (T k).2.2.1).before args s = true) (hsame : (T k).1 = ref) (hfin : (T k).2.2.2 = false) {ty : FieldType} {v : Value} (hd : parseFieldDescriptor (T k).2.2.1 = some ty) (hn : narrow ty v = v) (hfit : fits ty v = true) (hl : k < fs.length) (hdg : decode cc pc = .ok (.putfield index, 3))
    (kk : ∀ (H1 : Heap) (locs1 : List Loc), pq_H D A s (Wd.set q0 (a, .inr (ci, fs.set k v))) H1 locs1 → W p l e R s m args below meth c H1 locs1 cells slots Q (F0 m (pc + 3) ls rest)) : W p l e R s m args below meth c H locs cells slots Q (F0 m pc ls (v :: .ref a :: rest)) :=
  va_put C.1 C.2.1 C.2.2.2.2.1 hin ty0 hty hnm C.2.2.2.1 C.2.2.2.2.2.1 hh.1 hh.2.1 hh.2.2 q0 he hc k hk hlink (fun x h => by rw [← hsame]; exact h) hfin hd hn hfit hl hdg (fun H1 locs1 h1 h2 h3 => kk H1 locs1 ⟨h1, h2, h3⟩)
theorem pq_putN (C : pq_Cx p c m cc nL s args Ts own D cI cL A) (hh : pq_H D A s Wd H locs) {ref K host : String} {T : u_T} {N index : Nat} (hin : ∀ w ∈ u_ws K T N, w ∈ Ts) (ty0 : Nat → FieldType) (hty : ∀ k, k < N → parseFieldDescriptor (T k).2.2.1 = some (ty0 k)) (hnm : ∀ a, a < N → ∀ b, b < N → a ≠ b → (T a).2.1 ≠ (T b).2.1) (q0 ci : Nat) {fs : List Value} (he : Wd[q0]? = some (a, .inr (ci, fs))) (hc : vwCl[ci]? = some (K, T, N)) (k : Nat) (hk : k < N) (hlink : (own, index, ref, (T k).2.1, (T k).2.2.1, host) ∈ pq_nestF) (hsame : (T k).1 = ref) (hfin : (T k).2.2.2 = false) {ty : FieldType} {v : Value} (hd : parseFieldDescriptor (T k).2.2.1 = some ty) (hn : narrow ty v = v) (hfit : fits ty v = true) (hl : k < fs.length) (hdg : decode cc pc = .ok (.putfield index, 3))
    (kk : ∀ (H1 : Heap) (locs1 : List Loc), pq_H D A s (Wd.set q0 (a, .inr (ci, fs.set k v))) H1 locs1 → W p l e R s m args below meth c H1 locs1 cells slots Q (F0 m (pc + 3) ls rest)) : W p l e R s m args below meth c H locs cells slots Q (F0 m pc ls (v :: .ref a :: rest)) :=
  va_putN C.1 C.2.1 C.2.2.2.2.1 hin ty0 hty hnm C.2.2.2.1 C.2.2.2.2.2.1 hh.1 hh.2.1 hh.2.2 q0 he hc k hk (va_Nw.use rfl (C.2.2.2.2.2.2.1.2.1 _ hlink)) (fun x h => by rw [← hsame]; exact h) hfin hd hn hfit hl hdg (fun H1 locs1 h1 h2 h3 => kk H1 locs1 ⟨h1, h2, h3⟩)
/-- a static table is there -/
theorem pq_tab (C : pq_Cx p c m cc nL s args Ts own D cI cL A) (k : Nat) {q : String × String × Nat × (Nat → Int32)} (hk : pq_tabs[k]? = some q) : ∃ t : Nat, va_Z q.1 q.2.1 "[I" (.ref t) A s s.heap ∧ va_T .int t q.2.2.1 (fun j => .int (q.2.2.2 j)) A s s.heap := C.2.2.2.2.2.2.1.2.2.1 q (List.mem_of_getElem? hk)
theorem pq_gets (C : pq_Cx p c m cc nL s args Ts own D cI cL A) (hh : pq_H D A s Wd H locs) {K n d : String} {v : Value} {index : Nat} (hZ : va_Z K n d v A s s.heap) (hlink : (Cond.fieldLink own index K n d).before args s = true) (hdg : decode cc pc = .ok (.getstatic index, 3))
    (kk : W p l e R s m args below meth c H locs cells slots Q (F0 m (pc + 3) ls (v :: rest))) : W p l e R s m args below meth c H locs cells slots Q (F0 m pc ls rest) :=
  va_gets C.1 C.2.1 hZ hh.2.2 C.2.2.2.1 hlink (fun _ h => h) hdg kk
theorem pq_ti (C : pq_Cx p c m cc nL s args Ts own D cI cL A) (hh : pq_H D A s Wd H locs) {t N : Nat} {f : Nat → Int32} (hT : va_T .int t N (fun j => .int (f j)) A s s.heap) {i : Int32} (hin : vp_in i N) (hdg : decode cc pc = .ok (.iaload, 1))
    (kk : ∀ v : Int32, v = f i.toNatClampNeg → W p l e R s m args below meth c H locs cells slots Q (F0 m (pc + 1) ls (.int v :: rest))) : W p l e R s m args below meth c H locs cells slots Q (F0 m pc ls (.int i :: .ref t :: rest)) :=
  va_ti C.1 C.2.1 hT hh.2.2 hin rfl hdg (kk _ rfl)
end PQM
end
section
def fX0_begin_b63 (fuel : Nat) (x2 : Int32) (c_bits : Int32) (f_numbers : Nat → Int32) : Option (Int32 × (Nat → Int32)) := match fuel with
  | 0 => none
  | fuel + 1 => pq_br ((6 : Int32) ≤ x2) (some (c_bits, f_numbers)) (pq_wr 24 f_numbers ((16 : Int32) + x2) ((32 : Int32)) fun (f21 : Nat → Int32) => pq_nm (x2 + (1 : Int32)) fun (v23 : Int32) => fX0_begin_b63   fuel v23 c_bits f21)
def fX0_begin_b7 (fuel : Nat) (x2 : Int32) (c_bits : Int32) (f_numbers : Nat → Int32) : Option (Int32 × (Nat → Int32)) := match fuel with
  | 0 => none
  | fuel + 1 => pq_br ((24 : Int32) ≤ x2) (pq_wr 24 f_numbers ((0 : Int32)) ((34816 : Int32)) fun (f3 : Nat → Int32) => pq_wr 24 f3 ((1 : Int32)) ((544 : Int32)) fun (f6 : Nat → Int32) => pq_wr 24 f6 ((14 : Int32)) ((32 : Int32)) fun (f9 : Nat → Int32) => pq_wr 24 f9 ((15 : Int32)) ((32 : Int32)) fun (f12 : Nat → Int32) => fX0_begin_b63   1100 (0 : Int32) c_bits f12) (pq_wr 24 f_numbers (x2) ((0 : Int32)) fun (f15 : Nat → Int32) => pq_nm (x2 + (1 : Int32)) fun (v17 : Int32) => fX0_begin_b7   fuel v17 c_bits f15)
abbrev wX0_begin (cI : ClassId) (th : Nat) (th_numbers : Nat) (c_bits : Int32) (c_se : Int32) (c_sz : Int32) (c_step : Int32) (f_numbers : Nat → Int32) : va_W := [(th, .inr (0, [.ref th_numbers, .int c_bits, .int c_se, .int c_sz, .int c_step])), (th_numbers, .inl (cI, 24, .inl f_numbers))]
def fX0_begin (a1 : Int32) (c_bits : Int32) (f_numbers : Nat → Int32) : Option (Int32 × (Nat → Int32)) := fX0_begin_b7   1100 (0 : Int32) a1 f_numbers

def fX0_number_b10 (f_numbers : Nat → Int32) : Option (Int32) := some ((-100000 : Int32))
abbrev wX0_number (cI : ClassId) (th : Nat) (th_numbers : Nat) (c_bits : Int32) (c_se : Int32) (c_sz : Int32) (c_step : Int32) (f_numbers : Nat → Int32) : va_W := [(th, .inr (0, [.ref th_numbers, .int c_bits, .int c_se, .int c_sz, .int c_step])), (th_numbers, .inl (cI, 24, .inl f_numbers))]
def fX0_number (a1 : Int32) (f_numbers : Nat → Int32) : Option (Int32) := pq_br (a1 < (0 : Int32)) (fX0_number_b10  f_numbers ) (pq_br (a1 < (24 : Int32)) (pq_rd 24 f_numbers (a1) fun (v4 : Int32) => some (v4)) (fX0_number_b10  f_numbers ))

def fX0_size_b2 (fuel : Nat) (x0 : Int32) (x1 : Int32) : Option (Int32) := match fuel with
  | 0 => none
  | fuel + 1 => pq_br ((15 : Int32) ≤ x1) (some (x1)) (pq_br (x0 < ((1 : Int32) <<< (x1 &&& 31))) (some (x1)) (pq_nm (x1 + (1 : Int32)) fun (v3 : Int32) => fX0_size_b2   fuel x0 v3))
def fX0_size (a0 : Int32) : Option (Int32) := fX0_size_b2   1100 a0 (0 : Int32)

def fX0_shifted (a0 : Int32) (a1 : Int32) : Option (Int32) := pq_br ((0 : Int32) ≤ a1) (some (a0 <<< (a1 &&& 31))) (some (a0 >>> ((-a1) &&& 31)))

def fX0_times_b93 (x7 : Int32) (s0 : Int32) (s1 : Int32) : Option (Int32) := pq_br (s0 = s1) (some (x7)) (some (-x7))
def fX0_times_b84 (x1 : Int32) (x7 : Int32) (s0 : Int32) : Option (Int32) := pq_br ((0 : Int32) ≤ x1) (fX0_times_b93   x7 s0 (0 : Int32)) (fX0_times_b93   x7 s0 (1 : Int32))
def fX0_times_b32 (x0 : Int32) (x1 : Int32) (x3 : Int32) (s0 : Int32) : Option (Int32) := pq_nm ((x3 + ((x1 >>> ((6 : Int32) &&& 31)) &&& (15 : Int32))) - (13 : Int32)) fun (v12 : Int32) => pq_nm (((s0 * (x1 &&& (63 : Int32))) + (48 : Int32)) >>> ((4 : Int32) &&& 31)) fun (v14 : Int32) => pq_cl (fX0_shifted v14 v12) fun (r16 : Int32) => pq_nm (r16 &&& (32767 : Int32)) fun (v18 : Int32) => pq_br ((0 : Int32) ≤ x0) (fX0_times_b84   x1 v18 (0 : Int32)) (fX0_times_b84   x1 v18 (1 : Int32))
def fX0_times (a0 : Int32) (a1 : Int32) : Option (Int32) := pq_nm (if 0 ≤ a0 then a0 else 0 - a0) fun (v1 : Int32) => pq_nm (v1 &&& (8191 : Int32)) fun (v3 : Int32) => pq_cl (fX0_size v3) fun (r5 : Int32) => pq_nm (r5 - (6 : Int32)) fun (v7 : Int32) => pq_br (v3 = (0 : Int32)) (fX0_times_b32   a0 a1 v7 (32 : Int32)) (pq_cl (fX0_shifted v3 (-v7)) fun (r10 : Int32) => fX0_times_b32   a0 a1 v7 r10)

def fX6_wrapped (a0 : Int32) : Option (Int32) := some (a0.toInt16.toInt32)

abbrev wX0_stepNow (cI : ClassId) (th : Nat) (th_numbers : Nat) (c_bits : Int32) (c_se : Int32) (c_sz : Int32) (c_step : Int32) (f_numbers : Nat → Int32) : va_W := [(th, .inr (0, [.ref th_numbers, .int c_bits, .int c_se, .int c_sz, .int c_step])), (th_numbers, .inl (cI, 24, .inl f_numbers))]
def fX0_stepNow (f_numbers : Nat → Int32) : Option (Int32) := pq_rd 24 f_numbers ((4 : Int32)) fun (v2 : Int32) => pq_br (v2 < (256 : Int32)) (pq_rd 24 f_numbers ((0 : Int32)) fun (v6 : Int32) => pq_nm (v6 >>> ((6 : Int32) &&& 31)) fun (v8 : Int32) => pq_rd 24 f_numbers ((1 : Int32)) fun (v11 : Int32) => pq_nm (v11 - v8) fun (v13 : Int32) => pq_rd 24 f_numbers ((4 : Int32)) fun (v16 : Int32) => pq_nm (v16 >>> ((2 : Int32) &&& 31)) fun (v18 : Int32) => pq_br (v13 ≤ (0 : Int32)) (pq_br ((0 : Int32) ≤ v13) (some (v8)) (some (v8 + (((v13 * v18) + (63 : Int32)) >>> ((6 : Int32) &&& 31))))) (some (v8 + ((v13 * v18) >>> ((6 : Int32) &&& 31))))) (pq_rd 24 f_numbers ((1 : Int32)) fun (v23 : Int32) => some (v23))

def fX0_foresee_b4 (f_numbers : Nat → Int32) (fuel : Nat) (x1 : Int32) (x2 : Int32) (c_se : Int32) (c_sz : Int32) (c_step : Int32) : Option (Int32 × Int32 × Int32) := match fuel with
  | 0 => none
  | fuel + 1 => pq_br ((6 : Int32) ≤ x2) (pq_cl (fX6_wrapped x1) fun (r2 : Int32) => pq_nm (r2 >>> ((1 : Int32) &&& 31)) fun (v4 : Int32) => pq_rd 24 f_numbers ((7 : Int32)) fun (v7 : Int32) => pq_rd 24 f_numbers ((15 : Int32)) fun (v10 : Int32) => pq_cl (fX0_times (v7 >>> ((2 : Int32) &&& 31)) v10) fun (r12 : Int32) => pq_rd 24 f_numbers ((6 : Int32)) fun (v15 : Int32) => pq_rd 24 f_numbers ((14 : Int32)) fun (v18 : Int32) => pq_cl (fX0_times (v15 >>> ((2 : Int32) &&& 31)) v18) fun (r20 : Int32) => pq_nm (r12 + r20) fun (v22 : Int32) => pq_cl (fX6_wrapped (r2 + v22)) fun (r24 : Int32) => pq_nm (r24 >>> ((1 : Int32) &&& 31)) fun (v26 : Int32) => pq_cl (fX0_stepNow f_numbers) fun (r28 : Int32) => some (v26, v4, r28)) (pq_rd 24 f_numbers ((8 : Int32) + x2) fun (v31 : Int32) => pq_rd 24 f_numbers ((16 : Int32) + x2) fun (v34 : Int32) => pq_cl (fX0_times (v31 >>> ((2 : Int32) &&& 31)) v34) fun (r36 : Int32) => pq_nm (x1 + r36) fun (v38 : Int32) => pq_nm (x2 + (1 : Int32)) fun (v40 : Int32) => fX0_foresee_b4  f_numbers fuel v38 v40 c_se c_sz c_step)
abbrev wX0_foresee (cI : ClassId) (th : Nat) (th_numbers : Nat) (c_bits : Int32) (c_se : Int32) (c_sz : Int32) (c_step : Int32) (f_numbers : Nat → Int32) : va_W := [(th, .inr (0, [.ref th_numbers, .int c_bits, .int c_se, .int c_sz, .int c_step])), (th_numbers, .inl (cI, 24, .inl f_numbers))]
def fX0_foresee (f_numbers : Nat → Int32) (c_se : Int32) (c_sz : Int32) (c_step : Int32) : Option (Int32 × Int32 × Int32) := fX0_foresee_b4  f_numbers 1100 (0 : Int32) (0 : Int32) c_se c_sz c_step

def fX0_codeOf_b94 (c_bits : Int32) (c_step : Int32) (x1 : Int32) (x5 : Int32) (x7 : Int32) : Option (Int32) := pq_br ((0 : Int32) ≤ x1) (pq_br (x7 ≤ (0 : Int32)) (pq_br (c_bits = (2 : Int32)) (some ((0 : Int32))) (some (((2 : Int32) * x5) + (1 : Int32)))) (some (x7))) (some ((((2 : Int32) * x5) + (1 : Int32)) - x7))
def fX0_codeOf_b67 (c_bits : Int32) (c_step : Int32) (fuel : Nat) (x1 : Int32) (x4 : Int32) (x5 : Int32) (x6 : Int32) (x7 : Int32) : Option (Int32) := match fuel with
  | 0 => none
  | fuel + 1 => pq_br (x5 ≤ x7) (fX0_codeOf_b94  c_bits c_step x1 x5 x7) (pq_rd 26 pq_t_BOUNDS (x6 + x7) fun (v13 : Int32) => pq_br (x4 < v13) (fX0_codeOf_b94  c_bits c_step x1 x5 x7) (pq_nm (x7 + (1 : Int32)) fun (v16 : Int32) => fX0_codeOf_b67  c_bits c_step fuel x1 x4 x5 x6 v16))
abbrev wX0_codeOf (cI : ClassId) (th : Nat) (th_numbers : Nat) (c_bits : Int32) (c_se : Int32) (c_sz : Int32) (c_step : Int32) : va_W := [(th, .inr (0, [.ref th_numbers, .int c_bits, .int c_se, .int c_sz, .int c_step]))]
def fX0_codeOf (a1 : Int32) (c_bits : Int32) (c_step : Int32) : Option (Int32) := pq_nm (if 0 ≤ a1 then a1 else 0 - a1) fun (v1 : Int32) => pq_cl (fX0_size (v1 >>> ((1 : Int32) &&& 31))) fun (r3 : Int32) => pq_nm ((((128 : Int32) * r3) + ((((128 : Int32) * v1) >>> (r3 &&& 31)) &&& (127 : Int32))) - (c_step >>> ((2 : Int32) &&& 31))) fun (v5 : Int32) => pq_nm (((1 : Int32) <<< ((c_bits - (1 : Int32)) &&& 31)) - (1 : Int32)) fun (v7 : Int32) => pq_nm (((1 : Int32) <<< ((c_bits - (1 : Int32)) &&& 31)) - c_bits) fun (v9 : Int32) => fX0_codeOf_b67  c_bits c_step 1100 a1 v5 v7 v9 (0 : Int32)

def fX6_cut (a0 : Int32) (a1 : Int32) (a2 : Int32) : Option (Int32) := pq_br (a1 ≤ a0) (pq_br (a0 ≤ a2) (some (a0)) (some (a2))) (some (a1))

def fX0_tablePlace_b27 (c_bits : Int32) (x2 : Int32) (s0 : Int32) : Option (Int32) := pq_cl (fX6_cut s0 (0 : Int32) (x2 - (1 : Int32))) fun (r6 : Int32) => some ((x2 - (2 : Int32)) + r6)
abbrev wX0_tablePlace (cI : ClassId) (th : Nat) (th_numbers : Nat) (c_bits : Int32) (c_se : Int32) (c_sz : Int32) (c_step : Int32) : va_W := [(th, .inr (0, [.ref th_numbers, .int c_bits, .int c_se, .int c_sz, .int c_step]))]
def fX0_tablePlace (a1 : Int32) (c_bits : Int32) : Option (Int32) := pq_nm ((1 : Int32) <<< ((c_bits - (1 : Int32)) &&& 31)) fun (v1 : Int32) => pq_nm (((2 : Int32) * v1) - (1 : Int32)) fun (v3 : Int32) => pq_br (v1 ≤ a1) (fX0_tablePlace_b27  c_bits v1 (v3 - a1)) (fX0_tablePlace_b27  c_bits v1 a1)

def fX0_amount (a0 : Int32) : Option (Int32) := pq_br ((0 : Int32) ≤ a0) (some ((((128 : Int32) + (a0 &&& (127 : Int32))) * (128 : Int32)) >>> (((14 : Int32) - ((a0 >>> ((7 : Int32) &&& 31)) &&& (15 : Int32))) &&& 31))) (some ((0 : Int32)))

def fX0_isTransition_b50 (f_numbers : Nat → Int32) (x1 : Int32) (s0 : Int32) : Option (Int32) := pq_br (x1 ≤ ((s0 + (s0 >>> ((1 : Int32) &&& 31))) >>> ((1 : Int32) &&& 31))) (some ((0 : Int32))) (some ((1 : Int32)))
abbrev wX0_isTransition (cI : ClassId) (th : Nat) (th_numbers : Nat) (c_bits : Int32) (c_se : Int32) (c_sz : Int32) (c_step : Int32) (f_numbers : Nat → Int32) : va_W := [(th, .inr (0, [.ref th_numbers, .int c_bits, .int c_se, .int c_sz, .int c_step])), (th_numbers, .inl (cI, 24, .inl f_numbers))]
def fX0_isTransition (a1 : Int32) (f_numbers : Nat → Int32) : Option (Int32) := pq_rd 24 f_numbers ((5 : Int32)) fun (v2 : Int32) => pq_br (v2 = (0 : Int32)) (some ((0 : Int32))) (pq_rd 24 f_numbers ((0 : Int32)) fun (v6 : Int32) => pq_nm (v6 >>> ((15 : Int32) &&& 31)) fun (v8 : Int32) => pq_br (v8 ≤ (9 : Int32)) (pq_rd 24 f_numbers ((0 : Int32)) fun (v12 : Int32) => fX0_isTransition_b50  f_numbers a1 (((32 : Int32) + ((v12 >>> ((10 : Int32) &&& 31)) &&& (31 : Int32))) <<< (v8 &&& 31))) (fX0_isTransition_b50  f_numbers a1 (31744 : Int32)))

abbrev wX0_adaptStep (cI : ClassId) (th : Nat) (th_numbers : Nat) (c_bits : Int32) (c_se : Int32) (c_sz : Int32) (c_step : Int32) (f_numbers : Nat → Int32) : va_W := [(th, .inr (0, [.ref th_numbers, .int c_bits, .int c_se, .int c_sz, .int c_step])), (th_numbers, .inl (cI, 24, .inl f_numbers))]
def fX0_adaptStep (a1 : Int32) (c_step : Int32) (f_numbers : Nat → Int32) : Option ((Nat → Int32)) := pq_cl (fX6_cut (c_step + ((a1 - c_step) >>> ((5 : Int32) &&& 31))) (544 : Int32) (5120 : Int32)) fun (r1 : Int32) => pq_wr 24 f_numbers ((1 : Int32)) (r1) fun (f4 : Nat → Int32) => pq_rd 24 f4 ((0 : Int32)) fun (v7 : Int32) => pq_rd 24 f4 ((1 : Int32)) fun (v10 : Int32) => pq_rd 24 f4 ((0 : Int32)) fun (v13 : Int32) => pq_wr 24 f4 ((0 : Int32)) (v7 + (v10 + ((-v13) >>> ((6 : Int32) &&& 31)))) fun (f16 : Nat → Int32) => some (f16)

def fX0_forgetFilters_b18 (fuel : Nat) (x1 : Int32) (f_numbers : Nat → Int32) : Option ((Nat → Int32)) := match fuel with
  | 0 => none
  | fuel + 1 => pq_br ((6 : Int32) ≤ x1) (some (f_numbers)) (pq_wr 24 f_numbers ((8 : Int32) + x1) ((0 : Int32)) fun (f9 : Nat → Int32) => pq_nm (x1 + (1 : Int32)) fun (v11 : Int32) => fX0_forgetFilters_b18   fuel v11 f9)
abbrev wX0_forgetFilters (cI : ClassId) (th : Nat) (th_numbers : Nat) (c_bits : Int32) (c_se : Int32) (c_sz : Int32) (c_step : Int32) (f_numbers : Nat → Int32) : va_W := [(th, .inr (0, [.ref th_numbers, .int c_bits, .int c_se, .int c_sz, .int c_step])), (th_numbers, .inl (cI, 24, .inl f_numbers))]
def fX0_forgetFilters (f_numbers : Nat → Int32) : Option ((Nat → Int32)) := pq_wr 24 f_numbers ((6 : Int32)) ((0 : Int32)) fun (f2 : Nat → Int32) => pq_wr 24 f2 ((7 : Int32)) ((0 : Int32)) fun (f5 : Nat → Int32) => fX0_forgetFilters_b18   1100 (0 : Int32) f5

def fX6_sign (a0 : Int32) : Option (Int32) := pq_br ((0 : Int32) ≤ a0) (some ((0 : Int32))) (some ((1 : Int32)))

def fX0_nudgedA2 (a0 : Int32) (a1 : Int32) : Option (Int32) := pq_br (((-12288 : Int32) - a1) < a0) (pq_br (a0 < ((12288 : Int32) - a1)) (some (a0 + a1)) (some ((12288 : Int32)))) (some ((-12288 : Int32)))

def fX0_adaptA2_b124 (x2 : Int32) (f_numbers : Nat → Int32) : Option ((Nat → Int32)) := pq_wr 24 f_numbers ((7 : Int32)) (x2) fun (f37 : Nat → Int32) => some (f37)
def fX0_adaptA2_b120 (s0 : Int32) (s1 : Int32) (f_numbers : Nat → Int32) : Option ((Nat → Int32)) := pq_cl (fX0_nudgedA2 s0 s1) fun (r34 : Int32) => fX0_adaptA2_b124   r34 f_numbers
def fX0_adaptA2_b100 (x2 : Int32) (x3 : Int32) (f_numbers : Nat → Int32) : Option ((Nat → Int32)) := pq_rd 24 f_numbers ((23 : Int32)) fun (v31 : Int32) => pq_br (x3 = v31) (fX0_adaptA2_b120   x2 (128 : Int32) f_numbers) (fX0_adaptA2_b120   x2 (-128 : Int32) f_numbers)
def fX0_adaptA2_b57 (x2 : Int32) (x3 : Int32) (s0 : Int32) (f_numbers : Nat → Int32) : Option ((Nat → Int32)) := pq_br ((-8191 : Int32) ≤ s0) (pq_br (s0 ≤ (8191 : Int32)) (pq_nm (x2 + (s0 >>> ((5 : Int32) &&& 31))) fun (v24 : Int32) => fX0_adaptA2_b100   v24 x3 f_numbers) (pq_nm (x2 + (255 : Int32)) fun (v26 : Int32) => fX0_adaptA2_b100   v26 x3 f_numbers)) (pq_nm (x2 + (-256 : Int32)) fun (v28 : Int32) => fX0_adaptA2_b100   v28 x3 f_numbers)
abbrev wX0_adaptA2 (cI : ClassId) (th : Nat) (th_numbers : Nat) (c_bits : Int32) (c_se : Int32) (c_sz : Int32) (c_step : Int32) (f_numbers : Nat → Int32) : va_W := [(th, .inr (0, [.ref th_numbers, .int c_bits, .int c_se, .int c_sz, .int c_step])), (th_numbers, .inl (cI, 24, .inl f_numbers))]
def fX0_adaptA2 (a1 : Int32) (f_numbers : Nat → Int32) : Option ((Nat → Int32)) := pq_rd 24 f_numbers ((7 : Int32)) fun (v2 : Int32) => pq_rd 24 f_numbers ((7 : Int32)) fun (v5 : Int32) => pq_nm (v2 - (v5 >>> ((7 : Int32) &&& 31))) fun (v7 : Int32) => pq_br (a1 = (0 : Int32)) (fX0_adaptA2_b124   v7 f_numbers) (pq_cl (fX6_sign a1) fun (r10 : Int32) => pq_rd 24 f_numbers ((22 : Int32)) fun (v13 : Int32) => pq_br (r10 = v13) (pq_rd 24 f_numbers ((6 : Int32)) fun (v17 : Int32) => fX0_adaptA2_b57   v7 r10 (-v17) f_numbers) (pq_rd 24 f_numbers ((6 : Int32)) fun (v20 : Int32) => fX0_adaptA2_b57   v7 r10 v20 f_numbers))

def fX0_adaptA1_b49 (x2 : Int32) (f_numbers : Nat → Int32) : Option ((Nat → Int32)) := pq_rd 24 f_numbers ((7 : Int32)) fun (v19 : Int32) => pq_nm ((15360 : Int32) - v19) fun (v21 : Int32) => pq_cl (fX6_cut x2 (-v21) v21) fun (r23 : Int32) => pq_wr 24 f_numbers ((6 : Int32)) (r23) fun (f26 : Nat → Int32) => some (f26)
def fX0_adaptA1_b47 (s0 : Int32) (s1 : Int32) (f_numbers : Nat → Int32) : Option ((Nat → Int32)) := pq_nm (s0 + s1) fun (v16 : Int32) => fX0_adaptA1_b49   v16 f_numbers
abbrev wX0_adaptA1 (cI : ClassId) (th : Nat) (th_numbers : Nat) (c_bits : Int32) (c_se : Int32) (c_sz : Int32) (c_step : Int32) (f_numbers : Nat → Int32) : va_W := [(th, .inr (0, [.ref th_numbers, .int c_bits, .int c_se, .int c_sz, .int c_step])), (th_numbers, .inl (cI, 24, .inl f_numbers))]
def fX0_adaptA1 (a1 : Int32) (f_numbers : Nat → Int32) : Option ((Nat → Int32)) := pq_rd 24 f_numbers ((6 : Int32)) fun (v2 : Int32) => pq_rd 24 f_numbers ((6 : Int32)) fun (v5 : Int32) => pq_nm (v2 - (v5 >>> ((8 : Int32) &&& 31))) fun (v7 : Int32) => pq_br (a1 = (0 : Int32)) (fX0_adaptA1_b49   v7 f_numbers) (pq_cl (fX6_sign a1) fun (r10 : Int32) => pq_rd 24 f_numbers ((22 : Int32)) fun (v13 : Int32) => pq_br (r10 = v13) (fX0_adaptA1_b47   v7 (192 : Int32) f_numbers) (fX0_adaptA1_b47   v7 (-192 : Int32) f_numbers))

def fX0_adaptZeros_b86 (k19 : (Int32) → (Int32) → (Int32) → (Int32) → (Nat → Int32) → Option ((Nat → Int32))) (c_bits : Int32) (x1 : Int32) (x2 : Int32) (x3 : Int32) (x4 : Int32) (x5 : Int32) (f_numbers : Nat → Int32) : Option ((Nat → Int32)) := pq_cl (fX6_wrapped x5) fun (r16 : Int32) => pq_wr 24 f_numbers ((8 : Int32) + x4) (r16) fun (f19 : Nat → Int32) => pq_nm (x4 + (1 : Int32)) fun (v21 : Int32) => k19 x1 x2 x3 v21 f19
def fX0_adaptZeros_b83 (k19 : (Int32) → (Int32) → (Int32) → (Int32) → (Nat → Int32) → Option ((Nat → Int32))) (c_bits : Int32) (x1 : Int32) (x2 : Int32) (x3 : Int32) (x4 : Int32) (s0 : Int32) (s1 : Int32) (f_numbers : Nat → Int32) : Option ((Nat → Int32)) := pq_nm (s0 + s1) fun (v14 : Int32) => fX0_adaptZeros_b86 k19 c_bits x1 x2 x3 x4 v14 f_numbers
def fX0_adaptZeros_b72 (k19 : (Int32) → (Int32) → (Int32) → (Int32) → (Nat → Int32) → Option ((Nat → Int32))) (c_bits : Int32) (x1 : Int32) (x2 : Int32) (x3 : Int32) (x4 : Int32) (s0 : Int32) (s1 : Int32) (s2 : Int32) (f_numbers : Nat → Int32) : Option ((Nat → Int32)) := pq_br (s1 = s2) (fX0_adaptZeros_b83 k19 c_bits x1 x2 x3 x4 s0 (128 : Int32) f_numbers) (fX0_adaptZeros_b83 k19 c_bits x1 x2 x3 x4 s0 (-128 : Int32) f_numbers)
def fX0_adaptZeros_b19 (c_bits : Int32) (fuel : Nat) (x1 : Int32) (x2 : Int32) (x3 : Int32) (x4 : Int32) (f_numbers : Nat → Int32) : Option ((Nat → Int32)) := match fuel with
  | 0 => none
  | fuel + 1 => pq_br ((6 : Int32) ≤ x4) (some (f_numbers)) (pq_rd 24 f_numbers ((8 : Int32) + x4) fun (v4 : Int32) => pq_nm (v4 - (v4 >>> (x3 &&& 31))) fun (v6 : Int32) => pq_br (x1 = (0 : Int32)) (fX0_adaptZeros_b86 (fX0_adaptZeros_b19  c_bits fuel) c_bits x1 x2 x3 x4 v6 f_numbers) (pq_rd 24 f_numbers ((16 : Int32) + x4) fun (v10 : Int32) => pq_br ((0 : Int32) ≤ v10) (fX0_adaptZeros_b72 (fX0_adaptZeros_b19  c_bits fuel) c_bits x1 x2 x3 x4 v6 x2 (0 : Int32) f_numbers) (fX0_adaptZeros_b72 (fX0_adaptZeros_b19  c_bits fuel) c_bits x1 x2 x3 x4 v6 x2 (1 : Int32) f_numbers)))
def fX0_adaptZeros_b15 (c_bits : Int32) (x1 : Int32) (x2 : Int32) (s0 : Int32) (f_numbers : Nat → Int32) : Option ((Nat → Int32)) := fX0_adaptZeros_b19  c_bits 1100 x1 x2 s0 (0 : Int32) f_numbers
abbrev wX0_adaptZeros (cI : ClassId) (th : Nat) (th_numbers : Nat) (c_bits : Int32) (c_se : Int32) (c_sz : Int32) (c_step : Int32) (f_numbers : Nat → Int32) : va_W := [(th, .inr (0, [.ref th_numbers, .int c_bits, .int c_se, .int c_sz, .int c_step])), (th_numbers, .inl (cI, 24, .inl f_numbers))]
def fX0_adaptZeros (a1 : Int32) (a2 : Int32) (c_bits : Int32) (f_numbers : Nat → Int32) : Option ((Nat → Int32)) := pq_br (c_bits = (5 : Int32)) (fX0_adaptZeros_b15  c_bits a1 a2 (9 : Int32) f_numbers) (fX0_adaptZeros_b15  c_bits a1 a2 (8 : Int32) f_numbers)

def fX0_floatOf_b30 (x1 : Int32) (x2 : Int32) : Option (Int32) := pq_br (x1 = (0 : Int32)) (some (x2)) (some (x2 - (1024 : Int32)))
def fX0_floatOf (a0 : Int32) (a1 : Int32) : Option (Int32) := pq_br (a0 ≤ (0 : Int32)) (fX0_floatOf_b30   a1 (32 : Int32)) (pq_br ((32768 : Int32) ≤ a0) (fX0_floatOf_b30   a1 (32 : Int32)) (pq_cl (fX0_size a0) fun (r3 : Int32) => pq_nm (((64 : Int32) * r3) + (((64 : Int32) * a0) >>> (r3 &&& 31))) fun (v5 : Int32) => fX0_floatOf_b30   a1 v5))

def fX0_remember_b3 (fuel : Nat) (x1 : Int32) (x2 : Int32) (x3 : Int32) (x4 : Int32) (f_numbers : Nat → Int32) : Option ((Nat → Int32)) := match fuel with
  | 0 => none
  | fuel + 1 => pq_br (x4 ≤ (0 : Int32)) (pq_wr 24 f_numbers ((16 : Int32)) (x1) fun (f3 : Nat → Int32) => pq_rd 24 f3 ((14 : Int32)) fun (v6 : Int32) => pq_wr 24 f3 ((15 : Int32)) (v6) fun (f9 : Nat → Int32) => pq_wr 24 f9 ((14 : Int32)) (x2) fun (f12 : Nat → Int32) => pq_rd 24 f12 ((22 : Int32)) fun (v15 : Int32) => pq_wr 24 f12 ((23 : Int32)) (v15) fun (f18 : Nat → Int32) => pq_wr 24 f18 ((22 : Int32)) (x3) fun (f21 : Nat → Int32) => some (f21)) (pq_rd 24 f_numbers (((16 : Int32) + x4) - (1 : Int32)) fun (v24 : Int32) => pq_wr 24 f_numbers ((16 : Int32) + x4) (v24) fun (f27 : Nat → Int32) => pq_nm (x4 + (-1 : Int32)) fun (v29 : Int32) => fX0_remember_b3   fuel x1 x2 x3 v29 f27)
abbrev wX0_remember (cI : ClassId) (th : Nat) (th_numbers : Nat) (c_bits : Int32) (c_se : Int32) (c_sz : Int32) (c_step : Int32) (f_numbers : Nat → Int32) : va_W := [(th, .inr (0, [.ref th_numbers, .int c_bits, .int c_se, .int c_sz, .int c_step])), (th_numbers, .inl (cI, 24, .inl f_numbers))]
def fX0_remember (a1 : Int32) (a2 : Int32) (a3 : Int32) (f_numbers : Nat → Int32) : Option ((Nat → Int32)) := fX0_remember_b3   1100 a1 a2 a3 (5 : Int32) f_numbers

def fX0_adaptPace_b108 (c_step : Int32) (f_numbers : Nat → Int32) : Option ((Nat → Int32)) := pq_rd 24 f_numbers ((4 : Int32)) fun (v50 : Int32) => pq_rd 24 f_numbers ((4 : Int32)) fun (v53 : Int32) => pq_wr 24 f_numbers ((4 : Int32)) (v50 + (((512 : Int32) - v53) >>> ((4 : Int32) &&& 31))) fun (f56 : Nat → Int32) => some (f56)
abbrev wX0_adaptPace (cI : ClassId) (th : Nat) (th_numbers : Nat) (c_bits : Int32) (c_se : Int32) (c_sz : Int32) (c_step : Int32) (f_numbers : Nat → Int32) : va_W := [(th, .inr (0, [.ref th_numbers, .int c_bits, .int c_se, .int c_sz, .int c_step])), (th_numbers, .inl (cI, 24, .inl f_numbers))]
def fX0_adaptPace (a1 : Int32) (a2 : Int32) (c_step : Int32) (f_numbers : Nat → Int32) : Option ((Nat → Int32)) := pq_rd 24 f_numbers ((2 : Int32)) fun (v2 : Int32) => pq_rd 24 f_numbers ((2 : Int32)) fun (v5 : Int32) => pq_wr 24 f_numbers ((2 : Int32)) (v2 + ((a1 - v5) >>> ((5 : Int32) &&& 31))) fun (f8 : Nat → Int32) => pq_rd 24 f8 ((3 : Int32)) fun (v11 : Int32) => pq_rd 24 f8 ((3 : Int32)) fun (v14 : Int32) => pq_wr 24 f8 ((3 : Int32)) (v11 + ((((4 : Int32) * a1) - v14) >>> ((7 : Int32) &&& 31))) fun (f17 : Nat → Int32) => pq_rd 24 f17 ((2 : Int32)) fun (v20 : Int32) => pq_rd 24 f17 ((3 : Int32)) fun (v23 : Int32) => pq_nm (if 0 ≤ (((4 : Int32) * v20) - v23) then (((4 : Int32) * v20) - v23) else 0 - (((4 : Int32) * v20) - v23)) fun (v25 : Int32) => pq_br (a2 = (0 : Int32)) (pq_br (c_step < (1536 : Int32)) (fX0_adaptPace_b108  c_step f17) (pq_rd 24 f17 ((5 : Int32)) fun (v30 : Int32) => pq_br (v30 = (1 : Int32)) (fX0_adaptPace_b108  c_step f17) (pq_rd 24 f17 ((3 : Int32)) fun (v34 : Int32) => pq_br (v25 < (v34 >>> ((3 : Int32) &&& 31))) (pq_rd 24 f17 ((4 : Int32)) fun (v38 : Int32) => pq_rd 24 f17 ((4 : Int32)) fun (v41 : Int32) => pq_wr 24 f17 ((4 : Int32)) (v38 + ((-v41) >>> ((4 : Int32) &&& 31))) fun (f44 : Nat → Int32) => some (f44)) (fX0_adaptPace_b108  c_step f17)))) (pq_wr 24 f17 ((4 : Int32)) ((256 : Int32)) fun (f47 : Nat → Int32) => some (f47))

def fX0_settle_b193 (c_bits : Int32) (c_se : Int32) (c_sz : Int32) (c_step : Int32) (x2 : Int32) (x5 : Int32) (x7 : Int32) (s1 : Int32) (s2 : Int32) (f_numbers : Nat → Int32) : Option (Int32 × (Nat → Int32)) := pq_wr 24 f_numbers (s1) (s2) fun (f47 : Nat → Int32) => pq_rd 30 pq_t_PACE (x2) fun (v50 : Int32) => pq_cl (fX0_adaptPace v50 x7 c_step f47) fun (f52 : Nat → Int32) => some (x5, f52)
def fX0_settle_b192 (c_bits : Int32) (c_se : Int32) (c_sz : Int32) (c_step : Int32) (x2 : Int32) (x5 : Int32) (x7 : Int32) (s1 : Int32) (f_numbers : Nat → Int32) : Option (Int32 × (Nat → Int32)) := fX0_settle_b193  c_bits c_se c_sz c_step x2 x5 x7 s1 (0 : Int32) f_numbers
def fX0_settle_b154 (c_bits : Int32) (c_se : Int32) (c_sz : Int32) (c_step : Int32) (x2 : Int32) (x5 : Int32) (x6 : Int32) (x7 : Int32) (s1 : Int32) (s2 : Int32) (s3 : Int32) (f_numbers : Nat → Int32) : Option (Int32 × (Nat → Int32)) := pq_cl (fX0_floatOf s2 s3) fun (r35 : Int32) => pq_cl (fX6_sign x6) fun (r37 : Int32) => pq_cl (fX0_remember s1 r35 r37 f_numbers) fun (f39 : Nat → Int32) => pq_br (x7 = (0 : Int32)) (pq_rd 24 f39 ((7 : Int32)) fun (v43 : Int32) => pq_br ((-11776 : Int32) ≤ v43) (fX0_settle_b192  c_bits c_se c_sz c_step x2 x5 x7 (5 : Int32) f39) (fX0_settle_b193  c_bits c_se c_sz c_step x2 x5 x7 (5 : Int32) (1 : Int32) f39)) (fX0_settle_b192  c_bits c_se c_sz c_step x2 x5 x7 (5 : Int32) f39)
def fX0_settle_b132 (c_bits : Int32) (c_se : Int32) (c_sz : Int32) (c_step : Int32) (x2 : Int32) (x3 : Int32) (x4 : Int32) (x5 : Int32) (x6 : Int32) (x7 : Int32) (f_numbers : Nat → Int32) : Option (Int32 × (Nat → Int32)) := pq_cl (fX0_floatOf x4 x3) fun (r30 : Int32) => pq_nm (if 0 ≤ x5 then x5 else 0 - x5) fun (v32 : Int32) => pq_br ((0 : Int32) ≤ x5) (fX0_settle_b154  c_bits c_se c_sz c_step x2 x5 x6 x7 r30 v32 (0 : Int32) f_numbers) (fX0_settle_b154  c_bits c_se c_sz c_step x2 x5 x6 x7 r30 v32 (1 : Int32) f_numbers)
def fX0_settle_b62 (c_bits : Int32) (c_se : Int32) (c_sz : Int32) (c_step : Int32) (x2 : Int32) (x3 : Int32) (x4 : Int32) (s0 : Int32) (f_numbers : Nat → Int32) : Option (Int32 × (Nat → Int32)) := pq_cl (fX6_wrapped s0) fun (r10 : Int32) => pq_cl (fX6_wrapped ((r10 + c_sz) - c_se)) fun (r12 : Int32) => pq_cl (fX0_isTransition x4 f_numbers) fun (r14 : Int32) => pq_rd 30 pq_t_WEIGHT (x2) fun (v17 : Int32) => pq_cl (fX0_adaptStep v17 c_step f_numbers) fun (f19 : Nat → Int32) => pq_br (r14 = (0 : Int32)) (pq_cl (fX0_adaptA2 r12 f19) fun (f22 : Nat → Int32) => pq_cl (fX0_adaptA1 r12 f22) fun (f24 : Nat → Int32) => pq_cl (fX0_adaptZeros x4 x3 c_bits f24) fun (f26 : Nat → Int32) => fX0_settle_b132  c_bits c_se c_sz c_step x2 x3 x4 r10 r12 r14 f26) (pq_cl (fX0_forgetFilters f19) fun (f28 : Nat → Int32) => fX0_settle_b132  c_bits c_se c_sz c_step x2 x3 x4 r10 r12 r14 f28)
def fX0_settle_b23 (c_bits : Int32) (c_se : Int32) (c_sz : Int32) (c_step : Int32) (x2 : Int32) (s0 : Int32) (f_numbers : Nat → Int32) : Option (Int32 × (Nat → Int32)) := pq_rd 30 pq_t_TABLE (x2) fun (v5 : Int32) => pq_cl (fX0_amount (v5 + (c_step >>> ((2 : Int32) &&& 31)))) fun (r7 : Int32) => pq_br (s0 = (0 : Int32)) (fX0_settle_b62  c_bits c_se c_sz c_step x2 s0 r7 (c_se + r7) f_numbers) (fX0_settle_b62  c_bits c_se c_sz c_step x2 s0 r7 (c_se - r7) f_numbers)
abbrev wX0_settle (cI : ClassId) (th : Nat) (th_numbers : Nat) (c_bits : Int32) (c_se : Int32) (c_sz : Int32) (c_step : Int32) (f_numbers : Nat → Int32) : va_W := [(th, .inr (0, [.ref th_numbers, .int c_bits, .int c_se, .int c_sz, .int c_step])), (th_numbers, .inl (cI, 24, .inl f_numbers))]
def fX0_settle (a1 : Int32) (c_bits : Int32) (c_se : Int32) (c_sz : Int32) (c_step : Int32) (f_numbers : Nat → Int32) : Option (Int32 × (Nat → Int32)) := pq_cl (fX0_tablePlace a1 c_bits) fun (r1 : Int32) => pq_br (a1 < ((1 : Int32) <<< ((c_bits - (1 : Int32)) &&& 31))) (fX0_settle_b23  c_bits c_se c_sz c_step r1 (0 : Int32) f_numbers) (fX0_settle_b23  c_bits c_se c_sz c_step r1 (1 : Int32) f_numbers)

abbrev wX0_encode (cI : ClassId) (th : Nat) (th_numbers : Nat) (c_bits : Int32) (c_se : Int32) (c_sz : Int32) (c_step : Int32) (f_numbers : Nat → Int32) : va_W := [(th, .inr (0, [.ref th_numbers, .int c_bits, .int c_se, .int c_sz, .int c_step])), (th_numbers, .inl (cI, 24, .inl f_numbers))]
def fX0_encode (a1 : Int32) (c_bits : Int32) (c_se : Int32) (c_sz : Int32) (c_step : Int32) (f_numbers : Nat → Int32) : Option (Int32 × Int32 × Int32 × Int32 × (Nat → Int32)) := pq_cl (fX0_foresee f_numbers c_se c_sz c_step) fun (u5 : (Int32) × (Int32) × (Int32)) => pq_nm (u5.1) fun (c1 : Int32) => pq_nm (u5.2.1) fun (c2 : Int32) => pq_nm (u5.2.2) fun (c3 : Int32) => pq_cl (fX0_codeOf ((a1 >>> ((2 : Int32) &&& 31)) - c1) c_bits c3) fun (r6 : Int32) => pq_cl (fX0_settle r6 c_bits c1 c2 c3 f_numbers) fun (u11 : (Int32) × (Nat → Int32)) => pq_nm (u11.1) fun (r8 : Int32) => pq_nm (u11.2) fun (f9 : Nat → Int32) => some (r6, c1, c2, c3, f9)

def fX6_limited (a0 : Int32) : Option (Int32) := pq_br ((-32768 : Int32) ≤ a0) (pq_br (a0 ≤ (32767 : Int32)) (some (a0)) (some ((32767 : Int32)))) (some ((-32768 : Int32)))

abbrev wX0_decode (cI : ClassId) (th : Nat) (th_numbers : Nat) (c_bits : Int32) (c_se : Int32) (c_sz : Int32) (c_step : Int32) (f_numbers : Nat → Int32) : va_W := [(th, .inr (0, [.ref th_numbers, .int c_bits, .int c_se, .int c_sz, .int c_step])), (th_numbers, .inl (cI, 24, .inl f_numbers))]
def fX0_decode (a1 : Int32) (c_bits : Int32) (c_se : Int32) (c_sz : Int32) (c_step : Int32) (f_numbers : Nat → Int32) : Option (Int32 × Int32 × Int32 × Int32 × (Nat → Int32)) := pq_cl (fX0_foresee f_numbers c_se c_sz c_step) fun (u5 : (Int32) × (Int32) × (Int32)) => pq_nm (u5.1) fun (c1 : Int32) => pq_nm (u5.2.1) fun (c2 : Int32) => pq_nm (u5.2.2) fun (c3 : Int32) => pq_cl (fX0_settle a1 c_bits c1 c2 c3 f_numbers) fun (u9 : (Int32) × (Nat → Int32)) => pq_nm (u9.1) fun (r6 : Int32) => pq_nm (u9.2) fun (f7 : Nat → Int32) => pq_cl (fX6_limited ((4 : Int32) * r6)) fun (r10 : Int32) => some (r10, c1, c2, c3, f7)

def fX1_begin_b2 (fuel : Nat) (x1 : Int32) (x2 : Int32) (f_numbers : Nat → Int32) : Option ((Nat → Int32)) := match fuel with
  | 0 => none
  | fuel + 1 => pq_br ((23 : Int32) ≤ x2) (pq_wr 23 f_numbers ((1 : Int32)) (x1) fun (f3 : Nat → Int32) => some (f3)) (pq_wr 23 f_numbers (x2) ((0 : Int32)) fun (f6 : Nat → Int32) => pq_nm (x2 + (1 : Int32)) fun (v8 : Int32) => fX1_begin_b2   fuel x1 v8 f6)
abbrev wX1_begin (cI : ClassId) (th : Nat) (th_numbers : Nat) (f_numbers : Nat → Int32) : va_W := [(th, .inr (1, [.ref th_numbers])), (th_numbers, .inl (cI, 23, .inl f_numbers))]
def fX1_begin (a1 : Int32) (f_numbers : Nat → Int32) : Option ((Nat → Int32)) := fX1_begin_b2   1100 a1 (0 : Int32) f_numbers

def fX1_number_b10 (f_numbers : Nat → Int32) : Option (Int32) := some ((-100000 : Int32))
abbrev wX1_number (cI : ClassId) (th : Nat) (th_numbers : Nat) (f_numbers : Nat → Int32) : va_W := [(th, .inr (1, [.ref th_numbers])), (th_numbers, .inl (cI, 23, .inl f_numbers))]
def fX1_number (a1 : Int32) (f_numbers : Nat → Int32) : Option (Int32) := pq_br (a1 < (0 : Int32)) (fX1_number_b10  f_numbers ) (pq_br (a1 < (23 : Int32)) (pq_rd 23 f_numbers (a1) fun (v4 : Int32) => some (v4)) (fX1_number_b10  f_numbers ))

abbrev wX1_error (cI : ClassId) (th : Nat) (th_numbers : Nat) (f_numbers : Nat → Int32) : va_W := [(th, .inr (1, [.ref th_numbers])), (th_numbers, .inl (cI, 23, .inl f_numbers))]
def fX1_error (a1 : Int32) (f_numbers : Nat → Int32) : Option (Int32) := pq_rd 23 f_numbers ((2 : Int32)) fun (v2 : Int32) => pq_cl (fX6_limited (a1 - v2)) fun (r4 : Int32) => some (r4)

abbrev wX1_scaled (cI : ClassId) (th : Nat) (th_numbers : Nat) (f_numbers : Nat → Int32) : va_W := [(th, .inr (1, [.ref th_numbers])), (th_numbers, .inl (cI, 23, .inl f_numbers))]
def fX1_scaled (a1 : Int32) (f_numbers : Nat → Int32) : Option (Int32) := pq_rd 23 f_numbers ((1 : Int32)) fun (v2 : Int32) => some ((a1 * v2) >>> ((12 : Int32) &&& 31))

abbrev wX1_difference (cI : ClassId) (th : Nat) (th_numbers : Nat) (f_numbers : Nat → Int32) : va_W := [(th, .inr (1, [.ref th_numbers])), (th_numbers, .inl (cI, 23, .inl f_numbers))]
def fX1_difference (a1 : Int32) (f_numbers : Nat → Int32) : Option (Int32) := pq_rd 23 f_numbers ((1 : Int32)) fun (v2 : Int32) => some ((v2 * a1) >>> ((15 : Int32) &&& 31))

abbrev wX1_heard (cI : ClassId) (th : Nat) (th_numbers : Nat) (f_numbers : Nat → Int32) : va_W := [(th, .inr (1, [.ref th_numbers])), (th_numbers, .inl (cI, 23, .inl f_numbers))]
def fX1_heard (a1 : Int32) (f_numbers : Nat → Int32) : Option (Int32) := pq_rd 23 f_numbers ((2 : Int32)) fun (v2 : Int32) => pq_cl (fX1_difference a1 f_numbers) fun (r4 : Int32) => pq_cl (fX6_cut (v2 + r4) (-16384 : Int32) (16383 : Int32)) fun (r6 : Int32) => some (r6)

def fX1_adaptScale_b77 (s1 : Int32) (s2 : Int32) (s3 : Int32) (f_numbers : Nat → Int32) : Option ((Nat → Int32)) := pq_wr 23 f_numbers (s1) (s2 * s3) fun (f16 : Nat → Int32) => some (f16)
abbrev wX1_adaptScale (cI : ClassId) (th : Nat) (th_numbers : Nat) (f_numbers : Nat → Int32) : va_W := [(th, .inr (1, [.ref th_numbers])), (th_numbers, .inl (cI, 23, .inl f_numbers))]
def fX1_adaptScale (a1 : Int32) (a2 : Int32) (a3 : Int32) (f_numbers : Nat → Int32) : Option ((Nat → Int32)) := pq_rd 23 f_numbers ((0 : Int32)) fun (v2 : Int32) => pq_cl (fX6_cut ((((127 : Int32) * v2) >>> ((7 : Int32) &&& 31)) + a1) (0 : Int32) a2) fun (r4 : Int32) => pq_rd 32 pq_t_ROOTS ((r4 >>> ((6 : Int32) &&& 31)) &&& (31 : Int32)) fun (v7 : Int32) => pq_nm (a3 - (r4 >>> ((11 : Int32) &&& 31))) fun (v9 : Int32) => pq_wr 23 f_numbers ((0 : Int32)) (r4) fun (f12 : Nat → Int32) => pq_br ((0 : Int32) ≤ v9) (fX1_adaptScale_b77   (1 : Int32) (4 : Int32) (v7 >>> (v9 &&& 31)) f12) (fX1_adaptScale_b77   (1 : Int32) (4 : Int32) (v7 <<< ((-v9) &&& 31)) f12)

def fX1_adaptPoles_b140 (s0 : Int32) (f_numbers : Nat → Int32) : Option ((Nat → Int32)) := pq_rd 23 f_numbers ((5 : Int32)) fun (v38 : Int32) => pq_cl (fX6_limited (s0 + ((v38 * (32640 : Int32)) >>> ((15 : Int32) &&& 31)))) fun (r40 : Int32) => pq_rd 23 f_numbers ((6 : Int32)) fun (v43 : Int32) => pq_nm ((15360 : Int32) - v43) fun (v45 : Int32) => pq_cl (fX6_cut r40 (-v45) v45) fun (r47 : Int32) => pq_wr 23 f_numbers ((5 : Int32)) (r47) fun (f50 : Nat → Int32) => some (f50)
def fX1_adaptPoles_b86 (x2 : Int32) (x4 : Int32) (s0 : Int32) (f_numbers : Nat → Int32) : Option ((Nat → Int32)) := pq_rd 23 f_numbers ((6 : Int32)) fun (v27 : Int32) => pq_nm ((s0 + (x4 >>> ((7 : Int32) &&& 31))) + ((v27 * (32512 : Int32)) >>> ((15 : Int32) &&& 31))) fun (v29 : Int32) => pq_cl (fX6_cut v29 (-12288 : Int32) (12288 : Int32)) fun (r31 : Int32) => pq_wr 23 f_numbers ((6 : Int32)) (r31) fun (f34 : Nat → Int32) => pq_br (x2 = (0 : Int32)) (fX1_adaptPoles_b140   (-192 : Int32) f34) (fX1_adaptPoles_b140   (192 : Int32) f34)
def fX1_adaptPoles_b74 (x2 : Int32) (x3 : Int32) (x4 : Int32) (f_numbers : Nat → Int32) : Option ((Nat → Int32)) := pq_br (x3 = (0 : Int32)) (fX1_adaptPoles_b86   x2 x4 (-128 : Int32) f_numbers) (fX1_adaptPoles_b86   x2 x4 (128 : Int32) f_numbers)
def fX1_adaptPoles_b45 (x2 : Int32) (s0 : Int32) (f_numbers : Nat → Int32) : Option ((Nat → Int32)) := pq_rd 23 f_numbers ((5 : Int32)) fun (v18 : Int32) => pq_cl (fX6_limited ((4 : Int32) * v18)) fun (r20 : Int32) => pq_br (x2 = (0 : Int32)) (fX1_adaptPoles_b74   x2 s0 r20 f_numbers) (pq_nm (if (32767 : Int32) < (-r20) then (32767 : Int32) else (-r20)) fun (v23 : Int32) => fX1_adaptPoles_b74   x2 s0 v23 f_numbers)
def fX1_adaptPoles_b22 (x1 : Int32) (s0 : Int32) (f_numbers : Nat → Int32) : Option ((Nat → Int32)) := pq_cl (fX6_sign x1) fun (r9 : Int32) => pq_rd 23 f_numbers ((16 : Int32)) fun (v12 : Int32) => pq_cl (fX6_sign v12) fun (r14 : Int32) => pq_br (r9 = r14) (fX1_adaptPoles_b45   s0 (1 : Int32) f_numbers) (fX1_adaptPoles_b45   s0 (0 : Int32) f_numbers)
abbrev wX1_adaptPoles (cI : ClassId) (th : Nat) (th_numbers : Nat) (f_numbers : Nat → Int32) : va_W := [(th, .inr (1, [.ref th_numbers])), (th_numbers, .inl (cI, 23, .inl f_numbers))]
def fX1_adaptPoles (a1 : Int32) (f_numbers : Nat → Int32) : Option ((Nat → Int32)) := pq_cl (fX6_sign a1) fun (r1 : Int32) => pq_rd 23 f_numbers ((15 : Int32)) fun (v4 : Int32) => pq_cl (fX6_sign v4) fun (r6 : Int32) => pq_br (r1 = r6) (fX1_adaptPoles_b22   a1 (1 : Int32) f_numbers) (fX1_adaptPoles_b22   a1 (0 : Int32) f_numbers)

def fX1_adaptZeros_b42 (k2 : (Int32) → (Int32) → (Nat → Int32) → Option ((Nat → Int32))) (x1 : Int32) (x2 : Int32) (x3 : Int32) (f_numbers : Nat → Int32) : Option ((Nat → Int32)) := pq_rd 23 f_numbers ((7 : Int32) + x2) fun (v12 : Int32) => pq_cl (fX6_limited (x3 + ((v12 * (32640 : Int32)) >>> ((15 : Int32) &&& 31)))) fun (r14 : Int32) => pq_wr 23 f_numbers ((7 : Int32) + x2) (r14) fun (f17 : Nat → Int32) => pq_nm (x2 + (1 : Int32)) fun (v19 : Int32) => k2 x1 v19 f17
def fX1_adaptZeros_b35 (k2 : (Int32) → (Int32) → (Nat → Int32) → Option ((Nat → Int32))) (x1 : Int32) (x2 : Int32) (s0 : Int32) (f_numbers : Nat → Int32) : Option ((Nat → Int32)) := pq_br (x1 = (0 : Int32)) (fX1_adaptZeros_b42 k2  x1 x2 (0 : Int32) f_numbers) (fX1_adaptZeros_b42 k2  x1 x2 s0 f_numbers)
def fX1_adaptZeros_b2 (fuel : Nat) (x1 : Int32) (x2 : Int32) (f_numbers : Nat → Int32) : Option ((Nat → Int32)) := match fuel with
  | 0 => none
  | fuel + 1 => pq_br ((6 : Int32) ≤ x2) (some (f_numbers)) (pq_cl (fX6_sign x1) fun (r2 : Int32) => pq_rd 23 f_numbers ((17 : Int32) + x2) fun (v5 : Int32) => pq_cl (fX6_sign v5) fun (r7 : Int32) => pq_br (r2 = r7) (fX1_adaptZeros_b35 (fX1_adaptZeros_b2   fuel)  x1 x2 (128 : Int32) f_numbers) (fX1_adaptZeros_b35 (fX1_adaptZeros_b2   fuel)  x1 x2 (-128 : Int32) f_numbers))
abbrev wX1_adaptZeros (cI : ClassId) (th : Nat) (th_numbers : Nat) (f_numbers : Nat → Int32) : va_W := [(th, .inr (1, [.ref th_numbers])), (th_numbers, .inl (cI, 23, .inl f_numbers))]
def fX1_adaptZeros (a1 : Int32) (f_numbers : Nat → Int32) : Option ((Nat → Int32)) := fX1_adaptZeros_b2   1100 a1 (0 : Int32) f_numbers

def fX1_remember_b3 (fuel : Nat) (x1 : Int32) (x2 : Int32) (x3 : Int32) (x4 : Int32) (f_numbers : Nat → Int32) : Option ((Nat → Int32)) := match fuel with
  | 0 => none
  | fuel + 1 => pq_br (x4 ≤ (0 : Int32)) (pq_wr 23 f_numbers ((17 : Int32)) (x1) fun (f3 : Nat → Int32) => pq_rd 23 f3 ((13 : Int32)) fun (v6 : Int32) => pq_wr 23 f3 ((14 : Int32)) (v6) fun (f9 : Nat → Int32) => pq_wr 23 f9 ((13 : Int32)) (x2) fun (f12 : Nat → Int32) => pq_rd 23 f12 ((15 : Int32)) fun (v15 : Int32) => pq_wr 23 f12 ((16 : Int32)) (v15) fun (f18 : Nat → Int32) => pq_wr 23 f18 ((15 : Int32)) (x3) fun (f21 : Nat → Int32) => some (f21)) (pq_rd 23 f_numbers (((17 : Int32) + x4) - (1 : Int32)) fun (v24 : Int32) => pq_wr 23 f_numbers ((17 : Int32) + x4) (v24) fun (f27 : Nat → Int32) => pq_nm (x4 + (-1 : Int32)) fun (v29 : Int32) => fX1_remember_b3   fuel x1 x2 x3 v29 f27)
abbrev wX1_remember (cI : ClassId) (th : Nat) (th_numbers : Nat) (f_numbers : Nat → Int32) : va_W := [(th, .inr (1, [.ref th_numbers])), (th_numbers, .inl (cI, 23, .inl f_numbers))]
def fX1_remember (a1 : Int32) (a2 : Int32) (a3 : Int32) (f_numbers : Nat → Int32) : Option ((Nat → Int32)) := fX1_remember_b3   1100 a1 a2 a3 (5 : Int32) f_numbers

abbrev wX1_product (cI : ClassId) (th : Nat) (th_numbers : Nat) (f_numbers : Nat → Int32) : va_W := [(th, .inr (1, [.ref th_numbers])), (th_numbers, .inl (cI, 23, .inl f_numbers))]
def fX1_product (a1 : Int32) (a2 : Int32) (f_numbers : Nat → Int32) : Option (Int32) := pq_rd 23 f_numbers (a1) fun (v2 : Int32) => pq_rd 23 f_numbers (a2) fun (v5 : Int32) => pq_cl (fX6_limited ((2 : Int32) * v5)) fun (r7 : Int32) => some ((v2 * r7) >>> ((15 : Int32) &&& 31))

def fX1_settle_b71 (fuel : Nat) (x8 : Int32) (x9 : Int32) (f_numbers : Nat → Int32) : Option ((Nat → Int32)) := match fuel with
  | 0 => none
  | fuel + 1 => pq_br ((6 : Int32) ≤ x9) (pq_cl (fX1_product (5 : Int32) (13 : Int32) f_numbers) fun (r22 : Int32) => pq_cl (fX1_product (6 : Int32) (14 : Int32) f_numbers) fun (r24 : Int32) => pq_cl (fX6_limited (r22 + r24)) fun (r26 : Int32) => pq_wr 23 f_numbers ((3 : Int32)) (r26) fun (f29 : Nat → Int32) => pq_cl (fX6_limited x8) fun (r31 : Int32) => pq_wr 23 f29 ((4 : Int32)) (r31) fun (f34 : Nat → Int32) => pq_rd 23 f34 ((3 : Int32)) fun (v37 : Int32) => pq_rd 23 f34 ((4 : Int32)) fun (v40 : Int32) => pq_cl (fX6_limited (v37 + v40)) fun (r42 : Int32) => pq_wr 23 f34 ((2 : Int32)) (r42) fun (f45 : Nat → Int32) => some (f45)) (pq_cl (fX1_product ((7 : Int32) + x9) ((17 : Int32) + x9) f_numbers) fun (r47 : Int32) => pq_nm (x8 + r47) fun (v49 : Int32) => pq_nm (x9 + (1 : Int32)) fun (v51 : Int32) => fX1_settle_b71   fuel v49 v51 f_numbers)
abbrev wX1_settle (cI : ClassId) (th : Nat) (th_numbers : Nat) (f_numbers : Nat → Int32) : va_W := [(th, .inr (1, [.ref th_numbers])), (th_numbers, .inl (cI, 23, .inl f_numbers))]
def fX1_settle (a1 : Int32) (a2 : Int32) (a3 : Int32) (a4 : Int32) (f_numbers : Nat → Int32) : Option ((Nat → Int32)) := pq_cl (fX1_difference a1 f_numbers) fun (r1 : Int32) => pq_rd 23 f_numbers ((2 : Int32)) fun (v4 : Int32) => pq_cl (fX6_limited (v4 + r1)) fun (r6 : Int32) => pq_rd 23 f_numbers ((4 : Int32)) fun (v9 : Int32) => pq_cl (fX6_limited (v9 + r1)) fun (r11 : Int32) => pq_cl (fX1_adaptScale a2 a3 a4 f_numbers) fun (f13 : Nat → Int32) => pq_cl (fX1_adaptPoles r11 f13) fun (f15 : Nat → Int32) => pq_cl (fX1_adaptZeros r1 f15) fun (f17 : Nat → Int32) => pq_cl (fX1_remember r1 r6 r11 f17) fun (f19 : Nat → Int32) => fX1_settle_b71   1100 (0 : Int32) (0 : Int32) f19

def fX2_needed (a0 : Int32) : Option (Int32) := some ((a0 + (7 : Int32)) >>> ((3 : Int32) &&& 31))

def fX2_byteAt_b12 (c_length : Int32) (f_row : Nat → Int32) : Option (Int32) := some ((-100000 : Int32))
abbrev wX2_byteAt (cI : ClassId) (th : Nat) (th_row : Nat) (c_length : Int32) (f_row : Nat → Int32) : va_W := [(th, .inr (2, [.ref th_row, .int c_length])), (th_row, .inl (cI, 1000, .inl f_row))]
def fX2_byteAt (a1 : Int32) (c_length : Int32) (f_row : Nat → Int32) : Option (Int32) := pq_br (a1 < (0 : Int32)) (fX2_byteAt_b12  c_length f_row ) (pq_br (a1 < c_length) (pq_rd 1000 f_row (a1) fun (v4 : Int32) => some (v4)) (fX2_byteAt_b12  c_length f_row ))

abbrev wX2_add (cI : ClassId) (th : Nat) (th_row : Nat) (c_length : Int32) (f_row : Nat → Int32) : va_W := [(th, .inr (2, [.ref th_row, .int c_length])), (th_row, .inl (cI, 1000, .inl f_row))]
def fX2_add (a1 : Int32) (c_length : Int32) (f_row : Nat → Int32) : Option (Int32 × (Nat → Int32)) := pq_br ((1000 : Int32) ≤ c_length) (some (c_length, f_row)) (pq_wr 1000 f_row (c_length) (a1 &&& (255 : Int32)) fun (f3 : Nat → Int32) => pq_nm (c_length + (1 : Int32)) fun (v5 : Int32) => some (v5, f3))

abbrev wX2_addInt (cI : ClassId) (th : Nat) (th_row : Nat) (c_length : Int32) (f_row : Nat → Int32) : va_W := [(th, .inr (2, [.ref th_row, .int c_length])), (th_row, .inl (cI, 1000, .inl f_row))]
def fX2_addInt (a1 : Int32) (c_length : Int32) (f_row : Nat → Int32) : Option (Int32 × (Nat → Int32)) := pq_cl (fX2_add (a1 >>> ((24 : Int32) &&& 31)) c_length f_row) fun (u4 : (Int32) × (Nat → Int32)) => pq_nm (u4.1) fun (c1 : Int32) => pq_nm (u4.2) fun (f2 : Nat → Int32) => pq_cl (fX2_add (a1 >>> ((16 : Int32) &&& 31)) c1 f2) fun (u8 : (Int32) × (Nat → Int32)) => pq_nm (u8.1) fun (c5 : Int32) => pq_nm (u8.2) fun (f6 : Nat → Int32) => pq_cl (fX2_add (a1 >>> ((8 : Int32) &&& 31)) c5 f6) fun (u12 : (Int32) × (Nat → Int32)) => pq_nm (u12.1) fun (c9 : Int32) => pq_nm (u12.2) fun (f10 : Nat → Int32) => pq_cl (fX2_add a1 c9 f10) fun (u16 : (Int32) × (Nat → Int32)) => pq_nm (u16.1) fun (c13 : Int32) => pq_nm (u16.2) fun (f14 : Nat → Int32) => some (c13, f14)

abbrev wX2_addSample (cI : ClassId) (th : Nat) (th_row : Nat) (c_length : Int32) (f_row : Nat → Int32) : va_W := [(th, .inr (2, [.ref th_row, .int c_length])), (th_row, .inl (cI, 1000, .inl f_row))]
def fX2_addSample (a1 : Int32) (c_length : Int32) (f_row : Nat → Int32) : Option (Int32 × (Nat → Int32)) := pq_cl (fX2_add (a1 >>> ((8 : Int32) &&& 31)) c_length f_row) fun (u4 : (Int32) × (Nat → Int32)) => pq_nm (u4.1) fun (c1 : Int32) => pq_nm (u4.2) fun (f2 : Nat → Int32) => pq_cl (fX2_add a1 c1 f2) fun (u8 : (Int32) × (Nat → Int32)) => pq_nm (u8.1) fun (c5 : Int32) => pq_nm (u8.2) fun (f6 : Nat → Int32) => some (c5, f6)

abbrev wX2_sampleAt (cI : ClassId) (th : Nat) (th_row : Nat) (c_length : Int32) (f_row : Nat → Int32) : va_W := [(th, .inr (2, [.ref th_row, .int c_length])), (th_row, .inl (cI, 1000, .inl f_row))]
def fX2_sampleAt (a1 : Int32) (c_length : Int32) (f_row : Nat → Int32) : Option (Int32) := pq_cl (fX2_byteAt a1 c_length f_row) fun (r1 : Int32) => pq_cl (fX2_byteAt (a1 + (1 : Int32)) c_length f_row) fun (r3 : Int32) => pq_cl (fX6_wrapped ((r1 <<< ((8 : Int32) &&& 31)) ||| r3)) fun (r5 : Int32) => some (r5)

def fX2_copyFrom_b10 (c_ot_length : Int32) (f_ot_row : Nat → Int32) (fuel : Nat) (x2 : Int32) (c_length : Int32) (f_row : Nat → Int32) : Option (Int32 × (Nat → Int32)) := match fuel with
  | 0 => none
  | fuel + 1 => pq_br (c_length ≤ x2) (some (c_length, f_row)) (pq_rd 1000 f_ot_row (x2) fun (v3 : Int32) => pq_wr 1000 f_row (x2) (v3) fun (f6 : Nat → Int32) => pq_nm (x2 + (1 : Int32)) fun (v8 : Int32) => fX2_copyFrom_b10  c_ot_length f_ot_row fuel v8 c_length f6)
abbrev wX2_copyFrom (cI : ClassId) (th : Nat) (th_row : Nat) (ot : Nat) (ot_row : Nat) (c_length : Int32) (f_row : Nat → Int32) (c_ot_length : Int32) (f_ot_row : Nat → Int32) : va_W := [(th, .inr (2, [.ref th_row, .int c_length])), (th_row, .inl (cI, 1000, .inl f_row)), (ot, .inr (2, [.ref ot_row, .int c_ot_length])), (ot_row, .inl (cI, 1000, .inl f_ot_row))]
def fX2_copyFrom (c_ot_length : Int32) (f_ot_row : Nat → Int32) (c_length : Int32) (f_row : Nat → Int32) : Option (Int32 × (Nat → Int32)) := fX2_copyFrom_b10  c_ot_length f_ot_row 1100 (0 : Int32) c_ot_length f_row

def fX2_clearFor_b16 (fuel : Nat) (x2 : Int32) (c_length : Int32) (f_row : Nat → Int32) : Option (Int32 × (Nat → Int32)) := match fuel with
  | 0 => none
  | fuel + 1 => pq_br (c_length ≤ x2) (some (c_length, f_row)) (pq_wr 1000 f_row (x2) ((0 : Int32)) fun (f7 : Nat → Int32) => pq_nm (x2 + (1 : Int32)) fun (v9 : Int32) => fX2_clearFor_b16   fuel v9 c_length f7)
abbrev wX2_clearFor (cI : ClassId) (th : Nat) (th_row : Nat) (c_length : Int32) (f_row : Nat → Int32) : va_W := [(th, .inr (2, [.ref th_row, .int c_length])), (th_row, .inl (cI, 1000, .inl f_row))]
def fX2_clearFor (a1 : Int32) (c_length : Int32) (f_row : Nat → Int32) : Option (Int32 × (Nat → Int32)) := pq_cl (fX2_needed a1) fun (r1 : Int32) => pq_nm (if r1 < (1000 : Int32) then r1 else (1000 : Int32)) fun (v3 : Int32) => fX2_clearFor_b16   1100 (0 : Int32) v3 f_row

def fX2_codeBit (a0 : Int32) (a1 : Int32) (a2 : Int32) : Option (Int32) := pq_br (a2 = (0 : Int32)) (some (a0)) (some ((a1 - (1 : Int32)) - a0))

def fX2_byteBit (a0 : Int32) (a1 : Int32) : Option (Int32) := pq_br (a1 = (0 : Int32)) (some (a0 &&& (7 : Int32))) (some ((7 : Int32) - (a0 &&& (7 : Int32))))

def fX2_putCode_b70 (k3 : (Int32) → (Int32) → (Int32) → (Int32) → (Int32) → (Nat → Int32) → Option ((Nat → Int32))) (c_length : Int32) (x1 : Int32) (x2 : Int32) (x3 : Int32) (x4 : Int32) (x5 : Int32) (f_row : Nat → Int32) : Option ((Nat → Int32)) := pq_nm (x5 + (1 : Int32)) fun (v20 : Int32) => k3 x1 x2 x3 x4 v20 f_row
def fX2_putCode_b3 (c_length : Int32) (fuel : Nat) (x1 : Int32) (x2 : Int32) (x3 : Int32) (x4 : Int32) (x5 : Int32) (f_row : Nat → Int32) : Option ((Nat → Int32)) := match fuel with
  | 0 => none
  | fuel + 1 => pq_br (x2 ≤ x5) (some (f_row)) (pq_nm ((x1 * x2) + x5) fun (v2 : Int32) => pq_nm (v2 >>> ((3 : Int32) &&& 31)) fun (v4 : Int32) => pq_cl (fX2_codeBit x5 x2 x3) fun (r6 : Int32) => pq_nm ((x4 >>> (r6 &&& 31)) &&& (1 : Int32)) fun (v8 : Int32) => pq_br (v4 < (0 : Int32)) (fX2_putCode_b70 (fX2_putCode_b3  c_length fuel) c_length x1 x2 x3 x4 x5 f_row) (pq_br (c_length ≤ v4) (fX2_putCode_b70 (fX2_putCode_b3  c_length fuel) c_length x1 x2 x3 x4 x5 f_row) (pq_rd 1000 f_row (v4) fun (v13 : Int32) => pq_cl (fX2_byteBit v2 x3) fun (r15 : Int32) => pq_wr 1000 f_row (v4) (v13 ||| (v8 <<< (r15 &&& 31))) fun (f18 : Nat → Int32) => fX2_putCode_b70 (fX2_putCode_b3  c_length fuel) c_length x1 x2 x3 x4 x5 f18)))
abbrev wX2_putCode (cI : ClassId) (th : Nat) (th_row : Nat) (c_length : Int32) (f_row : Nat → Int32) : va_W := [(th, .inr (2, [.ref th_row, .int c_length])), (th_row, .inl (cI, 1000, .inl f_row))]
def fX2_putCode (a1 : Int32) (a2 : Int32) (a3 : Int32) (a4 : Int32) (c_length : Int32) (f_row : Nat → Int32) : Option ((Nat → Int32)) := fX2_putCode_b3  c_length 1100 a1 a2 a3 a4 (0 : Int32) f_row

def fX2_codeAt_b6 (c_length : Int32) (f_row : Nat → Int32) (fuel : Nat) (x1 : Int32) (x2 : Int32) (x3 : Int32) (x4 : Int32) (x5 : Int32) : Option (Int32) := match fuel with
  | 0 => none
  | fuel + 1 => pq_br (x2 ≤ x5) (some (x4)) (pq_nm ((x1 * x2) + x5) fun (v2 : Int32) => pq_cl (fX2_byteAt (v2 >>> ((3 : Int32) &&& 31)) c_length f_row) fun (r4 : Int32) => pq_cl (fX2_byteBit v2 x3) fun (r6 : Int32) => pq_nm ((r4 >>> (r6 &&& 31)) &&& (1 : Int32)) fun (v8 : Int32) => pq_cl (fX2_codeBit x5 x2 x3) fun (r10 : Int32) => pq_nm (x4 ||| (v8 <<< (r10 &&& 31))) fun (v12 : Int32) => pq_nm (x5 + (1 : Int32)) fun (v14 : Int32) => fX2_codeAt_b6  c_length f_row fuel x1 x2 x3 v12 v14)
abbrev wX2_codeAt (cI : ClassId) (th : Nat) (th_row : Nat) (c_length : Int32) (f_row : Nat → Int32) : va_W := [(th, .inr (2, [.ref th_row, .int c_length])), (th_row, .inl (cI, 1000, .inl f_row))]
def fX2_codeAt (a1 : Int32) (a2 : Int32) (a3 : Int32) (c_length : Int32) (f_row : Nat → Int32) : Option (Int32) := fX2_codeAt_b6  c_length f_row 1100 a1 a2 a3 (0 : Int32) (0 : Int32)

def fX3_segment_b2 (fuel : Nat) (x0 : Int32) (x1 : Int32) (x2 : Int32) : Option (Int32) := match fuel with
  | 0 => none
  | fuel + 1 => pq_br ((7 : Int32) ≤ x2) (some (x2)) (pq_br (x0 < (x1 <<< (x2 &&& 31))) (some (x2)) (pq_nm (x2 + (1 : Int32)) fun (v3 : Int32) => fX3_segment_b2   fuel x0 x1 v3))
def fX3_segment (a0 : Int32) (a1 : Int32) : Option (Int32) := fX3_segment_b2   1100 a0 a1 (0 : Int32)

def fX3_muCode_b37 (x2 : Int32) (x3 : Int32) (s0 : Int32) : Option (Int32) := some (s0 - (((16 : Int32) * x3) + ((x2 >>> ((x3 + (1 : Int32)) &&& 31)) &&& (15 : Int32))))
def fX3_muCode (a0 : Int32) : Option (Int32) := pq_nm (a0 >>> ((2 : Int32) &&& 31)) fun (v1 : Int32) => pq_nm (if 0 ≤ v1 then v1 else 0 - v1) fun (v3 : Int32) => pq_nm (if (8158 : Int32) < v3 then (8158 : Int32) else v3) fun (v5 : Int32) => pq_nm (v5 + (33 : Int32)) fun (v7 : Int32) => pq_cl (fX3_segment v7 (64 : Int32)) fun (r9 : Int32) => pq_br ((0 : Int32) ≤ v1) (fX3_muCode_b37   v7 r9 (255 : Int32)) (fX3_muCode_b37   v7 r9 (127 : Int32))

def fX3_muSample (a0 : Int32) : Option (Int32) := pq_nm ((255 : Int32) - a0) fun (v1 : Int32) => pq_nm (((((8 : Int32) * (v1 &&& (15 : Int32))) + (132 : Int32)) <<< (((v1 >>> ((4 : Int32) &&& 31)) &&& (7 : Int32)) &&& 31)) - (132 : Int32)) fun (v3 : Int32) => pq_br ((v1 &&& (128 : Int32)) = (0 : Int32)) (some (v3)) (some (-v3))

def fX3_aCode_b16 (x0 : Int32) (s0 : Int32) : Option (Int32) := pq_cl (fX3_segment s0 (32 : Int32)) fun (r4 : Int32) => pq_nm (if r4 < (1 : Int32) then (1 : Int32) else r4) fun (v6 : Int32) => pq_nm (((16 : Int32) * r4) + ((s0 >>> (v6 &&& 31)) &&& (15 : Int32))) fun (v8 : Int32) => pq_br ((0 : Int32) ≤ x0) (some (v8 ^^^ (213 : Int32))) (some (v8 ^^^ (85 : Int32)))
def fX3_aCode (a0 : Int32) : Option (Int32) := pq_nm (a0 >>> ((3 : Int32) &&& 31)) fun (v1 : Int32) => pq_br ((0 : Int32) ≤ v1) (fX3_aCode_b16   a0 v1) (fX3_aCode_b16   a0 ((-v1) - (1 : Int32)))

def fX3_aSample_b37 (x1 : Int32) (x2 : Int32) : Option (Int32) := pq_br ((x1 &&& (128 : Int32)) = (0 : Int32)) (some (-x2)) (some (x2))
def fX3_aSample (a0 : Int32) : Option (Int32) := pq_nm (a0 ^^^ (85 : Int32)) fun (v1 : Int32) => pq_nm (((16 : Int32) * (v1 &&& (15 : Int32))) + (8 : Int32)) fun (v3 : Int32) => pq_nm ((v1 >>> ((4 : Int32) &&& 31)) &&& (7 : Int32)) fun (v5 : Int32) => pq_br (v5 ≤ (0 : Int32)) (fX3_aSample_b37   v1 v3) (pq_nm ((v3 + (256 : Int32)) <<< ((v5 - (1 : Int32)) &&& 31)) fun (v8 : Int32) => fX3_aSample_b37   v1 v8)

def fX3_muEdge_b95 (x1 : Int32) (x5 : Int32) (x6 : Int32) (s0 : Int32) (s1 : Int32) : Option (Int32) := pq_nm (if s0 < s1 then s1 else s0) fun (v13 : Int32) => pq_br (v13 ≤ x6) (pq_br (x5 = (0 : Int32)) (pq_br (x1 = (0 : Int32)) (some ((4 : Int32) * v13)) (some (((4 : Int32) * x6) + (3 : Int32)))) (pq_br (x1 = (0 : Int32)) (some ((-4 : Int32) * x6)) (some ((3 : Int32) - ((4 : Int32) * v13))))) (some ((-100000 : Int32)))
def fX3_muEdge_b76 (x1 : Int32) (x3 : Int32) (x4 : Int32) (x5 : Int32) (x6 : Int32) : Option (Int32) := pq_br (x5 = (0 : Int32)) (fX3_muEdge_b95   x1 x5 x6 ((x4 <<< ((x3 + (1 : Int32)) &&& 31)) - (33 : Int32)) (0 : Int32)) (fX3_muEdge_b95   x1 x5 x6 ((x4 <<< ((x3 + (1 : Int32)) &&& 31)) - (33 : Int32)) (1 : Int32))
def fX3_muEdge_b74 (x1 : Int32) (x3 : Int32) (x4 : Int32) (x5 : Int32) (s0 : Int32) : Option (Int32) := fX3_muEdge_b76   x1 x3 x4 x5 s0
def fX3_muEdge_b35 (x1 : Int32) (x3 : Int32) (x4 : Int32) (s0 : Int32) : Option (Int32) := pq_nm ((((x4 + (1 : Int32)) <<< ((x3 + (1 : Int32)) &&& 31)) - (1 : Int32)) - (33 : Int32)) fun (v8 : Int32) => pq_br (v8 = (8158 : Int32)) (pq_br (s0 = (0 : Int32)) (fX3_muEdge_b74   x1 x3 x4 s0 (8191 : Int32)) (fX3_muEdge_b74   x1 x3 x4 s0 (8192 : Int32))) (fX3_muEdge_b76   x1 x3 x4 s0 v8)
def fX3_muEdge (a0 : Int32) (a1 : Int32) : Option (Int32) := pq_nm ((255 : Int32) - a0) fun (v1 : Int32) => pq_nm ((v1 >>> ((4 : Int32) &&& 31)) &&& (7 : Int32)) fun (v3 : Int32) => pq_nm ((16 : Int32) + (v1 &&& (15 : Int32))) fun (v5 : Int32) => pq_br ((v1 &&& (128 : Int32)) = (0 : Int32)) (fX3_muEdge_b35   a1 v3 v5 (0 : Int32)) (fX3_muEdge_b35   a1 v3 v5 (1 : Int32))

def fX3_aEdge_b30 (x1 : Int32) (x2 : Int32) (x3 : Int32) (s0 : Int32) : Option (Int32) := pq_nm (if x3 < (1 : Int32) then (1 : Int32) else x3) fun (v6 : Int32) => pq_nm (s0 <<< (v6 &&& 31)) fun (v8 : Int32) => pq_nm (((s0 + (1 : Int32)) <<< (v6 &&& 31)) - (1 : Int32)) fun (v10 : Int32) => pq_br ((x2 &&& (128 : Int32)) = (0 : Int32)) (pq_br (x1 = (0 : Int32)) (some (((-8 : Int32) * v10) - (8 : Int32))) (some (((-8 : Int32) * v8) - (1 : Int32)))) (pq_br (x1 = (0 : Int32)) (some ((8 : Int32) * v8)) (some (((8 : Int32) * v10) + (7 : Int32))))
def fX3_aEdge (a0 : Int32) (a1 : Int32) : Option (Int32) := pq_nm (a0 ^^^ (85 : Int32)) fun (v1 : Int32) => pq_nm ((v1 >>> ((4 : Int32) &&& 31)) &&& (7 : Int32)) fun (v3 : Int32) => pq_br (v3 = (0 : Int32)) (fX3_aEdge_b30   a1 v1 v3 (v1 &&& (15 : Int32))) (fX3_aEdge_b30   a1 v1 v3 ((16 : Int32) + (v1 &&& (15 : Int32))))

abbrev wX4_isAdpcm (cI : ClassId) (th : Nat) (th_adpcmSpeaker : Nat) (th_adpcmHearer : Nat) (th_wideSpeaker : Nat) (th_wideHearer : Nat) (c_kind : Int32) : va_W := [(th, .inr (3, [.ref th_adpcmSpeaker, .ref th_adpcmHearer, .ref th_wideSpeaker, .ref th_wideHearer, .int c_kind]))]
def fX4_isAdpcm (c_kind : Int32) : Option (Int32) := pq_br (c_kind < (2 : Int32)) (some ((0 : Int32))) (pq_br ((5 : Int32) < c_kind) (some ((0 : Int32))) (some ((1 : Int32))))

abbrev wX4_isWide (cI : ClassId) (th : Nat) (th_adpcmSpeaker : Nat) (th_adpcmHearer : Nat) (th_wideSpeaker : Nat) (th_wideHearer : Nat) (c_kind : Int32) : va_W := [(th, .inr (3, [.ref th_adpcmSpeaker, .ref th_adpcmHearer, .ref th_wideSpeaker, .ref th_wideHearer, .int c_kind]))]
def fX4_isWide (c_kind : Int32) : Option (Int32) := pq_br (c_kind < (6 : Int32)) (some ((0 : Int32))) (some ((1 : Int32)))

def fX5_begin_b20 (fuel : Nat) (x1 : Int32) (c_secondHeard : Int32) (f_low_numbers : Nat → Int32) (f_high_numbers : Nat → Int32) (f_x : Nat → Int32) : Option (Int32 × (Nat → Int32) × (Nat → Int32) × (Nat → Int32)) := match fuel with
  | 0 => none
  | fuel + 1 => pq_br ((24 : Int32) ≤ x1) (some ((0 : Int32), f_low_numbers, f_high_numbers, f_x)) (pq_wr 24 f_x (x1) ((0 : Int32)) fun (f7 : Nat → Int32) => pq_nm (x1 + (1 : Int32)) fun (v9 : Int32) => fX5_begin_b20   fuel v9 c_secondHeard f_low_numbers f_high_numbers f7)
abbrev wX5_begin (cI : ClassId) (th : Nat) (th_low : Nat) (th_low_numbers : Nat) (th_high : Nat) (th_high_numbers : Nat) (th_x : Nat) (c_secondHeard : Int32) (f_low_numbers : Nat → Int32) (f_high_numbers : Nat → Int32) (f_x : Nat → Int32) : va_W := [(th, .inr (4, [.ref th_low, .ref th_high, .ref th_x, .int c_secondHeard])), (th_low, .inr (1, [.ref th_low_numbers])), (th_low_numbers, .inl (cI, 23, .inl f_low_numbers)), (th_high, .inr (1, [.ref th_high_numbers])), (th_high_numbers, .inl (cI, 23, .inl f_high_numbers)), (th_x, .inl (cI, 24, .inl f_x))]
def fX5_begin (c_secondHeard : Int32) (f_low_numbers : Nat → Int32) (f_high_numbers : Nat → Int32) (f_x : Nat → Int32) : Option (Int32 × (Nat → Int32) × (Nat → Int32) × (Nat → Int32)) := pq_cl (fX1_begin (32 : Int32) f_low_numbers) fun (f1 : Nat → Int32) => pq_cl (fX1_begin (8 : Int32) f_high_numbers) fun (f3 : Nat → Int32) => fX5_begin_b20   1100 (0 : Int32) c_secondHeard f1 f3 f_x

abbrev wX4_begin (cI : ClassId) (th : Nat) (th_adpcmSpeaker : Nat) (th_adpcmSpeaker_numbers : Nat) (th_adpcmHearer : Nat) (th_adpcmHearer_numbers : Nat) (th_wideSpeaker : Nat) (th_wideSpeaker_low : Nat) (th_wideSpeaker_low_numbers : Nat) (th_wideSpeaker_high : Nat) (th_wideSpeaker_high_numbers : Nat) (th_wideSpeaker_x : Nat) (th_wideHearer : Nat) (th_wideHearer_low : Nat) (th_wideHearer_low_numbers : Nat) (th_wideHearer_high : Nat) (th_wideHearer_high_numbers : Nat) (th_wideHearer_x : Nat) (c_kind : Int32) (c_adpcmSpeaker_bits : Int32) (c_adpcmSpeaker_se : Int32) (c_adpcmSpeaker_sz : Int32) (c_adpcmSpeaker_step : Int32) (f_adpcmSpeaker_numbers : Nat → Int32) (c_adpcmHearer_bits : Int32) (c_adpcmHearer_se : Int32) (c_adpcmHearer_sz : Int32) (c_adpcmHearer_step : Int32) (f_adpcmHearer_numbers : Nat → Int32) (c_wideSpeaker_secondHeard : Int32) (f_wideSpeaker_low_numbers : Nat → Int32) (f_wideSpeaker_high_numbers : Nat → Int32) (f_wideSpeaker_x : Nat → Int32) (c_wideHearer_secondHeard : Int32) (f_wideHearer_low_numbers : Nat → Int32) (f_wideHearer_high_numbers : Nat → Int32) (f_wideHearer_x : Nat → Int32) : va_W := [(th, .inr (3, [.ref th_adpcmSpeaker, .ref th_adpcmHearer, .ref th_wideSpeaker, .ref th_wideHearer, .int c_kind])), (th_adpcmSpeaker, .inr (0, [.ref th_adpcmSpeaker_numbers, .int c_adpcmSpeaker_bits, .int c_adpcmSpeaker_se, .int c_adpcmSpeaker_sz, .int c_adpcmSpeaker_step])), (th_adpcmSpeaker_numbers, .inl (cI, 24, .inl f_adpcmSpeaker_numbers)), (th_adpcmHearer, .inr (0, [.ref th_adpcmHearer_numbers, .int c_adpcmHearer_bits, .int c_adpcmHearer_se, .int c_adpcmHearer_sz, .int c_adpcmHearer_step])), (th_adpcmHearer_numbers, .inl (cI, 24, .inl f_adpcmHearer_numbers)), (th_wideSpeaker, .inr (4, [.ref th_wideSpeaker_low, .ref th_wideSpeaker_high, .ref th_wideSpeaker_x, .int c_wideSpeaker_secondHeard])), (th_wideSpeaker_low, .inr (1, [.ref th_wideSpeaker_low_numbers])), (th_wideSpeaker_low_numbers, .inl (cI, 23, .inl f_wideSpeaker_low_numbers)), (th_wideSpeaker_high, .inr (1, [.ref th_wideSpeaker_high_numbers])), (th_wideSpeaker_high_numbers, .inl (cI, 23, .inl f_wideSpeaker_high_numbers)), (th_wideSpeaker_x, .inl (cI, 24, .inl f_wideSpeaker_x)), (th_wideHearer, .inr (4, [.ref th_wideHearer_low, .ref th_wideHearer_high, .ref th_wideHearer_x, .int c_wideHearer_secondHeard])), (th_wideHearer_low, .inr (1, [.ref th_wideHearer_low_numbers])), (th_wideHearer_low_numbers, .inl (cI, 23, .inl f_wideHearer_low_numbers)), (th_wideHearer_high, .inr (1, [.ref th_wideHearer_high_numbers])), (th_wideHearer_high_numbers, .inl (cI, 23, .inl f_wideHearer_high_numbers)), (th_wideHearer_x, .inl (cI, 24, .inl f_wideHearer_x))]
def fX4_begin (a1 : Int32) (c_kind : Int32) (c_adpcmSpeaker_bits : Int32) (f_adpcmSpeaker_numbers : Nat → Int32) (c_adpcmHearer_bits : Int32) (f_adpcmHearer_numbers : Nat → Int32) (c_wideSpeaker_secondHeard : Int32) (f_wideSpeaker_low_numbers : Nat → Int32) (f_wideSpeaker_high_numbers : Nat → Int32) (f_wideSpeaker_x : Nat → Int32) (c_wideHearer_secondHeard : Int32) (f_wideHearer_low_numbers : Nat → Int32) (f_wideHearer_high_numbers : Nat → Int32) (f_wideHearer_x : Nat → Int32) : Option (Int32 × Int32 × (Nat → Int32) × Int32 × (Nat → Int32) × Int32 × (Nat → Int32) × (Nat → Int32) × (Nat → Int32) × Int32 × (Nat → Int32) × (Nat → Int32) × (Nat → Int32)) := pq_cl (fX4_isAdpcm a1) fun (r1 : Int32) => pq_br (r1 = (0 : Int32)) (pq_cl (fX4_isWide a1) fun (r4 : Int32) => pq_br (r4 = (0 : Int32)) (some (a1, c_adpcmSpeaker_bits, f_adpcmSpeaker_numbers, c_adpcmHearer_bits, f_adpcmHearer_numbers, c_wideSpeaker_secondHeard, f_wideSpeaker_low_numbers, f_wideSpeaker_high_numbers, f_wideSpeaker_x, c_wideHearer_secondHeard, f_wideHearer_low_numbers, f_wideHearer_high_numbers, f_wideHearer_x)) (pq_cl (fX5_begin c_wideSpeaker_secondHeard f_wideSpeaker_low_numbers f_wideSpeaker_high_numbers f_wideSpeaker_x) fun (u12 : (Int32) × (Nat → Int32) × (Nat → Int32) × (Nat → Int32)) => pq_nm (u12.1) fun (c7 : Int32) => pq_nm (u12.2.1) fun (f8 : Nat → Int32) => pq_nm (u12.2.2.1) fun (f9 : Nat → Int32) => pq_nm (u12.2.2.2) fun (f10 : Nat → Int32) => pq_cl (fX5_begin c_wideHearer_secondHeard f_wideHearer_low_numbers f_wideHearer_high_numbers f_wideHearer_x) fun (u18 : (Int32) × (Nat → Int32) × (Nat → Int32) × (Nat → Int32)) => pq_nm (u18.1) fun (c13 : Int32) => pq_nm (u18.2.1) fun (f14 : Nat → Int32) => pq_nm (u18.2.2.1) fun (f15 : Nat → Int32) => pq_nm (u18.2.2.2) fun (f16 : Nat → Int32) => some (a1, c_adpcmSpeaker_bits, f_adpcmSpeaker_numbers, c_adpcmHearer_bits, f_adpcmHearer_numbers, c7, f8, f9, f10, c13, f14, f15, f16))) (pq_cl (fX0_begin a1 c_adpcmSpeaker_bits f_adpcmSpeaker_numbers) fun (u22 : (Int32) × (Nat → Int32)) => pq_nm (u22.1) fun (c19 : Int32) => pq_nm (u22.2) fun (f20 : Nat → Int32) => pq_cl (fX0_begin a1 c_adpcmHearer_bits f_adpcmHearer_numbers) fun (u26 : (Int32) × (Nat → Int32)) => pq_nm (u26.1) fun (c23 : Int32) => pq_nm (u26.2) fun (f24 : Nat → Int32) => some (a1, c19, f20, c23, f24, c_wideSpeaker_secondHeard, f_wideSpeaker_low_numbers, f_wideSpeaker_high_numbers, f_wideSpeaker_x, c_wideHearer_secondHeard, f_wideHearer_low_numbers, f_wideHearer_high_numbers, f_wideHearer_x))

abbrev wX4_codeBits (cI : ClassId) (th : Nat) (th_adpcmSpeaker : Nat) (th_adpcmHearer : Nat) (th_wideSpeaker : Nat) (th_wideHearer : Nat) (c_kind : Int32) : va_W := [(th, .inr (3, [.ref th_adpcmSpeaker, .ref th_adpcmHearer, .ref th_wideSpeaker, .ref th_wideHearer, .int c_kind]))]
def fX4_codeBits (c_kind : Int32) : Option (Int32) := pq_cl (fX4_isAdpcm c_kind) fun (r1 : Int32) => pq_br (r1 = (0 : Int32)) (some ((8 : Int32))) (some (c_kind))

abbrev wX4_hasCode (cI : ClassId) (th : Nat) (th_adpcmSpeaker : Nat) (th_adpcmHearer : Nat) (th_wideSpeaker : Nat) (th_wideHearer : Nat) (c_kind : Int32) : va_W := [(th, .inr (3, [.ref th_adpcmSpeaker, .ref th_adpcmHearer, .ref th_wideSpeaker, .ref th_wideHearer, .int c_kind]))]
def fX4_hasCode (a1 : Int32) (c_kind : Int32) : Option (Int32) := pq_br (a1 < (0 : Int32)) (some ((0 : Int32))) (pq_cl (fX4_codeBits c_kind) fun (r2 : Int32) => pq_br (((1 : Int32) <<< (r2 &&& 31)) ≤ a1) (some ((0 : Int32))) (some ((1 : Int32))))

def fX5_push_b2 (fuel : Nat) (x1 : Int32) (x2 : Int32) (x3 : Int32) (f_x : Nat → Int32) : Option ((Nat → Int32)) := match fuel with
  | 0 => none
  | fuel + 1 => pq_br ((22 : Int32) ≤ x3) (pq_wr 24 f_x ((22 : Int32)) (x1) fun (f3 : Nat → Int32) => pq_wr 24 f3 ((23 : Int32)) (x2) fun (f6 : Nat → Int32) => some (f6)) (pq_rd 24 f_x (x3 + (2 : Int32)) fun (v9 : Int32) => pq_wr 24 f_x (x3) (v9) fun (f12 : Nat → Int32) => pq_nm (x3 + (1 : Int32)) fun (v14 : Int32) => fX5_push_b2   fuel x1 x2 v14 f12)
abbrev wX5_push (cI : ClassId) (th : Nat) (th_low : Nat) (th_high : Nat) (th_x : Nat) (c_secondHeard : Int32) (f_x : Nat → Int32) : va_W := [(th, .inr (4, [.ref th_low, .ref th_high, .ref th_x, .int c_secondHeard])), (th_x, .inl (cI, 24, .inl f_x))]
def fX5_push (a1 : Int32) (a2 : Int32) (f_x : Nat → Int32) : Option ((Nat → Int32)) := fX5_push_b2   1100 a1 a2 (0 : Int32) f_x

def fX5_evenSum_b4 (f_x : Nat → Int32) (fuel : Nat) (x1 : Int32) (x2 : Int32) : Option (Int32) := match fuel with
  | 0 => none
  | fuel + 1 => pq_br ((12 : Int32) ≤ x2) (some (x1)) (pq_rd 24 f_x ((2 : Int32) * x2) fun (v3 : Int32) => pq_rd 12 pq_t_COEFFICIENTS (x2) fun (v6 : Int32) => pq_nm (x1 + (v3 * v6)) fun (v8 : Int32) => pq_nm (x2 + (1 : Int32)) fun (v10 : Int32) => fX5_evenSum_b4  f_x fuel v8 v10)
abbrev wX5_evenSum (cI : ClassId) (th : Nat) (th_low : Nat) (th_high : Nat) (th_x : Nat) (c_secondHeard : Int32) (f_x : Nat → Int32) : va_W := [(th, .inr (4, [.ref th_low, .ref th_high, .ref th_x, .int c_secondHeard])), (th_x, .inl (cI, 24, .inl f_x))]
def fX5_evenSum (f_x : Nat → Int32) : Option (Int32) := fX5_evenSum_b4  f_x 1100 (0 : Int32) (0 : Int32)

def fX5_oddSum_b4 (f_x : Nat → Int32) (fuel : Nat) (x1 : Int32) (x2 : Int32) : Option (Int32) := match fuel with
  | 0 => none
  | fuel + 1 => pq_br ((12 : Int32) ≤ x2) (some (x1)) (pq_rd 24 f_x (((2 : Int32) * x2) + (1 : Int32)) fun (v3 : Int32) => pq_rd 12 pq_t_COEFFICIENTS ((11 : Int32) - x2) fun (v6 : Int32) => pq_nm (x1 + (v3 * v6)) fun (v8 : Int32) => pq_nm (x2 + (1 : Int32)) fun (v10 : Int32) => fX5_oddSum_b4  f_x fuel v8 v10)
abbrev wX5_oddSum (cI : ClassId) (th : Nat) (th_low : Nat) (th_high : Nat) (th_x : Nat) (c_secondHeard : Int32) (f_x : Nat → Int32) : va_W := [(th, .inr (4, [.ref th_low, .ref th_high, .ref th_x, .int c_secondHeard])), (th_x, .inl (cI, 24, .inl f_x))]
def fX5_oddSum (f_x : Nat → Int32) : Option (Int32) := fX5_oddSum_b4  f_x 1100 (0 : Int32) (0 : Int32)

def fX5_lowCode_b45 (f_low_numbers : Nat → Int32) (x1 : Int32) (x3 : Int32) : Option (Int32) := pq_br (x1 < (0 : Int32)) (pq_br ((3 : Int32) ≤ x3) (some ((34 : Int32) - x3)) (some ((64 : Int32) - x3))) (some ((62 : Int32) - x3))
def fX5_lowCode_b15 (f_low_numbers : Nat → Int32) (fuel : Nat) (x1 : Int32) (x2 : Int32) (x3 : Int32) : Option (Int32) := match fuel with
  | 0 => none
  | fuel + 1 => pq_br ((30 : Int32) ≤ x3) (fX5_lowCode_b45  f_low_numbers x1 x3) (pq_rd 29 pq_t_Q (x3 - (1 : Int32)) fun (v4 : Int32) => pq_cl (fX1_scaled v4 f_low_numbers) fun (r6 : Int32) => pq_br (x2 < r6) (fX5_lowCode_b45  f_low_numbers x1 x3) (pq_nm (x3 + (1 : Int32)) fun (v9 : Int32) => fX5_lowCode_b15  f_low_numbers fuel x1 x2 v9))
def fX5_lowCode_b12 (f_low_numbers : Nat → Int32) (x1 : Int32) (s0 : Int32) : Option (Int32) := fX5_lowCode_b15  f_low_numbers 1100 x1 s0 (1 : Int32)
abbrev wX5_lowCode (cI : ClassId) (th : Nat) (th_high : Nat) (th_x : Nat) (th_low : Nat) (th_low_numbers : Nat) (c_secondHeard : Int32) (f_low_numbers : Nat → Int32) : va_W := [(th, .inr (4, [.ref th_low, .ref th_high, .ref th_x, .int c_secondHeard])), (th_low, .inr (1, [.ref th_low_numbers])), (th_low_numbers, .inl (cI, 23, .inl f_low_numbers))]
def fX5_lowCode (a1 : Int32) (f_low_numbers : Nat → Int32) : Option (Int32) := pq_br ((0 : Int32) ≤ a1) (fX5_lowCode_b12  f_low_numbers a1 a1) (fX5_lowCode_b12  f_low_numbers a1 (-(a1 + (1 : Int32))))

def fX5_highCode_b32 (f_high_numbers : Nat → Int32) (x1 : Int32) (s0 : Int32) : Option (Int32) := pq_br ((0 : Int32) ≤ x1) (some ((2 : Int32) + s0)) (some (s0))
def fX5_highCode_b12 (f_high_numbers : Nat → Int32) (x1 : Int32) (s0 : Int32) : Option (Int32) := pq_cl (fX1_scaled (564 : Int32) f_high_numbers) fun (r2 : Int32) => pq_br (r2 ≤ s0) (fX5_highCode_b32  f_high_numbers x1 (0 : Int32)) (fX5_highCode_b32  f_high_numbers x1 (1 : Int32))
abbrev wX5_highCode (cI : ClassId) (th : Nat) (th_low : Nat) (th_x : Nat) (th_high : Nat) (th_high_numbers : Nat) (c_secondHeard : Int32) (f_high_numbers : Nat → Int32) : va_W := [(th, .inr (4, [.ref th_low, .ref th_high, .ref th_x, .int c_secondHeard])), (th_high, .inr (1, [.ref th_high_numbers])), (th_high_numbers, .inl (cI, 23, .inl f_high_numbers))]
def fX5_highCode (a1 : Int32) (f_high_numbers : Nat → Int32) : Option (Int32) := pq_br ((0 : Int32) ≤ a1) (fX5_highCode_b12  f_high_numbers a1 a1) (fX5_highCode_b12  f_high_numbers a1 (-(a1 + (1 : Int32))))

abbrev wX5_settle (cI : ClassId) (th : Nat) (th_x : Nat) (th_low : Nat) (th_low_numbers : Nat) (th_high : Nat) (th_high_numbers : Nat) (c_secondHeard : Int32) (f_low_numbers : Nat → Int32) (f_high_numbers : Nat → Int32) : va_W := [(th, .inr (4, [.ref th_low, .ref th_high, .ref th_x, .int c_secondHeard])), (th_low, .inr (1, [.ref th_low_numbers])), (th_low_numbers, .inl (cI, 23, .inl f_low_numbers)), (th_high, .inr (1, [.ref th_high_numbers])), (th_high_numbers, .inl (cI, 23, .inl f_high_numbers))]
def fX5_settle (a1 : Int32) (a2 : Int32) (f_low_numbers : Nat → Int32) (f_high_numbers : Nat → Int32) : Option ((Nat → Int32) × (Nat → Int32)) := pq_nm ((a1 >>> ((2 : Int32) &&& 31)) &&& (15 : Int32)) fun (v1 : Int32) => pq_rd 16 pq_t_U (v1) fun (v4 : Int32) => pq_rd 16 pq_t_WL (v1) fun (v7 : Int32) => pq_cl (fX1_settle v4 v7 (18432 : Int32) (8 : Int32) f_low_numbers) fun (f9 : Nat → Int32) => pq_rd 4 pq_t_V (a2 &&& (3 : Int32)) fun (v12 : Int32) => pq_rd 4 pq_t_WH (a2 &&& (3 : Int32)) fun (v15 : Int32) => pq_cl (fX1_settle v12 v15 (22528 : Int32) (10 : Int32) f_high_numbers) fun (f17 : Nat → Int32) => some (f9, f17)

abbrev wX5_encode (cI : ClassId) (th : Nat) (th_low : Nat) (th_low_numbers : Nat) (th_high : Nat) (th_high_numbers : Nat) (th_x : Nat) (c_secondHeard : Int32) (f_low_numbers : Nat → Int32) (f_high_numbers : Nat → Int32) (f_x : Nat → Int32) : va_W := [(th, .inr (4, [.ref th_low, .ref th_high, .ref th_x, .int c_secondHeard])), (th_low, .inr (1, [.ref th_low_numbers])), (th_low_numbers, .inl (cI, 23, .inl f_low_numbers)), (th_high, .inr (1, [.ref th_high_numbers])), (th_high_numbers, .inl (cI, 23, .inl f_high_numbers)), (th_x, .inl (cI, 24, .inl f_x))]
def fX5_encode (a1 : Int32) (a2 : Int32) (f_low_numbers : Nat → Int32) (f_high_numbers : Nat → Int32) (f_x : Nat → Int32) : Option (Int32 × (Nat → Int32) × (Nat → Int32) × (Nat → Int32)) := pq_cl (fX5_push a1 a2 f_x) fun (f1 : Nat → Int32) => pq_cl (fX5_evenSum f1) fun (r3 : Int32) => pq_cl (fX5_oddSum f1) fun (r5 : Int32) => pq_cl (fX1_error ((r5 + r3) >>> ((14 : Int32) &&& 31)) f_low_numbers) fun (r7 : Int32) => pq_cl (fX5_lowCode r7 f_low_numbers) fun (r9 : Int32) => pq_cl (fX1_error ((r5 - r3) >>> ((14 : Int32) &&& 31)) f_high_numbers) fun (r11 : Int32) => pq_cl (fX5_highCode r11 f_high_numbers) fun (r13 : Int32) => pq_cl (fX5_settle r9 r13 f_low_numbers f_high_numbers) fun (u18 : (Nat → Int32) × (Nat → Int32)) => pq_nm (u18.1) fun (f15 : Nat → Int32) => pq_nm (u18.2) fun (f16 : Nat → Int32) => some (((64 : Int32) * r13) + r9, f15, f16, f1)

abbrev wX4_encode (cI : ClassId) (th : Nat) (th_adpcmHearer : Nat) (th_wideHearer : Nat) (th_adpcmSpeaker : Nat) (th_adpcmSpeaker_numbers : Nat) (th_wideSpeaker : Nat) (th_wideSpeaker_low : Nat) (th_wideSpeaker_low_numbers : Nat) (th_wideSpeaker_high : Nat) (th_wideSpeaker_high_numbers : Nat) (th_wideSpeaker_x : Nat) (c_kind : Int32) (c_adpcmSpeaker_bits : Int32) (c_adpcmSpeaker_se : Int32) (c_adpcmSpeaker_sz : Int32) (c_adpcmSpeaker_step : Int32) (f_adpcmSpeaker_numbers : Nat → Int32) (c_wideSpeaker_secondHeard : Int32) (f_wideSpeaker_low_numbers : Nat → Int32) (f_wideSpeaker_high_numbers : Nat → Int32) (f_wideSpeaker_x : Nat → Int32) : va_W := [(th, .inr (3, [.ref th_adpcmSpeaker, .ref th_adpcmHearer, .ref th_wideSpeaker, .ref th_wideHearer, .int c_kind])), (th_adpcmSpeaker, .inr (0, [.ref th_adpcmSpeaker_numbers, .int c_adpcmSpeaker_bits, .int c_adpcmSpeaker_se, .int c_adpcmSpeaker_sz, .int c_adpcmSpeaker_step])), (th_adpcmSpeaker_numbers, .inl (cI, 24, .inl f_adpcmSpeaker_numbers)), (th_wideSpeaker, .inr (4, [.ref th_wideSpeaker_low, .ref th_wideSpeaker_high, .ref th_wideSpeaker_x, .int c_wideSpeaker_secondHeard])), (th_wideSpeaker_low, .inr (1, [.ref th_wideSpeaker_low_numbers])), (th_wideSpeaker_low_numbers, .inl (cI, 23, .inl f_wideSpeaker_low_numbers)), (th_wideSpeaker_high, .inr (1, [.ref th_wideSpeaker_high_numbers])), (th_wideSpeaker_high_numbers, .inl (cI, 23, .inl f_wideSpeaker_high_numbers)), (th_wideSpeaker_x, .inl (cI, 24, .inl f_wideSpeaker_x))]
def fX4_encode (a1 : Int32) (a2 : Int32) (c_kind : Int32) (c_adpcmSpeaker_bits : Int32) (c_adpcmSpeaker_se : Int32) (c_adpcmSpeaker_sz : Int32) (c_adpcmSpeaker_step : Int32) (f_adpcmSpeaker_numbers : Nat → Int32) (f_wideSpeaker_low_numbers : Nat → Int32) (f_wideSpeaker_high_numbers : Nat → Int32) (f_wideSpeaker_x : Nat → Int32) : Option (Int32 × Int32 × Int32 × Int32 × (Nat → Int32) × (Nat → Int32) × (Nat → Int32) × (Nat → Int32)) := pq_cl (fX4_isWide c_kind) fun (r1 : Int32) => pq_br (r1 = (0 : Int32)) (pq_cl (fX4_isAdpcm c_kind) fun (r4 : Int32) => pq_br (r4 = (0 : Int32)) (pq_br (c_kind = (0 : Int32)) (pq_cl (fX3_muCode a1) fun (r10 : Int32) => some (r10, c_adpcmSpeaker_se, c_adpcmSpeaker_sz, c_adpcmSpeaker_step, f_adpcmSpeaker_numbers, f_wideSpeaker_low_numbers, f_wideSpeaker_high_numbers, f_wideSpeaker_x)) (pq_cl (fX3_aCode a1) fun (r8 : Int32) => some (r8, c_adpcmSpeaker_se, c_adpcmSpeaker_sz, c_adpcmSpeaker_step, f_adpcmSpeaker_numbers, f_wideSpeaker_low_numbers, f_wideSpeaker_high_numbers, f_wideSpeaker_x))) (pq_cl (fX0_encode a1 c_adpcmSpeaker_bits c_adpcmSpeaker_se c_adpcmSpeaker_sz c_adpcmSpeaker_step f_adpcmSpeaker_numbers) fun (u18 : (Int32) × (Int32) × (Int32) × (Int32) × (Nat → Int32)) => pq_nm (u18.1) fun (r12 : Int32) => pq_nm (u18.2.1) fun (c13 : Int32) => pq_nm (u18.2.2.1) fun (c14 : Int32) => pq_nm (u18.2.2.2.1) fun (c15 : Int32) => pq_nm (u18.2.2.2.2) fun (f16 : Nat → Int32) => some (r12, c13, c14, c15, f16, f_wideSpeaker_low_numbers, f_wideSpeaker_high_numbers, f_wideSpeaker_x))) (pq_cl (fX5_encode a1 a2 f_wideSpeaker_low_numbers f_wideSpeaker_high_numbers f_wideSpeaker_x) fun (u24 : (Int32) × (Nat → Int32) × (Nat → Int32) × (Nat → Int32)) => pq_nm (u24.1) fun (r19 : Int32) => pq_nm (u24.2.1) fun (f20 : Nat → Int32) => pq_nm (u24.2.2.1) fun (f21 : Nat → Int32) => pq_nm (u24.2.2.2) fun (f22 : Nat → Int32) => some (r19, c_adpcmSpeaker_se, c_adpcmSpeaker_sz, c_adpcmSpeaker_step, f_adpcmSpeaker_numbers, f20, f21, f22))

def fX5_lowFactor (a0 : Int32) (a1 : Int32) : Option (Int32) := pq_br (a1 = (6 : Int32)) (pq_rd 64 pq_t_X_64 (a0 &&& (63 : Int32)) fun (v10 : Int32) => some (v10)) (pq_br (a1 = (7 : Int32)) (pq_rd 32 pq_t_X_56 ((a0 >>> ((1 : Int32) &&& 31)) &&& (31 : Int32)) fun (v7 : Int32) => some (v7)) (pq_rd 16 pq_t_U ((a0 >>> ((2 : Int32) &&& 31)) &&& (15 : Int32)) fun (v4 : Int32) => some (v4)))

abbrev wX5_decode (cI : ClassId) (th : Nat) (th_low : Nat) (th_low_numbers : Nat) (th_high : Nat) (th_high_numbers : Nat) (th_x : Nat) (c_secondHeard : Int32) (f_low_numbers : Nat → Int32) (f_high_numbers : Nat → Int32) (f_x : Nat → Int32) : va_W := [(th, .inr (4, [.ref th_low, .ref th_high, .ref th_x, .int c_secondHeard])), (th_low, .inr (1, [.ref th_low_numbers])), (th_low_numbers, .inl (cI, 23, .inl f_low_numbers)), (th_high, .inr (1, [.ref th_high_numbers])), (th_high_numbers, .inl (cI, 23, .inl f_high_numbers)), (th_x, .inl (cI, 24, .inl f_x))]
def fX5_decode (a1 : Int32) (a2 : Int32) (c_secondHeard : Int32) (f_low_numbers : Nat → Int32) (f_high_numbers : Nat → Int32) (f_x : Nat → Int32) : Option (Int32 × Int32 × (Nat → Int32) × (Nat → Int32) × (Nat → Int32)) := pq_nm (a1 &&& (63 : Int32)) fun (v1 : Int32) => pq_nm ((a1 >>> ((6 : Int32) &&& 31)) &&& (3 : Int32)) fun (v3 : Int32) => pq_cl (fX5_lowFactor v1 a2) fun (r5 : Int32) => pq_cl (fX1_heard r5 f_low_numbers) fun (r7 : Int32) => pq_rd 4 pq_t_V (v3) fun (v10 : Int32) => pq_cl (fX1_heard v10 f_high_numbers) fun (r12 : Int32) => pq_cl (fX5_settle v1 v3 f_low_numbers f_high_numbers) fun (u17 : (Nat → Int32) × (Nat → Int32)) => pq_nm (u17.1) fun (f14 : Nat → Int32) => pq_nm (u17.2) fun (f15 : Nat → Int32) => pq_cl (fX5_push (r7 + r12) (r7 - r12) f_x) fun (f18 : Nat → Int32) => pq_cl (fX5_evenSum f18) fun (r20 : Int32) => pq_cl (fX6_limited (r20 >>> ((11 : Int32) &&& 31))) fun (r22 : Int32) => pq_cl (fX5_oddSum f18) fun (r24 : Int32) => pq_cl (fX6_limited (r24 >>> ((11 : Int32) &&& 31))) fun (r26 : Int32) => some (r26, r22, f14, f15, f18)

abbrev wX4_decode (cI : ClassId) (th : Nat) (th_adpcmSpeaker : Nat) (th_wideSpeaker : Nat) (th_adpcmHearer : Nat) (th_adpcmHearer_numbers : Nat) (th_wideHearer : Nat) (th_wideHearer_low : Nat) (th_wideHearer_low_numbers : Nat) (th_wideHearer_high : Nat) (th_wideHearer_high_numbers : Nat) (th_wideHearer_x : Nat) (c_kind : Int32) (c_adpcmHearer_bits : Int32) (c_adpcmHearer_se : Int32) (c_adpcmHearer_sz : Int32) (c_adpcmHearer_step : Int32) (f_adpcmHearer_numbers : Nat → Int32) (c_wideHearer_secondHeard : Int32) (f_wideHearer_low_numbers : Nat → Int32) (f_wideHearer_high_numbers : Nat → Int32) (f_wideHearer_x : Nat → Int32) : va_W := [(th, .inr (3, [.ref th_adpcmSpeaker, .ref th_adpcmHearer, .ref th_wideSpeaker, .ref th_wideHearer, .int c_kind])), (th_adpcmHearer, .inr (0, [.ref th_adpcmHearer_numbers, .int c_adpcmHearer_bits, .int c_adpcmHearer_se, .int c_adpcmHearer_sz, .int c_adpcmHearer_step])), (th_adpcmHearer_numbers, .inl (cI, 24, .inl f_adpcmHearer_numbers)), (th_wideHearer, .inr (4, [.ref th_wideHearer_low, .ref th_wideHearer_high, .ref th_wideHearer_x, .int c_wideHearer_secondHeard])), (th_wideHearer_low, .inr (1, [.ref th_wideHearer_low_numbers])), (th_wideHearer_low_numbers, .inl (cI, 23, .inl f_wideHearer_low_numbers)), (th_wideHearer_high, .inr (1, [.ref th_wideHearer_high_numbers])), (th_wideHearer_high_numbers, .inl (cI, 23, .inl f_wideHearer_high_numbers)), (th_wideHearer_x, .inl (cI, 24, .inl f_wideHearer_x))]
def fX4_decode (a1 : Int32) (c_kind : Int32) (c_adpcmHearer_bits : Int32) (c_adpcmHearer_se : Int32) (c_adpcmHearer_sz : Int32) (c_adpcmHearer_step : Int32) (f_adpcmHearer_numbers : Nat → Int32) (c_wideHearer_secondHeard : Int32) (f_wideHearer_low_numbers : Nat → Int32) (f_wideHearer_high_numbers : Nat → Int32) (f_wideHearer_x : Nat → Int32) : Option (Int32 × Int32 × Int32 × Int32 × (Nat → Int32) × Int32 × (Nat → Int32) × (Nat → Int32) × (Nat → Int32)) := pq_cl (fX4_isWide c_kind) fun (r1 : Int32) => pq_br (r1 = (0 : Int32)) (pq_cl (fX4_isAdpcm c_kind) fun (r4 : Int32) => pq_br (r4 = (0 : Int32)) (pq_br (c_kind = (0 : Int32)) (pq_cl (fX3_muSample a1) fun (r10 : Int32) => some (r10, c_adpcmHearer_se, c_adpcmHearer_sz, c_adpcmHearer_step, f_adpcmHearer_numbers, c_wideHearer_secondHeard, f_wideHearer_low_numbers, f_wideHearer_high_numbers, f_wideHearer_x)) (pq_cl (fX3_aSample a1) fun (r8 : Int32) => some (r8, c_adpcmHearer_se, c_adpcmHearer_sz, c_adpcmHearer_step, f_adpcmHearer_numbers, c_wideHearer_secondHeard, f_wideHearer_low_numbers, f_wideHearer_high_numbers, f_wideHearer_x))) (pq_cl (fX0_decode a1 c_adpcmHearer_bits c_adpcmHearer_se c_adpcmHearer_sz c_adpcmHearer_step f_adpcmHearer_numbers) fun (u18 : (Int32) × (Int32) × (Int32) × (Int32) × (Nat → Int32)) => pq_nm (u18.1) fun (r12 : Int32) => pq_nm (u18.2.1) fun (c13 : Int32) => pq_nm (u18.2.2.1) fun (c14 : Int32) => pq_nm (u18.2.2.2.1) fun (c15 : Int32) => pq_nm (u18.2.2.2.2) fun (f16 : Nat → Int32) => some (r12, c13, c14, c15, f16, c_wideHearer_secondHeard, f_wideHearer_low_numbers, f_wideHearer_high_numbers, f_wideHearer_x))) (pq_cl (fX5_decode a1 c_kind c_wideHearer_secondHeard f_wideHearer_low_numbers f_wideHearer_high_numbers f_wideHearer_x) fun (u25 : (Int32) × (Int32) × (Nat → Int32) × (Nat → Int32) × (Nat → Int32)) => pq_nm (u25.1) fun (r19 : Int32) => pq_nm (u25.2.1) fun (c20 : Int32) => pq_nm (u25.2.2.1) fun (f21 : Nat → Int32) => pq_nm (u25.2.2.2.1) fun (f22 : Nat → Int32) => pq_nm (u25.2.2.2.2) fun (f23 : Nat → Int32) => some (r19, c_adpcmHearer_se, c_adpcmHearer_sz, c_adpcmHearer_step, f_adpcmHearer_numbers, c20, f21, f22, f23))

abbrev wX4_secondHeard (cI : ClassId) (th : Nat) (th_adpcmSpeaker : Nat) (th_adpcmHearer : Nat) (th_wideSpeaker : Nat) (th_wideHearer : Nat) (th_wideHearer_low : Nat) (th_wideHearer_high : Nat) (th_wideHearer_x : Nat) (c_kind : Int32) (c_wideHearer_secondHeard : Int32) : va_W := [(th, .inr (3, [.ref th_adpcmSpeaker, .ref th_adpcmHearer, .ref th_wideSpeaker, .ref th_wideHearer, .int c_kind])), (th_wideHearer, .inr (4, [.ref th_wideHearer_low, .ref th_wideHearer_high, .ref th_wideHearer_x, .int c_wideHearer_secondHeard]))]
def fX4_secondHeard (c_wideHearer_secondHeard : Int32) : Option (Int32) := some (c_wideHearer_secondHeard)

abbrev wX5_number (cI : ClassId) (th : Nat) (th_low : Nat) (th_low_numbers : Nat) (th_high : Nat) (th_high_numbers : Nat) (th_x : Nat) (c_secondHeard : Int32) (f_low_numbers : Nat → Int32) (f_high_numbers : Nat → Int32) (f_x : Nat → Int32) : va_W := [(th, .inr (4, [.ref th_low, .ref th_high, .ref th_x, .int c_secondHeard])), (th_low, .inr (1, [.ref th_low_numbers])), (th_low_numbers, .inl (cI, 23, .inl f_low_numbers)), (th_high, .inr (1, [.ref th_high_numbers])), (th_high_numbers, .inl (cI, 23, .inl f_high_numbers)), (th_x, .inl (cI, 24, .inl f_x))]
def fX5_number (a1 : Int32) (f_low_numbers : Nat → Int32) (f_high_numbers : Nat → Int32) (f_x : Nat → Int32) : Option (Int32) := pq_br ((30 : Int32) ≤ a1) (pq_br ((60 : Int32) ≤ a1) (pq_br ((84 : Int32) ≤ a1) (some ((-100000 : Int32))) (pq_rd 24 f_x (a1 - (60 : Int32)) fun (v5 : Int32) => some (v5))) (pq_cl (fX1_number (a1 - (30 : Int32)) f_high_numbers) fun (r7 : Int32) => some (r7))) (pq_cl (fX1_number a1 f_low_numbers) fun (r9 : Int32) => some (r9))

abbrev wX4_number (cI : ClassId) (th : Nat) (th_adpcmSpeaker : Nat) (th_adpcmSpeaker_numbers : Nat) (th_adpcmHearer : Nat) (th_adpcmHearer_numbers : Nat) (th_wideSpeaker : Nat) (th_wideSpeaker_low : Nat) (th_wideSpeaker_low_numbers : Nat) (th_wideSpeaker_high : Nat) (th_wideSpeaker_high_numbers : Nat) (th_wideSpeaker_x : Nat) (th_wideHearer : Nat) (th_wideHearer_low : Nat) (th_wideHearer_low_numbers : Nat) (th_wideHearer_high : Nat) (th_wideHearer_high_numbers : Nat) (th_wideHearer_x : Nat) (c_kind : Int32) (c_adpcmSpeaker_bits : Int32) (c_adpcmSpeaker_se : Int32) (c_adpcmSpeaker_sz : Int32) (c_adpcmSpeaker_step : Int32) (f_adpcmSpeaker_numbers : Nat → Int32) (c_adpcmHearer_bits : Int32) (c_adpcmHearer_se : Int32) (c_adpcmHearer_sz : Int32) (c_adpcmHearer_step : Int32) (f_adpcmHearer_numbers : Nat → Int32) (c_wideSpeaker_secondHeard : Int32) (f_wideSpeaker_low_numbers : Nat → Int32) (f_wideSpeaker_high_numbers : Nat → Int32) (f_wideSpeaker_x : Nat → Int32) (c_wideHearer_secondHeard : Int32) (f_wideHearer_low_numbers : Nat → Int32) (f_wideHearer_high_numbers : Nat → Int32) (f_wideHearer_x : Nat → Int32) : va_W := [(th, .inr (3, [.ref th_adpcmSpeaker, .ref th_adpcmHearer, .ref th_wideSpeaker, .ref th_wideHearer, .int c_kind])), (th_adpcmSpeaker, .inr (0, [.ref th_adpcmSpeaker_numbers, .int c_adpcmSpeaker_bits, .int c_adpcmSpeaker_se, .int c_adpcmSpeaker_sz, .int c_adpcmSpeaker_step])), (th_adpcmSpeaker_numbers, .inl (cI, 24, .inl f_adpcmSpeaker_numbers)), (th_adpcmHearer, .inr (0, [.ref th_adpcmHearer_numbers, .int c_adpcmHearer_bits, .int c_adpcmHearer_se, .int c_adpcmHearer_sz, .int c_adpcmHearer_step])), (th_adpcmHearer_numbers, .inl (cI, 24, .inl f_adpcmHearer_numbers)), (th_wideSpeaker, .inr (4, [.ref th_wideSpeaker_low, .ref th_wideSpeaker_high, .ref th_wideSpeaker_x, .int c_wideSpeaker_secondHeard])), (th_wideSpeaker_low, .inr (1, [.ref th_wideSpeaker_low_numbers])), (th_wideSpeaker_low_numbers, .inl (cI, 23, .inl f_wideSpeaker_low_numbers)), (th_wideSpeaker_high, .inr (1, [.ref th_wideSpeaker_high_numbers])), (th_wideSpeaker_high_numbers, .inl (cI, 23, .inl f_wideSpeaker_high_numbers)), (th_wideSpeaker_x, .inl (cI, 24, .inl f_wideSpeaker_x)), (th_wideHearer, .inr (4, [.ref th_wideHearer_low, .ref th_wideHearer_high, .ref th_wideHearer_x, .int c_wideHearer_secondHeard])), (th_wideHearer_low, .inr (1, [.ref th_wideHearer_low_numbers])), (th_wideHearer_low_numbers, .inl (cI, 23, .inl f_wideHearer_low_numbers)), (th_wideHearer_high, .inr (1, [.ref th_wideHearer_high_numbers])), (th_wideHearer_high_numbers, .inl (cI, 23, .inl f_wideHearer_high_numbers)), (th_wideHearer_x, .inl (cI, 24, .inl f_wideHearer_x))]
def fX4_number (a1 : Int32) (a2 : Int32) (c_kind : Int32) (f_adpcmSpeaker_numbers : Nat → Int32) (f_adpcmHearer_numbers : Nat → Int32) (f_wideSpeaker_low_numbers : Nat → Int32) (f_wideSpeaker_high_numbers : Nat → Int32) (f_wideSpeaker_x : Nat → Int32) (f_wideHearer_low_numbers : Nat → Int32) (f_wideHearer_high_numbers : Nat → Int32) (f_wideHearer_x : Nat → Int32) : Option (Int32) := pq_cl (fX4_isWide c_kind) fun (r1 : Int32) => pq_br (r1 = (0 : Int32)) (pq_cl (fX4_isAdpcm c_kind) fun (r4 : Int32) => pq_br (r4 = (0 : Int32)) (some ((-100000 : Int32))) (pq_br (a1 = (0 : Int32)) (pq_cl (fX0_number a2 f_adpcmHearer_numbers) fun (r8 : Int32) => some (r8)) (pq_cl (fX0_number a2 f_adpcmSpeaker_numbers) fun (r10 : Int32) => some (r10)))) (pq_br (a1 = (0 : Int32)) (pq_cl (fX5_number a2 f_wideHearer_low_numbers f_wideHearer_high_numbers f_wideHearer_x) fun (r13 : Int32) => some (r13)) (pq_cl (fX5_number a2 f_wideSpeaker_low_numbers f_wideSpeaker_high_numbers f_wideSpeaker_x) fun (r15 : Int32) => some (r15)))

abbrev wX6_open_o (cI : ClassId) (th : Nat) (th_lines : Nat) (th_tape : Nat) (th_result : Nat) : va_W := [(th, .inr (5, [.ref th_lines, .ref th_tape, .ref th_result]))]
def fX6_open_o (a1 : Int32) (a2 : Int32) : Option (Int32) := pq_br (a1 < (0 : Int32)) (some ((0 : Int32))) (pq_br ((4 : Int32) ≤ a1) (some ((0 : Int32))) (pq_br (a2 < (0 : Int32)) (some ((0 : Int32))) (pq_br (a2 ≤ (8 : Int32)) (none) (some ((0 : Int32))))))

abbrev wX6_open_i (cI : ClassId) (cL : ClassId) (La : Nat → Nat) (th : Nat) (th_tape : Nat) (th_result : Nat) (th_lines : Nat) (ln : Nat) (ln_adpcmSpeaker : Nat) (ln_adpcmSpeaker_numbers : Nat) (ln_adpcmHearer : Nat) (ln_adpcmHearer_numbers : Nat) (ln_wideSpeaker : Nat) (ln_wideSpeaker_low : Nat) (ln_wideSpeaker_low_numbers : Nat) (ln_wideSpeaker_high : Nat) (ln_wideSpeaker_high_numbers : Nat) (ln_wideSpeaker_x : Nat) (ln_wideHearer : Nat) (ln_wideHearer_low : Nat) (ln_wideHearer_low_numbers : Nat) (ln_wideHearer_high : Nat) (ln_wideHearer_high_numbers : Nat) (ln_wideHearer_x : Nat) (c_ln_kind : Int32) (c_ln_adpcmSpeaker_bits : Int32) (c_ln_adpcmSpeaker_se : Int32) (c_ln_adpcmSpeaker_sz : Int32) (c_ln_adpcmSpeaker_step : Int32) (f_ln_adpcmSpeaker_numbers : Nat → Int32) (c_ln_adpcmHearer_bits : Int32) (c_ln_adpcmHearer_se : Int32) (c_ln_adpcmHearer_sz : Int32) (c_ln_adpcmHearer_step : Int32) (f_ln_adpcmHearer_numbers : Nat → Int32) (c_ln_wideSpeaker_secondHeard : Int32) (f_ln_wideSpeaker_low_numbers : Nat → Int32) (f_ln_wideSpeaker_high_numbers : Nat → Int32) (f_ln_wideSpeaker_x : Nat → Int32) (c_ln_wideHearer_secondHeard : Int32) (f_ln_wideHearer_low_numbers : Nat → Int32) (f_ln_wideHearer_high_numbers : Nat → Int32) (f_ln_wideHearer_x : Nat → Int32) : va_W := [(th, .inr (5, [.ref th_lines, .ref th_tape, .ref th_result])), (th_lines, .inl (cL, 4, .inr (.inr (.inr (.inr (fun j => some (La j))))))), (ln, .inr (3, [.ref ln_adpcmSpeaker, .ref ln_adpcmHearer, .ref ln_wideSpeaker, .ref ln_wideHearer, .int c_ln_kind])), (ln_adpcmSpeaker, .inr (0, [.ref ln_adpcmSpeaker_numbers, .int c_ln_adpcmSpeaker_bits, .int c_ln_adpcmSpeaker_se, .int c_ln_adpcmSpeaker_sz, .int c_ln_adpcmSpeaker_step])), (ln_adpcmSpeaker_numbers, .inl (cI, 24, .inl f_ln_adpcmSpeaker_numbers)), (ln_adpcmHearer, .inr (0, [.ref ln_adpcmHearer_numbers, .int c_ln_adpcmHearer_bits, .int c_ln_adpcmHearer_se, .int c_ln_adpcmHearer_sz, .int c_ln_adpcmHearer_step])), (ln_adpcmHearer_numbers, .inl (cI, 24, .inl f_ln_adpcmHearer_numbers)), (ln_wideSpeaker, .inr (4, [.ref ln_wideSpeaker_low, .ref ln_wideSpeaker_high, .ref ln_wideSpeaker_x, .int c_ln_wideSpeaker_secondHeard])), (ln_wideSpeaker_low, .inr (1, [.ref ln_wideSpeaker_low_numbers])), (ln_wideSpeaker_low_numbers, .inl (cI, 23, .inl f_ln_wideSpeaker_low_numbers)), (ln_wideSpeaker_high, .inr (1, [.ref ln_wideSpeaker_high_numbers])), (ln_wideSpeaker_high_numbers, .inl (cI, 23, .inl f_ln_wideSpeaker_high_numbers)), (ln_wideSpeaker_x, .inl (cI, 24, .inl f_ln_wideSpeaker_x)), (ln_wideHearer, .inr (4, [.ref ln_wideHearer_low, .ref ln_wideHearer_high, .ref ln_wideHearer_x, .int c_ln_wideHearer_secondHeard])), (ln_wideHearer_low, .inr (1, [.ref ln_wideHearer_low_numbers])), (ln_wideHearer_low_numbers, .inl (cI, 23, .inl f_ln_wideHearer_low_numbers)), (ln_wideHearer_high, .inr (1, [.ref ln_wideHearer_high_numbers])), (ln_wideHearer_high_numbers, .inl (cI, 23, .inl f_ln_wideHearer_high_numbers)), (ln_wideHearer_x, .inl (cI, 24, .inl f_ln_wideHearer_x))]
def fX6_open_i (a1 : Int32) (a2 : Int32) (c_ln_kind : Int32) (c_ln_adpcmSpeaker_bits : Int32) (f_ln_adpcmSpeaker_numbers : Nat → Int32) (c_ln_adpcmHearer_bits : Int32) (f_ln_adpcmHearer_numbers : Nat → Int32) (c_ln_wideSpeaker_secondHeard : Int32) (f_ln_wideSpeaker_low_numbers : Nat → Int32) (f_ln_wideSpeaker_high_numbers : Nat → Int32) (f_ln_wideSpeaker_x : Nat → Int32) (c_ln_wideHearer_secondHeard : Int32) (f_ln_wideHearer_low_numbers : Nat → Int32) (f_ln_wideHearer_high_numbers : Nat → Int32) (f_ln_wideHearer_x : Nat → Int32) : Option (Int32 × Int32 × Int32 × (Nat → Int32) × Int32 × (Nat → Int32) × Int32 × (Nat → Int32) × (Nat → Int32) × (Nat → Int32) × Int32 × (Nat → Int32) × (Nat → Int32) × (Nat → Int32)) := pq_br (a1 < (0 : Int32)) (some ((0 : Int32), c_ln_kind, c_ln_adpcmSpeaker_bits, f_ln_adpcmSpeaker_numbers, c_ln_adpcmHearer_bits, f_ln_adpcmHearer_numbers, c_ln_wideSpeaker_secondHeard, f_ln_wideSpeaker_low_numbers, f_ln_wideSpeaker_high_numbers, f_ln_wideSpeaker_x, c_ln_wideHearer_secondHeard, f_ln_wideHearer_low_numbers, f_ln_wideHearer_high_numbers, f_ln_wideHearer_x)) (pq_br ((4 : Int32) ≤ a1) (some ((0 : Int32), c_ln_kind, c_ln_adpcmSpeaker_bits, f_ln_adpcmSpeaker_numbers, c_ln_adpcmHearer_bits, f_ln_adpcmHearer_numbers, c_ln_wideSpeaker_secondHeard, f_ln_wideSpeaker_low_numbers, f_ln_wideSpeaker_high_numbers, f_ln_wideSpeaker_x, c_ln_wideHearer_secondHeard, f_ln_wideHearer_low_numbers, f_ln_wideHearer_high_numbers, f_ln_wideHearer_x)) (pq_br (a2 < (0 : Int32)) (some ((0 : Int32), c_ln_kind, c_ln_adpcmSpeaker_bits, f_ln_adpcmSpeaker_numbers, c_ln_adpcmHearer_bits, f_ln_adpcmHearer_numbers, c_ln_wideSpeaker_secondHeard, f_ln_wideSpeaker_low_numbers, f_ln_wideSpeaker_high_numbers, f_ln_wideSpeaker_x, c_ln_wideHearer_secondHeard, f_ln_wideHearer_low_numbers, f_ln_wideHearer_high_numbers, f_ln_wideHearer_x)) (pq_br (a2 ≤ (8 : Int32)) (pq_ix 4 a1 <| pq_cl (fX4_begin a2 c_ln_kind c_ln_adpcmSpeaker_bits f_ln_adpcmSpeaker_numbers c_ln_adpcmHearer_bits f_ln_adpcmHearer_numbers c_ln_wideSpeaker_secondHeard f_ln_wideSpeaker_low_numbers f_ln_wideSpeaker_high_numbers f_ln_wideSpeaker_x c_ln_wideHearer_secondHeard f_ln_wideHearer_low_numbers f_ln_wideHearer_high_numbers f_ln_wideHearer_x) fun (u20 : (Int32) × (Int32) × (Nat → Int32) × (Int32) × (Nat → Int32) × (Int32) × (Nat → Int32) × (Nat → Int32) × (Nat → Int32) × (Int32) × (Nat → Int32) × (Nat → Int32) × (Nat → Int32)) => pq_nm (u20.1) fun (c6 : Int32) => pq_nm (u20.2.1) fun (c7 : Int32) => pq_nm (u20.2.2.1) fun (f8 : Nat → Int32) => pq_nm (u20.2.2.2.1) fun (c9 : Int32) => pq_nm (u20.2.2.2.2.1) fun (f10 : Nat → Int32) => pq_nm (u20.2.2.2.2.2.1) fun (c11 : Int32) => pq_nm (u20.2.2.2.2.2.2.1) fun (f12 : Nat → Int32) => pq_nm (u20.2.2.2.2.2.2.2.1) fun (f13 : Nat → Int32) => pq_nm (u20.2.2.2.2.2.2.2.2.1) fun (f14 : Nat → Int32) => pq_nm (u20.2.2.2.2.2.2.2.2.2.1) fun (c15 : Int32) => pq_nm (u20.2.2.2.2.2.2.2.2.2.2.1) fun (f16 : Nat → Int32) => pq_nm (u20.2.2.2.2.2.2.2.2.2.2.2.1) fun (f17 : Nat → Int32) => pq_nm (u20.2.2.2.2.2.2.2.2.2.2.2.2) fun (f18 : Nat → Int32) => some ((1 : Int32), c6, c7, f8, c9, f10, c11, f12, f13, f14, c15, f16, f17, f18)) (some ((0 : Int32), c_ln_kind, c_ln_adpcmSpeaker_bits, f_ln_adpcmSpeaker_numbers, c_ln_adpcmHearer_bits, f_ln_adpcmHearer_numbers, c_ln_wideSpeaker_secondHeard, f_ln_wideSpeaker_low_numbers, f_ln_wideSpeaker_high_numbers, f_ln_wideSpeaker_x, c_ln_wideHearer_secondHeard, f_ln_wideHearer_low_numbers, f_ln_wideHearer_high_numbers, f_ln_wideHearer_x)))))

abbrev wX6_openLine_o (cI : ClassId) (th : Nat) (th_lines : Nat) (th_tape : Nat) (th_result : Nat) : va_W := [(th, .inr (5, [.ref th_lines, .ref th_tape, .ref th_result]))]
def fX6_openLine_o (a1 : Int32) : Option (Unit) := pq_br (a1 < (0 : Int32)) (some ()) (pq_br (a1 < (4 : Int32)) (none) (some ()))

abbrev wX6_openLine_i (cI : ClassId) (cL : ClassId) (La : Nat → Nat) (th : Nat) (th_tape : Nat) (th_result : Nat) (th_lines : Nat) (ln : Nat) (ln_adpcmSpeaker : Nat) (ln_adpcmHearer : Nat) (ln_wideSpeaker : Nat) (ln_wideHearer : Nat) (c_ln_kind : Int32) : va_W := [(th, .inr (5, [.ref th_lines, .ref th_tape, .ref th_result])), (th_lines, .inl (cL, 4, .inr (.inr (.inr (.inr (fun j => some (La j))))))), (ln, .inr (3, [.ref ln_adpcmSpeaker, .ref ln_adpcmHearer, .ref ln_wideSpeaker, .ref ln_wideHearer, .int c_ln_kind]))]
def fX6_openLine_i (a1 : Int32) (c_ln_kind : Int32) : Option (Int32) := pq_br (a1 < (0 : Int32)) (some ((0 : Int32))) (pq_br (a1 < (4 : Int32)) (pq_ix 4 a1 <| pq_br (c_ln_kind = (-100000 : Int32)) (some ((0 : Int32))) (some ((1 : Int32)))) (some ((0 : Int32))))

abbrev wX6_kind_o (cI : ClassId) (th : Nat) (th_lines : Nat) (th_tape : Nat) (th_result : Nat) : va_W := [(th, .inr (5, [.ref th_lines, .ref th_tape, .ref th_result]))]
def fX6_kind_o (a1 : Int32) : Option (Int32) := pq_cl (fX6_openLine_o a1) fun (u2 : Unit) => some ((-100000 : Int32))

abbrev wX6_kind_i (cI : ClassId) (cL : ClassId) (La : Nat → Nat) (th : Nat) (th_tape : Nat) (th_result : Nat) (th_lines : Nat) (ln : Nat) (ln_adpcmSpeaker : Nat) (ln_adpcmHearer : Nat) (ln_wideSpeaker : Nat) (ln_wideHearer : Nat) (c_ln_kind : Int32) : va_W := [(th, .inr (5, [.ref th_lines, .ref th_tape, .ref th_result])), (th_lines, .inl (cL, 4, .inr (.inr (.inr (.inr (fun j => some (La j))))))), (ln, .inr (3, [.ref ln_adpcmSpeaker, .ref ln_adpcmHearer, .ref ln_wideSpeaker, .ref ln_wideHearer, .int c_ln_kind]))]
def fX6_kind_i (a1 : Int32) (c_ln_kind : Int32) : Option (Int32) := pq_cl (fX6_openLine_i a1 c_ln_kind) fun (r1 : Int32) => pq_br (r1 = 0) (some ((-100000 : Int32))) (some (c_ln_kind))

def fX6_isSample (a0 : Int32) : Option (Int32) := pq_br (a0 < (-32768 : Int32)) (some ((0 : Int32))) (pq_br ((32767 : Int32) < a0) (some ((0 : Int32))) (some ((1 : Int32))))

abbrev wX6_say_o (cI : ClassId) (th : Nat) (th_lines : Nat) (th_tape : Nat) (th_result : Nat) : va_W := [(th, .inr (5, [.ref th_lines, .ref th_tape, .ref th_result]))]
def fX6_say_o (a1 : Int32) (a2 : Int32) : Option (Int32) := pq_cl (fX6_openLine_o a1) fun (u2 : Unit) => some ((-100000 : Int32))

abbrev wX6_say_i (cI : ClassId) (cL : ClassId) (La : Nat → Nat) (th : Nat) (th_tape : Nat) (th_result : Nat) (th_lines : Nat) (ln : Nat) (ln_adpcmHearer : Nat) (ln_wideHearer : Nat) (ln_adpcmSpeaker : Nat) (ln_adpcmSpeaker_numbers : Nat) (ln_wideSpeaker : Nat) (ln_wideSpeaker_low : Nat) (ln_wideSpeaker_low_numbers : Nat) (ln_wideSpeaker_high : Nat) (ln_wideSpeaker_high_numbers : Nat) (ln_wideSpeaker_x : Nat) (c_ln_kind : Int32) (c_ln_adpcmSpeaker_bits : Int32) (c_ln_adpcmSpeaker_se : Int32) (c_ln_adpcmSpeaker_sz : Int32) (c_ln_adpcmSpeaker_step : Int32) (f_ln_adpcmSpeaker_numbers : Nat → Int32) (c_ln_wideSpeaker_secondHeard : Int32) (f_ln_wideSpeaker_low_numbers : Nat → Int32) (f_ln_wideSpeaker_high_numbers : Nat → Int32) (f_ln_wideSpeaker_x : Nat → Int32) : va_W := [(th, .inr (5, [.ref th_lines, .ref th_tape, .ref th_result])), (th_lines, .inl (cL, 4, .inr (.inr (.inr (.inr (fun j => some (La j))))))), (ln, .inr (3, [.ref ln_adpcmSpeaker, .ref ln_adpcmHearer, .ref ln_wideSpeaker, .ref ln_wideHearer, .int c_ln_kind])), (ln_adpcmSpeaker, .inr (0, [.ref ln_adpcmSpeaker_numbers, .int c_ln_adpcmSpeaker_bits, .int c_ln_adpcmSpeaker_se, .int c_ln_adpcmSpeaker_sz, .int c_ln_adpcmSpeaker_step])), (ln_adpcmSpeaker_numbers, .inl (cI, 24, .inl f_ln_adpcmSpeaker_numbers)), (ln_wideSpeaker, .inr (4, [.ref ln_wideSpeaker_low, .ref ln_wideSpeaker_high, .ref ln_wideSpeaker_x, .int c_ln_wideSpeaker_secondHeard])), (ln_wideSpeaker_low, .inr (1, [.ref ln_wideSpeaker_low_numbers])), (ln_wideSpeaker_low_numbers, .inl (cI, 23, .inl f_ln_wideSpeaker_low_numbers)), (ln_wideSpeaker_high, .inr (1, [.ref ln_wideSpeaker_high_numbers])), (ln_wideSpeaker_high_numbers, .inl (cI, 23, .inl f_ln_wideSpeaker_high_numbers)), (ln_wideSpeaker_x, .inl (cI, 24, .inl f_ln_wideSpeaker_x))]
def fX6_say_i (a1 : Int32) (a2 : Int32) (c_ln_kind : Int32) (c_ln_adpcmSpeaker_bits : Int32) (c_ln_adpcmSpeaker_se : Int32) (c_ln_adpcmSpeaker_sz : Int32) (c_ln_adpcmSpeaker_step : Int32) (f_ln_adpcmSpeaker_numbers : Nat → Int32) (f_ln_wideSpeaker_low_numbers : Nat → Int32) (f_ln_wideSpeaker_high_numbers : Nat → Int32) (f_ln_wideSpeaker_x : Nat → Int32) : Option (Int32 × Int32 × Int32 × Int32 × (Nat → Int32) × (Nat → Int32) × (Nat → Int32) × (Nat → Int32)) := pq_cl (fX6_openLine_i a1 c_ln_kind) fun (r1 : Int32) => pq_br (r1 = 0) (some ((-100000 : Int32), c_ln_adpcmSpeaker_se, c_ln_adpcmSpeaker_sz, c_ln_adpcmSpeaker_step, f_ln_adpcmSpeaker_numbers, f_ln_wideSpeaker_low_numbers, f_ln_wideSpeaker_high_numbers, f_ln_wideSpeaker_x)) (pq_cl (fX4_isWide c_ln_kind) fun (r4 : Int32) => pq_br (r4 = (0 : Int32)) (pq_cl (fX6_isSample a2) fun (r7 : Int32) => pq_br (r7 = (0 : Int32)) (some ((-100000 : Int32), c_ln_adpcmSpeaker_se, c_ln_adpcmSpeaker_sz, c_ln_adpcmSpeaker_step, f_ln_adpcmSpeaker_numbers, f_ln_wideSpeaker_low_numbers, f_ln_wideSpeaker_high_numbers, f_ln_wideSpeaker_x)) (pq_cl (fX4_encode a2 (0 : Int32) c_ln_kind c_ln_adpcmSpeaker_bits c_ln_adpcmSpeaker_se c_ln_adpcmSpeaker_sz c_ln_adpcmSpeaker_step f_ln_adpcmSpeaker_numbers f_ln_wideSpeaker_low_numbers f_ln_wideSpeaker_high_numbers f_ln_wideSpeaker_x) fun (u19 : (Int32) × (Int32) × (Int32) × (Int32) × (Nat → Int32) × (Nat → Int32) × (Nat → Int32) × (Nat → Int32)) => pq_nm (u19.1) fun (r10 : Int32) => pq_nm (u19.2.1) fun (c11 : Int32) => pq_nm (u19.2.2.1) fun (c12 : Int32) => pq_nm (u19.2.2.2.1) fun (c13 : Int32) => pq_nm (u19.2.2.2.2.1) fun (f14 : Nat → Int32) => pq_nm (u19.2.2.2.2.2.1) fun (f15 : Nat → Int32) => pq_nm (u19.2.2.2.2.2.2.1) fun (f16 : Nat → Int32) => pq_nm (u19.2.2.2.2.2.2.2) fun (f17 : Nat → Int32) => some (r10, c11, c12, c13, f14, f15, f16, f17))) (some ((-100000 : Int32), c_ln_adpcmSpeaker_se, c_ln_adpcmSpeaker_sz, c_ln_adpcmSpeaker_step, f_ln_adpcmSpeaker_numbers, f_ln_wideSpeaker_low_numbers, f_ln_wideSpeaker_high_numbers, f_ln_wideSpeaker_x)))

abbrev wX6_pair_o (cI : ClassId) (th : Nat) (th_lines : Nat) (th_tape : Nat) (th_result : Nat) : va_W := [(th, .inr (5, [.ref th_lines, .ref th_tape, .ref th_result]))]
def fX6_pair_o (a1 : Int32) (a2 : Int32) (a3 : Int32) : Option (Int32) := pq_cl (fX6_openLine_o a1) fun (u2 : Unit) => some ((-100000 : Int32))

abbrev wX6_pair_i (cI : ClassId) (cL : ClassId) (La : Nat → Nat) (th : Nat) (th_tape : Nat) (th_result : Nat) (th_lines : Nat) (ln : Nat) (ln_adpcmHearer : Nat) (ln_wideHearer : Nat) (ln_adpcmSpeaker : Nat) (ln_adpcmSpeaker_numbers : Nat) (ln_wideSpeaker : Nat) (ln_wideSpeaker_low : Nat) (ln_wideSpeaker_low_numbers : Nat) (ln_wideSpeaker_high : Nat) (ln_wideSpeaker_high_numbers : Nat) (ln_wideSpeaker_x : Nat) (c_ln_kind : Int32) (c_ln_adpcmSpeaker_bits : Int32) (c_ln_adpcmSpeaker_se : Int32) (c_ln_adpcmSpeaker_sz : Int32) (c_ln_adpcmSpeaker_step : Int32) (f_ln_adpcmSpeaker_numbers : Nat → Int32) (c_ln_wideSpeaker_secondHeard : Int32) (f_ln_wideSpeaker_low_numbers : Nat → Int32) (f_ln_wideSpeaker_high_numbers : Nat → Int32) (f_ln_wideSpeaker_x : Nat → Int32) : va_W := [(th, .inr (5, [.ref th_lines, .ref th_tape, .ref th_result])), (th_lines, .inl (cL, 4, .inr (.inr (.inr (.inr (fun j => some (La j))))))), (ln, .inr (3, [.ref ln_adpcmSpeaker, .ref ln_adpcmHearer, .ref ln_wideSpeaker, .ref ln_wideHearer, .int c_ln_kind])), (ln_adpcmSpeaker, .inr (0, [.ref ln_adpcmSpeaker_numbers, .int c_ln_adpcmSpeaker_bits, .int c_ln_adpcmSpeaker_se, .int c_ln_adpcmSpeaker_sz, .int c_ln_adpcmSpeaker_step])), (ln_adpcmSpeaker_numbers, .inl (cI, 24, .inl f_ln_adpcmSpeaker_numbers)), (ln_wideSpeaker, .inr (4, [.ref ln_wideSpeaker_low, .ref ln_wideSpeaker_high, .ref ln_wideSpeaker_x, .int c_ln_wideSpeaker_secondHeard])), (ln_wideSpeaker_low, .inr (1, [.ref ln_wideSpeaker_low_numbers])), (ln_wideSpeaker_low_numbers, .inl (cI, 23, .inl f_ln_wideSpeaker_low_numbers)), (ln_wideSpeaker_high, .inr (1, [.ref ln_wideSpeaker_high_numbers])), (ln_wideSpeaker_high_numbers, .inl (cI, 23, .inl f_ln_wideSpeaker_high_numbers)), (ln_wideSpeaker_x, .inl (cI, 24, .inl f_ln_wideSpeaker_x))]
def fX6_pair_i (a1 : Int32) (a2 : Int32) (a3 : Int32) (c_ln_kind : Int32) (c_ln_adpcmSpeaker_bits : Int32) (c_ln_adpcmSpeaker_se : Int32) (c_ln_adpcmSpeaker_sz : Int32) (c_ln_adpcmSpeaker_step : Int32) (f_ln_adpcmSpeaker_numbers : Nat → Int32) (f_ln_wideSpeaker_low_numbers : Nat → Int32) (f_ln_wideSpeaker_high_numbers : Nat → Int32) (f_ln_wideSpeaker_x : Nat → Int32) : Option (Int32 × Int32 × Int32 × Int32 × (Nat → Int32) × (Nat → Int32) × (Nat → Int32) × (Nat → Int32)) := pq_cl (fX6_openLine_i a1 c_ln_kind) fun (r1 : Int32) => pq_br (r1 = 0) (some ((-100000 : Int32), c_ln_adpcmSpeaker_se, c_ln_adpcmSpeaker_sz, c_ln_adpcmSpeaker_step, f_ln_adpcmSpeaker_numbers, f_ln_wideSpeaker_low_numbers, f_ln_wideSpeaker_high_numbers, f_ln_wideSpeaker_x)) (pq_cl (fX4_isWide c_ln_kind) fun (r4 : Int32) => pq_br (r4 = (0 : Int32)) (some ((-100000 : Int32), c_ln_adpcmSpeaker_se, c_ln_adpcmSpeaker_sz, c_ln_adpcmSpeaker_step, f_ln_adpcmSpeaker_numbers, f_ln_wideSpeaker_low_numbers, f_ln_wideSpeaker_high_numbers, f_ln_wideSpeaker_x)) (pq_cl (fX6_isSample a2) fun (r7 : Int32) => pq_br (r7 = (0 : Int32)) (some ((-100000 : Int32), c_ln_adpcmSpeaker_se, c_ln_adpcmSpeaker_sz, c_ln_adpcmSpeaker_step, f_ln_adpcmSpeaker_numbers, f_ln_wideSpeaker_low_numbers, f_ln_wideSpeaker_high_numbers, f_ln_wideSpeaker_x)) (pq_cl (fX6_isSample a3) fun (r10 : Int32) => pq_br (r10 = (0 : Int32)) (some ((-100000 : Int32), c_ln_adpcmSpeaker_se, c_ln_adpcmSpeaker_sz, c_ln_adpcmSpeaker_step, f_ln_adpcmSpeaker_numbers, f_ln_wideSpeaker_low_numbers, f_ln_wideSpeaker_high_numbers, f_ln_wideSpeaker_x)) (pq_cl (fX4_encode a2 a3 c_ln_kind c_ln_adpcmSpeaker_bits c_ln_adpcmSpeaker_se c_ln_adpcmSpeaker_sz c_ln_adpcmSpeaker_step f_ln_adpcmSpeaker_numbers f_ln_wideSpeaker_low_numbers f_ln_wideSpeaker_high_numbers f_ln_wideSpeaker_x) fun (u22 : (Int32) × (Int32) × (Int32) × (Int32) × (Nat → Int32) × (Nat → Int32) × (Nat → Int32) × (Nat → Int32)) => pq_nm (u22.1) fun (r13 : Int32) => pq_nm (u22.2.1) fun (c14 : Int32) => pq_nm (u22.2.2.1) fun (c15 : Int32) => pq_nm (u22.2.2.2.1) fun (c16 : Int32) => pq_nm (u22.2.2.2.2.1) fun (f17 : Nat → Int32) => pq_nm (u22.2.2.2.2.2.1) fun (f18 : Nat → Int32) => pq_nm (u22.2.2.2.2.2.2.1) fun (f19 : Nat → Int32) => pq_nm (u22.2.2.2.2.2.2.2) fun (f20 : Nat → Int32) => some (r13, c14, c15, c16, f17, f18, f19, f20)))))

abbrev wX6_hear_o (cI : ClassId) (th : Nat) (th_lines : Nat) (th_tape : Nat) (th_result : Nat) : va_W := [(th, .inr (5, [.ref th_lines, .ref th_tape, .ref th_result]))]
def fX6_hear_o (a1 : Int32) (a2 : Int32) : Option (Int32) := pq_cl (fX6_openLine_o a1) fun (u2 : Unit) => some ((-100000 : Int32))

abbrev wX6_hear_i (cI : ClassId) (cL : ClassId) (La : Nat → Nat) (th : Nat) (th_tape : Nat) (th_result : Nat) (th_lines : Nat) (ln : Nat) (ln_adpcmSpeaker : Nat) (ln_wideSpeaker : Nat) (ln_adpcmHearer : Nat) (ln_adpcmHearer_numbers : Nat) (ln_wideHearer : Nat) (ln_wideHearer_low : Nat) (ln_wideHearer_low_numbers : Nat) (ln_wideHearer_high : Nat) (ln_wideHearer_high_numbers : Nat) (ln_wideHearer_x : Nat) (c_ln_kind : Int32) (c_ln_adpcmHearer_bits : Int32) (c_ln_adpcmHearer_se : Int32) (c_ln_adpcmHearer_sz : Int32) (c_ln_adpcmHearer_step : Int32) (f_ln_adpcmHearer_numbers : Nat → Int32) (c_ln_wideHearer_secondHeard : Int32) (f_ln_wideHearer_low_numbers : Nat → Int32) (f_ln_wideHearer_high_numbers : Nat → Int32) (f_ln_wideHearer_x : Nat → Int32) : va_W := [(th, .inr (5, [.ref th_lines, .ref th_tape, .ref th_result])), (th_lines, .inl (cL, 4, .inr (.inr (.inr (.inr (fun j => some (La j))))))), (ln, .inr (3, [.ref ln_adpcmSpeaker, .ref ln_adpcmHearer, .ref ln_wideSpeaker, .ref ln_wideHearer, .int c_ln_kind])), (ln_adpcmHearer, .inr (0, [.ref ln_adpcmHearer_numbers, .int c_ln_adpcmHearer_bits, .int c_ln_adpcmHearer_se, .int c_ln_adpcmHearer_sz, .int c_ln_adpcmHearer_step])), (ln_adpcmHearer_numbers, .inl (cI, 24, .inl f_ln_adpcmHearer_numbers)), (ln_wideHearer, .inr (4, [.ref ln_wideHearer_low, .ref ln_wideHearer_high, .ref ln_wideHearer_x, .int c_ln_wideHearer_secondHeard])), (ln_wideHearer_low, .inr (1, [.ref ln_wideHearer_low_numbers])), (ln_wideHearer_low_numbers, .inl (cI, 23, .inl f_ln_wideHearer_low_numbers)), (ln_wideHearer_high, .inr (1, [.ref ln_wideHearer_high_numbers])), (ln_wideHearer_high_numbers, .inl (cI, 23, .inl f_ln_wideHearer_high_numbers)), (ln_wideHearer_x, .inl (cI, 24, .inl f_ln_wideHearer_x))]
def fX6_hear_i (a1 : Int32) (a2 : Int32) (c_ln_kind : Int32) (c_ln_adpcmHearer_bits : Int32) (c_ln_adpcmHearer_se : Int32) (c_ln_adpcmHearer_sz : Int32) (c_ln_adpcmHearer_step : Int32) (f_ln_adpcmHearer_numbers : Nat → Int32) (c_ln_wideHearer_secondHeard : Int32) (f_ln_wideHearer_low_numbers : Nat → Int32) (f_ln_wideHearer_high_numbers : Nat → Int32) (f_ln_wideHearer_x : Nat → Int32) : Option (Int32 × Int32 × Int32 × Int32 × (Nat → Int32) × Int32 × (Nat → Int32) × (Nat → Int32) × (Nat → Int32)) := pq_cl (fX6_openLine_i a1 c_ln_kind) fun (r1 : Int32) => pq_br (r1 = 0) (some ((-100000 : Int32), c_ln_adpcmHearer_se, c_ln_adpcmHearer_sz, c_ln_adpcmHearer_step, f_ln_adpcmHearer_numbers, c_ln_wideHearer_secondHeard, f_ln_wideHearer_low_numbers, f_ln_wideHearer_high_numbers, f_ln_wideHearer_x)) (pq_cl (fX4_hasCode a2 c_ln_kind) fun (r4 : Int32) => pq_br (r4 = (0 : Int32)) (some ((-100000 : Int32), c_ln_adpcmHearer_se, c_ln_adpcmHearer_sz, c_ln_adpcmHearer_step, f_ln_adpcmHearer_numbers, c_ln_wideHearer_secondHeard, f_ln_wideHearer_low_numbers, f_ln_wideHearer_high_numbers, f_ln_wideHearer_x)) (pq_cl (fX4_decode a2 c_ln_kind c_ln_adpcmHearer_bits c_ln_adpcmHearer_se c_ln_adpcmHearer_sz c_ln_adpcmHearer_step f_ln_adpcmHearer_numbers c_ln_wideHearer_secondHeard f_ln_wideHearer_low_numbers f_ln_wideHearer_high_numbers f_ln_wideHearer_x) fun (u17 : (Int32) × (Int32) × (Int32) × (Int32) × (Nat → Int32) × (Int32) × (Nat → Int32) × (Nat → Int32) × (Nat → Int32)) => pq_nm (u17.1) fun (r7 : Int32) => pq_nm (u17.2.1) fun (c8 : Int32) => pq_nm (u17.2.2.1) fun (c9 : Int32) => pq_nm (u17.2.2.2.1) fun (c10 : Int32) => pq_nm (u17.2.2.2.2.1) fun (f11 : Nat → Int32) => pq_nm (u17.2.2.2.2.2.1) fun (c12 : Int32) => pq_nm (u17.2.2.2.2.2.2.1) fun (f13 : Nat → Int32) => pq_nm (u17.2.2.2.2.2.2.2.1) fun (f14 : Nat → Int32) => pq_nm (u17.2.2.2.2.2.2.2.2) fun (f15 : Nat → Int32) => some (r7, c8, c9, c10, f11, c12, f13, f14, f15)))

abbrev wX6_second_o (cI : ClassId) (th : Nat) (th_lines : Nat) (th_tape : Nat) (th_result : Nat) : va_W := [(th, .inr (5, [.ref th_lines, .ref th_tape, .ref th_result]))]
def fX6_second_o (a1 : Int32) : Option (Int32) := pq_cl (fX6_openLine_o a1) fun (u2 : Unit) => some ((-100000 : Int32))

abbrev wX6_second_i (cI : ClassId) (cL : ClassId) (La : Nat → Nat) (th : Nat) (th_tape : Nat) (th_result : Nat) (th_lines : Nat) (ln : Nat) (ln_adpcmSpeaker : Nat) (ln_adpcmHearer : Nat) (ln_wideSpeaker : Nat) (ln_wideHearer : Nat) (ln_wideHearer_low : Nat) (ln_wideHearer_high : Nat) (ln_wideHearer_x : Nat) (c_ln_kind : Int32) (c_ln_wideHearer_secondHeard : Int32) : va_W := [(th, .inr (5, [.ref th_lines, .ref th_tape, .ref th_result])), (th_lines, .inl (cL, 4, .inr (.inr (.inr (.inr (fun j => some (La j))))))), (ln, .inr (3, [.ref ln_adpcmSpeaker, .ref ln_adpcmHearer, .ref ln_wideSpeaker, .ref ln_wideHearer, .int c_ln_kind])), (ln_wideHearer, .inr (4, [.ref ln_wideHearer_low, .ref ln_wideHearer_high, .ref ln_wideHearer_x, .int c_ln_wideHearer_secondHeard]))]
def fX6_second_i (a1 : Int32) (c_ln_kind : Int32) (c_ln_wideHearer_secondHeard : Int32) : Option (Int32) := pq_cl (fX6_openLine_i a1 c_ln_kind) fun (r1 : Int32) => pq_br (r1 = 0) (some ((-100000 : Int32))) (pq_cl (fX4_isWide c_ln_kind) fun (r4 : Int32) => pq_br (r4 = (0 : Int32)) (some ((-100000 : Int32))) (pq_cl (fX4_secondHeard c_ln_wideHearer_secondHeard) fun (r7 : Int32) => some (r7)))

abbrev wX6_inner_o (cI : ClassId) (th : Nat) (th_lines : Nat) (th_tape : Nat) (th_result : Nat) : va_W := [(th, .inr (5, [.ref th_lines, .ref th_tape, .ref th_result]))]
def fX6_inner_o (a1 : Int32) (a2 : Int32) (a3 : Int32) : Option (Int32) := pq_cl (fX6_openLine_o a1) fun (u2 : Unit) => some ((-100000 : Int32))

def fX6_inner_i_b35 (c_ln_kind : Int32) (f_ln_adpcmSpeaker_numbers : Nat → Int32) (f_ln_adpcmHearer_numbers : Nat → Int32) (f_ln_wideSpeaker_low_numbers : Nat → Int32) (f_ln_wideSpeaker_high_numbers : Nat → Int32) (f_ln_wideSpeaker_x : Nat → Int32) (f_ln_wideHearer_low_numbers : Nat → Int32) (f_ln_wideHearer_high_numbers : Nat → Int32) (f_ln_wideHearer_x : Nat → Int32) (x3 : Int32) (s1 : Int32) : Option (Int32) := pq_cl (fX4_number s1 x3 c_ln_kind f_ln_adpcmSpeaker_numbers f_ln_adpcmHearer_numbers f_ln_wideSpeaker_low_numbers f_ln_wideSpeaker_high_numbers f_ln_wideSpeaker_x f_ln_wideHearer_low_numbers f_ln_wideHearer_high_numbers f_ln_wideHearer_x) fun (r7 : Int32) => some (r7)
def fX6_inner_i_b24 (c_ln_kind : Int32) (f_ln_adpcmSpeaker_numbers : Nat → Int32) (f_ln_adpcmHearer_numbers : Nat → Int32) (f_ln_wideSpeaker_low_numbers : Nat → Int32) (f_ln_wideSpeaker_high_numbers : Nat → Int32) (f_ln_wideSpeaker_x : Nat → Int32) (f_ln_wideHearer_low_numbers : Nat → Int32) (f_ln_wideHearer_high_numbers : Nat → Int32) (f_ln_wideHearer_x : Nat → Int32) (x2 : Int32) (x3 : Int32) : Option (Int32) := pq_br (x2 = (0 : Int32)) (fX6_inner_i_b35  c_ln_kind f_ln_adpcmSpeaker_numbers f_ln_adpcmHearer_numbers f_ln_wideSpeaker_low_numbers f_ln_wideSpeaker_high_numbers f_ln_wideSpeaker_x f_ln_wideHearer_low_numbers f_ln_wideHearer_high_numbers f_ln_wideHearer_x x3 (1 : Int32)) (fX6_inner_i_b35  c_ln_kind f_ln_adpcmSpeaker_numbers f_ln_adpcmHearer_numbers f_ln_wideSpeaker_low_numbers f_ln_wideSpeaker_high_numbers f_ln_wideSpeaker_x f_ln_wideHearer_low_numbers f_ln_wideHearer_high_numbers f_ln_wideHearer_x x3 (0 : Int32))
abbrev wX6_inner_i (cI : ClassId) (cL : ClassId) (La : Nat → Nat) (th : Nat) (th_tape : Nat) (th_result : Nat) (th_lines : Nat) (ln : Nat) (ln_adpcmSpeaker : Nat) (ln_adpcmSpeaker_numbers : Nat) (ln_adpcmHearer : Nat) (ln_adpcmHearer_numbers : Nat) (ln_wideSpeaker : Nat) (ln_wideSpeaker_low : Nat) (ln_wideSpeaker_low_numbers : Nat) (ln_wideSpeaker_high : Nat) (ln_wideSpeaker_high_numbers : Nat) (ln_wideSpeaker_x : Nat) (ln_wideHearer : Nat) (ln_wideHearer_low : Nat) (ln_wideHearer_low_numbers : Nat) (ln_wideHearer_high : Nat) (ln_wideHearer_high_numbers : Nat) (ln_wideHearer_x : Nat) (c_ln_kind : Int32) (c_ln_adpcmSpeaker_bits : Int32) (c_ln_adpcmSpeaker_se : Int32) (c_ln_adpcmSpeaker_sz : Int32) (c_ln_adpcmSpeaker_step : Int32) (f_ln_adpcmSpeaker_numbers : Nat → Int32) (c_ln_adpcmHearer_bits : Int32) (c_ln_adpcmHearer_se : Int32) (c_ln_adpcmHearer_sz : Int32) (c_ln_adpcmHearer_step : Int32) (f_ln_adpcmHearer_numbers : Nat → Int32) (c_ln_wideSpeaker_secondHeard : Int32) (f_ln_wideSpeaker_low_numbers : Nat → Int32) (f_ln_wideSpeaker_high_numbers : Nat → Int32) (f_ln_wideSpeaker_x : Nat → Int32) (c_ln_wideHearer_secondHeard : Int32) (f_ln_wideHearer_low_numbers : Nat → Int32) (f_ln_wideHearer_high_numbers : Nat → Int32) (f_ln_wideHearer_x : Nat → Int32) : va_W := [(th, .inr (5, [.ref th_lines, .ref th_tape, .ref th_result])), (th_lines, .inl (cL, 4, .inr (.inr (.inr (.inr (fun j => some (La j))))))), (ln, .inr (3, [.ref ln_adpcmSpeaker, .ref ln_adpcmHearer, .ref ln_wideSpeaker, .ref ln_wideHearer, .int c_ln_kind])), (ln_adpcmSpeaker, .inr (0, [.ref ln_adpcmSpeaker_numbers, .int c_ln_adpcmSpeaker_bits, .int c_ln_adpcmSpeaker_se, .int c_ln_adpcmSpeaker_sz, .int c_ln_adpcmSpeaker_step])), (ln_adpcmSpeaker_numbers, .inl (cI, 24, .inl f_ln_adpcmSpeaker_numbers)), (ln_adpcmHearer, .inr (0, [.ref ln_adpcmHearer_numbers, .int c_ln_adpcmHearer_bits, .int c_ln_adpcmHearer_se, .int c_ln_adpcmHearer_sz, .int c_ln_adpcmHearer_step])), (ln_adpcmHearer_numbers, .inl (cI, 24, .inl f_ln_adpcmHearer_numbers)), (ln_wideSpeaker, .inr (4, [.ref ln_wideSpeaker_low, .ref ln_wideSpeaker_high, .ref ln_wideSpeaker_x, .int c_ln_wideSpeaker_secondHeard])), (ln_wideSpeaker_low, .inr (1, [.ref ln_wideSpeaker_low_numbers])), (ln_wideSpeaker_low_numbers, .inl (cI, 23, .inl f_ln_wideSpeaker_low_numbers)), (ln_wideSpeaker_high, .inr (1, [.ref ln_wideSpeaker_high_numbers])), (ln_wideSpeaker_high_numbers, .inl (cI, 23, .inl f_ln_wideSpeaker_high_numbers)), (ln_wideSpeaker_x, .inl (cI, 24, .inl f_ln_wideSpeaker_x)), (ln_wideHearer, .inr (4, [.ref ln_wideHearer_low, .ref ln_wideHearer_high, .ref ln_wideHearer_x, .int c_ln_wideHearer_secondHeard])), (ln_wideHearer_low, .inr (1, [.ref ln_wideHearer_low_numbers])), (ln_wideHearer_low_numbers, .inl (cI, 23, .inl f_ln_wideHearer_low_numbers)), (ln_wideHearer_high, .inr (1, [.ref ln_wideHearer_high_numbers])), (ln_wideHearer_high_numbers, .inl (cI, 23, .inl f_ln_wideHearer_high_numbers)), (ln_wideHearer_x, .inl (cI, 24, .inl f_ln_wideHearer_x))]
def fX6_inner_i (a1 : Int32) (a2 : Int32) (a3 : Int32) (c_ln_kind : Int32) (f_ln_adpcmSpeaker_numbers : Nat → Int32) (f_ln_adpcmHearer_numbers : Nat → Int32) (f_ln_wideSpeaker_low_numbers : Nat → Int32) (f_ln_wideSpeaker_high_numbers : Nat → Int32) (f_ln_wideSpeaker_x : Nat → Int32) (f_ln_wideHearer_low_numbers : Nat → Int32) (f_ln_wideHearer_high_numbers : Nat → Int32) (f_ln_wideHearer_x : Nat → Int32) : Option (Int32) := pq_cl (fX6_openLine_i a1 c_ln_kind) fun (r1 : Int32) => pq_br (r1 = 0) (some ((-100000 : Int32))) (pq_br (a2 = (0 : Int32)) (fX6_inner_i_b24  c_ln_kind f_ln_adpcmSpeaker_numbers f_ln_adpcmHearer_numbers f_ln_wideSpeaker_low_numbers f_ln_wideSpeaker_high_numbers f_ln_wideSpeaker_x f_ln_wideHearer_low_numbers f_ln_wideHearer_high_numbers f_ln_wideHearer_x a2 a3) (pq_br (a2 = (1 : Int32)) (fX6_inner_i_b24  c_ln_kind f_ln_adpcmSpeaker_numbers f_ln_adpcmHearer_numbers f_ln_wideSpeaker_low_numbers f_ln_wideSpeaker_high_numbers f_ln_wideSpeaker_x f_ln_wideHearer_low_numbers f_ln_wideHearer_high_numbers f_ln_wideHearer_x a2 a3) (some ((-100000 : Int32)))))

abbrev wX6_feed (cI : ClassId) (th : Nat) (th_lines : Nat) (th_result : Nat) (th_tape : Nat) (th_tape_row : Nat) (c_tape_length : Int32) (f_tape_row : Nat → Int32) : va_W := [(th, .inr (5, [.ref th_lines, .ref th_tape, .ref th_result])), (th_tape, .inr (2, [.ref th_tape_row, .int c_tape_length])), (th_tape_row, .inl (cI, 1000, .inl f_tape_row))]
def fX6_feed (a1 : Int32) (a2 : Int32) (a3 : Int32) (a4 : Int32) (a5 : Int32) (c_tape_length : Int32) (f_tape_row : Nat → Int32) : Option (Int32 × Int32 × (Nat → Int32)) := pq_br (c_tape_length ≤ (980 : Int32)) (pq_cl (fX2_addInt a1 c_tape_length f_tape_row) fun (u5 : (Int32) × (Nat → Int32)) => pq_nm (u5.1) fun (c2 : Int32) => pq_nm (u5.2) fun (f3 : Nat → Int32) => pq_cl (fX2_addInt a2 c2 f3) fun (u9 : (Int32) × (Nat → Int32)) => pq_nm (u9.1) fun (c6 : Int32) => pq_nm (u9.2) fun (f7 : Nat → Int32) => pq_cl (fX2_addInt a3 c6 f7) fun (u13 : (Int32) × (Nat → Int32)) => pq_nm (u13.1) fun (c10 : Int32) => pq_nm (u13.2) fun (f11 : Nat → Int32) => pq_cl (fX2_addInt a4 c10 f11) fun (u17 : (Int32) × (Nat → Int32)) => pq_nm (u17.1) fun (c14 : Int32) => pq_nm (u17.2) fun (f15 : Nat → Int32) => pq_cl (fX2_addInt a5 c14 f15) fun (u21 : (Int32) × (Nat → Int32)) => pq_nm (u21.1) fun (c18 : Int32) => pq_nm (u21.2) fun (f19 : Nat → Int32) => some (c18, c18, f19)) (some ((-100000 : Int32), c_tape_length, f_tape_row))

abbrev wX6_end (cI : ClassId) (th : Nat) (th_lines : Nat) (th_result : Nat) (th_tape : Nat) (th_tape_row : Nat) (c_tape_length : Int32) : va_W := [(th, .inr (5, [.ref th_lines, .ref th_tape, .ref th_result])), (th_tape, .inr (2, [.ref th_tape_row, .int c_tape_length]))]
def fX6_end (a1 : Int32) (c_tape_length : Int32) : Option (Int32 × Int32) := pq_br (a1 < (0 : Int32)) (some ((-100000 : Int32), c_tape_length)) (pq_br (a1 ≤ c_tape_length) (some (a1, a1)) (some ((-100000 : Int32), c_tape_length)))

abbrev wX6_take (cI : ClassId) (th : Nat) (th_lines : Nat) (th_tape : Nat) (th_tape_row : Nat) (th_result : Nat) (th_result_row : Nat) (c_tape_length : Int32) (f_tape_row : Nat → Int32) (c_result_length : Int32) (f_result_row : Nat → Int32) : va_W := [(th, .inr (5, [.ref th_lines, .ref th_tape, .ref th_result])), (th_tape, .inr (2, [.ref th_tape_row, .int c_tape_length])), (th_tape_row, .inl (cI, 1000, .inl f_tape_row)), (th_result, .inr (2, [.ref th_result_row, .int c_result_length])), (th_result_row, .inl (cI, 1000, .inl f_result_row))]
def fX6_take (c_result_length : Int32) (f_result_row : Nat → Int32) (c_tape_length : Int32) (f_tape_row : Nat → Int32) : Option (Int32 × Int32 × (Nat → Int32)) := pq_cl (fX2_copyFrom c_result_length f_result_row c_tape_length f_tape_row) fun (u4 : (Int32) × (Nat → Int32)) => pq_nm (u4.1) fun (c1 : Int32) => pq_nm (u4.2) fun (f2 : Nat → Int32) => some (c1, c1, f2)

abbrev wX6_out (cI : ClassId) (th : Nat) (th_lines : Nat) (th_tape : Nat) (th_result : Nat) (th_result_row : Nat) (c_result_length : Int32) (f_result_row : Nat → Int32) : va_W := [(th, .inr (5, [.ref th_lines, .ref th_tape, .ref th_result])), (th_result, .inr (2, [.ref th_result_row, .int c_result_length])), (th_result_row, .inl (cI, 1000, .inl f_result_row))]
def fX6_out (a1 : Int32) (c_result_length : Int32) (f_result_row : Nat → Int32) : Option (Int32) := pq_cl (fX2_byteAt a1 c_result_length f_result_row) fun (r1 : Int32) => some (r1)

abbrev wX6_pack_o (cI : ClassId) (th : Nat) (th_lines : Nat) (th_tape : Nat) (th_result : Nat) : va_W := [(th, .inr (5, [.ref th_lines, .ref th_tape, .ref th_result]))]
def fX6_pack_o (a1 : Int32) (a2 : Int32) : Option (Int32) := pq_cl (fX6_openLine_o a1) fun (u2 : Unit) => some ((-100000 : Int32))

def fX6_pack_i_b114 (k78 : (Int32) → (Int32) → (Int32) → (Int32) → (Int32) → (Int32) → (Int32) → (Nat → Int32) → (Int32) → (Int32) → (Int32) → (Nat → Int32) → (Nat → Int32) → (Nat → Int32) → (Nat → Int32) → Option (Int32 × Int32 × Int32 × (Nat → Int32) × Int32 × Int32 × Int32 × (Nat → Int32) × (Nat → Int32) × (Nat → Int32) × (Nat → Int32))) (f_tape_row : Nat → Int32) (c_ln_kind : Int32) (c_ln_adpcmSpeaker_bits : Int32) (x2 : Int32) (x4 : Int32) (x5 : Int32) (x6 : Int32) (x7 : Int32) (x8 : Int32) (s0 : Int32) (c_tape_length : Int32) (c_result_length : Int32) (f_result_row : Nat → Int32) (c_ln_adpcmSpeaker_se : Int32) (c_ln_adpcmSpeaker_sz : Int32) (c_ln_adpcmSpeaker_step : Int32) (f_ln_adpcmSpeaker_numbers : Nat → Int32) (f_ln_wideSpeaker_low_numbers : Nat → Int32) (f_ln_wideSpeaker_high_numbers : Nat → Int32) (f_ln_wideSpeaker_x : Nat → Int32) : Option (Int32 × Int32 × Int32 × (Nat → Int32) × Int32 × Int32 × Int32 × (Nat → Int32) × (Nat → Int32) × (Nat → Int32) × (Nat → Int32)) := pq_cl (fX2_sampleAt x8 c_tape_length f_tape_row) fun (r24 : Int32) => pq_cl (fX4_encode r24 s0 c_ln_kind c_ln_adpcmSpeaker_bits c_ln_adpcmSpeaker_se c_ln_adpcmSpeaker_sz c_ln_adpcmSpeaker_step f_ln_adpcmSpeaker_numbers f_ln_wideSpeaker_low_numbers f_ln_wideSpeaker_high_numbers f_ln_wideSpeaker_x) fun (u35 : (Int32) × (Int32) × (Int32) × (Int32) × (Nat → Int32) × (Nat → Int32) × (Nat → Int32) × (Nat → Int32)) => pq_nm (u35.1) fun (r26 : Int32) => pq_nm (u35.2.1) fun (c27 : Int32) => pq_nm (u35.2.2.1) fun (c28 : Int32) => pq_nm (u35.2.2.2.1) fun (c29 : Int32) => pq_nm (u35.2.2.2.2.1) fun (f30 : Nat → Int32) => pq_nm (u35.2.2.2.2.2.1) fun (f31 : Nat → Int32) => pq_nm (u35.2.2.2.2.2.2.1) fun (f32 : Nat → Int32) => pq_nm (u35.2.2.2.2.2.2.2) fun (f33 : Nat → Int32) => pq_cl (fX2_putCode x7 x6 x2 r26 c_result_length f_result_row) fun (f36 : Nat → Int32) => pq_nm (x7 + (1 : Int32)) fun (v38 : Int32) => k78 x2 x4 x5 x6 v38 c_tape_length c_result_length f36 c27 c28 c29 f30 f31 f32 f33
def fX6_pack_i_b78 (f_tape_row : Nat → Int32) (c_ln_kind : Int32) (c_ln_adpcmSpeaker_bits : Int32) (fuel : Nat) (x2 : Int32) (x4 : Int32) (x5 : Int32) (x6 : Int32) (x7 : Int32) (c_tape_length : Int32) (c_result_length : Int32) (f_result_row : Nat → Int32) (c_ln_adpcmSpeaker_se : Int32) (c_ln_adpcmSpeaker_sz : Int32) (c_ln_adpcmSpeaker_step : Int32) (f_ln_adpcmSpeaker_numbers : Nat → Int32) (f_ln_wideSpeaker_low_numbers : Nat → Int32) (f_ln_wideSpeaker_high_numbers : Nat → Int32) (f_ln_wideSpeaker_x : Nat → Int32) : Option (Int32 × Int32 × Int32 × (Nat → Int32) × Int32 × Int32 × Int32 × (Nat → Int32) × (Nat → Int32) × (Nat → Int32) × (Nat → Int32)) := match fuel with
  | 0 => none
  | fuel + 1 => pq_br (x5 ≤ x7) (some (x5, (0 : Int32), c_result_length, f_result_row, c_ln_adpcmSpeaker_se, c_ln_adpcmSpeaker_sz, c_ln_adpcmSpeaker_step, f_ln_adpcmSpeaker_numbers, f_ln_wideSpeaker_low_numbers, f_ln_wideSpeaker_high_numbers, f_ln_wideSpeaker_x)) (pq_nm (x7 <<< (x4 &&& 31)) fun (v17 : Int32) => pq_cl (fX4_isWide c_ln_kind) fun (r19 : Int32) => pq_br (r19 = (0 : Int32)) (fX6_pack_i_b114 (fX6_pack_i_b78  f_tape_row c_ln_kind c_ln_adpcmSpeaker_bits fuel) f_tape_row c_ln_kind c_ln_adpcmSpeaker_bits x2 x4 x5 x6 x7 v17 (0 : Int32) c_tape_length c_result_length f_result_row c_ln_adpcmSpeaker_se c_ln_adpcmSpeaker_sz c_ln_adpcmSpeaker_step f_ln_adpcmSpeaker_numbers f_ln_wideSpeaker_low_numbers f_ln_wideSpeaker_high_numbers f_ln_wideSpeaker_x) (pq_cl (fX2_sampleAt (v17 + (2 : Int32)) c_tape_length f_tape_row) fun (r22 : Int32) => fX6_pack_i_b114 (fX6_pack_i_b78  f_tape_row c_ln_kind c_ln_adpcmSpeaker_bits fuel) f_tape_row c_ln_kind c_ln_adpcmSpeaker_bits x2 x4 x5 x6 x7 v17 r22 c_tape_length c_result_length f_result_row c_ln_adpcmSpeaker_se c_ln_adpcmSpeaker_sz c_ln_adpcmSpeaker_step f_ln_adpcmSpeaker_numbers f_ln_wideSpeaker_low_numbers f_ln_wideSpeaker_high_numbers f_ln_wideSpeaker_x))
def fX6_pack_i_b25 (f_tape_row : Nat → Int32) (c_ln_kind : Int32) (c_ln_adpcmSpeaker_bits : Int32) (x2 : Int32) (s0 : Int32) (c_tape_length : Int32) (c_result_length : Int32) (f_result_row : Nat → Int32) (c_ln_adpcmSpeaker_se : Int32) (c_ln_adpcmSpeaker_sz : Int32) (c_ln_adpcmSpeaker_step : Int32) (f_ln_adpcmSpeaker_numbers : Nat → Int32) (f_ln_wideSpeaker_low_numbers : Nat → Int32) (f_ln_wideSpeaker_high_numbers : Nat → Int32) (f_ln_wideSpeaker_x : Nat → Int32) : Option (Int32 × Int32 × Int32 × (Nat → Int32) × Int32 × Int32 × Int32 × (Nat → Int32) × (Nat → Int32) × (Nat → Int32) × (Nat → Int32)) := pq_nm (c_tape_length >>> (s0 &&& 31)) fun (v7 : Int32) => pq_br ((v7 <<< (s0 &&& 31)) = c_tape_length) (pq_cl (fX4_codeBits c_ln_kind) fun (r10 : Int32) => pq_cl (fX2_clearFor (v7 * r10) c_result_length f_result_row) fun (u15 : (Int32) × (Nat → Int32)) => pq_nm (u15.1) fun (c12 : Int32) => pq_nm (u15.2) fun (f13 : Nat → Int32) => fX6_pack_i_b78  f_tape_row c_ln_kind c_ln_adpcmSpeaker_bits 1100 x2 s0 v7 r10 (0 : Int32) c_tape_length c12 f13 c_ln_adpcmSpeaker_se c_ln_adpcmSpeaker_sz c_ln_adpcmSpeaker_step f_ln_adpcmSpeaker_numbers f_ln_wideSpeaker_low_numbers f_ln_wideSpeaker_high_numbers f_ln_wideSpeaker_x) (some ((-100000 : Int32), c_tape_length, c_result_length, f_result_row, c_ln_adpcmSpeaker_se, c_ln_adpcmSpeaker_sz, c_ln_adpcmSpeaker_step, f_ln_adpcmSpeaker_numbers, f_ln_wideSpeaker_low_numbers, f_ln_wideSpeaker_high_numbers, f_ln_wideSpeaker_x))
abbrev wX6_pack_i (cI : ClassId) (cL : ClassId) (La : Nat → Nat) (th : Nat) (th_lines : Nat) (th_tape : Nat) (th_tape_row : Nat) (th_result : Nat) (th_result_row : Nat) (ln : Nat) (ln_adpcmHearer : Nat) (ln_wideHearer : Nat) (ln_adpcmSpeaker : Nat) (ln_adpcmSpeaker_numbers : Nat) (ln_wideSpeaker : Nat) (ln_wideSpeaker_low : Nat) (ln_wideSpeaker_low_numbers : Nat) (ln_wideSpeaker_high : Nat) (ln_wideSpeaker_high_numbers : Nat) (ln_wideSpeaker_x : Nat) (c_tape_length : Int32) (f_tape_row : Nat → Int32) (c_result_length : Int32) (f_result_row : Nat → Int32) (c_ln_kind : Int32) (c_ln_adpcmSpeaker_bits : Int32) (c_ln_adpcmSpeaker_se : Int32) (c_ln_adpcmSpeaker_sz : Int32) (c_ln_adpcmSpeaker_step : Int32) (f_ln_adpcmSpeaker_numbers : Nat → Int32) (c_ln_wideSpeaker_secondHeard : Int32) (f_ln_wideSpeaker_low_numbers : Nat → Int32) (f_ln_wideSpeaker_high_numbers : Nat → Int32) (f_ln_wideSpeaker_x : Nat → Int32) : va_W := [(th, .inr (5, [.ref th_lines, .ref th_tape, .ref th_result])), (th_lines, .inl (cL, 4, .inr (.inr (.inr (.inr (fun j => some (La j))))))), (th_tape, .inr (2, [.ref th_tape_row, .int c_tape_length])), (th_tape_row, .inl (cI, 1000, .inl f_tape_row)), (th_result, .inr (2, [.ref th_result_row, .int c_result_length])), (th_result_row, .inl (cI, 1000, .inl f_result_row)), (ln, .inr (3, [.ref ln_adpcmSpeaker, .ref ln_adpcmHearer, .ref ln_wideSpeaker, .ref ln_wideHearer, .int c_ln_kind])), (ln_adpcmSpeaker, .inr (0, [.ref ln_adpcmSpeaker_numbers, .int c_ln_adpcmSpeaker_bits, .int c_ln_adpcmSpeaker_se, .int c_ln_adpcmSpeaker_sz, .int c_ln_adpcmSpeaker_step])), (ln_adpcmSpeaker_numbers, .inl (cI, 24, .inl f_ln_adpcmSpeaker_numbers)), (ln_wideSpeaker, .inr (4, [.ref ln_wideSpeaker_low, .ref ln_wideSpeaker_high, .ref ln_wideSpeaker_x, .int c_ln_wideSpeaker_secondHeard])), (ln_wideSpeaker_low, .inr (1, [.ref ln_wideSpeaker_low_numbers])), (ln_wideSpeaker_low_numbers, .inl (cI, 23, .inl f_ln_wideSpeaker_low_numbers)), (ln_wideSpeaker_high, .inr (1, [.ref ln_wideSpeaker_high_numbers])), (ln_wideSpeaker_high_numbers, .inl (cI, 23, .inl f_ln_wideSpeaker_high_numbers)), (ln_wideSpeaker_x, .inl (cI, 24, .inl f_ln_wideSpeaker_x))]
def fX6_pack_i (a1 : Int32) (a2 : Int32) (f_tape_row : Nat → Int32) (c_ln_kind : Int32) (c_ln_adpcmSpeaker_bits : Int32) (c_tape_length : Int32) (c_result_length : Int32) (f_result_row : Nat → Int32) (c_ln_adpcmSpeaker_se : Int32) (c_ln_adpcmSpeaker_sz : Int32) (c_ln_adpcmSpeaker_step : Int32) (f_ln_adpcmSpeaker_numbers : Nat → Int32) (f_ln_wideSpeaker_low_numbers : Nat → Int32) (f_ln_wideSpeaker_high_numbers : Nat → Int32) (f_ln_wideSpeaker_x : Nat → Int32) : Option (Int32 × Int32 × Int32 × (Nat → Int32) × Int32 × Int32 × Int32 × (Nat → Int32) × (Nat → Int32) × (Nat → Int32) × (Nat → Int32)) := pq_cl (fX6_openLine_i a1 c_ln_kind) fun (r1 : Int32) => pq_br (r1 = 0) (some ((-100000 : Int32), c_tape_length, c_result_length, f_result_row, c_ln_adpcmSpeaker_se, c_ln_adpcmSpeaker_sz, c_ln_adpcmSpeaker_step, f_ln_adpcmSpeaker_numbers, f_ln_wideSpeaker_low_numbers, f_ln_wideSpeaker_high_numbers, f_ln_wideSpeaker_x)) (pq_cl (fX4_isWide c_ln_kind) fun (r4 : Int32) => pq_br (r4 = (0 : Int32)) (fX6_pack_i_b25  f_tape_row c_ln_kind c_ln_adpcmSpeaker_bits a2 (1 : Int32) c_tape_length c_result_length f_result_row c_ln_adpcmSpeaker_se c_ln_adpcmSpeaker_sz c_ln_adpcmSpeaker_step f_ln_adpcmSpeaker_numbers f_ln_wideSpeaker_low_numbers f_ln_wideSpeaker_high_numbers f_ln_wideSpeaker_x) (fX6_pack_i_b25  f_tape_row c_ln_kind c_ln_adpcmSpeaker_bits a2 (2 : Int32) c_tape_length c_result_length f_result_row c_ln_adpcmSpeaker_se c_ln_adpcmSpeaker_sz c_ln_adpcmSpeaker_step f_ln_adpcmSpeaker_numbers f_ln_wideSpeaker_low_numbers f_ln_wideSpeaker_high_numbers f_ln_wideSpeaker_x))

abbrev wX6_unpack_o (cI : ClassId) (th : Nat) (th_lines : Nat) (th_tape : Nat) (th_result : Nat) : va_W := [(th, .inr (5, [.ref th_lines, .ref th_tape, .ref th_result]))]
def fX6_unpack_o (a1 : Int32) (a2 : Int32) (a3 : Int32) : Option (Int32) := pq_cl (fX6_openLine_o a1) fun (u2 : Unit) => some ((-100000 : Int32))

def fX6_unpack_i_b114 (k64 : (Int32) → (Int32) → (Int32) → (Int32) → (Int32) → (Int32) → (Nat → Int32) → (Int32) → (Int32) → (Int32) → (Nat → Int32) → (Int32) → (Nat → Int32) → (Nat → Int32) → (Nat → Int32) → Option (Int32 × Int32 × Int32 × (Nat → Int32) × Int32 × Int32 × Int32 × (Nat → Int32) × Int32 × (Nat → Int32) × (Nat → Int32) × (Nat → Int32))) (f_tape_row : Nat → Int32) (c_ln_kind : Int32) (c_ln_adpcmHearer_bits : Int32) (x2 : Int32) (x3 : Int32) (x5 : Int32) (x6 : Int32) (c_tape_length : Int32) (c_result_length : Int32) (f_result_row : Nat → Int32) (c_ln_adpcmHearer_se : Int32) (c_ln_adpcmHearer_sz : Int32) (c_ln_adpcmHearer_step : Int32) (f_ln_adpcmHearer_numbers : Nat → Int32) (c_ln_wideHearer_secondHeard : Int32) (f_ln_wideHearer_low_numbers : Nat → Int32) (f_ln_wideHearer_high_numbers : Nat → Int32) (f_ln_wideHearer_x : Nat → Int32) : Option (Int32 × Int32 × Int32 × (Nat → Int32) × Int32 × Int32 × Int32 × (Nat → Int32) × Int32 × (Nat → Int32) × (Nat → Int32) × (Nat → Int32)) := pq_nm (x6 + (1 : Int32)) fun (v38 : Int32) => k64 x2 x3 x5 v38 c_tape_length c_result_length f_result_row c_ln_adpcmHearer_se c_ln_adpcmHearer_sz c_ln_adpcmHearer_step f_ln_adpcmHearer_numbers c_ln_wideHearer_secondHeard f_ln_wideHearer_low_numbers f_ln_wideHearer_high_numbers f_ln_wideHearer_x
def fX6_unpack_i_b64 (f_tape_row : Nat → Int32) (c_ln_kind : Int32) (c_ln_adpcmHearer_bits : Int32) (fuel : Nat) (x2 : Int32) (x3 : Int32) (x5 : Int32) (x6 : Int32) (c_tape_length : Int32) (c_result_length : Int32) (f_result_row : Nat → Int32) (c_ln_adpcmHearer_se : Int32) (c_ln_adpcmHearer_sz : Int32) (c_ln_adpcmHearer_step : Int32) (f_ln_adpcmHearer_numbers : Nat → Int32) (c_ln_wideHearer_secondHeard : Int32) (f_ln_wideHearer_low_numbers : Nat → Int32) (f_ln_wideHearer_high_numbers : Nat → Int32) (f_ln_wideHearer_x : Nat → Int32) : Option (Int32 × Int32 × Int32 × (Nat → Int32) × Int32 × Int32 × Int32 × (Nat → Int32) × Int32 × (Nat → Int32) × (Nat → Int32) × (Nat → Int32)) := match fuel with
  | 0 => none
  | fuel + 1 => pq_br (x3 ≤ x6) (some (c_result_length, (0 : Int32), c_result_length, f_result_row, c_ln_adpcmHearer_se, c_ln_adpcmHearer_sz, c_ln_adpcmHearer_step, f_ln_adpcmHearer_numbers, c_ln_wideHearer_secondHeard, f_ln_wideHearer_low_numbers, f_ln_wideHearer_high_numbers, f_ln_wideHearer_x)) (pq_cl (fX2_codeAt x6 x5 x2 c_tape_length f_tape_row) fun (r12 : Int32) => pq_cl (fX4_decode r12 c_ln_kind c_ln_adpcmHearer_bits c_ln_adpcmHearer_se c_ln_adpcmHearer_sz c_ln_adpcmHearer_step f_ln_adpcmHearer_numbers c_ln_wideHearer_secondHeard f_ln_wideHearer_low_numbers f_ln_wideHearer_high_numbers f_ln_wideHearer_x) fun (u24 : (Int32) × (Int32) × (Int32) × (Int32) × (Nat → Int32) × (Int32) × (Nat → Int32) × (Nat → Int32) × (Nat → Int32)) => pq_nm (u24.1) fun (r14 : Int32) => pq_nm (u24.2.1) fun (c15 : Int32) => pq_nm (u24.2.2.1) fun (c16 : Int32) => pq_nm (u24.2.2.2.1) fun (c17 : Int32) => pq_nm (u24.2.2.2.2.1) fun (f18 : Nat → Int32) => pq_nm (u24.2.2.2.2.2.1) fun (c19 : Int32) => pq_nm (u24.2.2.2.2.2.2.1) fun (f20 : Nat → Int32) => pq_nm (u24.2.2.2.2.2.2.2.1) fun (f21 : Nat → Int32) => pq_nm (u24.2.2.2.2.2.2.2.2) fun (f22 : Nat → Int32) => pq_cl (fX2_addSample r14 c_result_length f_result_row) fun (u28 : (Int32) × (Nat → Int32)) => pq_nm (u28.1) fun (c25 : Int32) => pq_nm (u28.2) fun (f26 : Nat → Int32) => pq_cl (fX4_isWide c_ln_kind) fun (r29 : Int32) => pq_br (r29 = (0 : Int32)) (fX6_unpack_i_b114 (fX6_unpack_i_b64  f_tape_row c_ln_kind c_ln_adpcmHearer_bits fuel) f_tape_row c_ln_kind c_ln_adpcmHearer_bits x2 x3 x5 x6 c_tape_length c25 f26 c15 c16 c17 f18 c19 f20 f21 f22) (pq_cl (fX4_secondHeard c19) fun (r32 : Int32) => pq_cl (fX2_addSample r32 c25 f26) fun (u37 : (Int32) × (Nat → Int32)) => pq_nm (u37.1) fun (c34 : Int32) => pq_nm (u37.2) fun (f35 : Nat → Int32) => fX6_unpack_i_b114 (fX6_unpack_i_b64  f_tape_row c_ln_kind c_ln_adpcmHearer_bits fuel) f_tape_row c_ln_kind c_ln_adpcmHearer_bits x2 x3 x5 x6 c_tape_length c34 f35 c15 c16 c17 f18 c19 f20 f21 f22))
abbrev wX6_unpack_i (cI : ClassId) (cL : ClassId) (La : Nat → Nat) (th : Nat) (th_lines : Nat) (th_tape : Nat) (th_tape_row : Nat) (th_result : Nat) (th_result_row : Nat) (ln : Nat) (ln_adpcmSpeaker : Nat) (ln_wideSpeaker : Nat) (ln_adpcmHearer : Nat) (ln_adpcmHearer_numbers : Nat) (ln_wideHearer : Nat) (ln_wideHearer_low : Nat) (ln_wideHearer_low_numbers : Nat) (ln_wideHearer_high : Nat) (ln_wideHearer_high_numbers : Nat) (ln_wideHearer_x : Nat) (c_tape_length : Int32) (f_tape_row : Nat → Int32) (c_result_length : Int32) (f_result_row : Nat → Int32) (c_ln_kind : Int32) (c_ln_adpcmHearer_bits : Int32) (c_ln_adpcmHearer_se : Int32) (c_ln_adpcmHearer_sz : Int32) (c_ln_adpcmHearer_step : Int32) (f_ln_adpcmHearer_numbers : Nat → Int32) (c_ln_wideHearer_secondHeard : Int32) (f_ln_wideHearer_low_numbers : Nat → Int32) (f_ln_wideHearer_high_numbers : Nat → Int32) (f_ln_wideHearer_x : Nat → Int32) : va_W := [(th, .inr (5, [.ref th_lines, .ref th_tape, .ref th_result])), (th_lines, .inl (cL, 4, .inr (.inr (.inr (.inr (fun j => some (La j))))))), (th_tape, .inr (2, [.ref th_tape_row, .int c_tape_length])), (th_tape_row, .inl (cI, 1000, .inl f_tape_row)), (th_result, .inr (2, [.ref th_result_row, .int c_result_length])), (th_result_row, .inl (cI, 1000, .inl f_result_row)), (ln, .inr (3, [.ref ln_adpcmSpeaker, .ref ln_adpcmHearer, .ref ln_wideSpeaker, .ref ln_wideHearer, .int c_ln_kind])), (ln_adpcmHearer, .inr (0, [.ref ln_adpcmHearer_numbers, .int c_ln_adpcmHearer_bits, .int c_ln_adpcmHearer_se, .int c_ln_adpcmHearer_sz, .int c_ln_adpcmHearer_step])), (ln_adpcmHearer_numbers, .inl (cI, 24, .inl f_ln_adpcmHearer_numbers)), (ln_wideHearer, .inr (4, [.ref ln_wideHearer_low, .ref ln_wideHearer_high, .ref ln_wideHearer_x, .int c_ln_wideHearer_secondHeard])), (ln_wideHearer_low, .inr (1, [.ref ln_wideHearer_low_numbers])), (ln_wideHearer_low_numbers, .inl (cI, 23, .inl f_ln_wideHearer_low_numbers)), (ln_wideHearer_high, .inr (1, [.ref ln_wideHearer_high_numbers])), (ln_wideHearer_high_numbers, .inl (cI, 23, .inl f_ln_wideHearer_high_numbers)), (ln_wideHearer_x, .inl (cI, 24, .inl f_ln_wideHearer_x))]
def fX6_unpack_i (a1 : Int32) (a2 : Int32) (a3 : Int32) (f_tape_row : Nat → Int32) (c_ln_kind : Int32) (c_ln_adpcmHearer_bits : Int32) (c_tape_length : Int32) (c_result_length : Int32) (f_result_row : Nat → Int32) (c_ln_adpcmHearer_se : Int32) (c_ln_adpcmHearer_sz : Int32) (c_ln_adpcmHearer_step : Int32) (f_ln_adpcmHearer_numbers : Nat → Int32) (c_ln_wideHearer_secondHeard : Int32) (f_ln_wideHearer_low_numbers : Nat → Int32) (f_ln_wideHearer_high_numbers : Nat → Int32) (f_ln_wideHearer_x : Nat → Int32) : Option (Int32 × Int32 × Int32 × (Nat → Int32) × Int32 × Int32 × Int32 × (Nat → Int32) × Int32 × (Nat → Int32) × (Nat → Int32) × (Nat → Int32)) := pq_cl (fX6_openLine_i a1 c_ln_kind) fun (r1 : Int32) => pq_br (r1 = 0) (some ((-100000 : Int32), c_tape_length, c_result_length, f_result_row, c_ln_adpcmHearer_se, c_ln_adpcmHearer_sz, c_ln_adpcmHearer_step, f_ln_adpcmHearer_numbers, c_ln_wideHearer_secondHeard, f_ln_wideHearer_low_numbers, f_ln_wideHearer_high_numbers, f_ln_wideHearer_x)) (pq_br (a3 < (0 : Int32)) (some ((-100000 : Int32), c_tape_length, c_result_length, f_result_row, c_ln_adpcmHearer_se, c_ln_adpcmHearer_sz, c_ln_adpcmHearer_step, f_ln_adpcmHearer_numbers, c_ln_wideHearer_secondHeard, f_ln_wideHearer_low_numbers, f_ln_wideHearer_high_numbers, f_ln_wideHearer_x)) (pq_br (a3 ≤ (250 : Int32)) (pq_cl (fX4_codeBits c_ln_kind) fun (r6 : Int32) => pq_cl (fX2_needed (a3 * r6)) fun (r8 : Int32) => pq_br (c_tape_length = r8) (fX6_unpack_i_b64  f_tape_row c_ln_kind c_ln_adpcmHearer_bits 1100 a2 a3 r6 (0 : Int32) c_tape_length (0 : Int32) f_result_row c_ln_adpcmHearer_se c_ln_adpcmHearer_sz c_ln_adpcmHearer_step f_ln_adpcmHearer_numbers c_ln_wideHearer_secondHeard f_ln_wideHearer_low_numbers f_ln_wideHearer_high_numbers f_ln_wideHearer_x) (some ((-100000 : Int32), c_tape_length, c_result_length, f_result_row, c_ln_adpcmHearer_se, c_ln_adpcmHearer_sz, c_ln_adpcmHearer_step, f_ln_adpcmHearer_numbers, c_ln_wideHearer_secondHeard, f_ln_wideHearer_low_numbers, f_ln_wideHearer_high_numbers, f_ln_wideHearer_x))) (some ((-100000 : Int32), c_tape_length, c_result_length, f_result_row, c_ln_adpcmHearer_se, c_ln_adpcmHearer_sz, c_ln_adpcmHearer_step, f_ln_adpcmHearer_numbers, c_ln_wideHearer_secondHeard, f_ln_wideHearer_low_numbers, f_ln_wideHearer_high_numbers, f_ln_wideHearer_x))))

abbrev wX6_pass_oo (cI : ClassId) (th : Nat) (th_lines : Nat) (th_tape : Nat) (th_result : Nat) : va_W := [(th, .inr (5, [.ref th_lines, .ref th_tape, .ref th_result]))]
def fX6_pass_oo (a1 : Int32) (a2 : Int32) (a3 : Int32) : Option (Int32) := pq_cl (fX6_openLine_o a1) fun (u2 : Unit) => pq_cl (fX6_openLine_o a2) fun (u4 : Unit) => some ((-100000 : Int32))

abbrev wX6_pass_oi (cI : ClassId) (cL : ClassId) (La : Nat → Nat) (th : Nat) (th_tape : Nat) (th_result : Nat) (th_lines : Nat) (lm : Nat) (lm_adpcmSpeaker : Nat) (lm_adpcmHearer : Nat) (lm_wideSpeaker : Nat) (lm_wideHearer : Nat) (c_lm_kind : Int32) : va_W := [(th, .inr (5, [.ref th_lines, .ref th_tape, .ref th_result])), (th_lines, .inl (cL, 4, .inr (.inr (.inr (.inr (fun j => some (La j))))))), (lm, .inr (3, [.ref lm_adpcmSpeaker, .ref lm_adpcmHearer, .ref lm_wideSpeaker, .ref lm_wideHearer, .int c_lm_kind]))]
def fX6_pass_oi (a1 : Int32) (a2 : Int32) (a3 : Int32) (c_lm_kind : Int32) : Option (Int32) := pq_cl (fX6_openLine_o a1) fun (u2 : Unit) => pq_cl (fX6_openLine_i a2 c_lm_kind) fun (r3 : Int32) => pq_br (r3 = 0) (some ((-100000 : Int32))) (some ((-100000 : Int32)))

abbrev wX6_pass_io (cI : ClassId) (cL : ClassId) (La : Nat → Nat) (th : Nat) (th_tape : Nat) (th_result : Nat) (th_lines : Nat) (ln : Nat) (ln_adpcmSpeaker : Nat) (ln_adpcmHearer : Nat) (ln_wideSpeaker : Nat) (ln_wideHearer : Nat) (c_ln_kind : Int32) : va_W := [(th, .inr (5, [.ref th_lines, .ref th_tape, .ref th_result])), (th_lines, .inl (cL, 4, .inr (.inr (.inr (.inr (fun j => some (La j))))))), (ln, .inr (3, [.ref ln_adpcmSpeaker, .ref ln_adpcmHearer, .ref ln_wideSpeaker, .ref ln_wideHearer, .int c_ln_kind]))]
def fX6_pass_io (a1 : Int32) (a2 : Int32) (a3 : Int32) (c_ln_kind : Int32) : Option (Int32) := pq_cl (fX6_openLine_i a1 c_ln_kind) fun (r1 : Int32) => pq_br (r1 = 0) (pq_cl (fX6_openLine_o a2) fun (u5 : Unit) => some ((-100000 : Int32))) (pq_cl (fX6_openLine_o a2) fun (u7 : Unit) => some ((-100000 : Int32)))

abbrev wX6_pass_ii (cI : ClassId) (cL : ClassId) (La : Nat → Nat) (th : Nat) (th_tape : Nat) (th_result : Nat) (th_lines : Nat) (ln : Nat) (ln_adpcmSpeaker : Nat) (ln_wideSpeaker : Nat) (ln_adpcmHearer : Nat) (ln_adpcmHearer_numbers : Nat) (ln_wideHearer : Nat) (ln_wideHearer_low : Nat) (ln_wideHearer_low_numbers : Nat) (ln_wideHearer_high : Nat) (ln_wideHearer_high_numbers : Nat) (ln_wideHearer_x : Nat) (lm : Nat) (lm_adpcmHearer : Nat) (lm_wideHearer : Nat) (lm_adpcmSpeaker : Nat) (lm_adpcmSpeaker_numbers : Nat) (lm_wideSpeaker : Nat) (lm_wideSpeaker_low : Nat) (lm_wideSpeaker_low_numbers : Nat) (lm_wideSpeaker_high : Nat) (lm_wideSpeaker_high_numbers : Nat) (lm_wideSpeaker_x : Nat) (c_ln_kind : Int32) (c_ln_adpcmHearer_bits : Int32) (c_ln_adpcmHearer_se : Int32) (c_ln_adpcmHearer_sz : Int32) (c_ln_adpcmHearer_step : Int32) (f_ln_adpcmHearer_numbers : Nat → Int32) (c_ln_wideHearer_secondHeard : Int32) (f_ln_wideHearer_low_numbers : Nat → Int32) (f_ln_wideHearer_high_numbers : Nat → Int32) (f_ln_wideHearer_x : Nat → Int32) (c_lm_kind : Int32) (c_lm_adpcmSpeaker_bits : Int32) (c_lm_adpcmSpeaker_se : Int32) (c_lm_adpcmSpeaker_sz : Int32) (c_lm_adpcmSpeaker_step : Int32) (f_lm_adpcmSpeaker_numbers : Nat → Int32) (c_lm_wideSpeaker_secondHeard : Int32) (f_lm_wideSpeaker_low_numbers : Nat → Int32) (f_lm_wideSpeaker_high_numbers : Nat → Int32) (f_lm_wideSpeaker_x : Nat → Int32) : va_W := [(th, .inr (5, [.ref th_lines, .ref th_tape, .ref th_result])), (th_lines, .inl (cL, 4, .inr (.inr (.inr (.inr (fun j => some (La j))))))), (ln, .inr (3, [.ref ln_adpcmSpeaker, .ref ln_adpcmHearer, .ref ln_wideSpeaker, .ref ln_wideHearer, .int c_ln_kind])), (ln_adpcmHearer, .inr (0, [.ref ln_adpcmHearer_numbers, .int c_ln_adpcmHearer_bits, .int c_ln_adpcmHearer_se, .int c_ln_adpcmHearer_sz, .int c_ln_adpcmHearer_step])), (ln_adpcmHearer_numbers, .inl (cI, 24, .inl f_ln_adpcmHearer_numbers)), (ln_wideHearer, .inr (4, [.ref ln_wideHearer_low, .ref ln_wideHearer_high, .ref ln_wideHearer_x, .int c_ln_wideHearer_secondHeard])), (ln_wideHearer_low, .inr (1, [.ref ln_wideHearer_low_numbers])), (ln_wideHearer_low_numbers, .inl (cI, 23, .inl f_ln_wideHearer_low_numbers)), (ln_wideHearer_high, .inr (1, [.ref ln_wideHearer_high_numbers])), (ln_wideHearer_high_numbers, .inl (cI, 23, .inl f_ln_wideHearer_high_numbers)), (ln_wideHearer_x, .inl (cI, 24, .inl f_ln_wideHearer_x)), (lm, .inr (3, [.ref lm_adpcmSpeaker, .ref lm_adpcmHearer, .ref lm_wideSpeaker, .ref lm_wideHearer, .int c_lm_kind])), (lm_adpcmSpeaker, .inr (0, [.ref lm_adpcmSpeaker_numbers, .int c_lm_adpcmSpeaker_bits, .int c_lm_adpcmSpeaker_se, .int c_lm_adpcmSpeaker_sz, .int c_lm_adpcmSpeaker_step])), (lm_adpcmSpeaker_numbers, .inl (cI, 24, .inl f_lm_adpcmSpeaker_numbers)), (lm_wideSpeaker, .inr (4, [.ref lm_wideSpeaker_low, .ref lm_wideSpeaker_high, .ref lm_wideSpeaker_x, .int c_lm_wideSpeaker_secondHeard])), (lm_wideSpeaker_low, .inr (1, [.ref lm_wideSpeaker_low_numbers])), (lm_wideSpeaker_low_numbers, .inl (cI, 23, .inl f_lm_wideSpeaker_low_numbers)), (lm_wideSpeaker_high, .inr (1, [.ref lm_wideSpeaker_high_numbers])), (lm_wideSpeaker_high_numbers, .inl (cI, 23, .inl f_lm_wideSpeaker_high_numbers)), (lm_wideSpeaker_x, .inl (cI, 24, .inl f_lm_wideSpeaker_x))]
def fX6_pass_ii (a1 : Int32) (a2 : Int32) (a3 : Int32) (c_ln_kind : Int32) (c_ln_adpcmHearer_bits : Int32) (c_lm_kind : Int32) (c_lm_adpcmSpeaker_bits : Int32) (c_ln_adpcmHearer_se : Int32) (c_ln_adpcmHearer_sz : Int32) (c_ln_adpcmHearer_step : Int32) (f_ln_adpcmHearer_numbers : Nat → Int32) (c_ln_wideHearer_secondHeard : Int32) (f_ln_wideHearer_low_numbers : Nat → Int32) (f_ln_wideHearer_high_numbers : Nat → Int32) (f_ln_wideHearer_x : Nat → Int32) (c_lm_adpcmSpeaker_se : Int32) (c_lm_adpcmSpeaker_sz : Int32) (c_lm_adpcmSpeaker_step : Int32) (f_lm_adpcmSpeaker_numbers : Nat → Int32) (f_lm_wideSpeaker_low_numbers : Nat → Int32) (f_lm_wideSpeaker_high_numbers : Nat → Int32) (f_lm_wideSpeaker_x : Nat → Int32) : Option (Int32 × Int32 × Int32 × Int32 × (Nat → Int32) × Int32 × (Nat → Int32) × (Nat → Int32) × (Nat → Int32) × Int32 × Int32 × Int32 × (Nat → Int32) × (Nat → Int32) × (Nat → Int32) × (Nat → Int32)) := pq_cl (fX6_openLine_i a1 c_ln_kind) fun (r1 : Int32) => pq_br (r1 = 0) (pq_cl (fX6_openLine_i a2 c_lm_kind) fun (r4 : Int32) => pq_br (r4 = 0) (some ((-100000 : Int32), c_ln_adpcmHearer_se, c_ln_adpcmHearer_sz, c_ln_adpcmHearer_step, f_ln_adpcmHearer_numbers, c_ln_wideHearer_secondHeard, f_ln_wideHearer_low_numbers, f_ln_wideHearer_high_numbers, f_ln_wideHearer_x, c_lm_adpcmSpeaker_se, c_lm_adpcmSpeaker_sz, c_lm_adpcmSpeaker_step, f_lm_adpcmSpeaker_numbers, f_lm_wideSpeaker_low_numbers, f_lm_wideSpeaker_high_numbers, f_lm_wideSpeaker_x)) (some ((-100000 : Int32), c_ln_adpcmHearer_se, c_ln_adpcmHearer_sz, c_ln_adpcmHearer_step, f_ln_adpcmHearer_numbers, c_ln_wideHearer_secondHeard, f_ln_wideHearer_low_numbers, f_ln_wideHearer_high_numbers, f_ln_wideHearer_x, c_lm_adpcmSpeaker_se, c_lm_adpcmSpeaker_sz, c_lm_adpcmSpeaker_step, f_lm_adpcmSpeaker_numbers, f_lm_wideSpeaker_low_numbers, f_lm_wideSpeaker_high_numbers, f_lm_wideSpeaker_x))) (pq_cl (fX6_openLine_i a2 c_lm_kind) fun (r7 : Int32) => pq_br (r7 = 0) (some ((-100000 : Int32), c_ln_adpcmHearer_se, c_ln_adpcmHearer_sz, c_ln_adpcmHearer_step, f_ln_adpcmHearer_numbers, c_ln_wideHearer_secondHeard, f_ln_wideHearer_low_numbers, f_ln_wideHearer_high_numbers, f_ln_wideHearer_x, c_lm_adpcmSpeaker_se, c_lm_adpcmSpeaker_sz, c_lm_adpcmSpeaker_step, f_lm_adpcmSpeaker_numbers, f_lm_wideSpeaker_low_numbers, f_lm_wideSpeaker_high_numbers, f_lm_wideSpeaker_x)) (pq_cl (fX4_hasCode a3 c_ln_kind) fun (r10 : Int32) => pq_br (r10 = (0 : Int32)) (some ((-100000 : Int32), c_ln_adpcmHearer_se, c_ln_adpcmHearer_sz, c_ln_adpcmHearer_step, f_ln_adpcmHearer_numbers, c_ln_wideHearer_secondHeard, f_ln_wideHearer_low_numbers, f_ln_wideHearer_high_numbers, f_ln_wideHearer_x, c_lm_adpcmSpeaker_se, c_lm_adpcmSpeaker_sz, c_lm_adpcmSpeaker_step, f_lm_adpcmSpeaker_numbers, f_lm_wideSpeaker_low_numbers, f_lm_wideSpeaker_high_numbers, f_lm_wideSpeaker_x)) (pq_cl (fX4_isWide c_ln_kind) fun (r13 : Int32) => pq_cl (fX4_isWide c_lm_kind) fun (r15 : Int32) => pq_br (r13 = r15) (pq_cl (fX4_decode a3 c_ln_kind c_ln_adpcmHearer_bits c_ln_adpcmHearer_se c_ln_adpcmHearer_sz c_ln_adpcmHearer_step f_ln_adpcmHearer_numbers c_ln_wideHearer_secondHeard f_ln_wideHearer_low_numbers f_ln_wideHearer_high_numbers f_ln_wideHearer_x) fun (u28 : (Int32) × (Int32) × (Int32) × (Int32) × (Nat → Int32) × (Int32) × (Nat → Int32) × (Nat → Int32) × (Nat → Int32)) => pq_nm (u28.1) fun (r18 : Int32) => pq_nm (u28.2.1) fun (c19 : Int32) => pq_nm (u28.2.2.1) fun (c20 : Int32) => pq_nm (u28.2.2.2.1) fun (c21 : Int32) => pq_nm (u28.2.2.2.2.1) fun (f22 : Nat → Int32) => pq_nm (u28.2.2.2.2.2.1) fun (c23 : Int32) => pq_nm (u28.2.2.2.2.2.2.1) fun (f24 : Nat → Int32) => pq_nm (u28.2.2.2.2.2.2.2.1) fun (f25 : Nat → Int32) => pq_nm (u28.2.2.2.2.2.2.2.2) fun (f26 : Nat → Int32) => pq_cl (fX4_secondHeard c23) fun (r29 : Int32) => pq_cl (fX4_encode r18 r29 c_lm_kind c_lm_adpcmSpeaker_bits c_lm_adpcmSpeaker_se c_lm_adpcmSpeaker_sz c_lm_adpcmSpeaker_step f_lm_adpcmSpeaker_numbers f_lm_wideSpeaker_low_numbers f_lm_wideSpeaker_high_numbers f_lm_wideSpeaker_x) fun (u40 : (Int32) × (Int32) × (Int32) × (Int32) × (Nat → Int32) × (Nat → Int32) × (Nat → Int32) × (Nat → Int32)) => pq_nm (u40.1) fun (r31 : Int32) => pq_nm (u40.2.1) fun (c32 : Int32) => pq_nm (u40.2.2.1) fun (c33 : Int32) => pq_nm (u40.2.2.2.1) fun (c34 : Int32) => pq_nm (u40.2.2.2.2.1) fun (f35 : Nat → Int32) => pq_nm (u40.2.2.2.2.2.1) fun (f36 : Nat → Int32) => pq_nm (u40.2.2.2.2.2.2.1) fun (f37 : Nat → Int32) => pq_nm (u40.2.2.2.2.2.2.2) fun (f38 : Nat → Int32) => some (r31, c19, c20, c21, f22, c23, f24, f25, f26, c32, c33, c34, f35, f36, f37, f38)) (some ((-100000 : Int32), c_ln_adpcmHearer_se, c_ln_adpcmHearer_sz, c_ln_adpcmHearer_step, f_ln_adpcmHearer_numbers, c_ln_wideHearer_secondHeard, f_ln_wideHearer_low_numbers, f_ln_wideHearer_high_numbers, f_ln_wideHearer_x, c_lm_adpcmSpeaker_se, c_lm_adpcmSpeaker_sz, c_lm_adpcmSpeaker_step, f_lm_adpcmSpeaker_numbers, f_lm_wideSpeaker_low_numbers, f_lm_wideSpeaker_high_numbers, f_lm_wideSpeaker_x)))))

abbrev wX6_pass_is (cI : ClassId) (cL : ClassId) (La : Nat → Nat) (th : Nat) (th_tape : Nat) (th_result : Nat) (th_lines : Nat) (ln : Nat) (ln_adpcmSpeaker : Nat) (ln_adpcmSpeaker_numbers : Nat) (ln_adpcmHearer : Nat) (ln_adpcmHearer_numbers : Nat) (ln_wideSpeaker : Nat) (ln_wideSpeaker_low : Nat) (ln_wideSpeaker_low_numbers : Nat) (ln_wideSpeaker_high : Nat) (ln_wideSpeaker_high_numbers : Nat) (ln_wideSpeaker_x : Nat) (ln_wideHearer : Nat) (ln_wideHearer_low : Nat) (ln_wideHearer_low_numbers : Nat) (ln_wideHearer_high : Nat) (ln_wideHearer_high_numbers : Nat) (ln_wideHearer_x : Nat) (c_ln_kind : Int32) (c_ln_adpcmSpeaker_bits : Int32) (c_ln_adpcmSpeaker_se : Int32) (c_ln_adpcmSpeaker_sz : Int32) (c_ln_adpcmSpeaker_step : Int32) (f_ln_adpcmSpeaker_numbers : Nat → Int32) (c_ln_adpcmHearer_bits : Int32) (c_ln_adpcmHearer_se : Int32) (c_ln_adpcmHearer_sz : Int32) (c_ln_adpcmHearer_step : Int32) (f_ln_adpcmHearer_numbers : Nat → Int32) (c_ln_wideSpeaker_secondHeard : Int32) (f_ln_wideSpeaker_low_numbers : Nat → Int32) (f_ln_wideSpeaker_high_numbers : Nat → Int32) (f_ln_wideSpeaker_x : Nat → Int32) (c_ln_wideHearer_secondHeard : Int32) (f_ln_wideHearer_low_numbers : Nat → Int32) (f_ln_wideHearer_high_numbers : Nat → Int32) (f_ln_wideHearer_x : Nat → Int32) : va_W := [(th, .inr (5, [.ref th_lines, .ref th_tape, .ref th_result])), (th_lines, .inl (cL, 4, .inr (.inr (.inr (.inr (fun j => some (La j))))))), (ln, .inr (3, [.ref ln_adpcmSpeaker, .ref ln_adpcmHearer, .ref ln_wideSpeaker, .ref ln_wideHearer, .int c_ln_kind])), (ln_adpcmSpeaker, .inr (0, [.ref ln_adpcmSpeaker_numbers, .int c_ln_adpcmSpeaker_bits, .int c_ln_adpcmSpeaker_se, .int c_ln_adpcmSpeaker_sz, .int c_ln_adpcmSpeaker_step])), (ln_adpcmSpeaker_numbers, .inl (cI, 24, .inl f_ln_adpcmSpeaker_numbers)), (ln_adpcmHearer, .inr (0, [.ref ln_adpcmHearer_numbers, .int c_ln_adpcmHearer_bits, .int c_ln_adpcmHearer_se, .int c_ln_adpcmHearer_sz, .int c_ln_adpcmHearer_step])), (ln_adpcmHearer_numbers, .inl (cI, 24, .inl f_ln_adpcmHearer_numbers)), (ln_wideSpeaker, .inr (4, [.ref ln_wideSpeaker_low, .ref ln_wideSpeaker_high, .ref ln_wideSpeaker_x, .int c_ln_wideSpeaker_secondHeard])), (ln_wideSpeaker_low, .inr (1, [.ref ln_wideSpeaker_low_numbers])), (ln_wideSpeaker_low_numbers, .inl (cI, 23, .inl f_ln_wideSpeaker_low_numbers)), (ln_wideSpeaker_high, .inr (1, [.ref ln_wideSpeaker_high_numbers])), (ln_wideSpeaker_high_numbers, .inl (cI, 23, .inl f_ln_wideSpeaker_high_numbers)), (ln_wideSpeaker_x, .inl (cI, 24, .inl f_ln_wideSpeaker_x)), (ln_wideHearer, .inr (4, [.ref ln_wideHearer_low, .ref ln_wideHearer_high, .ref ln_wideHearer_x, .int c_ln_wideHearer_secondHeard])), (ln_wideHearer_low, .inr (1, [.ref ln_wideHearer_low_numbers])), (ln_wideHearer_low_numbers, .inl (cI, 23, .inl f_ln_wideHearer_low_numbers)), (ln_wideHearer_high, .inr (1, [.ref ln_wideHearer_high_numbers])), (ln_wideHearer_high_numbers, .inl (cI, 23, .inl f_ln_wideHearer_high_numbers)), (ln_wideHearer_x, .inl (cI, 24, .inl f_ln_wideHearer_x))]
def fX6_pass_is (a1 : Int32) (a2 : Int32) (a3 : Int32) (c_ln_kind : Int32) (c_ln_adpcmSpeaker_bits : Int32) (c_ln_adpcmHearer_bits : Int32) (c_ln_adpcmSpeaker_se : Int32) (c_ln_adpcmSpeaker_sz : Int32) (c_ln_adpcmSpeaker_step : Int32) (f_ln_adpcmSpeaker_numbers : Nat → Int32) (c_ln_adpcmHearer_se : Int32) (c_ln_adpcmHearer_sz : Int32) (c_ln_adpcmHearer_step : Int32) (f_ln_adpcmHearer_numbers : Nat → Int32) (f_ln_wideSpeaker_low_numbers : Nat → Int32) (f_ln_wideSpeaker_high_numbers : Nat → Int32) (f_ln_wideSpeaker_x : Nat → Int32) (c_ln_wideHearer_secondHeard : Int32) (f_ln_wideHearer_low_numbers : Nat → Int32) (f_ln_wideHearer_high_numbers : Nat → Int32) (f_ln_wideHearer_x : Nat → Int32) : Option (Int32 × Int32 × Int32 × Int32 × (Nat → Int32) × Int32 × Int32 × Int32 × (Nat → Int32) × (Nat → Int32) × (Nat → Int32) × (Nat → Int32) × Int32 × (Nat → Int32) × (Nat → Int32) × (Nat → Int32)) := pq_cl (fX6_openLine_i a1 c_ln_kind) fun (r1 : Int32) => pq_br (r1 = 0) (pq_cl (fX6_openLine_i a2 c_ln_kind) fun (r4 : Int32) => pq_br (r4 = 0) (some ((-100000 : Int32), c_ln_adpcmSpeaker_se, c_ln_adpcmSpeaker_sz, c_ln_adpcmSpeaker_step, f_ln_adpcmSpeaker_numbers, c_ln_adpcmHearer_se, c_ln_adpcmHearer_sz, c_ln_adpcmHearer_step, f_ln_adpcmHearer_numbers, f_ln_wideSpeaker_low_numbers, f_ln_wideSpeaker_high_numbers, f_ln_wideSpeaker_x, c_ln_wideHearer_secondHeard, f_ln_wideHearer_low_numbers, f_ln_wideHearer_high_numbers, f_ln_wideHearer_x)) (some ((-100000 : Int32), c_ln_adpcmSpeaker_se, c_ln_adpcmSpeaker_sz, c_ln_adpcmSpeaker_step, f_ln_adpcmSpeaker_numbers, c_ln_adpcmHearer_se, c_ln_adpcmHearer_sz, c_ln_adpcmHearer_step, f_ln_adpcmHearer_numbers, f_ln_wideSpeaker_low_numbers, f_ln_wideSpeaker_high_numbers, f_ln_wideSpeaker_x, c_ln_wideHearer_secondHeard, f_ln_wideHearer_low_numbers, f_ln_wideHearer_high_numbers, f_ln_wideHearer_x))) (pq_cl (fX6_openLine_i a2 c_ln_kind) fun (r7 : Int32) => pq_br (r7 = 0) (some ((-100000 : Int32), c_ln_adpcmSpeaker_se, c_ln_adpcmSpeaker_sz, c_ln_adpcmSpeaker_step, f_ln_adpcmSpeaker_numbers, c_ln_adpcmHearer_se, c_ln_adpcmHearer_sz, c_ln_adpcmHearer_step, f_ln_adpcmHearer_numbers, f_ln_wideSpeaker_low_numbers, f_ln_wideSpeaker_high_numbers, f_ln_wideSpeaker_x, c_ln_wideHearer_secondHeard, f_ln_wideHearer_low_numbers, f_ln_wideHearer_high_numbers, f_ln_wideHearer_x)) (pq_cl (fX4_hasCode a3 c_ln_kind) fun (r10 : Int32) => pq_br (r10 = (0 : Int32)) (some ((-100000 : Int32), c_ln_adpcmSpeaker_se, c_ln_adpcmSpeaker_sz, c_ln_adpcmSpeaker_step, f_ln_adpcmSpeaker_numbers, c_ln_adpcmHearer_se, c_ln_adpcmHearer_sz, c_ln_adpcmHearer_step, f_ln_adpcmHearer_numbers, f_ln_wideSpeaker_low_numbers, f_ln_wideSpeaker_high_numbers, f_ln_wideSpeaker_x, c_ln_wideHearer_secondHeard, f_ln_wideHearer_low_numbers, f_ln_wideHearer_high_numbers, f_ln_wideHearer_x)) (pq_cl (fX4_isWide c_ln_kind) fun (r13 : Int32) => pq_cl (fX4_isWide c_ln_kind) fun (r15 : Int32) => pq_br (r13 = r15) (pq_cl (fX4_decode a3 c_ln_kind c_ln_adpcmHearer_bits c_ln_adpcmHearer_se c_ln_adpcmHearer_sz c_ln_adpcmHearer_step f_ln_adpcmHearer_numbers c_ln_wideHearer_secondHeard f_ln_wideHearer_low_numbers f_ln_wideHearer_high_numbers f_ln_wideHearer_x) fun (u28 : (Int32) × (Int32) × (Int32) × (Int32) × (Nat → Int32) × (Int32) × (Nat → Int32) × (Nat → Int32) × (Nat → Int32)) => pq_nm (u28.1) fun (r18 : Int32) => pq_nm (u28.2.1) fun (c19 : Int32) => pq_nm (u28.2.2.1) fun (c20 : Int32) => pq_nm (u28.2.2.2.1) fun (c21 : Int32) => pq_nm (u28.2.2.2.2.1) fun (f22 : Nat → Int32) => pq_nm (u28.2.2.2.2.2.1) fun (c23 : Int32) => pq_nm (u28.2.2.2.2.2.2.1) fun (f24 : Nat → Int32) => pq_nm (u28.2.2.2.2.2.2.2.1) fun (f25 : Nat → Int32) => pq_nm (u28.2.2.2.2.2.2.2.2) fun (f26 : Nat → Int32) => pq_cl (fX4_secondHeard c23) fun (r29 : Int32) => pq_cl (fX4_encode r18 r29 c_ln_kind c_ln_adpcmSpeaker_bits c_ln_adpcmSpeaker_se c_ln_adpcmSpeaker_sz c_ln_adpcmSpeaker_step f_ln_adpcmSpeaker_numbers f_ln_wideSpeaker_low_numbers f_ln_wideSpeaker_high_numbers f_ln_wideSpeaker_x) fun (u40 : (Int32) × (Int32) × (Int32) × (Int32) × (Nat → Int32) × (Nat → Int32) × (Nat → Int32) × (Nat → Int32)) => pq_nm (u40.1) fun (r31 : Int32) => pq_nm (u40.2.1) fun (c32 : Int32) => pq_nm (u40.2.2.1) fun (c33 : Int32) => pq_nm (u40.2.2.2.1) fun (c34 : Int32) => pq_nm (u40.2.2.2.2.1) fun (f35 : Nat → Int32) => pq_nm (u40.2.2.2.2.2.1) fun (f36 : Nat → Int32) => pq_nm (u40.2.2.2.2.2.2.1) fun (f37 : Nat → Int32) => pq_nm (u40.2.2.2.2.2.2.2) fun (f38 : Nat → Int32) => some (r31, c32, c33, c34, f35, c19, c20, c21, f22, f36, f37, f38, c23, f24, f25, f26)) (some ((-100000 : Int32), c_ln_adpcmSpeaker_se, c_ln_adpcmSpeaker_sz, c_ln_adpcmSpeaker_step, f_ln_adpcmSpeaker_numbers, c_ln_adpcmHearer_se, c_ln_adpcmHearer_sz, c_ln_adpcmHearer_step, f_ln_adpcmHearer_numbers, f_ln_wideSpeaker_low_numbers, f_ln_wideSpeaker_high_numbers, f_ln_wideSpeaker_x, c_ln_wideHearer_secondHeard, f_ln_wideHearer_low_numbers, f_ln_wideHearer_high_numbers, f_ln_wideHearer_x)))))

def fX6_law_b9 (x1 : Int32) (x2 : Int32) (x3 : Int32) : Option (Int32) := pq_br (x2 < (0 : Int32)) (some ((-100000 : Int32))) (pq_br (x2 ≤ (255 : Int32)) (pq_br (x3 = (0 : Int32)) (pq_br (x1 = (0 : Int32)) (pq_cl (fX3_muEdge x2 (0 : Int32)) fun (r9 : Int32) => some (r9)) (pq_cl (fX3_aEdge x2 (0 : Int32)) fun (r7 : Int32) => some (r7))) (pq_br (x3 = (1 : Int32)) (pq_br (x1 = (0 : Int32)) (pq_cl (fX3_muEdge x2 (1 : Int32)) fun (r15 : Int32) => some (r15)) (pq_cl (fX3_aEdge x2 (1 : Int32)) fun (r13 : Int32) => some (r13))) (pq_br (x3 = (2 : Int32)) (pq_br (x1 = (0 : Int32)) (pq_cl (fX3_muSample x2) fun (r23 : Int32) => pq_cl (fX3_muCode r23) fun (r25 : Int32) => some (r25)) (pq_cl (fX3_aSample x2) fun (r19 : Int32) => pq_cl (fX3_aCode r19) fun (r21 : Int32) => some (r21))) (some ((-100000 : Int32)))))) (some ((-100000 : Int32))))
def fX6_law (a1 : Int32) (a2 : Int32) (a3 : Int32) : Option (Int32) := pq_br (a1 = (0 : Int32)) (fX6_law_b9   a1 a2 a3) (pq_br (a1 = (1 : Int32)) (fX6_law_b9   a1 a2 a3) (some ((-100000 : Int32))))

def fX7_isLine (a1 : Int32) : Option (Int32) := pq_br (a1 < (0 : Int32)) (some ((0 : Int32))) (pq_br ((4 : Int32) ≤ a1) (some ((0 : Int32))) (some ((1 : Int32))))

abbrev wX7_isOpen (cI : ClassId) (th : Nat) (ad : Nat → Nat) (c_told : Int32) (c_sumZ : Int32) (c_sumE : Int32) (c_stepY : Int32) (c_odd : Int32) (c_even : Int32) (c_taped : Int32) (c_outs : Int32) (c_isFound : Int32) (f_kinds : Nat → Int32) : va_W := [(th, .inr (6, pq_oM ad c_told c_sumZ c_sumE c_stepY c_odd c_even c_taped c_outs c_isFound)), ((ad 1), .inl (cI, 4, .inl f_kinds))]
def fX7_isOpen (a1 : Int32) (f_kinds : Nat → Int32) : Option (Int32) := pq_cl (fX7_isLine a1) fun (r1 : Int32) => pq_br (r1 = (0 : Int32)) (some ((0 : Int32))) (pq_rd 4 f_kinds (a1) fun (v5 : Int32) => pq_br (v5 = (-100000 : Int32)) (some ((0 : Int32))) (some ((1 : Int32))))

abbrev wX7_isPaired (cI : ClassId) (th : Nat) (ad : Nat → Nat) (c_told : Int32) (c_sumZ : Int32) (c_sumE : Int32) (c_stepY : Int32) (c_odd : Int32) (c_even : Int32) (c_taped : Int32) (c_outs : Int32) (c_isFound : Int32) (f_kinds : Nat → Int32) : va_W := [(th, .inr (6, pq_oM ad c_told c_sumZ c_sumE c_stepY c_odd c_even c_taped c_outs c_isFound)), ((ad 1), .inl (cI, 4, .inl f_kinds))]
def fX7_isPaired (a1 : Int32) (f_kinds : Nat → Int32) : Option (Int32) := pq_rd 4 f_kinds (a1) fun (v2 : Int32) => pq_br (v2 < (6 : Int32)) (some ((0 : Int32))) (some ((1 : Int32)))

def fX7_limited (a1 : Int32) : Option (Int32) := pq_br (a1 ≤ (32767 : Int32)) (pq_br ((-32768 : Int32) ≤ a1) (some (a1)) (some ((-32768 : Int32)))) (some ((32767 : Int32)))

def fX7_wrapped (a1 : Int32) : Option (Int32) := some ((a1 <<< ((16 : Int32) &&& 31)) >>> ((16 : Int32) &&& 31))

def fX7_cut (a1 : Int32) (a2 : Int32) (a3 : Int32) : Option (Int32) := pq_br (a1 ≤ a3) (pq_br (a2 ≤ a1) (some (a1)) (some (a2))) (some (a3))

def fX7_amount (a1 : Int32) : Option (Int32) := pq_br ((0 : Int32) ≤ a1) (some (a1)) (some (-a1))

def fX7_sign (a1 : Int32) : Option (Int32) := pq_br ((0 : Int32) ≤ a1) (some ((0 : Int32))) (some ((1 : Int32)))

def fX7_size_b2 (fuel : Nat) (x1 : Int32) (x2 : Int32) : Option (Int32) := match fuel with
  | 0 => none
  | fuel + 1 => pq_br ((15 : Int32) ≤ x2) (some (x2)) (pq_br (x1 < ((1 : Int32) <<< (x2 &&& 31))) (some (x2)) (pq_nm (x2 + (1 : Int32)) fun (v3 : Int32) => fX7_size_b2   fuel x1 v3))
def fX7_size (a1 : Int32) : Option (Int32) := fX7_size_b2   1100 a1 (0 : Int32)

def fX7_open_b153 (k43 : (Int32) → (Int32) → (Int32) → (Nat → Int32) → (Nat → Int32) → (Nat → Int32) → (Nat → Int32) → (Nat → Int32) → Option (Int32 × Int32 × (Nat → Int32) × (Nat → Int32) × (Nat → Int32) × (Nat → Int32) × (Nat → Int32))) (fuel : Nat) (x1 : Int32) (x3 : Int32) (x4 : Int32) (c_told : Int32) (f_kinds : Nat → Int32) (f_seconds : Nat → Int32) (f_g : Nat → Int32) (f_bands : Nat → Int32) (f_sieve : Nat → Int32) : Option (Int32 × Int32 × (Nat → Int32) × (Nat → Int32) × (Nat → Int32) × (Nat → Int32) × (Nat → Int32)) := match fuel with
  | 0 => none
  | fuel + 1 => pq_br ((46 : Int32) ≤ x4) (pq_wr 368 f_bands (((46 : Int32) * x3) + (1 : Int32)) ((32 : Int32)) fun (f38 : Nat → Int32) => pq_wr 368 f38 (((46 : Int32) * x3) + (24 : Int32)) ((8 : Int32)) fun (f41 : Nat → Int32) => pq_nm (x3 + (1 : Int32)) fun (v43 : Int32) => k43 x1 v43 c_told f_kinds f_seconds f_g f41 f_sieve) (pq_wr 368 f_bands (((46 : Int32) * x3) + x4) ((0 : Int32)) fun (f46 : Nat → Int32) => pq_nm (x4 + (1 : Int32)) fun (v48 : Int32) => fX7_open_b153 k43  fuel x1 x3 v48 c_told f_kinds f_seconds f_g f46 f_sieve)
def fX7_open_b123 (k43 : (Int32) → (Int32) → (Int32) → (Nat → Int32) → (Nat → Int32) → (Nat → Int32) → (Nat → Int32) → (Nat → Int32) → Option (Int32 × Int32 × (Nat → Int32) × (Nat → Int32) × (Nat → Int32) × (Nat → Int32) × (Nat → Int32))) (fuel : Nat) (x1 : Int32) (x3 : Int32) (x4 : Int32) (c_told : Int32) (f_kinds : Nat → Int32) (f_seconds : Nat → Int32) (f_g : Nat → Int32) (f_bands : Nat → Int32) (f_sieve : Nat → Int32) : Option (Int32 × Int32 × (Nat → Int32) × (Nat → Int32) × (Nat → Int32) × (Nat → Int32) × (Nat → Int32)) := match fuel with
  | 0 => none
  | fuel + 1 => pq_br ((22 : Int32) ≤ x4) (fX7_open_b153 k43  1100 x1 x3 (0 : Int32) c_told f_kinds f_seconds f_g f_bands f_sieve) (pq_wr 192 f_g (((24 : Int32) * x3) + x4) ((32 : Int32)) fun (f32 : Nat → Int32) => pq_nm (x4 + (1 : Int32)) fun (v34 : Int32) => fX7_open_b123 k43  fuel x1 x3 v34 c_told f_kinds f_seconds f32 f_bands f_sieve)
def fX7_open_b55 (k43 : (Int32) → (Int32) → (Int32) → (Nat → Int32) → (Nat → Int32) → (Nat → Int32) → (Nat → Int32) → (Nat → Int32) → Option (Int32 × Int32 × (Nat → Int32) × (Nat → Int32) × (Nat → Int32) × (Nat → Int32) × (Nat → Int32))) (fuel : Nat) (x1 : Int32) (x3 : Int32) (x4 : Int32) (c_told : Int32) (f_kinds : Nat → Int32) (f_seconds : Nat → Int32) (f_g : Nat → Int32) (f_bands : Nat → Int32) (f_sieve : Nat → Int32) : Option (Int32 × Int32 × (Nat → Int32) × (Nat → Int32) × (Nat → Int32) × (Nat → Int32) × (Nat → Int32)) := match fuel with
  | 0 => none
  | fuel + 1 => pq_br ((24 : Int32) ≤ x4) (pq_wr 192 f_g ((24 : Int32) * x3) ((34816 : Int32)) fun (f17 : Nat → Int32) => pq_wr 192 f17 (((24 : Int32) * x3) + (1 : Int32)) ((544 : Int32)) fun (f20 : Nat → Int32) => fX7_open_b123 k43  1100 x1 x3 (14 : Int32) c_told f_kinds f_seconds f20 f_bands f_sieve) (pq_wr 192 f_g (((24 : Int32) * x3) + x4) ((0 : Int32)) fun (f23 : Nat → Int32) => pq_wr 192 f_sieve (((24 : Int32) * x3) + x4) ((0 : Int32)) fun (f26 : Nat → Int32) => pq_nm (x4 + (1 : Int32)) fun (v28 : Int32) => fX7_open_b55 k43  fuel x1 x3 v28 c_told f_kinds f_seconds f23 f_bands f26)
def fX7_open_b43 (fuel : Nat) (x1 : Int32) (x3 : Int32) (c_told : Int32) (f_kinds : Nat → Int32) (f_seconds : Nat → Int32) (f_g : Nat → Int32) (f_bands : Nat → Int32) (f_sieve : Nat → Int32) : Option (Int32 × Int32 × (Nat → Int32) × (Nat → Int32) × (Nat → Int32) × (Nat → Int32) × (Nat → Int32)) := match fuel with
  | 0 => none
  | fuel + 1 => pq_br ((((2 : Int32) * x1) + (2 : Int32)) ≤ x3) (some ((1 : Int32), c_told, f_kinds, f_seconds, f_g, f_bands, f_sieve)) (fX7_open_b55 (fX7_open_b43   fuel)  1100 x1 x3 (0 : Int32) c_told f_kinds f_seconds f_g f_bands f_sieve)
abbrev wX7_open (cI : ClassId) (th : Nat) (ad : Nat → Nat) (c_told : Int32) (c_sumZ : Int32) (c_sumE : Int32) (c_stepY : Int32) (c_odd : Int32) (c_even : Int32) (c_taped : Int32) (c_outs : Int32) (c_isFound : Int32) (f_kinds : Nat → Int32) (f_seconds : Nat → Int32) (f_g : Nat → Int32) (f_bands : Nat → Int32) (f_sieve : Nat → Int32) : va_W := [(th, .inr (6, pq_oM ad c_told c_sumZ c_sumE c_stepY c_odd c_even c_taped c_outs c_isFound)), ((ad 1), .inl (cI, 4, .inl f_kinds)), ((ad 2), .inl (cI, 4, .inl f_seconds)), ((ad 3), .inl (cI, 192, .inl f_g)), ((ad 23), .inl (cI, 368, .inl f_bands)), ((ad 24), .inl (cI, 192, .inl f_sieve))]
def fX7_open (a1 : Int32) (a2 : Int32) (c_told : Int32) (f_kinds : Nat → Int32) (f_seconds : Nat → Int32) (f_g : Nat → Int32) (f_bands : Nat → Int32) (f_sieve : Nat → Int32) : Option (Int32 × Int32 × (Nat → Int32) × (Nat → Int32) × (Nat → Int32) × (Nat → Int32) × (Nat → Int32)) := pq_cl (fX7_isLine a1) fun (r1 : Int32) => pq_br (r1 = (0 : Int32)) (some ((0 : Int32), (0 : Int32), f_kinds, f_seconds, f_g, f_bands, f_sieve)) (pq_br (a2 < (0 : Int32)) (some ((0 : Int32), (0 : Int32), f_kinds, f_seconds, f_g, f_bands, f_sieve)) (pq_br (a2 ≤ (8 : Int32)) (pq_wr 4 f_kinds (a1) (a2) fun (f7 : Nat → Int32) => pq_wr 4 f_seconds (a1) ((0 : Int32)) fun (f10 : Nat → Int32) => pq_nm ((2 : Int32) * a1) fun (v12 : Int32) => fX7_open_b43   1100 a1 v12 (0 : Int32) f7 f10 f_g f_bands f_sieve) (some ((0 : Int32), (0 : Int32), f_kinds, f_seconds, f_g, f_bands, f_sieve))))

abbrev wX7_kind (cI : ClassId) (th : Nat) (ad : Nat → Nat) (c_told : Int32) (c_sumZ : Int32) (c_sumE : Int32) (c_stepY : Int32) (c_odd : Int32) (c_even : Int32) (c_taped : Int32) (c_outs : Int32) (c_isFound : Int32) (f_kinds : Nat → Int32) : va_W := [(th, .inr (6, pq_oM ad c_told c_sumZ c_sumE c_stepY c_odd c_even c_taped c_outs c_isFound)), ((ad 1), .inl (cI, 4, .inl f_kinds))]
def fX7_kind (a1 : Int32) (f_kinds : Nat → Int32) (c_told : Int32) : Option (Int32 × Int32) := pq_cl (fX7_isLine a1) fun (r1 : Int32) => pq_br (r1 = (0 : Int32)) (some ((-100000 : Int32), (0 : Int32))) (pq_rd 4 f_kinds (a1) fun (v5 : Int32) => some (v5, (0 : Int32)))

def fX7_muSays_b66 (x2 : Int32) (x4 : Int32) (s0 : Int32) : Option (Int32) := some (s0 - (((16 : Int32) * x4) + ((x2 >>> ((x4 + (1 : Int32)) &&& 31)) &&& (15 : Int32))))
def fX7_muSays_b35 (fuel : Nat) (x2 : Int32) (x3 : Int32) (x4 : Int32) : Option (Int32) := match fuel with
  | 0 => none
  | fuel + 1 => pq_br (x2 < ((64 : Int32) <<< (x4 &&& 31))) (pq_br (x3 = (1 : Int32)) (fX7_muSays_b66   x2 x4 (127 : Int32)) (fX7_muSays_b66   x2 x4 (255 : Int32))) (pq_nm (x4 + (1 : Int32)) fun (v12 : Int32) => fX7_muSays_b35   fuel x2 x3 v12)
def fX7_muSays_b27 (x2 : Int32) (x3 : Int32) : Option (Int32) := pq_nm (x2 + (33 : Int32)) fun (v8 : Int32) => fX7_muSays_b35   1100 v8 x3 (0 : Int32)
abbrev wX7_muSays (cI : ClassId) (th : Nat) (ad : Nat → Nat) (c_told : Int32) (c_sumZ : Int32) (c_sumE : Int32) (c_stepY : Int32) (c_odd : Int32) (c_even : Int32) (c_taped : Int32) (c_outs : Int32) (c_isFound : Int32) : va_W := [(th, .inr (6, pq_oM ad c_told c_sumZ c_sumE c_stepY c_odd c_even c_taped c_outs c_isFound))]
def fX7_muSays (a1 : Int32) : Option (Int32) := pq_nm (a1 >>> ((2 : Int32) &&& 31)) fun (v1 : Int32) => pq_cl (fX7_sign v1) fun (r3 : Int32) => pq_cl (fX7_amount v1) fun (r5 : Int32) => pq_br (r5 ≤ (8158 : Int32)) (fX7_muSays_b27   r5 r3) (fX7_muSays_b27   (8158 : Int32) r3)

def fX7_muHears (a1 : Int32) : Option (Int32) := pq_nm ((255 : Int32) - a1) fun (v1 : Int32) => pq_nm (((((8 : Int32) * (v1 &&& (15 : Int32))) + (132 : Int32)) <<< (((v1 >>> ((4 : Int32) &&& 31)) &&& (7 : Int32)) &&& 31)) - (132 : Int32)) fun (v3 : Int32) => pq_br (v1 ≤ (127 : Int32)) (some (v3)) (some (-v3))

def fX7_aSays_b44 (x1 : Int32) (x3 : Int32) (s0 : Int32) : Option (Int32) := pq_br (x1 < (0 : Int32)) (some ((((16 : Int32) * x3) + (s0 &&& (15 : Int32))) ^^^ (85 : Int32))) (some ((((16 : Int32) * x3) + (s0 &&& (15 : Int32))) ^^^ (213 : Int32)))
def fX7_aSays_b15 (fuel : Nat) (x1 : Int32) (x2 : Int32) (x3 : Int32) : Option (Int32) := match fuel with
  | 0 => none
  | fuel + 1 => pq_br (x2 < ((32 : Int32) <<< (x3 &&& 31))) (pq_br ((2 : Int32) ≤ x3) (fX7_aSays_b44   x1 x3 (x2 >>> (x3 &&& 31))) (fX7_aSays_b44   x1 x3 (x2 >>> ((1 : Int32) &&& 31)))) (pq_nm (x3 + (1 : Int32)) fun (v8 : Int32) => fX7_aSays_b15   fuel x1 x2 v8)
def fX7_aSays_b13 (x1 : Int32) (x2 : Int32) : Option (Int32) := fX7_aSays_b15   1100 x1 x2 (0 : Int32)
def fX7_aSays (a1 : Int32) : Option (Int32) := pq_nm (a1 >>> ((3 : Int32) &&& 31)) fun (v1 : Int32) => pq_br ((0 : Int32) ≤ v1) (fX7_aSays_b13   a1 v1) (pq_nm ((-v1) - (1 : Int32)) fun (v4 : Int32) => fX7_aSays_b13   a1 v4)

def fX7_aHears_b40 (x2 : Int32) (x3 : Int32) : Option (Int32) := pq_br (x2 ≤ (127 : Int32)) (some (-x3)) (some (x3))
def fX7_aHears (a1 : Int32) : Option (Int32) := pq_nm (a1 ^^^ (85 : Int32)) fun (v1 : Int32) => pq_nm (((16 : Int32) * (v1 &&& (15 : Int32))) + (8 : Int32)) fun (v3 : Int32) => pq_nm ((v1 >>> ((4 : Int32) &&& 31)) &&& (7 : Int32)) fun (v5 : Int32) => pq_br (v5 ≤ (0 : Int32)) (fX7_aHears_b40   v1 v3) (pq_nm ((v3 + (256 : Int32)) <<< ((v5 - (1 : Int32)) &&& 31)) fun (v8 : Int32) => fX7_aHears_b40   v1 v8)

abbrev wX7_bound (cI : ClassId) (th : Nat) (ad : Nat → Nat) (c_told : Int32) (c_sumZ : Int32) (c_sumE : Int32) (c_stepY : Int32) (c_odd : Int32) (c_even : Int32) (c_taped : Int32) (c_outs : Int32) (c_isFound : Int32) (f_bounds2 : Nat → Int32) (f_bounds3 : Nat → Int32) (f_bounds4 : Nat → Int32) (f_bounds5 : Nat → Int32) : va_W := [(th, .inr (6, pq_oM ad c_told c_sumZ c_sumE c_stepY c_odd c_even c_taped c_outs c_isFound)), ((ad 4), .inl (cI, 1, .inl f_bounds2)), ((ad 5), .inl (cI, 3, .inl f_bounds3)), ((ad 6), .inl (cI, 7, .inl f_bounds4)), ((ad 7), .inl (cI, 15, .inl f_bounds5))]
def fX7_bound (a1 : Int32) (a2 : Int32) (f_bounds2 : Nat → Int32) (f_bounds3 : Nat → Int32) (f_bounds4 : Nat → Int32) (f_bounds5 : Nat → Int32) : Option (Int32) := pq_br (a1 = (2 : Int32)) (pq_rd 1 f_bounds2 (a2) fun (v14 : Int32) => some (v14)) (pq_br (a1 = (3 : Int32)) (pq_rd 3 f_bounds3 (a2) fun (v11 : Int32) => some (v11)) (pq_br (a1 = (4 : Int32)) (pq_rd 7 f_bounds4 (a2) fun (v8 : Int32) => some (v8)) (pq_rd 15 f_bounds5 (a2) fun (v5 : Int32) => some (v5))))

def fX7_half (a1 : Int32) (a2 : Int32) : Option (Int32) := pq_br ((a2 >>> ((a1 - (1 : Int32)) &&& 31)) = (0 : Int32)) (some (a2)) (some ((((1 : Int32) <<< (a1 &&& 31)) - (1 : Int32)) - a2))

abbrev wX7_table (cI : ClassId) (th : Nat) (ad : Nat → Nat) (c_told : Int32) (c_sumZ : Int32) (c_sumE : Int32) (c_stepY : Int32) (c_odd : Int32) (c_even : Int32) (c_taped : Int32) (c_outs : Int32) (c_isFound : Int32) (f_table2 : Nat → Int32) (f_table3 : Nat → Int32) (f_table4 : Nat → Int32) (f_table5 : Nat → Int32) : va_W := [(th, .inr (6, pq_oM ad c_told c_sumZ c_sumE c_stepY c_odd c_even c_taped c_outs c_isFound)), ((ad 8), .inl (cI, 2, .inl f_table2)), ((ad 9), .inl (cI, 4, .inl f_table3)), ((ad 10), .inl (cI, 8, .inl f_table4)), ((ad 11), .inl (cI, 16, .inl f_table5))]
def fX7_table (a1 : Int32) (a2 : Int32) (f_table2 : Nat → Int32) (f_table3 : Nat → Int32) (f_table4 : Nat → Int32) (f_table5 : Nat → Int32) : Option (Int32) := pq_cl (fX7_half a1 a2) fun (r1 : Int32) => pq_br (a1 = (2 : Int32)) (pq_rd 2 f_table2 (r1) fun (v16 : Int32) => some (v16)) (pq_br (a1 = (3 : Int32)) (pq_rd 4 f_table3 (r1) fun (v13 : Int32) => some (v13)) (pq_br (a1 = (4 : Int32)) (pq_rd 8 f_table4 (r1) fun (v10 : Int32) => some (v10)) (pq_rd 16 f_table5 (r1) fun (v7 : Int32) => some (v7))))

abbrev wX7_weight (cI : ClassId) (th : Nat) (ad : Nat → Nat) (c_told : Int32) (c_sumZ : Int32) (c_sumE : Int32) (c_stepY : Int32) (c_odd : Int32) (c_even : Int32) (c_taped : Int32) (c_outs : Int32) (c_isFound : Int32) (f_weight2 : Nat → Int32) (f_weight3 : Nat → Int32) (f_weight4 : Nat → Int32) (f_weight5 : Nat → Int32) : va_W := [(th, .inr (6, pq_oM ad c_told c_sumZ c_sumE c_stepY c_odd c_even c_taped c_outs c_isFound)), ((ad 12), .inl (cI, 2, .inl f_weight2)), ((ad 13), .inl (cI, 4, .inl f_weight3)), ((ad 14), .inl (cI, 8, .inl f_weight4)), ((ad 15), .inl (cI, 16, .inl f_weight5))]
def fX7_weight (a1 : Int32) (a2 : Int32) (f_weight2 : Nat → Int32) (f_weight3 : Nat → Int32) (f_weight4 : Nat → Int32) (f_weight5 : Nat → Int32) : Option (Int32) := pq_cl (fX7_half a1 a2) fun (r1 : Int32) => pq_br (a1 = (2 : Int32)) (pq_rd 2 f_weight2 (r1) fun (v16 : Int32) => some (v16)) (pq_br (a1 = (3 : Int32)) (pq_rd 4 f_weight3 (r1) fun (v13 : Int32) => some (v13)) (pq_br (a1 = (4 : Int32)) (pq_rd 8 f_weight4 (r1) fun (v10 : Int32) => some (v10)) (pq_rd 16 f_weight5 (r1) fun (v7 : Int32) => some (v7))))

abbrev wX7_pace (cI : ClassId) (th : Nat) (ad : Nat → Nat) (c_told : Int32) (c_sumZ : Int32) (c_sumE : Int32) (c_stepY : Int32) (c_odd : Int32) (c_even : Int32) (c_taped : Int32) (c_outs : Int32) (c_isFound : Int32) (f_pace2 : Nat → Int32) (f_pace3 : Nat → Int32) (f_pace4 : Nat → Int32) (f_pace5 : Nat → Int32) : va_W := [(th, .inr (6, pq_oM ad c_told c_sumZ c_sumE c_stepY c_odd c_even c_taped c_outs c_isFound)), ((ad 16), .inl (cI, 2, .inl f_pace2)), ((ad 17), .inl (cI, 4, .inl f_pace3)), ((ad 18), .inl (cI, 8, .inl f_pace4)), ((ad 19), .inl (cI, 16, .inl f_pace5))]
def fX7_pace (a1 : Int32) (a2 : Int32) (f_pace2 : Nat → Int32) (f_pace3 : Nat → Int32) (f_pace4 : Nat → Int32) (f_pace5 : Nat → Int32) : Option (Int32) := pq_cl (fX7_half a1 a2) fun (r1 : Int32) => pq_br (a1 = (2 : Int32)) (pq_rd 2 f_pace2 (r1) fun (v16 : Int32) => some (v16)) (pq_br (a1 = (3 : Int32)) (pq_rd 4 f_pace3 (r1) fun (v13 : Int32) => some (v13)) (pq_br (a1 = (4 : Int32)) (pq_rd 8 f_pace4 (r1) fun (v10 : Int32) => some (v10)) (pq_rd 16 f_pace5 (r1) fun (v7 : Int32) => some (v7))))

def fX7_times_b120 (x8 : Int32) (s0 : Int32) (s1 : Int32) : Option (Int32) := pq_br (s0 = s1) (some (x8)) (some (-x8))
def fX7_times_b111 (x2 : Int32) (x8 : Int32) (s0 : Int32) : Option (Int32) := pq_br ((0 : Int32) ≤ x2) (fX7_times_b120   x8 s0 (0 : Int32)) (fX7_times_b120   x8 s0 (1 : Int32))
def fX7_times_b100 (x1 : Int32) (x2 : Int32) (s0 : Int32) : Option (Int32) := pq_br ((0 : Int32) ≤ x1) (fX7_times_b111   x2 s0 (0 : Int32)) (fX7_times_b111   x2 s0 (1 : Int32))
def fX7_times_b46 (x1 : Int32) (x2 : Int32) (x4 : Int32) (s0 : Int32) : Option (Int32) := pq_nm ((x4 + ((x2 >>> ((6 : Int32) &&& 31)) &&& (15 : Int32))) - (13 : Int32)) fun (v11 : Int32) => pq_nm (((s0 * (x2 &&& (63 : Int32))) + (48 : Int32)) >>> ((4 : Int32) &&& 31)) fun (v13 : Int32) => pq_br (v11 < (0 : Int32)) (fX7_times_b100   x1 x2 (v13 >>> ((-v11) &&& 31))) (fX7_times_b100   x1 x2 ((v13 <<< (v11 &&& 31)) &&& (32767 : Int32)))
abbrev wX7_times (cI : ClassId) (th : Nat) (ad : Nat → Nat) (c_told : Int32) (c_sumZ : Int32) (c_sumE : Int32) (c_stepY : Int32) (c_odd : Int32) (c_even : Int32) (c_taped : Int32) (c_outs : Int32) (c_isFound : Int32) : va_W := [(th, .inr (6, pq_oM ad c_told c_sumZ c_sumE c_stepY c_odd c_even c_taped c_outs c_isFound))]
def fX7_times (a1 : Int32) (a2 : Int32) : Option (Int32) := pq_cl (fX7_amount a1) fun (r1 : Int32) => pq_nm (r1 &&& (8191 : Int32)) fun (v3 : Int32) => pq_cl (fX7_size v3) fun (r5 : Int32) => pq_nm (r5 - (6 : Int32)) fun (v7 : Int32) => pq_br (v3 = (0 : Int32)) (fX7_times_b46   a1 a2 v7 (32 : Int32)) (pq_br (v7 < (0 : Int32)) (fX7_times_b46   a1 a2 v7 (v3 <<< ((-v7) &&& 31))) (fX7_times_b46   a1 a2 v7 (v3 >>> (v7 &&& 31))))

def fX7_forehand_b10 (f_g : Nat → Int32) (fuel : Nat) (x2 : Int32) (x3 : Int32) (x4 : Int32) (c_sumZ : Int32) (c_sumE : Int32) (c_stepY : Int32) : Option (Int32 × Int32 × Int32) := match fuel with
  | 0 => none
  | fuel + 1 => pq_br ((6 : Int32) ≤ x4) (pq_cl (fX7_wrapped x3) fun (r4 : Int32) => pq_nm (r4 >>> ((1 : Int32) &&& 31)) fun (v6 : Int32) => pq_rd 192 f_g (x2 + (7 : Int32)) fun (v9 : Int32) => pq_rd 192 f_g (x2 + (15 : Int32)) fun (v12 : Int32) => pq_cl (fX7_times (v9 >>> ((2 : Int32) &&& 31)) v12) fun (r14 : Int32) => pq_rd 192 f_g (x2 + (6 : Int32)) fun (v17 : Int32) => pq_rd 192 f_g (x2 + (14 : Int32)) fun (v20 : Int32) => pq_cl (fX7_times (v17 >>> ((2 : Int32) &&& 31)) v20) fun (r22 : Int32) => pq_cl (fX7_wrapped ((r4 + r14) + r22)) fun (r24 : Int32) => pq_nm (r24 >>> ((1 : Int32) &&& 31)) fun (v26 : Int32) => pq_rd 192 f_g (x2) fun (v29 : Int32) => pq_nm (v29 >>> ((6 : Int32) &&& 31)) fun (v31 : Int32) => pq_rd 192 f_g (x2 + (1 : Int32)) fun (v34 : Int32) => pq_nm (v34 - v31) fun (v36 : Int32) => pq_rd 192 f_g (x2 + (4 : Int32)) fun (v39 : Int32) => pq_nm (v39 >>> ((2 : Int32) &&& 31)) fun (v41 : Int32) => pq_rd 192 f_g (x2 + (4 : Int32)) fun (v44 : Int32) => pq_br (v44 < (256 : Int32)) (pq_br (v36 ≤ (0 : Int32)) (pq_br ((0 : Int32) ≤ v36) (some (v6, v26, v31)) (pq_nm (v31 + (((v36 * v41) + (63 : Int32)) >>> ((6 : Int32) &&& 31))) fun (v49 : Int32) => some (v6, v26, v49))) (pq_nm (v31 + ((v36 * v41) >>> ((6 : Int32) &&& 31))) fun (v51 : Int32) => some (v6, v26, v51))) (pq_rd 192 f_g (x2 + (1 : Int32)) fun (v54 : Int32) => some (v6, v26, v54))) (pq_rd 192 f_g ((x2 + (8 : Int32)) + x4) fun (v57 : Int32) => pq_rd 192 f_g ((x2 + (16 : Int32)) + x4) fun (v60 : Int32) => pq_cl (fX7_times (v57 >>> ((2 : Int32) &&& 31)) v60) fun (r62 : Int32) => pq_nm (x3 + r62) fun (v64 : Int32) => pq_nm (x4 + (1 : Int32)) fun (v66 : Int32) => fX7_forehand_b10  f_g fuel x2 v64 v66 c_sumZ c_sumE c_stepY)
abbrev wX7_forehand (cI : ClassId) (th : Nat) (ad : Nat → Nat) (c_told : Int32) (c_sumZ : Int32) (c_sumE : Int32) (c_stepY : Int32) (c_odd : Int32) (c_even : Int32) (c_taped : Int32) (c_outs : Int32) (c_isFound : Int32) (f_g : Nat → Int32) : va_W := [(th, .inr (6, pq_oM ad c_told c_sumZ c_sumE c_stepY c_odd c_even c_taped c_outs c_isFound)), ((ad 3), .inl (cI, 192, .inl f_g))]
def fX7_forehand (a1 : Int32) (f_g : Nat → Int32) (c_sumZ : Int32) (c_sumE : Int32) (c_stepY : Int32) : Option (Int32 × Int32 × Int32) := pq_nm ((24 : Int32) * a1) fun (v1 : Int32) => fX7_forehand_b10  f_g 1100 v1 (0 : Int32) (0 : Int32) c_sumZ c_sumE c_stepY

def fX7_adapts_b258 (x1 : Int32) (x4 : Int32) (x5 : Int32) (f_g : Nat → Int32) : Option (Int32 × (Nat → Int32)) := pq_cl (fX7_cut x4 (x5 - (15360 : Int32)) ((15360 : Int32) - x5)) fun (r40 : Int32) => pq_wr 192 f_g (x1 + (6 : Int32)) (r40) fun (f43 : Nat → Int32) => some (x5, f43)
def fX7_adapts_b256 (x1 : Int32) (x5 : Int32) (s0 : Int32) (f_g : Nat → Int32) : Option (Int32 × (Nat → Int32)) := fX7_adapts_b258   x1 s0 x5 f_g
def fX7_adapts_b203 (x1 : Int32) (x2 : Int32) (x3 : Int32) (x4 : Int32) (x5 : Int32) (f_g : Nat → Int32) : Option (Int32 × (Nat → Int32)) := pq_wr 192 f_g (x1 + (7 : Int32)) (x5) fun (f31 : Nat → Int32) => pq_nm (x4 - (x4 >>> ((8 : Int32) &&& 31))) fun (v33 : Int32) => pq_br (x3 = (0 : Int32)) (fX7_adapts_b258   x1 v33 x5 f31) (pq_rd 192 f31 (x1 + (22 : Int32)) fun (v37 : Int32) => pq_br (x2 = v37) (fX7_adapts_b256   x1 x5 (v33 + (192 : Int32)) f31) (fX7_adapts_b256   x1 x5 (v33 - (192 : Int32)) f31))
def fX7_adapts_b201 (x1 : Int32) (x2 : Int32) (x3 : Int32) (x4 : Int32) (s0 : Int32) (f_g : Nat → Int32) : Option (Int32 × (Nat → Int32)) := fX7_adapts_b203   x1 x2 x3 x4 s0 f_g
def fX7_adapts_b149 (x1 : Int32) (x2 : Int32) (x3 : Int32) (x4 : Int32) (x5 : Int32) (x7 : Int32) (x8 : Int32) (s0 : Int32) (f_g : Nat → Int32) : Option (Int32 × (Nat → Int32)) := pq_br (x8 < x5) (pq_br (x5 < s0) (pq_br (x7 = (0 : Int32)) (fX7_adapts_b201   x1 x2 x3 x4 (x5 - (128 : Int32)) f_g) (fX7_adapts_b201   x1 x2 x3 x4 (x5 + (128 : Int32)) f_g)) (fX7_adapts_b203   x1 x2 x3 x4 (12288 : Int32) f_g)) (fX7_adapts_b203   x1 x2 x3 x4 (-12288 : Int32) f_g)
def fX7_adapts_b133 (x1 : Int32) (x2 : Int32) (x3 : Int32) (x4 : Int32) (x5 : Int32) (x7 : Int32) (s0 : Int32) (f_g : Nat → Int32) : Option (Int32 × (Nat → Int32)) := pq_br (x7 = (0 : Int32)) (fX7_adapts_b149   x1 x2 x3 x4 x5 x7 s0 (12416 : Int32) f_g) (fX7_adapts_b149   x1 x2 x3 x4 x5 x7 s0 (12160 : Int32) f_g)
def fX7_adapts_b117 (x1 : Int32) (x2 : Int32) (x3 : Int32) (x4 : Int32) (x5 : Int32) (s0 : Int32) (f_g : Nat → Int32) : Option (Int32 × (Nat → Int32)) := pq_br (s0 = (0 : Int32)) (fX7_adapts_b133   x1 x2 x3 x4 x5 s0 (-12160 : Int32) f_g) (fX7_adapts_b133   x1 x2 x3 x4 x5 s0 (-12416 : Int32) f_g)
def fX7_adapts_b96 (x1 : Int32) (x2 : Int32) (x3 : Int32) (x4 : Int32) (s0 : Int32) (s1 : Int32) (f_g : Nat → Int32) : Option (Int32 × (Nat → Int32)) := pq_nm (s0 + s1) fun (v19 : Int32) => pq_rd 192 f_g (x1 + (23 : Int32)) fun (v22 : Int32) => pq_br (x2 = v22) (fX7_adapts_b117   x1 x2 x3 x4 v19 (1 : Int32) f_g) (fX7_adapts_b117   x1 x2 x3 x4 v19 (0 : Int32) f_g)
def fX7_adapts_b60 (x1 : Int32) (x2 : Int32) (x3 : Int32) (x4 : Int32) (x5 : Int32) (s0 : Int32) (f_g : Nat → Int32) : Option (Int32 × (Nat → Int32)) := pq_br ((-8191 : Int32) ≤ s0) (pq_br (s0 ≤ (8191 : Int32)) (fX7_adapts_b96   x1 x2 x3 x4 x5 (s0 >>> ((5 : Int32) &&& 31)) f_g) (fX7_adapts_b96   x1 x2 x3 x4 x5 (255 : Int32) f_g)) (fX7_adapts_b96   x1 x2 x3 x4 x5 (-256 : Int32) f_g)
abbrev wX7_adapts (cI : ClassId) (th : Nat) (ad : Nat → Nat) (c_told : Int32) (c_sumZ : Int32) (c_sumE : Int32) (c_stepY : Int32) (c_odd : Int32) (c_even : Int32) (c_taped : Int32) (c_outs : Int32) (c_isFound : Int32) (f_g : Nat → Int32) : va_W := [(th, .inr (6, pq_oM ad c_told c_sumZ c_sumE c_stepY c_odd c_even c_taped c_outs c_isFound)), ((ad 3), .inl (cI, 192, .inl f_g))]
def fX7_adapts (a1 : Int32) (a2 : Int32) (a3 : Int32) (f_g : Nat → Int32) : Option (Int32 × (Nat → Int32)) := pq_rd 192 f_g (a1 + (6 : Int32)) fun (v2 : Int32) => pq_rd 192 f_g (a1 + (7 : Int32)) fun (v5 : Int32) => pq_rd 192 f_g (a1 + (7 : Int32)) fun (v8 : Int32) => pq_nm (v5 - (v8 >>> ((7 : Int32) &&& 31))) fun (v10 : Int32) => pq_br (a3 = (0 : Int32)) (fX7_adapts_b203   a1 a2 a3 v2 v10 f_g) (pq_rd 192 f_g (a1 + (22 : Int32)) fun (v14 : Int32) => pq_br (a2 = v14) (fX7_adapts_b60   a1 a2 a3 v2 v10 (-v2) f_g) (fX7_adapts_b60   a1 a2 a3 v2 v10 v2 f_g))

def fX7_floated_b26 (x2 : Int32) (s0 : Int32) : Option (Int32) := pq_br (x2 = (0 : Int32)) (some (s0)) (some (s0 - (1024 : Int32)))
abbrev wX7_floated (cI : ClassId) (th : Nat) (ad : Nat → Nat) (c_told : Int32) (c_sumZ : Int32) (c_sumE : Int32) (c_stepY : Int32) (c_odd : Int32) (c_even : Int32) (c_taped : Int32) (c_outs : Int32) (c_isFound : Int32) : va_W := [(th, .inr (6, pq_oM ad c_told c_sumZ c_sumE c_stepY c_odd c_even c_taped c_outs c_isFound))]
def fX7_floated (a1 : Int32) (a2 : Int32) : Option (Int32) := pq_cl (fX7_size a1) fun (r1 : Int32) => pq_br (a1 = (0 : Int32)) (fX7_floated_b26   a2 (32 : Int32)) (fX7_floated_b26   a2 (((64 : Int32) * r1) + (((64 : Int32) * a1) >>> (r1 &&& 31))))

def fX7_comes_b844 (c_sumZ : Int32) (c_sumE : Int32) (c_stepY : Int32) (f_table2 : Nat → Int32) (f_table3 : Nat → Int32) (f_table4 : Nat → Int32) (f_table5 : Nat → Int32) (f_weight2 : Nat → Int32) (f_weight3 : Nat → Int32) (f_weight4 : Nat → Int32) (f_weight5 : Nat → Int32) (f_pace2 : Nat → Int32) (f_pace3 : Nat → Int32) (f_pace4 : Nat → Int32) (f_pace5 : Nat → Int32) (x9 : Int32) (f_g : Nat → Int32) : Option (Int32 × (Nat → Int32)) := pq_cl (fX7_limited (x9 * (4 : Int32))) fun (r148 : Int32) => some (r148, f_g)
def fX7_comes_b830 (c_sumZ : Int32) (c_sumE : Int32) (c_stepY : Int32) (f_table2 : Nat → Int32) (f_table3 : Nat → Int32) (f_table4 : Nat → Int32) (f_table5 : Nat → Int32) (f_weight2 : Nat → Int32) (f_weight3 : Nat → Int32) (f_weight4 : Nat → Int32) (f_weight5 : Nat → Int32) (f_pace2 : Nat → Int32) (f_pace3 : Nat → Int32) (f_pace4 : Nat → Int32) (f_pace5 : Nat → Int32) (x4 : Int32) (x9 : Int32) (s1 : Int32) (s2 : Int32) (s3 : Int32) (f_g : Nat → Int32) : Option (Int32 × (Nat → Int32)) := pq_rd 192 f_g (x4 + (4 : Int32)) fun (v151 : Int32) => pq_wr 192 f_g (s1) (s2 + ((s3 - v151) >>> ((4 : Int32) &&& 31))) fun (f154 : Nat → Int32) => fX7_comes_b844  c_sumZ c_sumE c_stepY f_table2 f_table3 f_table4 f_table5 f_weight2 f_weight3 f_weight4 f_weight5 f_pace2 f_pace3 f_pace4 f_pace5 x9 f154
def fX7_comes_b778 (c_sumZ : Int32) (c_sumE : Int32) (c_stepY : Int32) (f_table2 : Nat → Int32) (f_table3 : Nat → Int32) (f_table4 : Nat → Int32) (f_table5 : Nat → Int32) (f_weight2 : Nat → Int32) (f_weight3 : Nat → Int32) (f_weight4 : Nat → Int32) (f_weight5 : Nat → Int32) (f_pace2 : Nat → Int32) (f_pace3 : Nat → Int32) (f_pace4 : Nat → Int32) (f_pace5 : Nat → Int32) (x4 : Int32) (x9 : Int32) (x11 : Int32) (s0 : Int32) (f_g : Nat → Int32) : Option (Int32 × (Nat → Int32)) := pq_br (x11 = (1 : Int32)) (pq_wr 192 f_g (x4 + (4 : Int32)) ((256 : Int32)) fun (f146 : Nat → Int32) => fX7_comes_b844  c_sumZ c_sumE c_stepY f_table2 f_table3 f_table4 f_table5 f_weight2 f_weight3 f_weight4 f_weight5 f_pace2 f_pace3 f_pace4 f_pace5 x9 f146) (pq_rd 192 f_g (x4 + (4 : Int32)) fun (v142 : Int32) => pq_br (s0 = (0 : Int32)) (fX7_comes_b830  c_sumZ c_sumE c_stepY f_table2 f_table3 f_table4 f_table5 f_weight2 f_weight3 f_weight4 f_weight5 f_pace2 f_pace3 f_pace4 f_pace5 x4 x9 (x4 + (4 : Int32)) v142 (0 : Int32) f_g) (fX7_comes_b830  c_sumZ c_sumE c_stepY f_table2 f_table3 f_table4 f_table5 f_weight2 f_weight3 f_weight4 f_weight5 f_pace2 f_pace3 f_pace4 f_pace5 x4 x9 (x4 + (4 : Int32)) v142 (512 : Int32) f_g))
def fX7_comes_b773 (c_sumZ : Int32) (c_sumE : Int32) (c_stepY : Int32) (f_table2 : Nat → Int32) (f_table3 : Nat → Int32) (f_table4 : Nat → Int32) (f_table5 : Nat → Int32) (f_weight2 : Nat → Int32) (f_weight3 : Nat → Int32) (f_weight4 : Nat → Int32) (f_weight5 : Nat → Int32) (f_pace2 : Nat → Int32) (f_pace3 : Nat → Int32) (f_pace4 : Nat → Int32) (f_pace5 : Nat → Int32) (x4 : Int32) (x9 : Int32) (x11 : Int32) (f_g : Nat → Int32) : Option (Int32 × (Nat → Int32)) := fX7_comes_b778  c_sumZ c_sumE c_stepY f_table2 f_table3 f_table4 f_table5 f_weight2 f_weight3 f_weight4 f_weight5 f_pace2 f_pace3 f_pace4 f_pace5 x4 x9 x11 (1 : Int32) f_g
def fX7_comes_b635 (c_sumZ : Int32) (c_sumE : Int32) (c_stepY : Int32) (f_table2 : Nat → Int32) (f_table3 : Nat → Int32) (f_table4 : Nat → Int32) (f_table5 : Nat → Int32) (f_weight2 : Nat → Int32) (f_weight3 : Nat → Int32) (f_weight4 : Nat → Int32) (f_weight5 : Nat → Int32) (f_pace2 : Nat → Int32) (f_pace3 : Nat → Int32) (f_pace4 : Nat → Int32) (f_pace5 : Nat → Int32) (x2 : Int32) (x3 : Int32) (x4 : Int32) (x5 : Int32) (x9 : Int32) (x11 : Int32) (s1 : Int32) (s2 : Int32) (f_g : Nat → Int32) : Option (Int32 × (Nat → Int32)) := pq_wr 192 f_g (s1) (s2) fun (f101 : Nat → Int32) => pq_cl (fX7_pace x2 x3 f_pace2 f_pace3 f_pace4 f_pace5) fun (r103 : Int32) => pq_rd 192 f101 (x4 + (2 : Int32)) fun (v106 : Int32) => pq_rd 192 f101 (x4 + (2 : Int32)) fun (v109 : Int32) => pq_wr 192 f101 (x4 + (2 : Int32)) (v106 + ((r103 - v109) >>> ((5 : Int32) &&& 31))) fun (f112 : Nat → Int32) => pq_rd 192 f112 (x4 + (3 : Int32)) fun (v115 : Int32) => pq_rd 192 f112 (x4 + (3 : Int32)) fun (v118 : Int32) => pq_wr 192 f112 (x4 + (3 : Int32)) (v115 + ((((4 : Int32) * r103) - v118) >>> ((7 : Int32) &&& 31))) fun (f121 : Nat → Int32) => pq_br (x5 < (1536 : Int32)) (fX7_comes_b773  c_sumZ c_sumE c_stepY f_table2 f_table3 f_table4 f_table5 f_weight2 f_weight3 f_weight4 f_weight5 f_pace2 f_pace3 f_pace4 f_pace5 x4 x9 x11 f121) (pq_rd 192 f121 (x4 + (5 : Int32)) fun (v125 : Int32) => pq_br (v125 = (1 : Int32)) (fX7_comes_b773  c_sumZ c_sumE c_stepY f_table2 f_table3 f_table4 f_table5 f_weight2 f_weight3 f_weight4 f_weight5 f_pace2 f_pace3 f_pace4 f_pace5 x4 x9 x11 f121) (pq_rd 192 f121 (x4 + (2 : Int32)) fun (v129 : Int32) => pq_rd 192 f121 (x4 + (3 : Int32)) fun (v132 : Int32) => pq_cl (fX7_amount (((4 : Int32) * v129) - v132)) fun (r134 : Int32) => pq_rd 192 f121 (x4 + (3 : Int32)) fun (v137 : Int32) => pq_br (r134 < (v137 >>> ((3 : Int32) &&& 31))) (fX7_comes_b778  c_sumZ c_sumE c_stepY f_table2 f_table3 f_table4 f_table5 f_weight2 f_weight3 f_weight4 f_weight5 f_pace2 f_pace3 f_pace4 f_pace5 x4 x9 x11 (0 : Int32) f121) (fX7_comes_b773  c_sumZ c_sumE c_stepY f_table2 f_table3 f_table4 f_table5 f_weight2 f_weight3 f_weight4 f_weight5 f_pace2 f_pace3 f_pace4 f_pace5 x4 x9 x11 f121)))
def fX7_comes_b634 (c_sumZ : Int32) (c_sumE : Int32) (c_stepY : Int32) (f_table2 : Nat → Int32) (f_table3 : Nat → Int32) (f_table4 : Nat → Int32) (f_table5 : Nat → Int32) (f_weight2 : Nat → Int32) (f_weight3 : Nat → Int32) (f_weight4 : Nat → Int32) (f_weight5 : Nat → Int32) (f_pace2 : Nat → Int32) (f_pace3 : Nat → Int32) (f_pace4 : Nat → Int32) (f_pace5 : Nat → Int32) (x2 : Int32) (x3 : Int32) (x4 : Int32) (x5 : Int32) (x9 : Int32) (x11 : Int32) (s1 : Int32) (f_g : Nat → Int32) : Option (Int32 × (Nat → Int32)) := fX7_comes_b635  c_sumZ c_sumE c_stepY f_table2 f_table3 f_table4 f_table5 f_weight2 f_weight3 f_weight4 f_weight5 f_pace2 f_pace3 f_pace4 f_pace5 x2 x3 x4 x5 x9 x11 s1 (0 : Int32) f_g
def fX7_comes_b576 (c_sumZ : Int32) (c_sumE : Int32) (c_stepY : Int32) (f_table2 : Nat → Int32) (f_table3 : Nat → Int32) (f_table4 : Nat → Int32) (f_table5 : Nat → Int32) (f_weight2 : Nat → Int32) (f_weight3 : Nat → Int32) (f_weight4 : Nat → Int32) (f_weight5 : Nat → Int32) (f_pace2 : Nat → Int32) (f_pace3 : Nat → Int32) (f_pace4 : Nat → Int32) (f_pace5 : Nat → Int32) (x2 : Int32) (x3 : Int32) (x4 : Int32) (x5 : Int32) (x9 : Int32) (x11 : Int32) (x12 : Int32) (x13 : Int32) (s1 : Int32) (s2 : Int32) (f_g : Nat → Int32) : Option (Int32 × (Nat → Int32)) := pq_wr 192 f_g (s1) (s2) fun (f87 : Nat → Int32) => pq_rd 192 f87 (x4 + (22 : Int32)) fun (v90 : Int32) => pq_wr 192 f87 (x4 + (23 : Int32)) (v90) fun (f93 : Nat → Int32) => pq_wr 192 f93 (x4 + (22 : Int32)) (x12) fun (f96 : Nat → Int32) => pq_br (x11 = (0 : Int32)) (pq_br ((-11776 : Int32) ≤ x13) (fX7_comes_b634  c_sumZ c_sumE c_stepY f_table2 f_table3 f_table4 f_table5 f_weight2 f_weight3 f_weight4 f_weight5 f_pace2 f_pace3 f_pace4 f_pace5 x2 x3 x4 x5 x9 x11 (x4 + (5 : Int32)) f96) (fX7_comes_b635  c_sumZ c_sumE c_stepY f_table2 f_table3 f_table4 f_table5 f_weight2 f_weight3 f_weight4 f_weight5 f_pace2 f_pace3 f_pace4 f_pace5 x2 x3 x4 x5 x9 x11 (x4 + (5 : Int32)) (1 : Int32) f96)) (fX7_comes_b634  c_sumZ c_sumE c_stepY f_table2 f_table3 f_table4 f_table5 f_weight2 f_weight3 f_weight4 f_weight5 f_pace2 f_pace3 f_pace4 f_pace5 x2 x3 x4 x5 x9 x11 (x4 + (5 : Int32)) f96)
def fX7_comes_b573 (c_sumZ : Int32) (c_sumE : Int32) (c_stepY : Int32) (f_table2 : Nat → Int32) (f_table3 : Nat → Int32) (f_table4 : Nat → Int32) (f_table5 : Nat → Int32) (f_weight2 : Nat → Int32) (f_weight3 : Nat → Int32) (f_weight4 : Nat → Int32) (f_weight5 : Nat → Int32) (f_pace2 : Nat → Int32) (f_pace3 : Nat → Int32) (f_pace4 : Nat → Int32) (f_pace5 : Nat → Int32) (x2 : Int32) (x3 : Int32) (x4 : Int32) (x5 : Int32) (x9 : Int32) (x11 : Int32) (x12 : Int32) (x13 : Int32) (s1 : Int32) (s3 : Int32) (s4 : Int32) (f_g : Nat → Int32) : Option (Int32 × (Nat → Int32)) := pq_cl (fX7_floated s3 s4) fun (r156 : Int32) => fX7_comes_b576  c_sumZ c_sumE c_stepY f_table2 f_table3 f_table4 f_table5 f_weight2 f_weight3 f_weight4 f_weight5 f_pace2 f_pace3 f_pace4 f_pace5 x2 x3 x4 x5 x9 x11 x12 x13 s1 r156 f_g
def fX7_comes_b456 (c_sumZ : Int32) (c_sumE : Int32) (c_stepY : Int32) (f_table2 : Nat → Int32) (f_table3 : Nat → Int32) (f_table4 : Nat → Int32) (f_table5 : Nat → Int32) (f_weight2 : Nat → Int32) (f_weight3 : Nat → Int32) (f_weight4 : Nat → Int32) (f_weight5 : Nat → Int32) (f_pace2 : Nat → Int32) (f_pace3 : Nat → Int32) (f_pace4 : Nat → Int32) (f_pace5 : Nat → Int32) (fuel : Nat) (x2 : Int32) (x3 : Int32) (x4 : Int32) (x5 : Int32) (x7 : Int32) (x8 : Int32) (x9 : Int32) (x11 : Int32) (x12 : Int32) (x13 : Int32) (x14 : Int32) (f_g : Nat → Int32) : Option (Int32 × (Nat → Int32)) := match fuel with
  | 0 => none
  | fuel + 1 => pq_br (x14 ≤ (0 : Int32)) (pq_cl (fX7_floated x7 x8) fun (r63 : Int32) => pq_wr 192 f_g (x4 + (16 : Int32)) (r63) fun (f66 : Nat → Int32) => pq_rd 192 f66 (x4 + (14 : Int32)) fun (v69 : Int32) => pq_wr 192 f66 (x4 + (15 : Int32)) (v69) fun (f72 : Nat → Int32) => pq_br (x9 = (-32768 : Int32)) (fX7_comes_b576  c_sumZ c_sumE c_stepY f_table2 f_table3 f_table4 f_table5 f_weight2 f_weight3 f_weight4 f_weight5 f_pace2 f_pace3 f_pace4 f_pace5 x2 x3 x4 x5 x9 x11 x12 x13 (x4 + (14 : Int32)) (-992 : Int32) f72) (pq_cl (fX7_amount x9) fun (r75 : Int32) => pq_br ((0 : Int32) ≤ x9) (fX7_comes_b573  c_sumZ c_sumE c_stepY f_table2 f_table3 f_table4 f_table5 f_weight2 f_weight3 f_weight4 f_weight5 f_pace2 f_pace3 f_pace4 f_pace5 x2 x3 x4 x5 x9 x11 x12 x13 (x4 + (14 : Int32)) r75 (0 : Int32) f72) (fX7_comes_b573  c_sumZ c_sumE c_stepY f_table2 f_table3 f_table4 f_table5 f_weight2 f_weight3 f_weight4 f_weight5 f_pace2 f_pace3 f_pace4 f_pace5 x2 x3 x4 x5 x9 x11 x12 x13 (x4 + (14 : Int32)) r75 (1 : Int32) f72))) (pq_rd 192 f_g (((x4 + (16 : Int32)) + x14) - (1 : Int32)) fun (v79 : Int32) => pq_wr 192 f_g ((x4 + (16 : Int32)) + x14) (v79) fun (f82 : Nat → Int32) => pq_nm (x14 + (-1 : Int32)) fun (v84 : Int32) => fX7_comes_b456  c_sumZ c_sumE c_stepY f_table2 f_table3 f_table4 f_table5 f_weight2 f_weight3 f_weight4 f_weight5 f_pace2 f_pace3 f_pace4 f_pace5 fuel x2 x3 x4 x5 x7 x8 x9 x11 x12 x13 v84 f82)
def fX7_comes_b453 (c_sumZ : Int32) (c_sumE : Int32) (c_stepY : Int32) (f_table2 : Nat → Int32) (f_table3 : Nat → Int32) (f_table4 : Nat → Int32) (f_table5 : Nat → Int32) (f_weight2 : Nat → Int32) (f_weight3 : Nat → Int32) (f_weight4 : Nat → Int32) (f_weight5 : Nat → Int32) (f_pace2 : Nat → Int32) (f_pace3 : Nat → Int32) (f_pace4 : Nat → Int32) (f_pace5 : Nat → Int32) (x2 : Int32) (x3 : Int32) (x4 : Int32) (x5 : Int32) (x7 : Int32) (x8 : Int32) (x9 : Int32) (x11 : Int32) (x12 : Int32) (x13 : Int32) (f_g : Nat → Int32) : Option (Int32 × (Nat → Int32)) := fX7_comes_b456  c_sumZ c_sumE c_stepY f_table2 f_table3 f_table4 f_table5 f_weight2 f_weight3 f_weight4 f_weight5 f_pace2 f_pace3 f_pace4 f_pace5 1100 x2 x3 x4 x5 x7 x8 x9 x11 x12 x13 (5 : Int32) f_g
def fX7_comes_b300 (c_sumZ : Int32) (c_sumE : Int32) (c_stepY : Int32) (f_table2 : Nat → Int32) (f_table3 : Nat → Int32) (f_table4 : Nat → Int32) (f_table5 : Nat → Int32) (f_weight2 : Nat → Int32) (f_weight3 : Nat → Int32) (f_weight4 : Nat → Int32) (f_weight5 : Nat → Int32) (f_pace2 : Nat → Int32) (f_pace3 : Nat → Int32) (f_pace4 : Nat → Int32) (f_pace5 : Nat → Int32) (fuel : Nat) (x2 : Int32) (x3 : Int32) (x4 : Int32) (x5 : Int32) (x7 : Int32) (x8 : Int32) (x9 : Int32) (x11 : Int32) (x12 : Int32) (x13 : Int32) (x14 : Int32) (f_g : Nat → Int32) : Option (Int32 × (Nat → Int32)) := match fuel with
  | 0 => none
  | fuel + 1 => pq_br ((14 : Int32) ≤ x14) (fX7_comes_b453  c_sumZ c_sumE c_stepY f_table2 f_table3 f_table4 f_table5 f_weight2 f_weight3 f_weight4 f_weight5 f_pace2 f_pace3 f_pace4 f_pace5 x2 x3 x4 x5 x7 x8 x9 x11 x12 x13 f_g) (pq_wr 192 f_g (x4 + x14) ((0 : Int32)) fun (f58 : Nat → Int32) => pq_nm (x14 + (1 : Int32)) fun (v60 : Int32) => fX7_comes_b300  c_sumZ c_sumE c_stepY f_table2 f_table3 f_table4 f_table5 f_weight2 f_weight3 f_weight4 f_weight5 f_pace2 f_pace3 f_pace4 f_pace5 fuel x2 x3 x4 x5 x7 x8 x9 x11 x12 x13 v60 f58)
def fX7_comes_b428 (k342 : (Int32) → (Int32) → (Int32) → (Int32) → (Int32) → (Int32) → (Int32) → (Int32) → (Int32) → (Int32) → (Int32) → (Nat → Int32) → Option (Int32 × (Nat → Int32))) (c_sumZ : Int32) (c_sumE : Int32) (c_stepY : Int32) (f_table2 : Nat → Int32) (f_table3 : Nat → Int32) (f_table4 : Nat → Int32) (f_table5 : Nat → Int32) (f_weight2 : Nat → Int32) (f_weight3 : Nat → Int32) (f_weight4 : Nat → Int32) (f_weight5 : Nat → Int32) (f_pace2 : Nat → Int32) (f_pace3 : Nat → Int32) (f_pace4 : Nat → Int32) (f_pace5 : Nat → Int32) (x2 : Int32) (x3 : Int32) (x4 : Int32) (x5 : Int32) (x7 : Int32) (x8 : Int32) (x9 : Int32) (x11 : Int32) (x12 : Int32) (x13 : Int32) (x14 : Int32) (x15 : Int32) (f_g : Nat → Int32) : Option (Int32 × (Nat → Int32)) := pq_cl (fX7_wrapped x15) fun (r173 : Int32) => pq_wr 192 f_g ((x4 + (8 : Int32)) + x14) (r173) fun (f176 : Nat → Int32) => pq_nm (x14 + (1 : Int32)) fun (v178 : Int32) => k342 x2 x3 x4 x5 x7 x8 x9 x11 x12 x13 v178 f176
def fX7_comes_b425 (k342 : (Int32) → (Int32) → (Int32) → (Int32) → (Int32) → (Int32) → (Int32) → (Int32) → (Int32) → (Int32) → (Int32) → (Nat → Int32) → Option (Int32 × (Nat → Int32))) (c_sumZ : Int32) (c_sumE : Int32) (c_stepY : Int32) (f_table2 : Nat → Int32) (f_table3 : Nat → Int32) (f_table4 : Nat → Int32) (f_table5 : Nat → Int32) (f_weight2 : Nat → Int32) (f_weight3 : Nat → Int32) (f_weight4 : Nat → Int32) (f_weight5 : Nat → Int32) (f_pace2 : Nat → Int32) (f_pace3 : Nat → Int32) (f_pace4 : Nat → Int32) (f_pace5 : Nat → Int32) (x2 : Int32) (x3 : Int32) (x4 : Int32) (x5 : Int32) (x7 : Int32) (x8 : Int32) (x9 : Int32) (x11 : Int32) (x12 : Int32) (x13 : Int32) (x14 : Int32) (s0 : Int32) (s1 : Int32) (f_g : Nat → Int32) : Option (Int32 × (Nat → Int32)) := pq_nm (s0 + s1) fun (v171 : Int32) => fX7_comes_b428 k342 c_sumZ c_sumE c_stepY f_table2 f_table3 f_table4 f_table5 f_weight2 f_weight3 f_weight4 f_weight5 f_pace2 f_pace3 f_pace4 f_pace5 x2 x3 x4 x5 x7 x8 x9 x11 x12 x13 x14 v171 f_g
def fX7_comes_b414 (k342 : (Int32) → (Int32) → (Int32) → (Int32) → (Int32) → (Int32) → (Int32) → (Int32) → (Int32) → (Int32) → (Int32) → (Nat → Int32) → Option (Int32 × (Nat → Int32))) (c_sumZ : Int32) (c_sumE : Int32) (c_stepY : Int32) (f_table2 : Nat → Int32) (f_table3 : Nat → Int32) (f_table4 : Nat → Int32) (f_table5 : Nat → Int32) (f_weight2 : Nat → Int32) (f_weight3 : Nat → Int32) (f_weight4 : Nat → Int32) (f_weight5 : Nat → Int32) (f_pace2 : Nat → Int32) (f_pace3 : Nat → Int32) (f_pace4 : Nat → Int32) (f_pace5 : Nat → Int32) (x2 : Int32) (x3 : Int32) (x4 : Int32) (x5 : Int32) (x7 : Int32) (x8 : Int32) (x9 : Int32) (x11 : Int32) (x12 : Int32) (x13 : Int32) (x14 : Int32) (s0 : Int32) (s1 : Int32) (s2 : Int32) (f_g : Nat → Int32) : Option (Int32 × (Nat → Int32)) := pq_br (s1 = s2) (fX7_comes_b425 k342 c_sumZ c_sumE c_stepY f_table2 f_table3 f_table4 f_table5 f_weight2 f_weight3 f_weight4 f_weight5 f_pace2 f_pace3 f_pace4 f_pace5 x2 x3 x4 x5 x7 x8 x9 x11 x12 x13 x14 s0 (128 : Int32) f_g) (fX7_comes_b425 k342 c_sumZ c_sumE c_stepY f_table2 f_table3 f_table4 f_table5 f_weight2 f_weight3 f_weight4 f_weight5 f_pace2 f_pace3 f_pace4 f_pace5 x2 x3 x4 x5 x7 x8 x9 x11 x12 x13 x14 s0 (-128 : Int32) f_g)
def fX7_comes_b380 (k342 : (Int32) → (Int32) → (Int32) → (Int32) → (Int32) → (Int32) → (Int32) → (Int32) → (Int32) → (Int32) → (Int32) → (Nat → Int32) → Option (Int32 × (Nat → Int32))) (c_sumZ : Int32) (c_sumE : Int32) (c_stepY : Int32) (f_table2 : Nat → Int32) (f_table3 : Nat → Int32) (f_table4 : Nat → Int32) (f_table5 : Nat → Int32) (f_weight2 : Nat → Int32) (f_weight3 : Nat → Int32) (f_weight4 : Nat → Int32) (f_weight5 : Nat → Int32) (f_pace2 : Nat → Int32) (f_pace3 : Nat → Int32) (f_pace4 : Nat → Int32) (f_pace5 : Nat → Int32) (x2 : Int32) (x3 : Int32) (x4 : Int32) (x5 : Int32) (x7 : Int32) (x8 : Int32) (x9 : Int32) (x11 : Int32) (x12 : Int32) (x13 : Int32) (x14 : Int32) (s0 : Int32) (s1 : Int32) (s2 : Int32) (f_g : Nat → Int32) : Option (Int32 × (Nat → Int32)) := pq_nm (s0 - (s1 >>> (s2 &&& 31))) fun (v163 : Int32) => pq_br (x7 = (0 : Int32)) (fX7_comes_b428 k342 c_sumZ c_sumE c_stepY f_table2 f_table3 f_table4 f_table5 f_weight2 f_weight3 f_weight4 f_weight5 f_pace2 f_pace3 f_pace4 f_pace5 x2 x3 x4 x5 x7 x8 x9 x11 x12 x13 x14 v163 f_g) (pq_rd 192 f_g ((x4 + (16 : Int32)) + x14) fun (v167 : Int32) => pq_br ((0 : Int32) ≤ v167) (fX7_comes_b414 k342 c_sumZ c_sumE c_stepY f_table2 f_table3 f_table4 f_table5 f_weight2 f_weight3 f_weight4 f_weight5 f_pace2 f_pace3 f_pace4 f_pace5 x2 x3 x4 x5 x7 x8 x9 x11 x12 x13 x14 v163 x8 (0 : Int32) f_g) (fX7_comes_b414 k342 c_sumZ c_sumE c_stepY f_table2 f_table3 f_table4 f_table5 f_weight2 f_weight3 f_weight4 f_weight5 f_pace2 f_pace3 f_pace4 f_pace5 x2 x3 x4 x5 x7 x8 x9 x11 x12 x13 x14 v163 x8 (1 : Int32) f_g))
def fX7_comes_b342 (c_sumZ : Int32) (c_sumE : Int32) (c_stepY : Int32) (f_table2 : Nat → Int32) (f_table3 : Nat → Int32) (f_table4 : Nat → Int32) (f_table5 : Nat → Int32) (f_weight2 : Nat → Int32) (f_weight3 : Nat → Int32) (f_weight4 : Nat → Int32) (f_weight5 : Nat → Int32) (f_pace2 : Nat → Int32) (f_pace3 : Nat → Int32) (f_pace4 : Nat → Int32) (f_pace5 : Nat → Int32) (fuel : Nat) (x2 : Int32) (x3 : Int32) (x4 : Int32) (x5 : Int32) (x7 : Int32) (x8 : Int32) (x9 : Int32) (x11 : Int32) (x12 : Int32) (x13 : Int32) (x14 : Int32) (f_g : Nat → Int32) : Option (Int32 × (Nat → Int32)) := match fuel with
  | 0 => none
  | fuel + 1 => pq_br ((6 : Int32) ≤ x14) (fX7_comes_b453  c_sumZ c_sumE c_stepY f_table2 f_table3 f_table4 f_table5 f_weight2 f_weight3 f_weight4 f_weight5 f_pace2 f_pace3 f_pace4 f_pace5 x2 x3 x4 x5 x7 x8 x9 x11 x12 x13 f_g) (pq_rd 192 f_g ((x4 + (8 : Int32)) + x14) fun (v160 : Int32) => pq_br (x2 = (5 : Int32)) (fX7_comes_b380 (fX7_comes_b342  c_sumZ c_sumE c_stepY f_table2 f_table3 f_table4 f_table5 f_weight2 f_weight3 f_weight4 f_weight5 f_pace2 f_pace3 f_pace4 f_pace5 fuel) c_sumZ c_sumE c_stepY f_table2 f_table3 f_table4 f_table5 f_weight2 f_weight3 f_weight4 f_weight5 f_pace2 f_pace3 f_pace4 f_pace5 x2 x3 x4 x5 x7 x8 x9 x11 x12 x13 x14 v160 v160 (9 : Int32) f_g) (fX7_comes_b380 (fX7_comes_b342  c_sumZ c_sumE c_stepY f_table2 f_table3 f_table4 f_table5 f_weight2 f_weight3 f_weight4 f_weight5 f_pace2 f_pace3 f_pace4 f_pace5 fuel) c_sumZ c_sumE c_stepY f_table2 f_table3 f_table4 f_table5 f_weight2 f_weight3 f_weight4 f_weight5 f_pace2 f_pace3 f_pace4 f_pace5 x2 x3 x4 x5 x7 x8 x9 x11 x12 x13 x14 v160 v160 (8 : Int32) f_g))
def fX7_comes_b210 (c_sumZ : Int32) (c_sumE : Int32) (c_stepY : Int32) (f_table2 : Nat → Int32) (f_table3 : Nat → Int32) (f_table4 : Nat → Int32) (f_table5 : Nat → Int32) (f_weight2 : Nat → Int32) (f_weight3 : Nat → Int32) (f_weight4 : Nat → Int32) (f_weight5 : Nat → Int32) (f_pace2 : Nat → Int32) (f_pace3 : Nat → Int32) (f_pace4 : Nat → Int32) (f_pace5 : Nat → Int32) (x2 : Int32) (x3 : Int32) (x4 : Int32) (x5 : Int32) (x7 : Int32) (x8 : Int32) (x9 : Int32) (x10 : Int32) (x11 : Int32) (f_g : Nat → Int32) : Option (Int32 × (Nat → Int32)) := pq_cl (fX7_weight x2 x3 f_weight2 f_weight3 f_weight4 f_weight5) fun (r30 : Int32) => pq_cl (fX7_cut (x5 + ((r30 - x5) >>> ((5 : Int32) &&& 31))) (544 : Int32) (5120 : Int32)) fun (r32 : Int32) => pq_wr 192 f_g (x4 + (1 : Int32)) (r32) fun (f35 : Nat → Int32) => pq_rd 192 f35 (x4) fun (v38 : Int32) => pq_rd 192 f35 (x4 + (1 : Int32)) fun (v41 : Int32) => pq_rd 192 f35 (x4) fun (v44 : Int32) => pq_wr 192 f35 (x4) ((v38 + v41) + ((-v44) >>> ((6 : Int32) &&& 31))) fun (f47 : Nat → Int32) => pq_cl (fX7_sign x10) fun (r49 : Int32) => pq_br (x11 = (1 : Int32)) (fX7_comes_b300  c_sumZ c_sumE c_stepY f_table2 f_table3 f_table4 f_table5 f_weight2 f_weight3 f_weight4 f_weight5 f_pace2 f_pace3 f_pace4 f_pace5 1100 x2 x3 x4 x5 x7 x8 x9 x11 r49 (0 : Int32) (6 : Int32) f47) (pq_cl (fX7_adapts x4 r49 x10 f47) fun (u55 : (Int32) × (Nat → Int32)) => pq_nm (u55.1) fun (r52 : Int32) => pq_nm (u55.2) fun (f53 : Nat → Int32) => fX7_comes_b342  c_sumZ c_sumE c_stepY f_table2 f_table3 f_table4 f_table5 f_weight2 f_weight3 f_weight4 f_weight5 f_pace2 f_pace3 f_pace4 f_pace5 1100 x2 x3 x4 x5 x7 x8 x9 x11 r49 r52 (0 : Int32) f53)
def fX7_comes_b208 (c_sumZ : Int32) (c_sumE : Int32) (c_stepY : Int32) (f_table2 : Nat → Int32) (f_table3 : Nat → Int32) (f_table4 : Nat → Int32) (f_table5 : Nat → Int32) (f_weight2 : Nat → Int32) (f_weight3 : Nat → Int32) (f_weight4 : Nat → Int32) (f_weight5 : Nat → Int32) (f_pace2 : Nat → Int32) (f_pace3 : Nat → Int32) (f_pace4 : Nat → Int32) (f_pace5 : Nat → Int32) (x2 : Int32) (x3 : Int32) (x4 : Int32) (x5 : Int32) (x7 : Int32) (x8 : Int32) (x9 : Int32) (x10 : Int32) (s0 : Int32) (f_g : Nat → Int32) : Option (Int32 × (Nat → Int32)) := fX7_comes_b210  c_sumZ c_sumE c_stepY f_table2 f_table3 f_table4 f_table5 f_weight2 f_weight3 f_weight4 f_weight5 f_pace2 f_pace3 f_pace4 f_pace5 x2 x3 x4 x5 x7 x8 x9 x10 s0 f_g
def fX7_comes_b183 (c_sumZ : Int32) (c_sumE : Int32) (c_stepY : Int32) (f_table2 : Nat → Int32) (f_table3 : Nat → Int32) (f_table4 : Nat → Int32) (f_table5 : Nat → Int32) (f_weight2 : Nat → Int32) (f_weight3 : Nat → Int32) (f_weight4 : Nat → Int32) (f_weight5 : Nat → Int32) (f_pace2 : Nat → Int32) (f_pace3 : Nat → Int32) (f_pace4 : Nat → Int32) (f_pace5 : Nat → Int32) (x2 : Int32) (x3 : Int32) (x4 : Int32) (x5 : Int32) (x7 : Int32) (x8 : Int32) (x9 : Int32) (x10 : Int32) (s0 : Int32) (f_g : Nat → Int32) : Option (Int32 × (Nat → Int32)) := pq_nm ((s0 + (s0 >>> ((1 : Int32) &&& 31))) >>> ((1 : Int32) &&& 31)) fun (v27 : Int32) => pq_br (x7 ≤ v27) (fX7_comes_b208  c_sumZ c_sumE c_stepY f_table2 f_table3 f_table4 f_table5 f_weight2 f_weight3 f_weight4 f_weight5 f_pace2 f_pace3 f_pace4 f_pace5 x2 x3 x4 x5 x7 x8 x9 x10 (0 : Int32) f_g) (fX7_comes_b208  c_sumZ c_sumE c_stepY f_table2 f_table3 f_table4 f_table5 f_weight2 f_weight3 f_weight4 f_weight5 f_pace2 f_pace3 f_pace4 f_pace5 x2 x3 x4 x5 x7 x8 x9 x10 (1 : Int32) f_g)
def fX7_comes_b100 (c_sumZ : Int32) (c_sumE : Int32) (c_stepY : Int32) (f_table2 : Nat → Int32) (f_table3 : Nat → Int32) (f_table4 : Nat → Int32) (f_table5 : Nat → Int32) (f_weight2 : Nat → Int32) (f_weight3 : Nat → Int32) (f_weight4 : Nat → Int32) (f_weight5 : Nat → Int32) (f_pace2 : Nat → Int32) (f_pace3 : Nat → Int32) (f_pace4 : Nat → Int32) (f_pace5 : Nat → Int32) (x2 : Int32) (x3 : Int32) (x4 : Int32) (x5 : Int32) (x7 : Int32) (x8 : Int32) (s1 : Int32) (f_g : Nat → Int32) : Option (Int32 × (Nat → Int32)) := pq_cl (fX7_wrapped s1) fun (r10 : Int32) => pq_cl (fX7_wrapped ((r10 + c_sumZ) - c_sumE)) fun (r12 : Int32) => pq_rd 192 f_g (x4 + (5 : Int32)) fun (v15 : Int32) => pq_br (v15 = (1 : Int32)) (pq_rd 192 f_g (x4) fun (v19 : Int32) => pq_nm (v19 >>> ((15 : Int32) &&& 31)) fun (v21 : Int32) => pq_br (v21 ≤ (9 : Int32)) (pq_rd 192 f_g (x4) fun (v25 : Int32) => fX7_comes_b183  c_sumZ c_sumE c_stepY f_table2 f_table3 f_table4 f_table5 f_weight2 f_weight3 f_weight4 f_weight5 f_pace2 f_pace3 f_pace4 f_pace5 x2 x3 x4 x5 x7 x8 r10 r12 (((32 : Int32) + ((v25 >>> ((10 : Int32) &&& 31)) &&& (31 : Int32))) <<< (v21 &&& 31)) f_g) (fX7_comes_b183  c_sumZ c_sumE c_stepY f_table2 f_table3 f_table4 f_table5 f_weight2 f_weight3 f_weight4 f_weight5 f_pace2 f_pace3 f_pace4 f_pace5 x2 x3 x4 x5 x7 x8 r10 r12 (31744 : Int32) f_g)) (fX7_comes_b210  c_sumZ c_sumE c_stepY f_table2 f_table3 f_table4 f_table5 f_weight2 f_weight3 f_weight4 f_weight5 f_pace2 f_pace3 f_pace4 f_pace5 x2 x3 x4 x5 x7 x8 r10 r12 (0 : Int32) f_g)
def fX7_comes_b75 (c_sumZ : Int32) (c_sumE : Int32) (c_stepY : Int32) (f_table2 : Nat → Int32) (f_table3 : Nat → Int32) (f_table4 : Nat → Int32) (f_table5 : Nat → Int32) (f_weight2 : Nat → Int32) (f_weight3 : Nat → Int32) (f_weight4 : Nat → Int32) (f_weight5 : Nat → Int32) (f_pace2 : Nat → Int32) (f_pace3 : Nat → Int32) (f_pace4 : Nat → Int32) (f_pace5 : Nat → Int32) (x2 : Int32) (x3 : Int32) (x4 : Int32) (x5 : Int32) (x7 : Int32) (s0 : Int32) (f_g : Nat → Int32) : Option (Int32 × (Nat → Int32)) := pq_br (s0 = (0 : Int32)) (fX7_comes_b100  c_sumZ c_sumE c_stepY f_table2 f_table3 f_table4 f_table5 f_weight2 f_weight3 f_weight4 f_weight5 f_pace2 f_pace3 f_pace4 f_pace5 x2 x3 x4 x5 x7 s0 (c_sumE + x7) f_g) (fX7_comes_b100  c_sumZ c_sumE c_stepY f_table2 f_table3 f_table4 f_table5 f_weight2 f_weight3 f_weight4 f_weight5 f_pace2 f_pace3 f_pace4 f_pace5 x2 x3 x4 x5 x7 s0 (c_sumE - x7) f_g)
def fX7_comes_b59 (c_sumZ : Int32) (c_sumE : Int32) (c_stepY : Int32) (f_table2 : Nat → Int32) (f_table3 : Nat → Int32) (f_table4 : Nat → Int32) (f_table5 : Nat → Int32) (f_weight2 : Nat → Int32) (f_weight3 : Nat → Int32) (f_weight4 : Nat → Int32) (f_weight5 : Nat → Int32) (f_pace2 : Nat → Int32) (f_pace3 : Nat → Int32) (f_pace4 : Nat → Int32) (f_pace5 : Nat → Int32) (x2 : Int32) (x3 : Int32) (x4 : Int32) (x5 : Int32) (s0 : Int32) (f_g : Nat → Int32) : Option (Int32 × (Nat → Int32)) := pq_br ((x3 >>> ((x2 - (1 : Int32)) &&& 31)) = (1 : Int32)) (fX7_comes_b75  c_sumZ c_sumE c_stepY f_table2 f_table3 f_table4 f_table5 f_weight2 f_weight3 f_weight4 f_weight5 f_pace2 f_pace3 f_pace4 f_pace5 x2 x3 x4 x5 s0 (1 : Int32) f_g) (fX7_comes_b75  c_sumZ c_sumE c_stepY f_table2 f_table3 f_table4 f_table5 f_weight2 f_weight3 f_weight4 f_weight5 f_pace2 f_pace3 f_pace4 f_pace5 x2 x3 x4 x5 s0 (0 : Int32) f_g)
abbrev wX7_comes (cI : ClassId) (th : Nat) (ad : Nat → Nat) (c_told : Int32) (c_sumZ : Int32) (c_sumE : Int32) (c_stepY : Int32) (c_odd : Int32) (c_even : Int32) (c_taped : Int32) (c_outs : Int32) (c_isFound : Int32) (f_g : Nat → Int32) (f_table2 : Nat → Int32) (f_table3 : Nat → Int32) (f_table4 : Nat → Int32) (f_table5 : Nat → Int32) (f_weight2 : Nat → Int32) (f_weight3 : Nat → Int32) (f_weight4 : Nat → Int32) (f_weight5 : Nat → Int32) (f_pace2 : Nat → Int32) (f_pace3 : Nat → Int32) (f_pace4 : Nat → Int32) (f_pace5 : Nat → Int32) : va_W := [(th, .inr (6, pq_oM ad c_told c_sumZ c_sumE c_stepY c_odd c_even c_taped c_outs c_isFound)), ((ad 3), .inl (cI, 192, .inl f_g)), ((ad 8), .inl (cI, 2, .inl f_table2)), ((ad 9), .inl (cI, 4, .inl f_table3)), ((ad 10), .inl (cI, 8, .inl f_table4)), ((ad 11), .inl (cI, 16, .inl f_table5)), ((ad 12), .inl (cI, 2, .inl f_weight2)), ((ad 13), .inl (cI, 4, .inl f_weight3)), ((ad 14), .inl (cI, 8, .inl f_weight4)), ((ad 15), .inl (cI, 16, .inl f_weight5)), ((ad 16), .inl (cI, 2, .inl f_pace2)), ((ad 17), .inl (cI, 4, .inl f_pace3)), ((ad 18), .inl (cI, 8, .inl f_pace4)), ((ad 19), .inl (cI, 16, .inl f_pace5))]
def fX7_comes (a1 : Int32) (a2 : Int32) (a3 : Int32) (c_sumZ : Int32) (c_sumE : Int32) (c_stepY : Int32) (f_table2 : Nat → Int32) (f_table3 : Nat → Int32) (f_table4 : Nat → Int32) (f_table5 : Nat → Int32) (f_weight2 : Nat → Int32) (f_weight3 : Nat → Int32) (f_weight4 : Nat → Int32) (f_weight5 : Nat → Int32) (f_pace2 : Nat → Int32) (f_pace3 : Nat → Int32) (f_pace4 : Nat → Int32) (f_pace5 : Nat → Int32) (f_g : Nat → Int32) : Option (Int32 × (Nat → Int32)) := pq_nm ((24 : Int32) * a1) fun (v1 : Int32) => pq_cl (fX7_table a2 a3 f_table2 f_table3 f_table4 f_table5) fun (r3 : Int32) => pq_nm (r3 + (c_stepY >>> ((2 : Int32) &&& 31))) fun (v5 : Int32) => pq_br ((0 : Int32) ≤ v5) (fX7_comes_b59  c_sumZ c_sumE c_stepY f_table2 f_table3 f_table4 f_table5 f_weight2 f_weight3 f_weight4 f_weight5 f_pace2 f_pace3 f_pace4 f_pace5 a2 a3 v1 c_stepY ((((128 : Int32) + (v5 &&& (127 : Int32))) * (128 : Int32)) >>> (((14 : Int32) - ((v5 >>> ((7 : Int32) &&& 31)) &&& (15 : Int32))) &&& 31)) f_g) (fX7_comes_b59  c_sumZ c_sumE c_stepY f_table2 f_table3 f_table4 f_table5 f_weight2 f_weight3 f_weight4 f_weight5 f_pace2 f_pace3 f_pace4 f_pace5 a2 a3 v1 c_stepY (0 : Int32) f_g)

def fX7_says726_b149 (f_bounds2 : Nat → Int32) (f_bounds3 : Nat → Int32) (f_bounds4 : Nat → Int32) (f_bounds5 : Nat → Int32) (f_table2 : Nat → Int32) (f_table3 : Nat → Int32) (f_table4 : Nat → Int32) (f_table5 : Nat → Int32) (f_weight2 : Nat → Int32) (f_weight3 : Nat → Int32) (f_weight4 : Nat → Int32) (f_weight5 : Nat → Int32) (f_pace2 : Nat → Int32) (f_pace3 : Nat → Int32) (f_pace4 : Nat → Int32) (f_pace5 : Nat → Int32) (x1 : Int32) (x2 : Int32) (x10 : Int32) (c_sumZ : Int32) (c_sumE : Int32) (c_stepY : Int32) (f_g : Nat → Int32) : Option (Int32 × Int32 × Int32 × Int32 × (Nat → Int32)) := pq_cl (fX7_comes x1 x2 x10 c_sumZ c_sumE c_stepY f_table2 f_table3 f_table4 f_table5 f_weight2 f_weight3 f_weight4 f_weight5 f_pace2 f_pace3 f_pace4 f_pace5 f_g) fun (u29 : (Int32) × (Nat → Int32)) => pq_nm (u29.1) fun (r26 : Int32) => pq_nm (u29.2) fun (f27 : Nat → Int32) => some (x10, c_sumZ, c_sumE, c_stepY, f27)
def fX7_says726_b147 (f_bounds2 : Nat → Int32) (f_bounds3 : Nat → Int32) (f_bounds4 : Nat → Int32) (f_bounds5 : Nat → Int32) (f_table2 : Nat → Int32) (f_table3 : Nat → Int32) (f_table4 : Nat → Int32) (f_table5 : Nat → Int32) (f_weight2 : Nat → Int32) (f_weight3 : Nat → Int32) (f_weight4 : Nat → Int32) (f_weight5 : Nat → Int32) (f_pace2 : Nat → Int32) (f_pace3 : Nat → Int32) (f_pace4 : Nat → Int32) (f_pace5 : Nat → Int32) (x1 : Int32) (x2 : Int32) (s0 : Int32) (c_sumZ : Int32) (c_sumE : Int32) (c_stepY : Int32) (f_g : Nat → Int32) : Option (Int32 × Int32 × Int32 × Int32 × (Nat → Int32)) := fX7_says726_b149  f_bounds2 f_bounds3 f_bounds4 f_bounds5 f_table2 f_table3 f_table4 f_table5 f_weight2 f_weight3 f_weight4 f_weight5 f_pace2 f_pace3 f_pace4 f_pace5 x1 x2 s0 c_sumZ c_sumE c_stepY f_g
def fX7_says726_b120 (f_bounds2 : Nat → Int32) (f_bounds3 : Nat → Int32) (f_bounds4 : Nat → Int32) (f_bounds5 : Nat → Int32) (f_table2 : Nat → Int32) (f_table3 : Nat → Int32) (f_table4 : Nat → Int32) (f_table5 : Nat → Int32) (f_weight2 : Nat → Int32) (f_weight3 : Nat → Int32) (f_weight4 : Nat → Int32) (f_weight5 : Nat → Int32) (f_pace2 : Nat → Int32) (f_pace3 : Nat → Int32) (f_pace4 : Nat → Int32) (f_pace5 : Nat → Int32) (x1 : Int32) (x2 : Int32) (x4 : Int32) (x8 : Int32) (x9 : Int32) (s0 : Int32) (c_sumZ : Int32) (c_sumE : Int32) (c_stepY : Int32) (f_g : Nat → Int32) : Option (Int32 × Int32 × Int32 × Int32 × (Nat → Int32)) := pq_br (x4 < (0 : Int32)) (fX7_says726_b149  f_bounds2 f_bounds3 f_bounds4 f_bounds5 f_table2 f_table3 f_table4 f_table5 f_weight2 f_weight3 f_weight4 f_weight5 f_pace2 f_pace3 f_pace4 f_pace5 x1 x2 s0 c_sumZ c_sumE c_stepY f_g) (pq_br (x9 = (0 : Int32)) (pq_br (x2 = (2 : Int32)) (fX7_says726_b147  f_bounds2 f_bounds3 f_bounds4 f_bounds5 f_table2 f_table3 f_table4 f_table5 f_weight2 f_weight3 f_weight4 f_weight5 f_pace2 f_pace3 f_pace4 f_pace5 x1 x2 (0 : Int32) c_sumZ c_sumE c_stepY f_g) (fX7_says726_b147  f_bounds2 f_bounds3 f_bounds4 f_bounds5 f_table2 f_table3 f_table4 f_table5 f_weight2 f_weight3 f_weight4 f_weight5 f_pace2 f_pace3 f_pace4 f_pace5 x1 x2 (((2 : Int32) * x8) + (1 : Int32)) c_sumZ c_sumE c_stepY f_g)) (fX7_says726_b149  f_bounds2 f_bounds3 f_bounds4 f_bounds5 f_table2 f_table3 f_table4 f_table5 f_weight2 f_weight3 f_weight4 f_weight5 f_pace2 f_pace3 f_pace4 f_pace5 x1 x2 s0 c_sumZ c_sumE c_stepY f_g))
def fX7_says726_b101 (f_bounds2 : Nat → Int32) (f_bounds3 : Nat → Int32) (f_bounds4 : Nat → Int32) (f_bounds5 : Nat → Int32) (f_table2 : Nat → Int32) (f_table3 : Nat → Int32) (f_table4 : Nat → Int32) (f_table5 : Nat → Int32) (f_weight2 : Nat → Int32) (f_weight3 : Nat → Int32) (f_weight4 : Nat → Int32) (f_weight5 : Nat → Int32) (f_pace2 : Nat → Int32) (f_pace3 : Nat → Int32) (f_pace4 : Nat → Int32) (f_pace5 : Nat → Int32) (x1 : Int32) (x2 : Int32) (x4 : Int32) (x8 : Int32) (x9 : Int32) (c_sumZ : Int32) (c_sumE : Int32) (c_stepY : Int32) (f_g : Nat → Int32) : Option (Int32 × Int32 × Int32 × Int32 × (Nat → Int32)) := pq_br ((0 : Int32) ≤ x4) (fX7_says726_b120  f_bounds2 f_bounds3 f_bounds4 f_bounds5 f_table2 f_table3 f_table4 f_table5 f_weight2 f_weight3 f_weight4 f_weight5 f_pace2 f_pace3 f_pace4 f_pace5 x1 x2 x4 x8 x9 x9 c_sumZ c_sumE c_stepY f_g) (fX7_says726_b120  f_bounds2 f_bounds3 f_bounds4 f_bounds5 f_table2 f_table3 f_table4 f_table5 f_weight2 f_weight3 f_weight4 f_weight5 f_pace2 f_pace3 f_pace4 f_pace5 x1 x2 x4 x8 x9 ((((2 : Int32) * x8) + (1 : Int32)) - x9) c_sumZ c_sumE c_stepY f_g)
def fX7_says726_b73 (f_bounds2 : Nat → Int32) (f_bounds3 : Nat → Int32) (f_bounds4 : Nat → Int32) (f_bounds5 : Nat → Int32) (f_table2 : Nat → Int32) (f_table3 : Nat → Int32) (f_table4 : Nat → Int32) (f_table5 : Nat → Int32) (f_weight2 : Nat → Int32) (f_weight3 : Nat → Int32) (f_weight4 : Nat → Int32) (f_weight5 : Nat → Int32) (f_pace2 : Nat → Int32) (f_pace3 : Nat → Int32) (f_pace4 : Nat → Int32) (f_pace5 : Nat → Int32) (fuel : Nat) (x1 : Int32) (x2 : Int32) (x4 : Int32) (x7 : Int32) (x8 : Int32) (x9 : Int32) (c_sumZ : Int32) (c_sumE : Int32) (c_stepY : Int32) (f_g : Nat → Int32) : Option (Int32 × Int32 × Int32 × Int32 × (Nat → Int32)) := match fuel with
  | 0 => none
  | fuel + 1 => pq_br (x8 ≤ x9) (fX7_says726_b101  f_bounds2 f_bounds3 f_bounds4 f_bounds5 f_table2 f_table3 f_table4 f_table5 f_weight2 f_weight3 f_weight4 f_weight5 f_pace2 f_pace3 f_pace4 f_pace5 x1 x2 x4 x8 x9 c_sumZ c_sumE c_stepY f_g) (pq_cl (fX7_bound x2 x9 f_bounds2 f_bounds3 f_bounds4 f_bounds5) fun (r17 : Int32) => pq_br (x7 < r17) (fX7_says726_b101  f_bounds2 f_bounds3 f_bounds4 f_bounds5 f_table2 f_table3 f_table4 f_table5 f_weight2 f_weight3 f_weight4 f_weight5 f_pace2 f_pace3 f_pace4 f_pace5 x1 x2 x4 x8 x9 c_sumZ c_sumE c_stepY f_g) (pq_nm (x9 + (1 : Int32)) fun (v20 : Int32) => fX7_says726_b73  f_bounds2 f_bounds3 f_bounds4 f_bounds5 f_table2 f_table3 f_table4 f_table5 f_weight2 f_weight3 f_weight4 f_weight5 f_pace2 f_pace3 f_pace4 f_pace5 fuel x1 x2 x4 x7 x8 v20 c_sumZ c_sumE c_stepY f_g))
abbrev wX7_says726 (cI : ClassId) (th : Nat) (ad : Nat → Nat) (c_told : Int32) (c_sumZ : Int32) (c_sumE : Int32) (c_stepY : Int32) (c_odd : Int32) (c_even : Int32) (c_taped : Int32) (c_outs : Int32) (c_isFound : Int32) (f_g : Nat → Int32) (f_bounds2 : Nat → Int32) (f_bounds3 : Nat → Int32) (f_bounds4 : Nat → Int32) (f_bounds5 : Nat → Int32) (f_table2 : Nat → Int32) (f_table3 : Nat → Int32) (f_table4 : Nat → Int32) (f_table5 : Nat → Int32) (f_weight2 : Nat → Int32) (f_weight3 : Nat → Int32) (f_weight4 : Nat → Int32) (f_weight5 : Nat → Int32) (f_pace2 : Nat → Int32) (f_pace3 : Nat → Int32) (f_pace4 : Nat → Int32) (f_pace5 : Nat → Int32) : va_W := [(th, .inr (6, pq_oM ad c_told c_sumZ c_sumE c_stepY c_odd c_even c_taped c_outs c_isFound)), ((ad 3), .inl (cI, 192, .inl f_g)), ((ad 4), .inl (cI, 1, .inl f_bounds2)), ((ad 5), .inl (cI, 3, .inl f_bounds3)), ((ad 6), .inl (cI, 7, .inl f_bounds4)), ((ad 7), .inl (cI, 15, .inl f_bounds5)), ((ad 8), .inl (cI, 2, .inl f_table2)), ((ad 9), .inl (cI, 4, .inl f_table3)), ((ad 10), .inl (cI, 8, .inl f_table4)), ((ad 11), .inl (cI, 16, .inl f_table5)), ((ad 12), .inl (cI, 2, .inl f_weight2)), ((ad 13), .inl (cI, 4, .inl f_weight3)), ((ad 14), .inl (cI, 8, .inl f_weight4)), ((ad 15), .inl (cI, 16, .inl f_weight5)), ((ad 16), .inl (cI, 2, .inl f_pace2)), ((ad 17), .inl (cI, 4, .inl f_pace3)), ((ad 18), .inl (cI, 8, .inl f_pace4)), ((ad 19), .inl (cI, 16, .inl f_pace5))]
def fX7_says726 (a1 : Int32) (a2 : Int32) (a3 : Int32) (f_bounds2 : Nat → Int32) (f_bounds3 : Nat → Int32) (f_bounds4 : Nat → Int32) (f_bounds5 : Nat → Int32) (f_table2 : Nat → Int32) (f_table3 : Nat → Int32) (f_table4 : Nat → Int32) (f_table5 : Nat → Int32) (f_weight2 : Nat → Int32) (f_weight3 : Nat → Int32) (f_weight4 : Nat → Int32) (f_weight5 : Nat → Int32) (f_pace2 : Nat → Int32) (f_pace3 : Nat → Int32) (f_pace4 : Nat → Int32) (f_pace5 : Nat → Int32) (c_sumZ : Int32) (c_sumE : Int32) (c_stepY : Int32) (f_g : Nat → Int32) : Option (Int32 × Int32 × Int32 × Int32 × (Nat → Int32)) := pq_cl (fX7_forehand a1 f_g c_sumZ c_sumE c_stepY) fun (u5 : (Int32) × (Int32) × (Int32)) => pq_nm (u5.1) fun (c1 : Int32) => pq_nm (u5.2.1) fun (c2 : Int32) => pq_nm (u5.2.2) fun (c3 : Int32) => pq_nm ((a3 >>> ((2 : Int32) &&& 31)) - c2) fun (v6 : Int32) => pq_cl (fX7_amount v6) fun (r8 : Int32) => pq_cl (fX7_size (r8 >>> ((1 : Int32) &&& 31))) fun (r10 : Int32) => pq_nm ((((128 : Int32) * r10) + ((((128 : Int32) * r8) >>> (r10 &&& 31)) &&& (127 : Int32))) - (c3 >>> ((2 : Int32) &&& 31))) fun (v12 : Int32) => pq_nm (((1 : Int32) <<< ((a2 - (1 : Int32)) &&& 31)) - (1 : Int32)) fun (v14 : Int32) => fX7_says726_b73  f_bounds2 f_bounds3 f_bounds4 f_bounds5 f_table2 f_table3 f_table4 f_table5 f_weight2 f_weight3 f_weight4 f_weight5 f_pace2 f_pace3 f_pace4 f_pace5 1100 a1 a2 v6 v12 v14 (0 : Int32) c1 c2 c3 f_g

abbrev wX7_hears726 (cI : ClassId) (th : Nat) (ad : Nat → Nat) (c_told : Int32) (c_sumZ : Int32) (c_sumE : Int32) (c_stepY : Int32) (c_odd : Int32) (c_even : Int32) (c_taped : Int32) (c_outs : Int32) (c_isFound : Int32) (f_g : Nat → Int32) (f_table2 : Nat → Int32) (f_table3 : Nat → Int32) (f_table4 : Nat → Int32) (f_table5 : Nat → Int32) (f_weight2 : Nat → Int32) (f_weight3 : Nat → Int32) (f_weight4 : Nat → Int32) (f_weight5 : Nat → Int32) (f_pace2 : Nat → Int32) (f_pace3 : Nat → Int32) (f_pace4 : Nat → Int32) (f_pace5 : Nat → Int32) : va_W := [(th, .inr (6, pq_oM ad c_told c_sumZ c_sumE c_stepY c_odd c_even c_taped c_outs c_isFound)), ((ad 3), .inl (cI, 192, .inl f_g)), ((ad 8), .inl (cI, 2, .inl f_table2)), ((ad 9), .inl (cI, 4, .inl f_table3)), ((ad 10), .inl (cI, 8, .inl f_table4)), ((ad 11), .inl (cI, 16, .inl f_table5)), ((ad 12), .inl (cI, 2, .inl f_weight2)), ((ad 13), .inl (cI, 4, .inl f_weight3)), ((ad 14), .inl (cI, 8, .inl f_weight4)), ((ad 15), .inl (cI, 16, .inl f_weight5)), ((ad 16), .inl (cI, 2, .inl f_pace2)), ((ad 17), .inl (cI, 4, .inl f_pace3)), ((ad 18), .inl (cI, 8, .inl f_pace4)), ((ad 19), .inl (cI, 16, .inl f_pace5))]
def fX7_hears726 (a1 : Int32) (a2 : Int32) (a3 : Int32) (f_table2 : Nat → Int32) (f_table3 : Nat → Int32) (f_table4 : Nat → Int32) (f_table5 : Nat → Int32) (f_weight2 : Nat → Int32) (f_weight3 : Nat → Int32) (f_weight4 : Nat → Int32) (f_weight5 : Nat → Int32) (f_pace2 : Nat → Int32) (f_pace3 : Nat → Int32) (f_pace4 : Nat → Int32) (f_pace5 : Nat → Int32) (c_sumZ : Int32) (c_sumE : Int32) (c_stepY : Int32) (f_g : Nat → Int32) : Option (Int32 × Int32 × Int32 × Int32 × (Nat → Int32)) := pq_cl (fX7_forehand a1 f_g c_sumZ c_sumE c_stepY) fun (u5 : (Int32) × (Int32) × (Int32)) => pq_nm (u5.1) fun (c1 : Int32) => pq_nm (u5.2.1) fun (c2 : Int32) => pq_nm (u5.2.2) fun (c3 : Int32) => pq_cl (fX7_comes a1 a2 a3 c1 c2 c3 f_table2 f_table3 f_table4 f_table5 f_weight2 f_weight3 f_weight4 f_weight5 f_pace2 f_pace3 f_pace4 f_pace5 f_g) fun (u9 : (Int32) × (Nat → Int32)) => pq_nm (u9.1) fun (r6 : Int32) => pq_nm (u9.2) fun (f7 : Nat → Int32) => some (r6, c1, c2, c3, f7)

abbrev wX7_heardBy (cI : ClassId) (th : Nat) (ad : Nat → Nat) (c_told : Int32) (c_sumZ : Int32) (c_sumE : Int32) (c_stepY : Int32) (c_odd : Int32) (c_even : Int32) (c_taped : Int32) (c_outs : Int32) (c_isFound : Int32) (f_ups : Nat → Int32) (f_heard56 : Nat → Int32) (f_heard64 : Nat → Int32) : va_W := [(th, .inr (6, pq_oM ad c_told c_sumZ c_sumE c_stepY c_odd c_even c_taped c_outs c_isFound)), ((ad 28), .inl (cI, 16, .inl f_ups)), ((ad 32), .inl (cI, 16, .inl f_heard56)), ((ad 33), .inl (cI, 32, .inl f_heard64))]
def fX7_heardBy (a1 : Int32) (a2 : Int32) (f_ups : Nat → Int32) (f_heard56 : Nat → Int32) (f_heard64 : Nat → Int32) : Option (Int32) := pq_br (a1 = (8 : Int32)) (pq_rd 16 f_ups (a2 >>> ((2 : Int32) &&& 31)) fun (v26 : Int32) => some (v26)) (pq_br (a1 = (7 : Int32)) (pq_nm (a2 >>> ((1 : Int32) &&& 31)) fun (v14 : Int32) => pq_br ((16 : Int32) ≤ v14) (pq_br (v14 = (30 : Int32)) (some ((280 : Int32))) (pq_br (v14 = (31 : Int32)) (some ((-280 : Int32))) (pq_rd 16 f_heard56 (v14 - (14 : Int32)) fun (v20 : Int32) => some (-v20)))) (pq_rd 16 f_heard56 (v14) fun (v23 : Int32) => some (v23))) (pq_br ((32 : Int32) ≤ a2) (pq_br ((60 : Int32) ≤ a2) (pq_br (a2 = (60 : Int32)) (some ((432 : Int32))) (pq_br (a2 = (61 : Int32)) (some ((136 : Int32))) (pq_br (a2 = (62 : Int32)) (some ((-432 : Int32))) (some ((-136 : Int32)))))) (pq_rd 32 f_heard64 (a2 - (28 : Int32)) fun (v9 : Int32) => some (-v9))) (pq_rd 32 f_heard64 (a2) fun (v12 : Int32) => some (v12))))

def fX7_sieves_b79 (f_coefficients : Nat → Int32) (fuel : Nat) (x4 : Int32) (x5 : Int32) (c_odd : Int32) (c_even : Int32) (f_sieve : Nat → Int32) : Option (Int32 × Int32 × (Nat → Int32)) := match fuel with
  | 0 => none
  | fuel + 1 => pq_br ((12 : Int32) ≤ x5) (some (c_odd, c_even, f_sieve)) (pq_rd 192 f_sieve (x4 + ((2 : Int32) * x5)) fun (v20 : Int32) => pq_rd 12 f_coefficients (x5) fun (v23 : Int32) => pq_nm (c_odd + (v20 * v23)) fun (v25 : Int32) => pq_rd 192 f_sieve ((x4 + ((2 : Int32) * x5)) + (1 : Int32)) fun (v28 : Int32) => pq_rd 12 f_coefficients ((11 : Int32) - x5) fun (v31 : Int32) => pq_nm (c_even + (v28 * v31)) fun (v33 : Int32) => pq_nm (x5 + (1 : Int32)) fun (v35 : Int32) => fX7_sieves_b79  f_coefficients fuel x4 v35 v25 v33 f_sieve)
def fX7_sieves_b9 (f_coefficients : Nat → Int32) (fuel : Nat) (x2 : Int32) (x3 : Int32) (x4 : Int32) (x5 : Int32) (c_odd : Int32) (c_even : Int32) (f_sieve : Nat → Int32) : Option (Int32 × Int32 × (Nat → Int32)) := match fuel with
  | 0 => none
  | fuel + 1 => pq_br ((22 : Int32) ≤ x5) (pq_wr 192 f_sieve (x4 + (22 : Int32)) (x2) fun (f5 : Nat → Int32) => pq_wr 192 f5 (x4 + (23 : Int32)) (x3) fun (f8 : Nat → Int32) => fX7_sieves_b79  f_coefficients 1100 x4 (0 : Int32) (0 : Int32) (0 : Int32) f8) (pq_rd 192 f_sieve ((x4 + x5) + (2 : Int32)) fun (v11 : Int32) => pq_wr 192 f_sieve (x4 + x5) (v11) fun (f14 : Nat → Int32) => pq_nm (x5 + (1 : Int32)) fun (v16 : Int32) => fX7_sieves_b9  f_coefficients fuel x2 x3 x4 v16 c_odd c_even f14)
abbrev wX7_sieves (cI : ClassId) (th : Nat) (ad : Nat → Nat) (c_told : Int32) (c_sumZ : Int32) (c_sumE : Int32) (c_stepY : Int32) (c_odd : Int32) (c_even : Int32) (c_taped : Int32) (c_outs : Int32) (c_isFound : Int32) (f_sieve : Nat → Int32) (f_coefficients : Nat → Int32) : va_W := [(th, .inr (6, pq_oM ad c_told c_sumZ c_sumE c_stepY c_odd c_even c_taped c_outs c_isFound)), ((ad 24), .inl (cI, 192, .inl f_sieve)), ((ad 25), .inl (cI, 12, .inl f_coefficients))]
def fX7_sieves (a1 : Int32) (a2 : Int32) (a3 : Int32) (f_coefficients : Nat → Int32) (c_odd : Int32) (c_even : Int32) (f_sieve : Nat → Int32) : Option (Int32 × Int32 × (Nat → Int32)) := pq_nm ((24 : Int32) * a1) fun (v1 : Int32) => fX7_sieves_b9  f_coefficients 1100 a2 a3 v1 (0 : Int32) c_odd c_even f_sieve

abbrev wX7_root (cI : ClassId) (th : Nat) (ad : Nat → Nat) (c_told : Int32) (c_sumZ : Int32) (c_sumE : Int32) (c_stepY : Int32) (c_odd : Int32) (c_even : Int32) (c_taped : Int32) (c_outs : Int32) (c_isFound : Int32) (f_roots : Nat → Int32) : va_W := [(th, .inr (6, pq_oM ad c_told c_sumZ c_sumE c_stepY c_odd c_even c_taped c_outs c_isFound)), ((ad 27), .inl (cI, 32, .inl f_roots))]
def fX7_root (a1 : Int32) (a2 : Int32) (f_roots : Nat → Int32) : Option (Int32) := pq_rd 32 f_roots ((a1 >>> ((6 : Int32) &&& 31)) &&& (31 : Int32)) fun (v2 : Int32) => pq_nm (a2 - (a1 >>> ((11 : Int32) &&& 31))) fun (v4 : Int32) => pq_br ((0 : Int32) ≤ v4) (some ((4 : Int32) * (v2 >>> (v4 &&& 31)))) (some ((4 : Int32) * (v2 <<< ((-v4) &&& 31))))

def fX7_goesOn_b307 (k260 : (Int32) → (Int32) → (Int32) → (Int32) → (Int32) → (Int32) → (Nat → Int32) → Option ((Nat → Int32))) (x1 : Int32) (x2 : Int32) (x3 : Int32) (x4 : Int32) (x5 : Int32) (x10 : Int32) (s0 : Int32) (f_bands : Nat → Int32) : Option ((Nat → Int32)) := pq_rd 368 f_bands ((x1 + (7 : Int32)) + x10) fun (v77 : Int32) => pq_cl (fX7_limited (s0 + ((v77 * (32640 : Int32)) >>> ((15 : Int32) &&& 31)))) fun (r79 : Int32) => pq_wr 368 f_bands ((x1 + (7 : Int32)) + x10) (r79) fun (f82 : Nat → Int32) => pq_nm (x10 + (1 : Int32)) fun (v84 : Int32) => k260 x1 x2 x3 x4 x5 v84 f82
def fX7_goesOn_b535 (fuel : Nat) (x1 : Int32) (x12 : Int32) (x13 : Int32) (f_bands : Nat → Int32) : Option ((Nat → Int32)) := match fuel with
  | 0 => none
  | fuel + 1 => pq_br ((6 : Int32) ≤ x13) (pq_cl (fX7_limited x12) fun (r139 : Int32) => pq_wr 368 f_bands (x1 + (4 : Int32)) (r139) fun (f142 : Nat → Int32) => pq_rd 368 f142 (x1 + (3 : Int32)) fun (v145 : Int32) => pq_rd 368 f142 (x1 + (4 : Int32)) fun (v148 : Int32) => pq_cl (fX7_limited (v145 + v148)) fun (r150 : Int32) => pq_wr 368 f142 (x1 + (2 : Int32)) (r150) fun (f153 : Nat → Int32) => some (f153)) (pq_rd 368 f_bands ((x1 + (7 : Int32)) + x13) fun (v156 : Int32) => pq_rd 368 f_bands ((x1 + (17 : Int32)) + x13) fun (v159 : Int32) => pq_cl (fX7_limited ((2 : Int32) * v159)) fun (r161 : Int32) => pq_nm (x12 + ((v156 * r161) >>> ((15 : Int32) &&& 31))) fun (v163 : Int32) => pq_nm (x13 + (1 : Int32)) fun (v165 : Int32) => fX7_goesOn_b535   fuel x1 v163 v165 f_bands)
def fX7_goesOn_b356 (fuel : Nat) (x1 : Int32) (x2 : Int32) (x3 : Int32) (x4 : Int32) (x5 : Int32) (x10 : Int32) (f_bands : Nat → Int32) : Option ((Nat → Int32)) := match fuel with
  | 0 => none
  | fuel + 1 => pq_br (x10 ≤ (0 : Int32)) (pq_wr 368 f_bands (x1 + (17 : Int32)) (x2) fun (f88 : Nat → Int32) => pq_rd 368 f88 (x1 + (13 : Int32)) fun (v91 : Int32) => pq_wr 368 f88 (x1 + (14 : Int32)) (v91) fun (f94 : Nat → Int32) => pq_wr 368 f94 (x1 + (13 : Int32)) (x3) fun (f97 : Nat → Int32) => pq_wr 368 f97 (x1 + (16 : Int32)) (x5) fun (f100 : Nat → Int32) => pq_wr 368 f100 (x1 + (15 : Int32)) (x4) fun (f103 : Nat → Int32) => pq_rd 368 f103 (x1 + (5 : Int32)) fun (v106 : Int32) => pq_rd 368 f103 (x1 + (13 : Int32)) fun (v109 : Int32) => pq_cl (fX7_limited ((2 : Int32) * v109)) fun (r111 : Int32) => pq_nm ((v106 * r111) >>> ((15 : Int32) &&& 31)) fun (v113 : Int32) => pq_rd 368 f103 (x1 + (6 : Int32)) fun (v116 : Int32) => pq_rd 368 f103 (x1 + (14 : Int32)) fun (v119 : Int32) => pq_cl (fX7_limited ((2 : Int32) * v119)) fun (r121 : Int32) => pq_nm ((v116 * r121) >>> ((15 : Int32) &&& 31)) fun (v123 : Int32) => pq_cl (fX7_limited (v113 + v123)) fun (r125 : Int32) => pq_wr 368 f103 (x1 + (3 : Int32)) (r125) fun (f128 : Nat → Int32) => fX7_goesOn_b535   1100 x1 (0 : Int32) (0 : Int32) f128) (pq_rd 368 f_bands (((x1 + (17 : Int32)) + x10) - (1 : Int32)) fun (v131 : Int32) => pq_wr 368 f_bands ((x1 + (17 : Int32)) + x10) (v131) fun (f134 : Nat → Int32) => pq_nm (x10 + (-1 : Int32)) fun (v136 : Int32) => fX7_goesOn_b356   fuel x1 x2 x3 x4 x5 v136 f134)
def fX7_goesOn_b260 (fuel : Nat) (x1 : Int32) (x2 : Int32) (x3 : Int32) (x4 : Int32) (x5 : Int32) (x10 : Int32) (f_bands : Nat → Int32) : Option ((Nat → Int32)) := match fuel with
  | 0 => none
  | fuel + 1 => pq_br ((6 : Int32) ≤ x10) (fX7_goesOn_b356   1100 x1 x2 x3 x4 x5 (5 : Int32) f_bands) (pq_br (x2 = (0 : Int32)) (fX7_goesOn_b307 (fX7_goesOn_b260   fuel)  x1 x2 x3 x4 x5 x10 (0 : Int32) f_bands) (pq_cl (fX7_sign x2) fun (r68 : Int32) => pq_rd 368 f_bands ((x1 + (17 : Int32)) + x10) fun (v71 : Int32) => pq_cl (fX7_sign v71) fun (r73 : Int32) => pq_br (r68 = r73) (fX7_goesOn_b307 (fX7_goesOn_b260   fuel)  x1 x2 x3 x4 x5 x10 (128 : Int32) f_bands) (fX7_goesOn_b307 (fX7_goesOn_b260   fuel)  x1 x2 x3 x4 x5 x10 (-128 : Int32) f_bands)))
def fX7_goesOn_b196 (x1 : Int32) (x2 : Int32) (x3 : Int32) (x4 : Int32) (x5 : Int32) (s1 : Int32) (f_bands : Nat → Int32) : Option ((Nat → Int32)) := pq_rd 368 f_bands (x1 + (5 : Int32)) fun (v51 : Int32) => pq_cl (fX7_limited (s1 + ((v51 * (32640 : Int32)) >>> ((15 : Int32) &&& 31)))) fun (r53 : Int32) => pq_rd 368 f_bands (x1 + (6 : Int32)) fun (v56 : Int32) => pq_rd 368 f_bands (x1 + (6 : Int32)) fun (v59 : Int32) => pq_cl (fX7_cut r53 (v56 - (15360 : Int32)) ((15360 : Int32) - v59)) fun (r61 : Int32) => pq_wr 368 f_bands (x1 + (5 : Int32)) (r61) fun (f64 : Nat → Int32) => fX7_goesOn_b260   1100 x1 x2 x3 x4 x5 (0 : Int32) f64
def fX7_goesOn_b125 (x1 : Int32) (x2 : Int32) (x3 : Int32) (x4 : Int32) (x5 : Int32) (x7 : Int32) (s0 : Int32) (f_bands : Nat → Int32) : Option ((Nat → Int32)) := pq_rd 368 f_bands (x1 + (6 : Int32)) fun (v36 : Int32) => pq_nm ((s0 + (x7 >>> ((7 : Int32) &&& 31))) + ((v36 * (32512 : Int32)) >>> ((15 : Int32) &&& 31))) fun (v38 : Int32) => pq_cl (fX7_cut v38 (-12288 : Int32) (12288 : Int32)) fun (r40 : Int32) => pq_wr 368 f_bands (x1 + (6 : Int32)) (r40) fun (f43 : Nat → Int32) => pq_cl (fX7_sign x4) fun (r45 : Int32) => pq_cl (fX7_sign x5) fun (r47 : Int32) => pq_br (r45 = r47) (fX7_goesOn_b196   x1 x2 x3 x4 x5 (192 : Int32) f43) (fX7_goesOn_b196   x1 x2 x3 x4 x5 (-192 : Int32) f43)
def fX7_goesOn_b102 (x1 : Int32) (x2 : Int32) (x3 : Int32) (x4 : Int32) (x5 : Int32) (x6 : Int32) (x7 : Int32) (f_bands : Nat → Int32) : Option ((Nat → Int32)) := pq_cl (fX7_sign x4) fun (r30 : Int32) => pq_cl (fX7_sign x6) fun (r32 : Int32) => pq_br (r30 = r32) (fX7_goesOn_b125   x1 x2 x3 x4 x5 x7 (128 : Int32) f_bands) (fX7_goesOn_b125   x1 x2 x3 x4 x5 x7 (-128 : Int32) f_bands)
def fX7_goesOn_b89 (x1 : Int32) (x2 : Int32) (x3 : Int32) (x4 : Int32) (x5 : Int32) (x6 : Int32) (x7 : Int32) (f_bands : Nat → Int32) : Option ((Nat → Int32)) := pq_br (x7 ≤ (32767 : Int32)) (fX7_goesOn_b102   x1 x2 x3 x4 x5 x6 x7 f_bands) (fX7_goesOn_b102   x1 x2 x3 x4 x5 x6 (32767 : Int32) f_bands)
abbrev wX7_goesOn (cI : ClassId) (th : Nat) (ad : Nat → Nat) (c_told : Int32) (c_sumZ : Int32) (c_sumE : Int32) (c_stepY : Int32) (c_odd : Int32) (c_even : Int32) (c_taped : Int32) (c_outs : Int32) (c_isFound : Int32) (f_bands : Nat → Int32) : va_W := [(th, .inr (6, pq_oM ad c_told c_sumZ c_sumE c_stepY c_odd c_even c_taped c_outs c_isFound)), ((ad 23), .inl (cI, 368, .inl f_bands))]
def fX7_goesOn (a1 : Int32) (a2 : Int32) (f_bands : Nat → Int32) : Option ((Nat → Int32)) := pq_rd 368 f_bands (a1 + (2 : Int32)) fun (v2 : Int32) => pq_cl (fX7_limited (v2 + a2)) fun (r4 : Int32) => pq_rd 368 f_bands (a1 + (4 : Int32)) fun (v7 : Int32) => pq_cl (fX7_limited (v7 + a2)) fun (r9 : Int32) => pq_rd 368 f_bands (a1 + (15 : Int32)) fun (v12 : Int32) => pq_rd 368 f_bands (a1 + (16 : Int32)) fun (v15 : Int32) => pq_rd 368 f_bands (a1 + (5 : Int32)) fun (v18 : Int32) => pq_cl (fX7_limited ((4 : Int32) * v18)) fun (r20 : Int32) => pq_cl (fX7_sign r9) fun (r22 : Int32) => pq_cl (fX7_sign v12) fun (r24 : Int32) => pq_br (r22 = r24) (pq_nm (-r20) fun (v27 : Int32) => fX7_goesOn_b89   a1 a2 r4 r9 v12 v15 v27 f_bands) (fX7_goesOn_b89   a1 a2 r4 r9 v12 v15 r20 f_bands)

abbrev wX7_both (cI : ClassId) (th : Nat) (ad : Nat → Nat) (c_told : Int32) (c_sumZ : Int32) (c_sumE : Int32) (c_stepY : Int32) (c_odd : Int32) (c_even : Int32) (c_taped : Int32) (c_outs : Int32) (c_isFound : Int32) (f_bands : Nat → Int32) (f_roots : Nat → Int32) (f_ups : Nat → Int32) (f_highs : Nat → Int32) (f_lowWeights : Nat → Int32) (f_highWeights : Nat → Int32) : va_W := [(th, .inr (6, pq_oM ad c_told c_sumZ c_sumE c_stepY c_odd c_even c_taped c_outs c_isFound)), ((ad 23), .inl (cI, 368, .inl f_bands)), ((ad 27), .inl (cI, 32, .inl f_roots)), ((ad 28), .inl (cI, 16, .inl f_ups)), ((ad 29), .inl (cI, 4, .inl f_highs)), ((ad 30), .inl (cI, 16, .inl f_lowWeights)), ((ad 31), .inl (cI, 4, .inl f_highWeights))]
def fX7_both (a1 : Int32) (a2 : Int32) (a3 : Int32) (f_roots : Nat → Int32) (f_ups : Nat → Int32) (f_highs : Nat → Int32) (f_lowWeights : Nat → Int32) (f_highWeights : Nat → Int32) (f_bands : Nat → Int32) : Option ((Nat → Int32)) := pq_nm ((46 : Int32) * a1) fun (v1 : Int32) => pq_nm (a2 >>> ((2 : Int32) &&& 31)) fun (v3 : Int32) => pq_rd 368 f_bands (v1 + (1 : Int32)) fun (v6 : Int32) => pq_rd 16 f_ups (v3) fun (v9 : Int32) => pq_nm ((v6 * v9) >>> ((15 : Int32) &&& 31)) fun (v11 : Int32) => pq_rd 368 f_bands (v1) fun (v14 : Int32) => pq_rd 16 f_lowWeights (v3) fun (v17 : Int32) => pq_cl (fX7_cut ((((127 : Int32) * v14) >>> ((7 : Int32) &&& 31)) + v17) (0 : Int32) (18432 : Int32)) fun (r19 : Int32) => pq_wr 368 f_bands (v1) (r19) fun (f22 : Nat → Int32) => pq_rd 368 f22 (v1) fun (v25 : Int32) => pq_cl (fX7_root v25 (8 : Int32) f_roots) fun (r27 : Int32) => pq_wr 368 f22 (v1 + (1 : Int32)) (r27) fun (f30 : Nat → Int32) => pq_cl (fX7_goesOn v1 v11 f30) fun (f32 : Nat → Int32) => pq_rd 368 f32 (v1 + (24 : Int32)) fun (v35 : Int32) => pq_rd 4 f_highs (a3) fun (v38 : Int32) => pq_nm ((v35 * v38) >>> ((15 : Int32) &&& 31)) fun (v40 : Int32) => pq_rd 368 f32 (v1 + (23 : Int32)) fun (v43 : Int32) => pq_rd 4 f_highWeights (a3) fun (v46 : Int32) => pq_cl (fX7_cut ((((127 : Int32) * v43) >>> ((7 : Int32) &&& 31)) + v46) (0 : Int32) (22528 : Int32)) fun (r48 : Int32) => pq_wr 368 f32 (v1 + (23 : Int32)) (r48) fun (f51 : Nat → Int32) => pq_rd 368 f51 (v1 + (23 : Int32)) fun (v54 : Int32) => pq_cl (fX7_root v54 (10 : Int32) f_roots) fun (r56 : Int32) => pq_wr 368 f51 (v1 + (24 : Int32)) (r56) fun (f59 : Nat → Int32) => pq_cl (fX7_goesOn (v1 + (23 : Int32)) v40 f59) fun (f61 : Nat → Int32) => some (f61)

def fX7_says722_b241 (f_coefficients : Nat → Int32) (f_steps : Nat → Int32) (f_roots : Nat → Int32) (f_ups : Nat → Int32) (f_highs : Nat → Int32) (f_lowWeights : Nat → Int32) (f_highWeights : Nat → Int32) (x1 : Int32) (x8 : Int32) (s0 : Int32) (c_odd : Int32) (c_even : Int32) (f_bands : Nat → Int32) (f_sieve : Nat → Int32) : Option (Int32 × Int32 × Int32 × (Nat → Int32) × (Nat → Int32)) := pq_cl (fX7_both x1 x8 s0 f_roots f_ups f_highs f_lowWeights f_highWeights f_bands) fun (f39 : Nat → Int32) => some (((64 : Int32) * s0) + x8, c_odd, c_even, f39, f_sieve)
def fX7_says722_b211 (f_coefficients : Nat → Int32) (f_steps : Nat → Int32) (f_roots : Nat → Int32) (f_ups : Nat → Int32) (f_highs : Nat → Int32) (f_lowWeights : Nat → Int32) (f_highWeights : Nat → Int32) (x1 : Int32) (x8 : Int32) (x9 : Int32) (s0 : Int32) (c_odd : Int32) (c_even : Int32) (f_bands : Nat → Int32) (f_sieve : Nat → Int32) : Option (Int32 × Int32 × Int32 × (Nat → Int32) × (Nat → Int32)) := pq_br ((0 : Int32) ≤ x9) (pq_br (s0 = (0 : Int32)) (fX7_says722_b241  f_coefficients f_steps f_roots f_ups f_highs f_lowWeights f_highWeights x1 x8 (2 : Int32) c_odd c_even f_bands f_sieve) (fX7_says722_b241  f_coefficients f_steps f_roots f_ups f_highs f_lowWeights f_highWeights x1 x8 (3 : Int32) c_odd c_even f_bands f_sieve)) (pq_br (s0 = (0 : Int32)) (fX7_says722_b241  f_coefficients f_steps f_roots f_ups f_highs f_lowWeights f_highWeights x1 x8 (0 : Int32) c_odd c_even f_bands f_sieve) (fX7_says722_b241  f_coefficients f_steps f_roots f_ups f_highs f_lowWeights f_highWeights x1 x8 (1 : Int32) c_odd c_even f_bands f_sieve))
def fX7_says722_b182 (f_coefficients : Nat → Int32) (f_steps : Nat → Int32) (f_roots : Nat → Int32) (f_ups : Nat → Int32) (f_highs : Nat → Int32) (f_lowWeights : Nat → Int32) (f_highWeights : Nat → Int32) (x1 : Int32) (x4 : Int32) (x8 : Int32) (x9 : Int32) (s0 : Int32) (c_odd : Int32) (c_even : Int32) (f_bands : Nat → Int32) (f_sieve : Nat → Int32) : Option (Int32 × Int32 × Int32 × (Nat → Int32) × (Nat → Int32)) := pq_rd 368 f_bands (x4 + (24 : Int32)) fun (v33 : Int32) => pq_br ((((564 : Int32) * v33) >>> ((12 : Int32) &&& 31)) ≤ s0) (fX7_says722_b211  f_coefficients f_steps f_roots f_ups f_highs f_lowWeights f_highWeights x1 x8 x9 (0 : Int32) c_odd c_even f_bands f_sieve) (fX7_says722_b211  f_coefficients f_steps f_roots f_ups f_highs f_lowWeights f_highWeights x1 x8 x9 (1 : Int32) c_odd c_even f_bands f_sieve)
def fX7_says722_b136 (f_coefficients : Nat → Int32) (f_steps : Nat → Int32) (f_roots : Nat → Int32) (f_ups : Nat → Int32) (f_highs : Nat → Int32) (f_lowWeights : Nat → Int32) (f_highWeights : Nat → Int32) (x1 : Int32) (x4 : Int32) (s0 : Int32) (c_odd : Int32) (c_even : Int32) (f_bands : Nat → Int32) (f_sieve : Nat → Int32) : Option (Int32 × Int32 × Int32 × (Nat → Int32) × (Nat → Int32)) := pq_rd 368 f_bands (x4 + (25 : Int32)) fun (v27 : Int32) => pq_cl (fX7_limited (((c_even - c_odd) >>> ((14 : Int32) &&& 31)) - v27)) fun (r29 : Int32) => pq_br ((0 : Int32) ≤ r29) (fX7_says722_b182  f_coefficients f_steps f_roots f_ups f_highs f_lowWeights f_highWeights x1 x4 s0 r29 r29 c_odd c_even f_bands f_sieve) (fX7_says722_b182  f_coefficients f_steps f_roots f_ups f_highs f_lowWeights f_highWeights x1 x4 s0 r29 (-(r29 + (1 : Int32))) c_odd c_even f_bands f_sieve)
def fX7_says722_b104 (f_coefficients : Nat → Int32) (f_steps : Nat → Int32) (f_roots : Nat → Int32) (f_ups : Nat → Int32) (f_highs : Nat → Int32) (f_lowWeights : Nat → Int32) (f_highWeights : Nat → Int32) (x1 : Int32) (x4 : Int32) (x5 : Int32) (x7 : Int32) (c_odd : Int32) (c_even : Int32) (f_bands : Nat → Int32) (f_sieve : Nat → Int32) : Option (Int32 × Int32 × Int32 × (Nat → Int32) × (Nat → Int32)) := pq_br (x5 < (0 : Int32)) (pq_br ((3 : Int32) ≤ x7) (fX7_says722_b136  f_coefficients f_steps f_roots f_ups f_highs f_lowWeights f_highWeights x1 x4 ((34 : Int32) - x7) c_odd c_even f_bands f_sieve) (fX7_says722_b136  f_coefficients f_steps f_roots f_ups f_highs f_lowWeights f_highWeights x1 x4 ((64 : Int32) - x7) c_odd c_even f_bands f_sieve)) (fX7_says722_b136  f_coefficients f_steps f_roots f_ups f_highs f_lowWeights f_highWeights x1 x4 ((62 : Int32) - x7) c_odd c_even f_bands f_sieve)
def fX7_says722_b61 (f_coefficients : Nat → Int32) (f_steps : Nat → Int32) (f_roots : Nat → Int32) (f_ups : Nat → Int32) (f_highs : Nat → Int32) (f_lowWeights : Nat → Int32) (f_highWeights : Nat → Int32) (fuel : Nat) (x1 : Int32) (x4 : Int32) (x5 : Int32) (x6 : Int32) (x7 : Int32) (c_odd : Int32) (c_even : Int32) (f_bands : Nat → Int32) (f_sieve : Nat → Int32) : Option (Int32 × Int32 × Int32 × (Nat → Int32) × (Nat → Int32)) := match fuel with
  | 0 => none
  | fuel + 1 => pq_br ((30 : Int32) ≤ x7) (fX7_says722_b104  f_coefficients f_steps f_roots f_ups f_highs f_lowWeights f_highWeights x1 x4 x5 x7 c_odd c_even f_bands f_sieve) (pq_rd 29 f_steps (x7 - (1 : Int32)) fun (v16 : Int32) => pq_rd 368 f_bands (x4 + (1 : Int32)) fun (v19 : Int32) => pq_br (x6 < ((v16 * v19) >>> ((12 : Int32) &&& 31))) (fX7_says722_b104  f_coefficients f_steps f_roots f_ups f_highs f_lowWeights f_highWeights x1 x4 x5 x7 c_odd c_even f_bands f_sieve) (pq_nm (x7 + (1 : Int32)) fun (v22 : Int32) => fX7_says722_b61  f_coefficients f_steps f_roots f_ups f_highs f_lowWeights f_highWeights fuel x1 x4 x5 x6 v22 c_odd c_even f_bands f_sieve))
def fX7_says722_b56 (f_coefficients : Nat → Int32) (f_steps : Nat → Int32) (f_roots : Nat → Int32) (f_ups : Nat → Int32) (f_highs : Nat → Int32) (f_lowWeights : Nat → Int32) (f_highWeights : Nat → Int32) (x1 : Int32) (x4 : Int32) (x5 : Int32) (s0 : Int32) (c_odd : Int32) (c_even : Int32) (f_bands : Nat → Int32) (f_sieve : Nat → Int32) : Option (Int32 × Int32 × Int32 × (Nat → Int32) × (Nat → Int32)) := fX7_says722_b61  f_coefficients f_steps f_roots f_ups f_highs f_lowWeights f_highWeights 1100 x1 x4 x5 s0 (1 : Int32) c_odd c_even f_bands f_sieve
abbrev wX7_says722 (cI : ClassId) (th : Nat) (ad : Nat → Nat) (c_told : Int32) (c_sumZ : Int32) (c_sumE : Int32) (c_stepY : Int32) (c_odd : Int32) (c_even : Int32) (c_taped : Int32) (c_outs : Int32) (c_isFound : Int32) (f_bands : Nat → Int32) (f_sieve : Nat → Int32) (f_coefficients : Nat → Int32) (f_steps : Nat → Int32) (f_roots : Nat → Int32) (f_ups : Nat → Int32) (f_highs : Nat → Int32) (f_lowWeights : Nat → Int32) (f_highWeights : Nat → Int32) : va_W := [(th, .inr (6, pq_oM ad c_told c_sumZ c_sumE c_stepY c_odd c_even c_taped c_outs c_isFound)), ((ad 23), .inl (cI, 368, .inl f_bands)), ((ad 24), .inl (cI, 192, .inl f_sieve)), ((ad 25), .inl (cI, 12, .inl f_coefficients)), ((ad 26), .inl (cI, 29, .inl f_steps)), ((ad 27), .inl (cI, 32, .inl f_roots)), ((ad 28), .inl (cI, 16, .inl f_ups)), ((ad 29), .inl (cI, 4, .inl f_highs)), ((ad 30), .inl (cI, 16, .inl f_lowWeights)), ((ad 31), .inl (cI, 4, .inl f_highWeights))]
def fX7_says722 (a1 : Int32) (a2 : Int32) (a3 : Int32) (f_coefficients : Nat → Int32) (f_steps : Nat → Int32) (f_roots : Nat → Int32) (f_ups : Nat → Int32) (f_highs : Nat → Int32) (f_lowWeights : Nat → Int32) (f_highWeights : Nat → Int32) (c_odd : Int32) (c_even : Int32) (f_bands : Nat → Int32) (f_sieve : Nat → Int32) : Option (Int32 × Int32 × Int32 × (Nat → Int32) × (Nat → Int32)) := pq_cl (fX7_sieves a1 a2 a3 f_coefficients c_odd c_even f_sieve) fun (u5 : (Int32) × (Int32) × (Nat → Int32)) => pq_nm (u5.1) fun (c1 : Int32) => pq_nm (u5.2.1) fun (c2 : Int32) => pq_nm (u5.2.2) fun (f3 : Nat → Int32) => pq_nm ((46 : Int32) * a1) fun (v6 : Int32) => pq_rd 368 f_bands (v6 + (2 : Int32)) fun (v9 : Int32) => pq_cl (fX7_limited (((c2 + c1) >>> ((14 : Int32) &&& 31)) - v9)) fun (r11 : Int32) => pq_br ((0 : Int32) ≤ r11) (fX7_says722_b56  f_coefficients f_steps f_roots f_ups f_highs f_lowWeights f_highWeights a1 v6 r11 r11 c1 c2 f_bands f3) (fX7_says722_b56  f_coefficients f_steps f_roots f_ups f_highs f_lowWeights f_highWeights a1 v6 r11 (-(r11 + (1 : Int32))) c1 c2 f_bands f3)

abbrev wX7_hears722 (cI : ClassId) (th : Nat) (ad : Nat → Nat) (c_told : Int32) (c_sumZ : Int32) (c_sumE : Int32) (c_stepY : Int32) (c_odd : Int32) (c_even : Int32) (c_taped : Int32) (c_outs : Int32) (c_isFound : Int32) (f_kinds : Nat → Int32) (f_seconds : Nat → Int32) (f_bands : Nat → Int32) (f_sieve : Nat → Int32) (f_coefficients : Nat → Int32) (f_roots : Nat → Int32) (f_ups : Nat → Int32) (f_highs : Nat → Int32) (f_lowWeights : Nat → Int32) (f_highWeights : Nat → Int32) (f_heard56 : Nat → Int32) (f_heard64 : Nat → Int32) : va_W := [(th, .inr (6, pq_oM ad c_told c_sumZ c_sumE c_stepY c_odd c_even c_taped c_outs c_isFound)), ((ad 1), .inl (cI, 4, .inl f_kinds)), ((ad 2), .inl (cI, 4, .inl f_seconds)), ((ad 23), .inl (cI, 368, .inl f_bands)), ((ad 24), .inl (cI, 192, .inl f_sieve)), ((ad 25), .inl (cI, 12, .inl f_coefficients)), ((ad 27), .inl (cI, 32, .inl f_roots)), ((ad 28), .inl (cI, 16, .inl f_ups)), ((ad 29), .inl (cI, 4, .inl f_highs)), ((ad 30), .inl (cI, 16, .inl f_lowWeights)), ((ad 31), .inl (cI, 4, .inl f_highWeights)), ((ad 32), .inl (cI, 16, .inl f_heard56)), ((ad 33), .inl (cI, 32, .inl f_heard64))]
def fX7_hears722 (a1 : Int32) (a2 : Int32) (f_kinds : Nat → Int32) (f_coefficients : Nat → Int32) (f_roots : Nat → Int32) (f_ups : Nat → Int32) (f_highs : Nat → Int32) (f_lowWeights : Nat → Int32) (f_highWeights : Nat → Int32) (f_heard56 : Nat → Int32) (f_heard64 : Nat → Int32) (c_odd : Int32) (c_even : Int32) (f_seconds : Nat → Int32) (f_bands : Nat → Int32) (f_sieve : Nat → Int32) : Option (Int32 × Int32 × Int32 × (Nat → Int32) × (Nat → Int32) × (Nat → Int32)) := pq_nm (((2 : Int32) * a1) + (1 : Int32)) fun (v1 : Int32) => pq_nm ((46 : Int32) * v1) fun (v3 : Int32) => pq_nm (a2 &&& (63 : Int32)) fun (v5 : Int32) => pq_nm (a2 >>> ((6 : Int32) &&& 31)) fun (v7 : Int32) => pq_rd 368 f_bands (v3 + (2 : Int32)) fun (v10 : Int32) => pq_rd 368 f_bands (v3 + (1 : Int32)) fun (v13 : Int32) => pq_rd 4 f_kinds (a1) fun (v16 : Int32) => pq_cl (fX7_heardBy v16 v5 f_ups f_heard56 f_heard64) fun (r18 : Int32) => pq_cl (fX7_cut (v10 + ((v13 * r18) >>> ((15 : Int32) &&& 31))) (-16384 : Int32) (16383 : Int32)) fun (r20 : Int32) => pq_rd 368 f_bands (v3 + (25 : Int32)) fun (v23 : Int32) => pq_rd 368 f_bands (v3 + (24 : Int32)) fun (v26 : Int32) => pq_rd 4 f_highs (v7) fun (v29 : Int32) => pq_cl (fX7_cut (v23 + ((v26 * v29) >>> ((15 : Int32) &&& 31))) (-16384 : Int32) (16383 : Int32)) fun (r31 : Int32) => pq_cl (fX7_both v1 v5 v7 f_roots f_ups f_highs f_lowWeights f_highWeights f_bands) fun (f33 : Nat → Int32) => pq_cl (fX7_sieves v1 (r20 + r31) (r20 - r31) f_coefficients c_odd c_even f_sieve) fun (u39 : (Int32) × (Int32) × (Nat → Int32)) => pq_nm (u39.1) fun (c35 : Int32) => pq_nm (u39.2.1) fun (c36 : Int32) => pq_nm (u39.2.2) fun (f37 : Nat → Int32) => pq_cl (fX7_limited (c35 >>> ((11 : Int32) &&& 31))) fun (r40 : Int32) => pq_wr 4 f_seconds (a1) (r40) fun (f43 : Nat → Int32) => pq_cl (fX7_limited (c36 >>> ((11 : Int32) &&& 31))) fun (r45 : Int32) => some (r45, c35, c36, f43, f33, f37)

def fX7_isSample (a1 : Int32) : Option (Int32) := pq_br (a1 < (-32768 : Int32)) (some ((0 : Int32))) (pq_br ((32767 : Int32) < a1) (some ((0 : Int32))) (some ((1 : Int32))))

abbrev wX7_bitsOf (cI : ClassId) (th : Nat) (ad : Nat → Nat) (c_told : Int32) (c_sumZ : Int32) (c_sumE : Int32) (c_stepY : Int32) (c_odd : Int32) (c_even : Int32) (c_taped : Int32) (c_outs : Int32) (c_isFound : Int32) (f_kinds : Nat → Int32) : va_W := [(th, .inr (6, pq_oM ad c_told c_sumZ c_sumE c_stepY c_odd c_even c_taped c_outs c_isFound)), ((ad 1), .inl (cI, 4, .inl f_kinds))]
def fX7_bitsOf (a1 : Int32) (f_kinds : Nat → Int32) : Option (Int32) := pq_rd 4 f_kinds (a1) fun (v2 : Int32) => pq_br (v2 < (2 : Int32)) (some ((8 : Int32))) (pq_rd 4 f_kinds (a1) fun (v6 : Int32) => pq_br ((5 : Int32) < v6) (some ((8 : Int32))) (pq_rd 4 f_kinds (a1) fun (v10 : Int32) => some (v10)))

abbrev wX7_says (cI : ClassId) (th : Nat) (ad : Nat → Nat) (c_told : Int32) (c_sumZ : Int32) (c_sumE : Int32) (c_stepY : Int32) (c_odd : Int32) (c_even : Int32) (c_taped : Int32) (c_outs : Int32) (c_isFound : Int32) (f_kinds : Nat → Int32) (f_g : Nat → Int32) (f_bounds2 : Nat → Int32) (f_bounds3 : Nat → Int32) (f_bounds4 : Nat → Int32) (f_bounds5 : Nat → Int32) (f_table2 : Nat → Int32) (f_table3 : Nat → Int32) (f_table4 : Nat → Int32) (f_table5 : Nat → Int32) (f_weight2 : Nat → Int32) (f_weight3 : Nat → Int32) (f_weight4 : Nat → Int32) (f_weight5 : Nat → Int32) (f_pace2 : Nat → Int32) (f_pace3 : Nat → Int32) (f_pace4 : Nat → Int32) (f_pace5 : Nat → Int32) : va_W := [(th, .inr (6, pq_oM ad c_told c_sumZ c_sumE c_stepY c_odd c_even c_taped c_outs c_isFound)), ((ad 1), .inl (cI, 4, .inl f_kinds)), ((ad 3), .inl (cI, 192, .inl f_g)), ((ad 4), .inl (cI, 1, .inl f_bounds2)), ((ad 5), .inl (cI, 3, .inl f_bounds3)), ((ad 6), .inl (cI, 7, .inl f_bounds4)), ((ad 7), .inl (cI, 15, .inl f_bounds5)), ((ad 8), .inl (cI, 2, .inl f_table2)), ((ad 9), .inl (cI, 4, .inl f_table3)), ((ad 10), .inl (cI, 8, .inl f_table4)), ((ad 11), .inl (cI, 16, .inl f_table5)), ((ad 12), .inl (cI, 2, .inl f_weight2)), ((ad 13), .inl (cI, 4, .inl f_weight3)), ((ad 14), .inl (cI, 8, .inl f_weight4)), ((ad 15), .inl (cI, 16, .inl f_weight5)), ((ad 16), .inl (cI, 2, .inl f_pace2)), ((ad 17), .inl (cI, 4, .inl f_pace3)), ((ad 18), .inl (cI, 8, .inl f_pace4)), ((ad 19), .inl (cI, 16, .inl f_pace5))]
def fX7_says (a1 : Int32) (a2 : Int32) (f_kinds : Nat → Int32) (f_bounds2 : Nat → Int32) (f_bounds3 : Nat → Int32) (f_bounds4 : Nat → Int32) (f_bounds5 : Nat → Int32) (f_table2 : Nat → Int32) (f_table3 : Nat → Int32) (f_table4 : Nat → Int32) (f_table5 : Nat → Int32) (f_weight2 : Nat → Int32) (f_weight3 : Nat → Int32) (f_weight4 : Nat → Int32) (f_weight5 : Nat → Int32) (f_pace2 : Nat → Int32) (f_pace3 : Nat → Int32) (f_pace4 : Nat → Int32) (f_pace5 : Nat → Int32) (c_sumZ : Int32) (c_sumE : Int32) (c_stepY : Int32) (f_g : Nat → Int32) : Option (Int32 × Int32 × Int32 × Int32 × (Nat → Int32)) := pq_rd 4 f_kinds (a1) fun (v2 : Int32) => pq_br (v2 = (0 : Int32)) (pq_cl (fX7_muSays a2) fun (r21 : Int32) => some (r21, c_sumZ, c_sumE, c_stepY, f_g)) (pq_rd 4 f_kinds (a1) fun (v6 : Int32) => pq_br (v6 = (1 : Int32)) (pq_cl (fX7_aSays a2) fun (r19 : Int32) => some (r19, c_sumZ, c_sumE, c_stepY, f_g)) (pq_rd 4 f_kinds (a1) fun (v10 : Int32) => pq_cl (fX7_says726 ((2 : Int32) * a1) v10 a2 f_bounds2 f_bounds3 f_bounds4 f_bounds5 f_table2 f_table3 f_table4 f_table5 f_weight2 f_weight3 f_weight4 f_weight5 f_pace2 f_pace3 f_pace4 f_pace5 c_sumZ c_sumE c_stepY f_g) fun (u18 : (Int32) × (Int32) × (Int32) × (Int32) × (Nat → Int32)) => pq_nm (u18.1) fun (r12 : Int32) => pq_nm (u18.2.1) fun (c13 : Int32) => pq_nm (u18.2.2.1) fun (c14 : Int32) => pq_nm (u18.2.2.2.1) fun (c15 : Int32) => pq_nm (u18.2.2.2.2) fun (f16 : Nat → Int32) => some (r12, c13, c14, c15, f16)))

abbrev wX7_hears (cI : ClassId) (th : Nat) (ad : Nat → Nat) (c_told : Int32) (c_sumZ : Int32) (c_sumE : Int32) (c_stepY : Int32) (c_odd : Int32) (c_even : Int32) (c_taped : Int32) (c_outs : Int32) (c_isFound : Int32) (f_kinds : Nat → Int32) (f_seconds : Nat → Int32) (f_g : Nat → Int32) (f_table2 : Nat → Int32) (f_table3 : Nat → Int32) (f_table4 : Nat → Int32) (f_table5 : Nat → Int32) (f_weight2 : Nat → Int32) (f_weight3 : Nat → Int32) (f_weight4 : Nat → Int32) (f_weight5 : Nat → Int32) (f_pace2 : Nat → Int32) (f_pace3 : Nat → Int32) (f_pace4 : Nat → Int32) (f_pace5 : Nat → Int32) (f_bands : Nat → Int32) (f_sieve : Nat → Int32) (f_coefficients : Nat → Int32) (f_roots : Nat → Int32) (f_ups : Nat → Int32) (f_highs : Nat → Int32) (f_lowWeights : Nat → Int32) (f_highWeights : Nat → Int32) (f_heard56 : Nat → Int32) (f_heard64 : Nat → Int32) : va_W := [(th, .inr (6, pq_oM ad c_told c_sumZ c_sumE c_stepY c_odd c_even c_taped c_outs c_isFound)), ((ad 1), .inl (cI, 4, .inl f_kinds)), ((ad 2), .inl (cI, 4, .inl f_seconds)), ((ad 3), .inl (cI, 192, .inl f_g)), ((ad 8), .inl (cI, 2, .inl f_table2)), ((ad 9), .inl (cI, 4, .inl f_table3)), ((ad 10), .inl (cI, 8, .inl f_table4)), ((ad 11), .inl (cI, 16, .inl f_table5)), ((ad 12), .inl (cI, 2, .inl f_weight2)), ((ad 13), .inl (cI, 4, .inl f_weight3)), ((ad 14), .inl (cI, 8, .inl f_weight4)), ((ad 15), .inl (cI, 16, .inl f_weight5)), ((ad 16), .inl (cI, 2, .inl f_pace2)), ((ad 17), .inl (cI, 4, .inl f_pace3)), ((ad 18), .inl (cI, 8, .inl f_pace4)), ((ad 19), .inl (cI, 16, .inl f_pace5)), ((ad 23), .inl (cI, 368, .inl f_bands)), ((ad 24), .inl (cI, 192, .inl f_sieve)), ((ad 25), .inl (cI, 12, .inl f_coefficients)), ((ad 27), .inl (cI, 32, .inl f_roots)), ((ad 28), .inl (cI, 16, .inl f_ups)), ((ad 29), .inl (cI, 4, .inl f_highs)), ((ad 30), .inl (cI, 16, .inl f_lowWeights)), ((ad 31), .inl (cI, 4, .inl f_highWeights)), ((ad 32), .inl (cI, 16, .inl f_heard56)), ((ad 33), .inl (cI, 32, .inl f_heard64))]
def fX7_hears (a1 : Int32) (a2 : Int32) (f_kinds : Nat → Int32) (f_table2 : Nat → Int32) (f_table3 : Nat → Int32) (f_table4 : Nat → Int32) (f_table5 : Nat → Int32) (f_weight2 : Nat → Int32) (f_weight3 : Nat → Int32) (f_weight4 : Nat → Int32) (f_weight5 : Nat → Int32) (f_pace2 : Nat → Int32) (f_pace3 : Nat → Int32) (f_pace4 : Nat → Int32) (f_pace5 : Nat → Int32) (f_coefficients : Nat → Int32) (f_roots : Nat → Int32) (f_ups : Nat → Int32) (f_highs : Nat → Int32) (f_lowWeights : Nat → Int32) (f_highWeights : Nat → Int32) (f_heard56 : Nat → Int32) (f_heard64 : Nat → Int32) (c_sumZ : Int32) (c_sumE : Int32) (c_stepY : Int32) (c_odd : Int32) (c_even : Int32) (f_seconds : Nat → Int32) (f_g : Nat → Int32) (f_bands : Nat → Int32) (f_sieve : Nat → Int32) : Option (Int32 × Int32 × Int32 × Int32 × Int32 × Int32 × (Nat → Int32) × (Nat → Int32) × (Nat → Int32) × (Nat → Int32)) := pq_rd 4 f_kinds (a1) fun (v2 : Int32) => pq_br (v2 = (0 : Int32)) (pq_cl (fX7_muHears a2) fun (r33 : Int32) => some (r33, c_sumZ, c_sumE, c_stepY, c_odd, c_even, f_seconds, f_g, f_bands, f_sieve)) (pq_rd 4 f_kinds (a1) fun (v6 : Int32) => pq_br (v6 = (1 : Int32)) (pq_cl (fX7_aHears a2) fun (r31 : Int32) => some (r31, c_sumZ, c_sumE, c_stepY, c_odd, c_even, f_seconds, f_g, f_bands, f_sieve)) (pq_rd 4 f_kinds (a1) fun (v10 : Int32) => pq_br ((6 : Int32) ≤ v10) (pq_cl (fX7_hears722 a1 a2 f_kinds f_coefficients f_roots f_ups f_highs f_lowWeights f_highWeights f_heard56 f_heard64 c_odd c_even f_seconds f_bands f_sieve) fun (u20 : (Int32) × (Int32) × (Int32) × (Nat → Int32) × (Nat → Int32) × (Nat → Int32)) => pq_nm (u20.1) fun (r13 : Int32) => pq_nm (u20.2.1) fun (c14 : Int32) => pq_nm (u20.2.2.1) fun (c15 : Int32) => pq_nm (u20.2.2.2.1) fun (f16 : Nat → Int32) => pq_nm (u20.2.2.2.2.1) fun (f17 : Nat → Int32) => pq_nm (u20.2.2.2.2.2) fun (f18 : Nat → Int32) => some (r13, c_sumZ, c_sumE, c_stepY, c14, c15, f16, f_g, f17, f18)) (pq_rd 4 f_kinds (a1) fun (v22 : Int32) => pq_cl (fX7_hears726 (((2 : Int32) * a1) + (1 : Int32)) v22 a2 f_table2 f_table3 f_table4 f_table5 f_weight2 f_weight3 f_weight4 f_weight5 f_pace2 f_pace3 f_pace4 f_pace5 c_sumZ c_sumE c_stepY f_g) fun (u30 : (Int32) × (Int32) × (Int32) × (Int32) × (Nat → Int32)) => pq_nm (u30.1) fun (r24 : Int32) => pq_nm (u30.2.1) fun (c25 : Int32) => pq_nm (u30.2.2.1) fun (c26 : Int32) => pq_nm (u30.2.2.2.1) fun (c27 : Int32) => pq_nm (u30.2.2.2.2) fun (f28 : Nat → Int32) => some (r24, c25, c26, c27, c_odd, c_even, f_seconds, f28, f_bands, f_sieve))))

abbrev wX7_say (cI : ClassId) (th : Nat) (ad : Nat → Nat) (c_told : Int32) (c_sumZ : Int32) (c_sumE : Int32) (c_stepY : Int32) (c_odd : Int32) (c_even : Int32) (c_taped : Int32) (c_outs : Int32) (c_isFound : Int32) (f_kinds : Nat → Int32) (f_g : Nat → Int32) (f_bounds2 : Nat → Int32) (f_bounds3 : Nat → Int32) (f_bounds4 : Nat → Int32) (f_bounds5 : Nat → Int32) (f_table2 : Nat → Int32) (f_table3 : Nat → Int32) (f_table4 : Nat → Int32) (f_table5 : Nat → Int32) (f_weight2 : Nat → Int32) (f_weight3 : Nat → Int32) (f_weight4 : Nat → Int32) (f_weight5 : Nat → Int32) (f_pace2 : Nat → Int32) (f_pace3 : Nat → Int32) (f_pace4 : Nat → Int32) (f_pace5 : Nat → Int32) : va_W := [(th, .inr (6, pq_oM ad c_told c_sumZ c_sumE c_stepY c_odd c_even c_taped c_outs c_isFound)), ((ad 1), .inl (cI, 4, .inl f_kinds)), ((ad 3), .inl (cI, 192, .inl f_g)), ((ad 4), .inl (cI, 1, .inl f_bounds2)), ((ad 5), .inl (cI, 3, .inl f_bounds3)), ((ad 6), .inl (cI, 7, .inl f_bounds4)), ((ad 7), .inl (cI, 15, .inl f_bounds5)), ((ad 8), .inl (cI, 2, .inl f_table2)), ((ad 9), .inl (cI, 4, .inl f_table3)), ((ad 10), .inl (cI, 8, .inl f_table4)), ((ad 11), .inl (cI, 16, .inl f_table5)), ((ad 12), .inl (cI, 2, .inl f_weight2)), ((ad 13), .inl (cI, 4, .inl f_weight3)), ((ad 14), .inl (cI, 8, .inl f_weight4)), ((ad 15), .inl (cI, 16, .inl f_weight5)), ((ad 16), .inl (cI, 2, .inl f_pace2)), ((ad 17), .inl (cI, 4, .inl f_pace3)), ((ad 18), .inl (cI, 8, .inl f_pace4)), ((ad 19), .inl (cI, 16, .inl f_pace5))]
def fX7_say (a1 : Int32) (a2 : Int32) (f_kinds : Nat → Int32) (f_bounds2 : Nat → Int32) (f_bounds3 : Nat → Int32) (f_bounds4 : Nat → Int32) (f_bounds5 : Nat → Int32) (f_table2 : Nat → Int32) (f_table3 : Nat → Int32) (f_table4 : Nat → Int32) (f_table5 : Nat → Int32) (f_weight2 : Nat → Int32) (f_weight3 : Nat → Int32) (f_weight4 : Nat → Int32) (f_weight5 : Nat → Int32) (f_pace2 : Nat → Int32) (f_pace3 : Nat → Int32) (f_pace4 : Nat → Int32) (f_pace5 : Nat → Int32) (c_told : Int32) (c_sumZ : Int32) (c_sumE : Int32) (c_stepY : Int32) (f_g : Nat → Int32) : Option (Int32 × Int32 × Int32 × Int32 × Int32 × (Nat → Int32)) := pq_cl (fX7_isOpen a1 f_kinds) fun (r1 : Int32) => pq_br (r1 = (0 : Int32)) (some ((-100000 : Int32), (0 : Int32), c_sumZ, c_sumE, c_stepY, f_g)) (pq_cl (fX7_isPaired a1 f_kinds) fun (r4 : Int32) => pq_br (r4 = (0 : Int32)) (pq_cl (fX7_isSample a2) fun (r7 : Int32) => pq_br (r7 = (0 : Int32)) (some ((-100000 : Int32), (0 : Int32), c_sumZ, c_sumE, c_stepY, f_g)) (pq_cl (fX7_says a1 a2 f_kinds f_bounds2 f_bounds3 f_bounds4 f_bounds5 f_table2 f_table3 f_table4 f_table5 f_weight2 f_weight3 f_weight4 f_weight5 f_pace2 f_pace3 f_pace4 f_pace5 c_sumZ c_sumE c_stepY f_g) fun (u16 : (Int32) × (Int32) × (Int32) × (Int32) × (Nat → Int32)) => pq_nm (u16.1) fun (r10 : Int32) => pq_nm (u16.2.1) fun (c11 : Int32) => pq_nm (u16.2.2.1) fun (c12 : Int32) => pq_nm (u16.2.2.2.1) fun (c13 : Int32) => pq_nm (u16.2.2.2.2) fun (f14 : Nat → Int32) => some (r10, (0 : Int32), c11, c12, c13, f14))) (some ((-100000 : Int32), (0 : Int32), c_sumZ, c_sumE, c_stepY, f_g)))

abbrev wX7_pair (cI : ClassId) (th : Nat) (ad : Nat → Nat) (c_told : Int32) (c_sumZ : Int32) (c_sumE : Int32) (c_stepY : Int32) (c_odd : Int32) (c_even : Int32) (c_taped : Int32) (c_outs : Int32) (c_isFound : Int32) (f_kinds : Nat → Int32) (f_bands : Nat → Int32) (f_sieve : Nat → Int32) (f_coefficients : Nat → Int32) (f_steps : Nat → Int32) (f_roots : Nat → Int32) (f_ups : Nat → Int32) (f_highs : Nat → Int32) (f_lowWeights : Nat → Int32) (f_highWeights : Nat → Int32) : va_W := [(th, .inr (6, pq_oM ad c_told c_sumZ c_sumE c_stepY c_odd c_even c_taped c_outs c_isFound)), ((ad 1), .inl (cI, 4, .inl f_kinds)), ((ad 23), .inl (cI, 368, .inl f_bands)), ((ad 24), .inl (cI, 192, .inl f_sieve)), ((ad 25), .inl (cI, 12, .inl f_coefficients)), ((ad 26), .inl (cI, 29, .inl f_steps)), ((ad 27), .inl (cI, 32, .inl f_roots)), ((ad 28), .inl (cI, 16, .inl f_ups)), ((ad 29), .inl (cI, 4, .inl f_highs)), ((ad 30), .inl (cI, 16, .inl f_lowWeights)), ((ad 31), .inl (cI, 4, .inl f_highWeights))]
def fX7_pair (a1 : Int32) (a2 : Int32) (a3 : Int32) (f_kinds : Nat → Int32) (f_coefficients : Nat → Int32) (f_steps : Nat → Int32) (f_roots : Nat → Int32) (f_ups : Nat → Int32) (f_highs : Nat → Int32) (f_lowWeights : Nat → Int32) (f_highWeights : Nat → Int32) (c_told : Int32) (c_odd : Int32) (c_even : Int32) (f_bands : Nat → Int32) (f_sieve : Nat → Int32) : Option (Int32 × Int32 × Int32 × Int32 × (Nat → Int32) × (Nat → Int32)) := pq_cl (fX7_isOpen a1 f_kinds) fun (r1 : Int32) => pq_br (r1 = (0 : Int32)) (some ((-100000 : Int32), (0 : Int32), c_odd, c_even, f_bands, f_sieve)) (pq_cl (fX7_isPaired a1 f_kinds) fun (r4 : Int32) => pq_br (r4 = (0 : Int32)) (some ((-100000 : Int32), (0 : Int32), c_odd, c_even, f_bands, f_sieve)) (pq_cl (fX7_isSample a2) fun (r7 : Int32) => pq_br (r7 = (0 : Int32)) (some ((-100000 : Int32), (0 : Int32), c_odd, c_even, f_bands, f_sieve)) (pq_cl (fX7_isSample a3) fun (r10 : Int32) => pq_br (r10 = (0 : Int32)) (some ((-100000 : Int32), (0 : Int32), c_odd, c_even, f_bands, f_sieve)) (pq_cl (fX7_says722 ((2 : Int32) * a1) a2 a3 f_coefficients f_steps f_roots f_ups f_highs f_lowWeights f_highWeights c_odd c_even f_bands f_sieve) fun (u19 : (Int32) × (Int32) × (Int32) × (Nat → Int32) × (Nat → Int32)) => pq_nm (u19.1) fun (r13 : Int32) => pq_nm (u19.2.1) fun (c14 : Int32) => pq_nm (u19.2.2.1) fun (c15 : Int32) => pq_nm (u19.2.2.2.1) fun (f16 : Nat → Int32) => pq_nm (u19.2.2.2.2) fun (f17 : Nat → Int32) => some (r13, (0 : Int32), c14, c15, f16, f17)))))

abbrev wX7_isCode (cI : ClassId) (th : Nat) (ad : Nat → Nat) (c_told : Int32) (c_sumZ : Int32) (c_sumE : Int32) (c_stepY : Int32) (c_odd : Int32) (c_even : Int32) (c_taped : Int32) (c_outs : Int32) (c_isFound : Int32) (f_kinds : Nat → Int32) : va_W := [(th, .inr (6, pq_oM ad c_told c_sumZ c_sumE c_stepY c_odd c_even c_taped c_outs c_isFound)), ((ad 1), .inl (cI, 4, .inl f_kinds))]
def fX7_isCode (a1 : Int32) (a2 : Int32) (f_kinds : Nat → Int32) : Option (Int32) := pq_br (a2 < (0 : Int32)) (some ((0 : Int32))) (pq_cl (fX7_bitsOf a1 f_kinds) fun (r2 : Int32) => pq_br (((1 : Int32) <<< (r2 &&& 31)) ≤ a2) (some ((0 : Int32))) (some ((1 : Int32))))

abbrev wX7_hear (cI : ClassId) (th : Nat) (ad : Nat → Nat) (c_told : Int32) (c_sumZ : Int32) (c_sumE : Int32) (c_stepY : Int32) (c_odd : Int32) (c_even : Int32) (c_taped : Int32) (c_outs : Int32) (c_isFound : Int32) (f_kinds : Nat → Int32) (f_seconds : Nat → Int32) (f_g : Nat → Int32) (f_table2 : Nat → Int32) (f_table3 : Nat → Int32) (f_table4 : Nat → Int32) (f_table5 : Nat → Int32) (f_weight2 : Nat → Int32) (f_weight3 : Nat → Int32) (f_weight4 : Nat → Int32) (f_weight5 : Nat → Int32) (f_pace2 : Nat → Int32) (f_pace3 : Nat → Int32) (f_pace4 : Nat → Int32) (f_pace5 : Nat → Int32) (f_bands : Nat → Int32) (f_sieve : Nat → Int32) (f_coefficients : Nat → Int32) (f_roots : Nat → Int32) (f_ups : Nat → Int32) (f_highs : Nat → Int32) (f_lowWeights : Nat → Int32) (f_highWeights : Nat → Int32) (f_heard56 : Nat → Int32) (f_heard64 : Nat → Int32) : va_W := [(th, .inr (6, pq_oM ad c_told c_sumZ c_sumE c_stepY c_odd c_even c_taped c_outs c_isFound)), ((ad 1), .inl (cI, 4, .inl f_kinds)), ((ad 2), .inl (cI, 4, .inl f_seconds)), ((ad 3), .inl (cI, 192, .inl f_g)), ((ad 8), .inl (cI, 2, .inl f_table2)), ((ad 9), .inl (cI, 4, .inl f_table3)), ((ad 10), .inl (cI, 8, .inl f_table4)), ((ad 11), .inl (cI, 16, .inl f_table5)), ((ad 12), .inl (cI, 2, .inl f_weight2)), ((ad 13), .inl (cI, 4, .inl f_weight3)), ((ad 14), .inl (cI, 8, .inl f_weight4)), ((ad 15), .inl (cI, 16, .inl f_weight5)), ((ad 16), .inl (cI, 2, .inl f_pace2)), ((ad 17), .inl (cI, 4, .inl f_pace3)), ((ad 18), .inl (cI, 8, .inl f_pace4)), ((ad 19), .inl (cI, 16, .inl f_pace5)), ((ad 23), .inl (cI, 368, .inl f_bands)), ((ad 24), .inl (cI, 192, .inl f_sieve)), ((ad 25), .inl (cI, 12, .inl f_coefficients)), ((ad 27), .inl (cI, 32, .inl f_roots)), ((ad 28), .inl (cI, 16, .inl f_ups)), ((ad 29), .inl (cI, 4, .inl f_highs)), ((ad 30), .inl (cI, 16, .inl f_lowWeights)), ((ad 31), .inl (cI, 4, .inl f_highWeights)), ((ad 32), .inl (cI, 16, .inl f_heard56)), ((ad 33), .inl (cI, 32, .inl f_heard64))]
def fX7_hear (a1 : Int32) (a2 : Int32) (f_kinds : Nat → Int32) (f_table2 : Nat → Int32) (f_table3 : Nat → Int32) (f_table4 : Nat → Int32) (f_table5 : Nat → Int32) (f_weight2 : Nat → Int32) (f_weight3 : Nat → Int32) (f_weight4 : Nat → Int32) (f_weight5 : Nat → Int32) (f_pace2 : Nat → Int32) (f_pace3 : Nat → Int32) (f_pace4 : Nat → Int32) (f_pace5 : Nat → Int32) (f_coefficients : Nat → Int32) (f_roots : Nat → Int32) (f_ups : Nat → Int32) (f_highs : Nat → Int32) (f_lowWeights : Nat → Int32) (f_highWeights : Nat → Int32) (f_heard56 : Nat → Int32) (f_heard64 : Nat → Int32) (c_told : Int32) (c_sumZ : Int32) (c_sumE : Int32) (c_stepY : Int32) (c_odd : Int32) (c_even : Int32) (f_seconds : Nat → Int32) (f_g : Nat → Int32) (f_bands : Nat → Int32) (f_sieve : Nat → Int32) : Option (Int32 × Int32 × Int32 × Int32 × Int32 × Int32 × Int32 × (Nat → Int32) × (Nat → Int32) × (Nat → Int32) × (Nat → Int32)) := pq_cl (fX7_isOpen a1 f_kinds) fun (r1 : Int32) => pq_br (r1 = (0 : Int32)) (some ((-100000 : Int32), (0 : Int32), c_sumZ, c_sumE, c_stepY, c_odd, c_even, f_seconds, f_g, f_bands, f_sieve)) (pq_cl (fX7_isCode a1 a2 f_kinds) fun (r4 : Int32) => pq_br (r4 = (0 : Int32)) (some ((-100000 : Int32), (0 : Int32), c_sumZ, c_sumE, c_stepY, c_odd, c_even, f_seconds, f_g, f_bands, f_sieve)) (pq_cl (fX7_hears a1 a2 f_kinds f_table2 f_table3 f_table4 f_table5 f_weight2 f_weight3 f_weight4 f_weight5 f_pace2 f_pace3 f_pace4 f_pace5 f_coefficients f_roots f_ups f_highs f_lowWeights f_highWeights f_heard56 f_heard64 c_sumZ c_sumE c_stepY c_odd c_even f_seconds f_g f_bands f_sieve) fun (u18 : (Int32) × (Int32) × (Int32) × (Int32) × (Int32) × (Int32) × (Nat → Int32) × (Nat → Int32) × (Nat → Int32) × (Nat → Int32)) => pq_nm (u18.1) fun (r7 : Int32) => pq_nm (u18.2.1) fun (c8 : Int32) => pq_nm (u18.2.2.1) fun (c9 : Int32) => pq_nm (u18.2.2.2.1) fun (c10 : Int32) => pq_nm (u18.2.2.2.2.1) fun (c11 : Int32) => pq_nm (u18.2.2.2.2.2.1) fun (c12 : Int32) => pq_nm (u18.2.2.2.2.2.2.1) fun (f13 : Nat → Int32) => pq_nm (u18.2.2.2.2.2.2.2.1) fun (f14 : Nat → Int32) => pq_nm (u18.2.2.2.2.2.2.2.2.1) fun (f15 : Nat → Int32) => pq_nm (u18.2.2.2.2.2.2.2.2.2) fun (f16 : Nat → Int32) => some (r7, (0 : Int32), c8, c9, c10, c11, c12, f13, f14, f15, f16)))

abbrev wX7_second (cI : ClassId) (th : Nat) (ad : Nat → Nat) (c_told : Int32) (c_sumZ : Int32) (c_sumE : Int32) (c_stepY : Int32) (c_odd : Int32) (c_even : Int32) (c_taped : Int32) (c_outs : Int32) (c_isFound : Int32) (f_kinds : Nat → Int32) (f_seconds : Nat → Int32) : va_W := [(th, .inr (6, pq_oM ad c_told c_sumZ c_sumE c_stepY c_odd c_even c_taped c_outs c_isFound)), ((ad 1), .inl (cI, 4, .inl f_kinds)), ((ad 2), .inl (cI, 4, .inl f_seconds))]
def fX7_second (a1 : Int32) (f_kinds : Nat → Int32) (f_seconds : Nat → Int32) (c_told : Int32) : Option (Int32 × Int32) := pq_cl (fX7_isOpen a1 f_kinds) fun (r1 : Int32) => pq_br (r1 = (0 : Int32)) (some ((-100000 : Int32), (0 : Int32))) (pq_cl (fX7_isPaired a1 f_kinds) fun (r4 : Int32) => pq_br (r4 = (0 : Int32)) (some ((-100000 : Int32), (0 : Int32))) (pq_rd 4 f_seconds (a1) fun (v8 : Int32) => some (v8, (0 : Int32))))

def fX7_inner_b129 (f_kinds : Nat → Int32) (f_g : Nat → Int32) (f_bands : Nat → Int32) (f_sieve : Nat → Int32) (x3 : Int32) (x4 : Int32) (c_told : Int32) : Option (Int32 × Int32) := pq_br (x3 < (60 : Int32)) (some ((-100000 : Int32), c_told)) (pq_br ((84 : Int32) ≤ x3) (some ((-100000 : Int32), c_told)) (pq_rd 192 f_sieve ((((24 : Int32) * x4) + x3) - (60 : Int32)) fun (v33 : Int32) => some (v33, c_told)))
def fX7_inner_b101 (f_kinds : Nat → Int32) (f_g : Nat → Int32) (f_bands : Nat → Int32) (f_sieve : Nat → Int32) (x3 : Int32) (x4 : Int32) (c_told : Int32) : Option (Int32 × Int32) := pq_br (x3 < (30 : Int32)) (fX7_inner_b129  f_kinds f_g f_bands f_sieve x3 x4 c_told) (pq_br ((53 : Int32) ≤ x3) (fX7_inner_b129  f_kinds f_g f_bands f_sieve x3 x4 c_told) (pq_rd 368 f_bands ((((46 : Int32) * x4) + x3) - (7 : Int32)) fun (v28 : Int32) => some (v28, c_told)))
abbrev wX7_inner (cI : ClassId) (th : Nat) (ad : Nat → Nat) (c_told : Int32) (c_sumZ : Int32) (c_sumE : Int32) (c_stepY : Int32) (c_odd : Int32) (c_even : Int32) (c_taped : Int32) (c_outs : Int32) (c_isFound : Int32) (f_kinds : Nat → Int32) (f_g : Nat → Int32) (f_bands : Nat → Int32) (f_sieve : Nat → Int32) : va_W := [(th, .inr (6, pq_oM ad c_told c_sumZ c_sumE c_stepY c_odd c_even c_taped c_outs c_isFound)), ((ad 1), .inl (cI, 4, .inl f_kinds)), ((ad 3), .inl (cI, 192, .inl f_g)), ((ad 23), .inl (cI, 368, .inl f_bands)), ((ad 24), .inl (cI, 192, .inl f_sieve))]
def fX7_inner (a1 : Int32) (a2 : Int32) (a3 : Int32) (f_kinds : Nat → Int32) (f_g : Nat → Int32) (f_bands : Nat → Int32) (f_sieve : Nat → Int32) (c_told : Int32) : Option (Int32 × Int32) := pq_cl (fX7_isOpen a1 f_kinds) fun (r1 : Int32) => pq_br (r1 = (0 : Int32)) (some ((-100000 : Int32), (0 : Int32))) (pq_br (a2 < (0 : Int32)) (some ((-100000 : Int32), (0 : Int32))) (pq_br ((1 : Int32) < a2) (some ((-100000 : Int32), (0 : Int32))) (pq_rd 4 f_kinds (a1) fun (v7 : Int32) => pq_br ((2 : Int32) ≤ v7) (pq_nm (((2 : Int32) * a1) + a2) fun (v10 : Int32) => pq_cl (fX7_isPaired a1 f_kinds) fun (r12 : Int32) => pq_br (r12 = (0 : Int32)) (pq_br (a3 < (0 : Int32)) (some ((-100000 : Int32), (0 : Int32))) (pq_br ((24 : Int32) ≤ a3) (some ((-100000 : Int32), (0 : Int32))) (pq_rd 192 f_g (((24 : Int32) * v10) + a3) fun (v23 : Int32) => some (v23, (0 : Int32))))) (pq_br (a3 < (0 : Int32)) (fX7_inner_b101  f_kinds f_g f_bands f_sieve a3 v10 (0 : Int32)) (pq_br ((23 : Int32) ≤ a3) (fX7_inner_b101  f_kinds f_g f_bands f_sieve a3 v10 (0 : Int32)) (pq_rd 368 f_bands (((46 : Int32) * v10) + a3) fun (v18 : Int32) => some (v18, (0 : Int32)))))) (some ((-100000 : Int32), (0 : Int32))))))

def fX7_puts_b3 (fuel : Nat) (x1 : Int32) (x2 : Int32) (c_taped : Int32) (f_tape : Nat → Int32) : Option (Int32 × (Nat → Int32)) := match fuel with
  | 0 => none
  | fuel + 1 => pq_br (x2 < (0 : Int32)) (some (c_taped, f_tape)) (pq_wr 1000 f_tape (c_taped) ((x1 >>> (x2 &&& 31)) &&& (255 : Int32)) fun (f3 : Nat → Int32) => pq_nm (c_taped + (1 : Int32)) fun (v5 : Int32) => pq_nm (x2 + (-8 : Int32)) fun (v7 : Int32) => fX7_puts_b3   fuel x1 v7 v5 f3)
abbrev wX7_puts (cI : ClassId) (th : Nat) (ad : Nat → Nat) (c_told : Int32) (c_sumZ : Int32) (c_sumE : Int32) (c_stepY : Int32) (c_odd : Int32) (c_even : Int32) (c_taped : Int32) (c_outs : Int32) (c_isFound : Int32) (f_tape : Nat → Int32) : va_W := [(th, .inr (6, pq_oM ad c_told c_sumZ c_sumE c_stepY c_odd c_even c_taped c_outs c_isFound)), ((ad 36), .inl (cI, 1000, .inl f_tape))]
def fX7_puts (a1 : Int32) (c_taped : Int32) (f_tape : Nat → Int32) : Option (Int32 × (Nat → Int32)) := fX7_puts_b3   1100 a1 (24 : Int32) c_taped f_tape

abbrev wX7_feed (cI : ClassId) (th : Nat) (ad : Nat → Nat) (c_told : Int32) (c_sumZ : Int32) (c_sumE : Int32) (c_stepY : Int32) (c_odd : Int32) (c_even : Int32) (c_taped : Int32) (c_outs : Int32) (c_isFound : Int32) (f_tape : Nat → Int32) : va_W := [(th, .inr (6, pq_oM ad c_told c_sumZ c_sumE c_stepY c_odd c_even c_taped c_outs c_isFound)), ((ad 36), .inl (cI, 1000, .inl f_tape))]
def fX7_feed (a1 : Int32) (a2 : Int32) (a3 : Int32) (a4 : Int32) (a5 : Int32) (c_told : Int32) (c_taped : Int32) (f_tape : Nat → Int32) : Option (Int32 × Int32 × Int32 × (Nat → Int32)) := pq_br ((c_taped + (20 : Int32)) ≤ (1000 : Int32)) (pq_cl (fX7_puts a1 c_taped f_tape) fun (u5 : (Int32) × (Nat → Int32)) => pq_nm (u5.1) fun (c2 : Int32) => pq_nm (u5.2) fun (f3 : Nat → Int32) => pq_cl (fX7_puts a2 c2 f3) fun (u9 : (Int32) × (Nat → Int32)) => pq_nm (u9.1) fun (c6 : Int32) => pq_nm (u9.2) fun (f7 : Nat → Int32) => pq_cl (fX7_puts a3 c6 f7) fun (u13 : (Int32) × (Nat → Int32)) => pq_nm (u13.1) fun (c10 : Int32) => pq_nm (u13.2) fun (f11 : Nat → Int32) => pq_cl (fX7_puts a4 c10 f11) fun (u17 : (Int32) × (Nat → Int32)) => pq_nm (u17.1) fun (c14 : Int32) => pq_nm (u17.2) fun (f15 : Nat → Int32) => pq_cl (fX7_puts a5 c14 f15) fun (u21 : (Int32) × (Nat → Int32)) => pq_nm (u21.1) fun (c18 : Int32) => pq_nm (u21.2) fun (f19 : Nat → Int32) => some (c18, (0 : Int32), c18, f19)) (some ((-100000 : Int32), (0 : Int32), c_taped, f_tape))

abbrev wX7_end (cI : ClassId) (th : Nat) (ad : Nat → Nat) (c_told : Int32) (c_sumZ : Int32) (c_sumE : Int32) (c_stepY : Int32) (c_odd : Int32) (c_even : Int32) (c_taped : Int32) (c_outs : Int32) (c_isFound : Int32) : va_W := [(th, .inr (6, pq_oM ad c_told c_sumZ c_sumE c_stepY c_odd c_even c_taped c_outs c_isFound))]
def fX7_end (a1 : Int32) (c_told : Int32) (c_taped : Int32) : Option (Int32 × Int32 × Int32) := pq_br (a1 < (0 : Int32)) (some ((-100000 : Int32), (0 : Int32), c_taped)) (pq_br (a1 ≤ c_taped) (some (a1, (0 : Int32), a1)) (some ((-100000 : Int32), (0 : Int32), c_taped)))

def fX7_take_b31 (c_outs : Int32) (f_out : Nat → Int32) (fuel : Nat) (x1 : Int32) (c_told : Int32) (c_taped : Int32) (f_tape : Nat → Int32) : Option (Int32 × Int32 × Int32 × (Nat → Int32)) := match fuel with
  | 0 => none
  | fuel + 1 => pq_br (c_taped ≤ x1) (some (c_taped, c_told, c_taped, f_tape)) (pq_rd 2000 f_out (x1) fun (v4 : Int32) => pq_wr 1000 f_tape (x1) (v4) fun (f7 : Nat → Int32) => pq_nm (x1 + (1 : Int32)) fun (v9 : Int32) => fX7_take_b31  c_outs f_out fuel v9 c_told c_taped f7)
def fX7_take_b26 (c_outs : Int32) (f_out : Nat → Int32) (s1 : Int32) (c_told : Int32) (c_taped : Int32) (f_tape : Nat → Int32) : Option (Int32 × Int32 × Int32 × (Nat → Int32)) := fX7_take_b31  c_outs f_out 1100 (0 : Int32) c_told s1 f_tape
abbrev wX7_take (cI : ClassId) (th : Nat) (ad : Nat → Nat) (c_told : Int32) (c_sumZ : Int32) (c_sumE : Int32) (c_stepY : Int32) (c_odd : Int32) (c_even : Int32) (c_taped : Int32) (c_outs : Int32) (c_isFound : Int32) (f_tape : Nat → Int32) (f_out : Nat → Int32) : va_W := [(th, .inr (6, pq_oM ad c_told c_sumZ c_sumE c_stepY c_odd c_even c_taped c_outs c_isFound)), ((ad 36), .inl (cI, 1000, .inl f_tape)), ((ad 38), .inl (cI, 2000, .inl f_out))]
def fX7_take (c_outs : Int32) (f_out : Nat → Int32) (c_told : Int32) (c_taped : Int32) (f_tape : Nat → Int32) : Option (Int32 × Int32 × Int32 × (Nat → Int32)) := pq_br ((1000 : Int32) ≤ c_outs) (fX7_take_b26  c_outs f_out (1000 : Int32) (0 : Int32) c_taped f_tape) (fX7_take_b26  c_outs f_out c_outs (0 : Int32) c_taped f_tape)

abbrev wX7_out (cI : ClassId) (th : Nat) (ad : Nat → Nat) (c_told : Int32) (c_sumZ : Int32) (c_sumE : Int32) (c_stepY : Int32) (c_odd : Int32) (c_even : Int32) (c_taped : Int32) (c_outs : Int32) (c_isFound : Int32) (f_out : Nat → Int32) : va_W := [(th, .inr (6, pq_oM ad c_told c_sumZ c_sumE c_stepY c_odd c_even c_taped c_outs c_isFound)), ((ad 38), .inl (cI, 2000, .inl f_out))]
def fX7_out (a1 : Int32) (c_outs : Int32) (f_out : Nat → Int32) (c_told : Int32) : Option (Int32 × Int32) := pq_br (a1 < (0 : Int32)) (some ((-100000 : Int32), (0 : Int32))) (pq_br (c_outs ≤ a1) (some ((-100000 : Int32), (0 : Int32))) (pq_rd 2000 f_out (a1) fun (v4 : Int32) => some (v4, (0 : Int32))))

abbrev wX7_sampleAt (cI : ClassId) (th : Nat) (ad : Nat → Nat) (c_told : Int32) (c_sumZ : Int32) (c_sumE : Int32) (c_stepY : Int32) (c_odd : Int32) (c_even : Int32) (c_taped : Int32) (c_outs : Int32) (c_isFound : Int32) (f_tape : Nat → Int32) : va_W := [(th, .inr (6, pq_oM ad c_told c_sumZ c_sumE c_stepY c_odd c_even c_taped c_outs c_isFound)), ((ad 36), .inl (cI, 1000, .inl f_tape))]
def fX7_sampleAt (a1 : Int32) (f_tape : Nat → Int32) : Option (Int32) := pq_rd 1000 f_tape (a1) fun (v2 : Int32) => pq_rd 1000 f_tape (a1 + (1 : Int32)) fun (v5 : Int32) => pq_cl (fX7_wrapped ((v2 <<< ((8 : Int32) &&& 31)) ||| v5)) fun (r7 : Int32) => some (r7)

def fX7_bit_b36 (s1 : Int32) (s2 : Int32) (s3 : Int32) (s4 : Int32) (f_out : Nat → Int32) : Option ((Nat → Int32)) := pq_wr 2000 f_out (s1) (s2 ||| (s3 <<< (s4 &&& 31))) fun (f10 : Nat → Int32) => some (f10)
abbrev wX7_bit (cI : ClassId) (th : Nat) (ad : Nat → Nat) (c_told : Int32) (c_sumZ : Int32) (c_sumE : Int32) (c_stepY : Int32) (c_odd : Int32) (c_even : Int32) (c_taped : Int32) (c_outs : Int32) (c_isFound : Int32) (f_out : Nat → Int32) : va_W := [(th, .inr (6, pq_oM ad c_told c_sumZ c_sumE c_stepY c_odd c_even c_taped c_outs c_isFound)), ((ad 38), .inl (cI, 2000, .inl f_out))]
def fX7_bit (a1 : Int32) (a2 : Int32) (a3 : Int32) (f_out : Nat → Int32) : Option ((Nat → Int32)) := pq_nz (8 : Int32) <| pq_nz (8 : Int32) <| pq_rd 2000 f_out (a1 / (8 : Int32)) fun (v4 : Int32) => pq_br (a3 = (0 : Int32)) (pq_nz (8 : Int32) <| fX7_bit_b36   (a1 / (8 : Int32)) v4 a2 (a1 - a1 / (8 : Int32) * (8 : Int32)) f_out) (pq_nz (8 : Int32) <| fX7_bit_b36   (a1 / (8 : Int32)) v4 a2 ((7 : Int32) - (a1 - a1 / (8 : Int32) * (8 : Int32))) f_out)

def fX7_pack_b197 (k101 : (Int32) → (Int32) → (Int32) → (Int32) → (Int32) → (Int32) → (Int32) → (Int32) → (Int32) → (Int32) → (Int32) → (Int32) → (Int32) → (Int32) → (Nat → Int32) → (Nat → Int32) → (Nat → Int32) → (Nat → Int32) → Option (Int32 × Int32 × Int32 × Int32 × Int32 × Int32 × Int32 × Int32 × Int32 × (Nat → Int32) × (Nat → Int32) × (Nat → Int32) × (Nat → Int32))) (k159 : (Int32) → (Int32) → (Int32) → (Int32) → (Int32) → (Int32) → (Int32) → (Int32) → (Int32) → (Int32) → (Int32) → (Int32) → (Int32) → (Int32) → (Int32) → (Int32) → (Nat → Int32) → (Nat → Int32) → (Nat → Int32) → (Nat → Int32) → Option (Int32 × Int32 × Int32 × Int32 × Int32 × Int32 × Int32 × Int32 × Int32 × (Nat → Int32) × (Nat → Int32) × (Nat → Int32) × (Nat → Int32))) (f_kinds : Nat → Int32) (f_bounds2 : Nat → Int32) (f_bounds3 : Nat → Int32) (f_bounds4 : Nat → Int32) (f_bounds5 : Nat → Int32) (f_table2 : Nat → Int32) (f_table3 : Nat → Int32) (f_table4 : Nat → Int32) (f_table5 : Nat → Int32) (f_weight2 : Nat → Int32) (f_weight3 : Nat → Int32) (f_weight4 : Nat → Int32) (f_weight5 : Nat → Int32) (f_pace2 : Nat → Int32) (f_pace3 : Nat → Int32) (f_pace4 : Nat → Int32) (f_pace5 : Nat → Int32) (f_coefficients : Nat → Int32) (f_steps : Nat → Int32) (f_roots : Nat → Int32) (f_ups : Nat → Int32) (f_highs : Nat → Int32) (f_lowWeights : Nat → Int32) (f_highWeights : Nat → Int32) (f_tape : Nat → Int32) (x1 : Int32) (x2 : Int32) (x3 : Int32) (x4 : Int32) (x5 : Int32) (x6 : Int32) (x7 : Int32) (x8 : Int32) (s1 : Int32) (s2 : Int32) (c_told : Int32) (c_sumZ : Int32) (c_sumE : Int32) (c_stepY : Int32) (c_odd : Int32) (c_even : Int32) (c_taped : Int32) (c_outs : Int32) (f_g : Nat → Int32) (f_bands : Nat → Int32) (f_sieve : Nat → Int32) (f_out : Nat → Int32) : Option (Int32 × Int32 × Int32 × Int32 × Int32 × Int32 × Int32 × Int32 × Int32 × (Nat → Int32) × (Nat → Int32) × (Nat → Int32) × (Nat → Int32)) := pq_cl (fX7_bit s1 (s2 &&& (1 : Int32)) x2 f_out) fun (f49 : Nat → Int32) => pq_nm (x8 + (1 : Int32)) fun (v51 : Int32) => k159 x1 x2 x3 x4 x5 x6 x7 v51 c_told c_sumZ c_sumE c_stepY c_odd c_even c_taped c_outs f_g f_bands f_sieve f49
def fX7_pack_b159 (k101 : (Int32) → (Int32) → (Int32) → (Int32) → (Int32) → (Int32) → (Int32) → (Int32) → (Int32) → (Int32) → (Int32) → (Int32) → (Int32) → (Int32) → (Nat → Int32) → (Nat → Int32) → (Nat → Int32) → (Nat → Int32) → Option (Int32 × Int32 × Int32 × Int32 × Int32 × Int32 × Int32 × Int32 × Int32 × (Nat → Int32) × (Nat → Int32) × (Nat → Int32) × (Nat → Int32))) (f_kinds : Nat → Int32) (f_bounds2 : Nat → Int32) (f_bounds3 : Nat → Int32) (f_bounds4 : Nat → Int32) (f_bounds5 : Nat → Int32) (f_table2 : Nat → Int32) (f_table3 : Nat → Int32) (f_table4 : Nat → Int32) (f_table5 : Nat → Int32) (f_weight2 : Nat → Int32) (f_weight3 : Nat → Int32) (f_weight4 : Nat → Int32) (f_weight5 : Nat → Int32) (f_pace2 : Nat → Int32) (f_pace3 : Nat → Int32) (f_pace4 : Nat → Int32) (f_pace5 : Nat → Int32) (f_coefficients : Nat → Int32) (f_steps : Nat → Int32) (f_roots : Nat → Int32) (f_ups : Nat → Int32) (f_highs : Nat → Int32) (f_lowWeights : Nat → Int32) (f_highWeights : Nat → Int32) (f_tape : Nat → Int32) (fuel : Nat) (x1 : Int32) (x2 : Int32) (x3 : Int32) (x4 : Int32) (x5 : Int32) (x6 : Int32) (x7 : Int32) (x8 : Int32) (c_told : Int32) (c_sumZ : Int32) (c_sumE : Int32) (c_stepY : Int32) (c_odd : Int32) (c_even : Int32) (c_taped : Int32) (c_outs : Int32) (f_g : Nat → Int32) (f_bands : Nat → Int32) (f_sieve : Nat → Int32) (f_out : Nat → Int32) : Option (Int32 × Int32 × Int32 × Int32 × Int32 × Int32 × Int32 × Int32 × Int32 × (Nat → Int32) × (Nat → Int32) × (Nat → Int32) × (Nat → Int32)) := match fuel with
  | 0 => none
  | fuel + 1 => pq_br (x5 ≤ x8) (pq_nm (x6 + (1 : Int32)) fun (v46 : Int32) => k101 x1 x2 x3 x4 x5 v46 c_told c_sumZ c_sumE c_stepY c_odd c_even c_taped c_outs f_g f_bands f_sieve f_out) (pq_br (x2 = (0 : Int32)) (fX7_pack_b197 k101 (fX7_pack_b159 k101 f_kinds f_bounds2 f_bounds3 f_bounds4 f_bounds5 f_table2 f_table3 f_table4 f_table5 f_weight2 f_weight3 f_weight4 f_weight5 f_pace2 f_pace3 f_pace4 f_pace5 f_coefficients f_steps f_roots f_ups f_highs f_lowWeights f_highWeights f_tape fuel) f_kinds f_bounds2 f_bounds3 f_bounds4 f_bounds5 f_table2 f_table3 f_table4 f_table5 f_weight2 f_weight3 f_weight4 f_weight5 f_pace2 f_pace3 f_pace4 f_pace5 f_coefficients f_steps f_roots f_ups f_highs f_lowWeights f_highWeights f_tape x1 x2 x3 x4 x5 x6 x7 x8 ((x5 * x6) + x8) (x7 >>> (x8 &&& 31)) c_told c_sumZ c_sumE c_stepY c_odd c_even c_taped c_outs f_g f_bands f_sieve f_out) (fX7_pack_b197 k101 (fX7_pack_b159 k101 f_kinds f_bounds2 f_bounds3 f_bounds4 f_bounds5 f_table2 f_table3 f_table4 f_table5 f_weight2 f_weight3 f_weight4 f_weight5 f_pace2 f_pace3 f_pace4 f_pace5 f_coefficients f_steps f_roots f_ups f_highs f_lowWeights f_highWeights f_tape fuel) f_kinds f_bounds2 f_bounds3 f_bounds4 f_bounds5 f_table2 f_table3 f_table4 f_table5 f_weight2 f_weight3 f_weight4 f_weight5 f_pace2 f_pace3 f_pace4 f_pace5 f_coefficients f_steps f_roots f_ups f_highs f_lowWeights f_highWeights f_tape x1 x2 x3 x4 x5 x6 x7 x8 ((x5 * x6) + x8) (x7 >>> (((x5 - (1 : Int32)) - x8) &&& 31)) c_told c_sumZ c_sumE c_stepY c_odd c_even c_taped c_outs f_g f_bands f_sieve f_out))
def fX7_pack_b154 (k101 : (Int32) → (Int32) → (Int32) → (Int32) → (Int32) → (Int32) → (Int32) → (Int32) → (Int32) → (Int32) → (Int32) → (Int32) → (Int32) → (Int32) → (Nat → Int32) → (Nat → Int32) → (Nat → Int32) → (Nat → Int32) → Option (Int32 × Int32 × Int32 × Int32 × Int32 × Int32 × Int32 × Int32 × Int32 × (Nat → Int32) × (Nat → Int32) × (Nat → Int32) × (Nat → Int32))) (f_kinds : Nat → Int32) (f_bounds2 : Nat → Int32) (f_bounds3 : Nat → Int32) (f_bounds4 : Nat → Int32) (f_bounds5 : Nat → Int32) (f_table2 : Nat → Int32) (f_table3 : Nat → Int32) (f_table4 : Nat → Int32) (f_table5 : Nat → Int32) (f_weight2 : Nat → Int32) (f_weight3 : Nat → Int32) (f_weight4 : Nat → Int32) (f_weight5 : Nat → Int32) (f_pace2 : Nat → Int32) (f_pace3 : Nat → Int32) (f_pace4 : Nat → Int32) (f_pace5 : Nat → Int32) (f_coefficients : Nat → Int32) (f_steps : Nat → Int32) (f_roots : Nat → Int32) (f_ups : Nat → Int32) (f_highs : Nat → Int32) (f_lowWeights : Nat → Int32) (f_highWeights : Nat → Int32) (f_tape : Nat → Int32) (x1 : Int32) (x2 : Int32) (x3 : Int32) (x4 : Int32) (x5 : Int32) (x6 : Int32) (s0 : Int32) (c_told : Int32) (c_sumZ : Int32) (c_sumE : Int32) (c_stepY : Int32) (c_odd : Int32) (c_even : Int32) (c_taped : Int32) (c_outs : Int32) (f_g : Nat → Int32) (f_bands : Nat → Int32) (f_sieve : Nat → Int32) (f_out : Nat → Int32) : Option (Int32 × Int32 × Int32 × Int32 × Int32 × Int32 × Int32 × Int32 × Int32 × (Nat → Int32) × (Nat → Int32) × (Nat → Int32) × (Nat → Int32)) := fX7_pack_b159 k101 f_kinds f_bounds2 f_bounds3 f_bounds4 f_bounds5 f_table2 f_table3 f_table4 f_table5 f_weight2 f_weight3 f_weight4 f_weight5 f_pace2 f_pace3 f_pace4 f_pace5 f_coefficients f_steps f_roots f_ups f_highs f_lowWeights f_highWeights f_tape 1100 x1 x2 x3 x4 x5 x6 s0 (0 : Int32) c_told c_sumZ c_sumE c_stepY c_odd c_even c_taped c_outs f_g f_bands f_sieve f_out
def fX7_pack_b101 (f_kinds : Nat → Int32) (f_bounds2 : Nat → Int32) (f_bounds3 : Nat → Int32) (f_bounds4 : Nat → Int32) (f_bounds5 : Nat → Int32) (f_table2 : Nat → Int32) (f_table3 : Nat → Int32) (f_table4 : Nat → Int32) (f_table5 : Nat → Int32) (f_weight2 : Nat → Int32) (f_weight3 : Nat → Int32) (f_weight4 : Nat → Int32) (f_weight5 : Nat → Int32) (f_pace2 : Nat → Int32) (f_pace3 : Nat → Int32) (f_pace4 : Nat → Int32) (f_pace5 : Nat → Int32) (f_coefficients : Nat → Int32) (f_steps : Nat → Int32) (f_roots : Nat → Int32) (f_ups : Nat → Int32) (f_highs : Nat → Int32) (f_lowWeights : Nat → Int32) (f_highWeights : Nat → Int32) (f_tape : Nat → Int32) (fuel : Nat) (x1 : Int32) (x2 : Int32) (x3 : Int32) (x4 : Int32) (x5 : Int32) (x6 : Int32) (c_told : Int32) (c_sumZ : Int32) (c_sumE : Int32) (c_stepY : Int32) (c_odd : Int32) (c_even : Int32) (c_taped : Int32) (c_outs : Int32) (f_g : Nat → Int32) (f_bands : Nat → Int32) (f_sieve : Nat → Int32) (f_out : Nat → Int32) : Option (Int32 × Int32 × Int32 × Int32 × Int32 × Int32 × Int32 × Int32 × Int32 × (Nat → Int32) × (Nat → Int32) × (Nat → Int32) × (Nat → Int32)) := match fuel with
  | 0 => none
  | fuel + 1 => pq_br (x4 ≤ x6) (some (x4, c_told, c_sumZ, c_sumE, c_stepY, c_odd, c_even, (0 : Int32), c_outs, f_g, f_bands, f_sieve, f_out)) (pq_br (x3 = (4 : Int32)) (pq_cl (fX7_sampleAt ((4 : Int32) * x6) f_tape) fun (r34 : Int32) => pq_cl (fX7_sampleAt (((4 : Int32) * x6) + (2 : Int32)) f_tape) fun (r36 : Int32) => pq_cl (fX7_says722 ((2 : Int32) * x1) r34 r36 f_coefficients f_steps f_roots f_ups f_highs f_lowWeights f_highWeights c_odd c_even f_bands f_sieve) fun (u44 : (Int32) × (Int32) × (Int32) × (Nat → Int32) × (Nat → Int32)) => pq_nm (u44.1) fun (r38 : Int32) => pq_nm (u44.2.1) fun (c39 : Int32) => pq_nm (u44.2.2.1) fun (c40 : Int32) => pq_nm (u44.2.2.2.1) fun (f41 : Nat → Int32) => pq_nm (u44.2.2.2.2) fun (f42 : Nat → Int32) => fX7_pack_b154 (fX7_pack_b101  f_kinds f_bounds2 f_bounds3 f_bounds4 f_bounds5 f_table2 f_table3 f_table4 f_table5 f_weight2 f_weight3 f_weight4 f_weight5 f_pace2 f_pace3 f_pace4 f_pace5 f_coefficients f_steps f_roots f_ups f_highs f_lowWeights f_highWeights f_tape fuel) f_kinds f_bounds2 f_bounds3 f_bounds4 f_bounds5 f_table2 f_table3 f_table4 f_table5 f_weight2 f_weight3 f_weight4 f_weight5 f_pace2 f_pace3 f_pace4 f_pace5 f_coefficients f_steps f_roots f_ups f_highs f_lowWeights f_highWeights f_tape x1 x2 x3 x4 x5 x6 r38 c_told c_sumZ c_sumE c_stepY c39 c40 c_taped c_outs f_g f41 f42 f_out) (pq_cl (fX7_sampleAt ((2 : Int32) * x6) f_tape) fun (r25 : Int32) => pq_cl (fX7_says x1 r25 f_kinds f_bounds2 f_bounds3 f_bounds4 f_bounds5 f_table2 f_table3 f_table4 f_table5 f_weight2 f_weight3 f_weight4 f_weight5 f_pace2 f_pace3 f_pace4 f_pace5 c_sumZ c_sumE c_stepY f_g) fun (u33 : (Int32) × (Int32) × (Int32) × (Int32) × (Nat → Int32)) => pq_nm (u33.1) fun (r27 : Int32) => pq_nm (u33.2.1) fun (c28 : Int32) => pq_nm (u33.2.2.1) fun (c29 : Int32) => pq_nm (u33.2.2.2.1) fun (c30 : Int32) => pq_nm (u33.2.2.2.2) fun (f31 : Nat → Int32) => fX7_pack_b154 (fX7_pack_b101  f_kinds f_bounds2 f_bounds3 f_bounds4 f_bounds5 f_table2 f_table3 f_table4 f_table5 f_weight2 f_weight3 f_weight4 f_weight5 f_pace2 f_pace3 f_pace4 f_pace5 f_coefficients f_steps f_roots f_ups f_highs f_lowWeights f_highWeights f_tape fuel) f_kinds f_bounds2 f_bounds3 f_bounds4 f_bounds5 f_table2 f_table3 f_table4 f_table5 f_weight2 f_weight3 f_weight4 f_weight5 f_pace2 f_pace3 f_pace4 f_pace5 f_coefficients f_steps f_roots f_ups f_highs f_lowWeights f_highWeights f_tape x1 x2 x3 x4 x5 x6 r27 c_told c28 c29 c30 c_odd c_even c_taped c_outs f31 f_bands f_sieve f_out))
def fX7_pack_b75 (f_kinds : Nat → Int32) (f_bounds2 : Nat → Int32) (f_bounds3 : Nat → Int32) (f_bounds4 : Nat → Int32) (f_bounds5 : Nat → Int32) (f_table2 : Nat → Int32) (f_table3 : Nat → Int32) (f_table4 : Nat → Int32) (f_table5 : Nat → Int32) (f_weight2 : Nat → Int32) (f_weight3 : Nat → Int32) (f_weight4 : Nat → Int32) (f_weight5 : Nat → Int32) (f_pace2 : Nat → Int32) (f_pace3 : Nat → Int32) (f_pace4 : Nat → Int32) (f_pace5 : Nat → Int32) (f_coefficients : Nat → Int32) (f_steps : Nat → Int32) (f_roots : Nat → Int32) (f_ups : Nat → Int32) (f_highs : Nat → Int32) (f_lowWeights : Nat → Int32) (f_highWeights : Nat → Int32) (f_tape : Nat → Int32) (fuel : Nat) (x1 : Int32) (x2 : Int32) (x3 : Int32) (x4 : Int32) (x5 : Int32) (x6 : Int32) (c_told : Int32) (c_sumZ : Int32) (c_sumE : Int32) (c_stepY : Int32) (c_odd : Int32) (c_even : Int32) (c_taped : Int32) (c_outs : Int32) (f_g : Nat → Int32) (f_bands : Nat → Int32) (f_sieve : Nat → Int32) (f_out : Nat → Int32) : Option (Int32 × Int32 × Int32 × Int32 × Int32 × Int32 × Int32 × Int32 × Int32 × (Nat → Int32) × (Nat → Int32) × (Nat → Int32) × (Nat → Int32)) := match fuel with
  | 0 => none
  | fuel + 1 => pq_br (c_outs ≤ x6) (fX7_pack_b101  f_kinds f_bounds2 f_bounds3 f_bounds4 f_bounds5 f_table2 f_table3 f_table4 f_table5 f_weight2 f_weight3 f_weight4 f_weight5 f_pace2 f_pace3 f_pace4 f_pace5 f_coefficients f_steps f_roots f_ups f_highs f_lowWeights f_highWeights f_tape 1100 x1 x2 x3 x4 x5 (0 : Int32) c_told c_sumZ c_sumE c_stepY c_odd c_even c_taped c_outs f_g f_bands f_sieve f_out) (pq_wr 2000 f_out (x6) ((0 : Int32)) fun (f19 : Nat → Int32) => pq_nm (x6 + (1 : Int32)) fun (v21 : Int32) => fX7_pack_b75  f_kinds f_bounds2 f_bounds3 f_bounds4 f_bounds5 f_table2 f_table3 f_table4 f_table5 f_weight2 f_weight3 f_weight4 f_weight5 f_pace2 f_pace3 f_pace4 f_pace5 f_coefficients f_steps f_roots f_ups f_highs f_lowWeights f_highWeights f_tape fuel x1 x2 x3 x4 x5 v21 c_told c_sumZ c_sumE c_stepY c_odd c_even c_taped c_outs f_g f_bands f_sieve f19)
def fX7_pack_b29 (f_kinds : Nat → Int32) (f_bounds2 : Nat → Int32) (f_bounds3 : Nat → Int32) (f_bounds4 : Nat → Int32) (f_bounds5 : Nat → Int32) (f_table2 : Nat → Int32) (f_table3 : Nat → Int32) (f_table4 : Nat → Int32) (f_table5 : Nat → Int32) (f_weight2 : Nat → Int32) (f_weight3 : Nat → Int32) (f_weight4 : Nat → Int32) (f_weight5 : Nat → Int32) (f_pace2 : Nat → Int32) (f_pace3 : Nat → Int32) (f_pace4 : Nat → Int32) (f_pace5 : Nat → Int32) (f_coefficients : Nat → Int32) (f_steps : Nat → Int32) (f_roots : Nat → Int32) (f_ups : Nat → Int32) (f_highs : Nat → Int32) (f_lowWeights : Nat → Int32) (f_highWeights : Nat → Int32) (f_tape : Nat → Int32) (x1 : Int32) (x2 : Int32) (s0 : Int32) (c_told : Int32) (c_sumZ : Int32) (c_sumE : Int32) (c_stepY : Int32) (c_odd : Int32) (c_even : Int32) (c_taped : Int32) (c_outs : Int32) (f_g : Nat → Int32) (f_bands : Nat → Int32) (f_sieve : Nat → Int32) (f_out : Nat → Int32) : Option (Int32 × Int32 × Int32 × Int32 × Int32 × Int32 × Int32 × Int32 × Int32 × (Nat → Int32) × (Nat → Int32) × (Nat → Int32) × (Nat → Int32)) := pq_nz s0 <| pq_br ((c_taped - c_taped / s0 * s0) = (0 : Int32)) (pq_nz s0 <| pq_nm (c_taped / s0) fun (v10 : Int32) => pq_cl (fX7_bitsOf x1 f_kinds) fun (r12 : Int32) => pq_nz (8 : Int32) <| pq_nm (((v10 * r12) + (7 : Int32)) / (8 : Int32)) fun (v15 : Int32) => fX7_pack_b75  f_kinds f_bounds2 f_bounds3 f_bounds4 f_bounds5 f_table2 f_table3 f_table4 f_table5 f_weight2 f_weight3 f_weight4 f_weight5 f_pace2 f_pace3 f_pace4 f_pace5 f_coefficients f_steps f_roots f_ups f_highs f_lowWeights f_highWeights f_tape 1100 x1 x2 s0 v10 r12 (0 : Int32) c_told c_sumZ c_sumE c_stepY c_odd c_even c_taped v15 f_g f_bands f_sieve f_out) (some ((-100000 : Int32), c_told, c_sumZ, c_sumE, c_stepY, c_odd, c_even, c_taped, c_outs, f_g, f_bands, f_sieve, f_out))
abbrev wX7_pack (cI : ClassId) (th : Nat) (ad : Nat → Nat) (c_told : Int32) (c_sumZ : Int32) (c_sumE : Int32) (c_stepY : Int32) (c_odd : Int32) (c_even : Int32) (c_taped : Int32) (c_outs : Int32) (c_isFound : Int32) (f_kinds : Nat → Int32) (f_g : Nat → Int32) (f_bounds2 : Nat → Int32) (f_bounds3 : Nat → Int32) (f_bounds4 : Nat → Int32) (f_bounds5 : Nat → Int32) (f_table2 : Nat → Int32) (f_table3 : Nat → Int32) (f_table4 : Nat → Int32) (f_table5 : Nat → Int32) (f_weight2 : Nat → Int32) (f_weight3 : Nat → Int32) (f_weight4 : Nat → Int32) (f_weight5 : Nat → Int32) (f_pace2 : Nat → Int32) (f_pace3 : Nat → Int32) (f_pace4 : Nat → Int32) (f_pace5 : Nat → Int32) (f_bands : Nat → Int32) (f_sieve : Nat → Int32) (f_coefficients : Nat → Int32) (f_steps : Nat → Int32) (f_roots : Nat → Int32) (f_ups : Nat → Int32) (f_highs : Nat → Int32) (f_lowWeights : Nat → Int32) (f_highWeights : Nat → Int32) (f_tape : Nat → Int32) (f_out : Nat → Int32) : va_W := [(th, .inr (6, pq_oM ad c_told c_sumZ c_sumE c_stepY c_odd c_even c_taped c_outs c_isFound)), ((ad 1), .inl (cI, 4, .inl f_kinds)), ((ad 3), .inl (cI, 192, .inl f_g)), ((ad 4), .inl (cI, 1, .inl f_bounds2)), ((ad 5), .inl (cI, 3, .inl f_bounds3)), ((ad 6), .inl (cI, 7, .inl f_bounds4)), ((ad 7), .inl (cI, 15, .inl f_bounds5)), ((ad 8), .inl (cI, 2, .inl f_table2)), ((ad 9), .inl (cI, 4, .inl f_table3)), ((ad 10), .inl (cI, 8, .inl f_table4)), ((ad 11), .inl (cI, 16, .inl f_table5)), ((ad 12), .inl (cI, 2, .inl f_weight2)), ((ad 13), .inl (cI, 4, .inl f_weight3)), ((ad 14), .inl (cI, 8, .inl f_weight4)), ((ad 15), .inl (cI, 16, .inl f_weight5)), ((ad 16), .inl (cI, 2, .inl f_pace2)), ((ad 17), .inl (cI, 4, .inl f_pace3)), ((ad 18), .inl (cI, 8, .inl f_pace4)), ((ad 19), .inl (cI, 16, .inl f_pace5)), ((ad 23), .inl (cI, 368, .inl f_bands)), ((ad 24), .inl (cI, 192, .inl f_sieve)), ((ad 25), .inl (cI, 12, .inl f_coefficients)), ((ad 26), .inl (cI, 29, .inl f_steps)), ((ad 27), .inl (cI, 32, .inl f_roots)), ((ad 28), .inl (cI, 16, .inl f_ups)), ((ad 29), .inl (cI, 4, .inl f_highs)), ((ad 30), .inl (cI, 16, .inl f_lowWeights)), ((ad 31), .inl (cI, 4, .inl f_highWeights)), ((ad 36), .inl (cI, 1000, .inl f_tape)), ((ad 38), .inl (cI, 2000, .inl f_out))]
def fX7_pack (a1 : Int32) (a2 : Int32) (f_kinds : Nat → Int32) (f_bounds2 : Nat → Int32) (f_bounds3 : Nat → Int32) (f_bounds4 : Nat → Int32) (f_bounds5 : Nat → Int32) (f_table2 : Nat → Int32) (f_table3 : Nat → Int32) (f_table4 : Nat → Int32) (f_table5 : Nat → Int32) (f_weight2 : Nat → Int32) (f_weight3 : Nat → Int32) (f_weight4 : Nat → Int32) (f_weight5 : Nat → Int32) (f_pace2 : Nat → Int32) (f_pace3 : Nat → Int32) (f_pace4 : Nat → Int32) (f_pace5 : Nat → Int32) (f_coefficients : Nat → Int32) (f_steps : Nat → Int32) (f_roots : Nat → Int32) (f_ups : Nat → Int32) (f_highs : Nat → Int32) (f_lowWeights : Nat → Int32) (f_highWeights : Nat → Int32) (f_tape : Nat → Int32) (c_told : Int32) (c_sumZ : Int32) (c_sumE : Int32) (c_stepY : Int32) (c_odd : Int32) (c_even : Int32) (c_taped : Int32) (c_outs : Int32) (f_g : Nat → Int32) (f_bands : Nat → Int32) (f_sieve : Nat → Int32) (f_out : Nat → Int32) : Option (Int32 × Int32 × Int32 × Int32 × Int32 × Int32 × Int32 × Int32 × Int32 × (Nat → Int32) × (Nat → Int32) × (Nat → Int32) × (Nat → Int32)) := pq_cl (fX7_isOpen a1 f_kinds) fun (r1 : Int32) => pq_br (r1 = (0 : Int32)) (some ((-100000 : Int32), (0 : Int32), c_sumZ, c_sumE, c_stepY, c_odd, c_even, c_taped, c_outs, f_g, f_bands, f_sieve, f_out)) (pq_cl (fX7_isPaired a1 f_kinds) fun (r4 : Int32) => pq_br (r4 = (0 : Int32)) (fX7_pack_b29  f_kinds f_bounds2 f_bounds3 f_bounds4 f_bounds5 f_table2 f_table3 f_table4 f_table5 f_weight2 f_weight3 f_weight4 f_weight5 f_pace2 f_pace3 f_pace4 f_pace5 f_coefficients f_steps f_roots f_ups f_highs f_lowWeights f_highWeights f_tape a1 a2 (2 : Int32) (0 : Int32) c_sumZ c_sumE c_stepY c_odd c_even c_taped c_outs f_g f_bands f_sieve f_out) (fX7_pack_b29  f_kinds f_bounds2 f_bounds3 f_bounds4 f_bounds5 f_table2 f_table3 f_table4 f_table5 f_weight2 f_weight3 f_weight4 f_weight5 f_pace2 f_pace3 f_pace4 f_pace5 f_coefficients f_steps f_roots f_ups f_highs f_lowWeights f_highWeights f_tape a1 a2 (4 : Int32) (0 : Int32) c_sumZ c_sumE c_stepY c_odd c_even c_taped c_outs f_g f_bands f_sieve f_out))

abbrev wX7_sample (cI : ClassId) (th : Nat) (ad : Nat → Nat) (c_told : Int32) (c_sumZ : Int32) (c_sumE : Int32) (c_stepY : Int32) (c_odd : Int32) (c_even : Int32) (c_taped : Int32) (c_outs : Int32) (c_isFound : Int32) (f_out : Nat → Int32) : va_W := [(th, .inr (6, pq_oM ad c_told c_sumZ c_sumE c_stepY c_odd c_even c_taped c_outs c_isFound)), ((ad 38), .inl (cI, 2000, .inl f_out))]
def fX7_sample (a1 : Int32) (c_outs : Int32) (f_out : Nat → Int32) : Option (Int32 × (Nat → Int32)) := pq_wr 2000 f_out (c_outs) ((a1 >>> ((8 : Int32) &&& 31)) &&& (255 : Int32)) fun (f2 : Nat → Int32) => pq_wr 2000 f2 (c_outs + (1 : Int32)) (a1 &&& (255 : Int32)) fun (f5 : Nat → Int32) => pq_nm (c_outs + (2 : Int32)) fun (v7 : Int32) => some (v7, f5)

def fX7_unpack_b148 (k62 : (Int32) → (Int32) → (Int32) → (Int32) → (Int32) → (Int32) → (Int32) → (Int32) → (Int32) → (Int32) → (Int32) → (Int32) → (Int32) → (Nat → Int32) → (Nat → Int32) → (Nat → Int32) → (Nat → Int32) → (Nat → Int32) → Option (Int32 × Int32 × Int32 × Int32 × Int32 × Int32 × Int32 × Int32 × Int32 × (Nat → Int32) × (Nat → Int32) × (Nat → Int32) × (Nat → Int32) × (Nat → Int32))) (k74 : (Int32) → (Int32) → (Int32) → (Int32) → (Int32) → (Int32) → (Int32) → (Int32) → (Int32) → (Int32) → (Int32) → (Int32) → (Int32) → (Int32) → (Int32) → (Nat → Int32) → (Nat → Int32) → (Nat → Int32) → (Nat → Int32) → (Nat → Int32) → Option (Int32 × Int32 × Int32 × Int32 × Int32 × Int32 × Int32 × Int32 × Int32 × (Nat → Int32) × (Nat → Int32) × (Nat → Int32) × (Nat → Int32) × (Nat → Int32))) (f_kinds : Nat → Int32) (f_table2 : Nat → Int32) (f_table3 : Nat → Int32) (f_table4 : Nat → Int32) (f_table5 : Nat → Int32) (f_weight2 : Nat → Int32) (f_weight3 : Nat → Int32) (f_weight4 : Nat → Int32) (f_weight5 : Nat → Int32) (f_pace2 : Nat → Int32) (f_pace3 : Nat → Int32) (f_pace4 : Nat → Int32) (f_pace5 : Nat → Int32) (f_coefficients : Nat → Int32) (f_roots : Nat → Int32) (f_ups : Nat → Int32) (f_highs : Nat → Int32) (f_lowWeights : Nat → Int32) (f_highWeights : Nat → Int32) (f_heard56 : Nat → Int32) (f_heard64 : Nat → Int32) (f_tape : Nat → Int32) (x1 : Int32) (x2 : Int32) (x3 : Int32) (x4 : Int32) (x5 : Int32) (x7 : Int32) (s0 : Int32) (c_told : Int32) (c_sumZ : Int32) (c_sumE : Int32) (c_stepY : Int32) (c_odd : Int32) (c_even : Int32) (c_taped : Int32) (c_outs : Int32) (f_seconds : Nat → Int32) (f_g : Nat → Int32) (f_bands : Nat → Int32) (f_sieve : Nat → Int32) (f_out : Nat → Int32) : Option (Int32 × Int32 × Int32 × Int32 × Int32 × Int32 × Int32 × Int32 × Int32 × (Nat → Int32) × (Nat → Int32) × (Nat → Int32) × (Nat → Int32) × (Nat → Int32)) := pq_nm (x7 + (1 : Int32)) fun (v52 : Int32) => k74 x1 x2 x3 x4 x5 s0 v52 c_told c_sumZ c_sumE c_stepY c_odd c_even c_taped c_outs f_seconds f_g f_bands f_sieve f_out
def fX7_unpack_b121 (k62 : (Int32) → (Int32) → (Int32) → (Int32) → (Int32) → (Int32) → (Int32) → (Int32) → (Int32) → (Int32) → (Int32) → (Int32) → (Int32) → (Nat → Int32) → (Nat → Int32) → (Nat → Int32) → (Nat → Int32) → (Nat → Int32) → Option (Int32 × Int32 × Int32 × Int32 × Int32 × Int32 × Int32 × Int32 × Int32 × (Nat → Int32) × (Nat → Int32) × (Nat → Int32) × (Nat → Int32) × (Nat → Int32))) (k74 : (Int32) → (Int32) → (Int32) → (Int32) → (Int32) → (Int32) → (Int32) → (Int32) → (Int32) → (Int32) → (Int32) → (Int32) → (Int32) → (Int32) → (Int32) → (Nat → Int32) → (Nat → Int32) → (Nat → Int32) → (Nat → Int32) → (Nat → Int32) → Option (Int32 × Int32 × Int32 × Int32 × Int32 × Int32 × Int32 × Int32 × Int32 × (Nat → Int32) × (Nat → Int32) × (Nat → Int32) × (Nat → Int32) × (Nat → Int32))) (f_kinds : Nat → Int32) (f_table2 : Nat → Int32) (f_table3 : Nat → Int32) (f_table4 : Nat → Int32) (f_table5 : Nat → Int32) (f_weight2 : Nat → Int32) (f_weight3 : Nat → Int32) (f_weight4 : Nat → Int32) (f_weight5 : Nat → Int32) (f_pace2 : Nat → Int32) (f_pace3 : Nat → Int32) (f_pace4 : Nat → Int32) (f_pace5 : Nat → Int32) (f_coefficients : Nat → Int32) (f_roots : Nat → Int32) (f_ups : Nat → Int32) (f_highs : Nat → Int32) (f_lowWeights : Nat → Int32) (f_highWeights : Nat → Int32) (f_heard56 : Nat → Int32) (f_heard64 : Nat → Int32) (f_tape : Nat → Int32) (x1 : Int32) (x2 : Int32) (x3 : Int32) (x4 : Int32) (x5 : Int32) (x6 : Int32) (x7 : Int32) (s0 : Int32) (s1 : Int32) (c_told : Int32) (c_sumZ : Int32) (c_sumE : Int32) (c_stepY : Int32) (c_odd : Int32) (c_even : Int32) (c_taped : Int32) (c_outs : Int32) (f_seconds : Nat → Int32) (f_g : Nat → Int32) (f_bands : Nat → Int32) (f_sieve : Nat → Int32) (f_out : Nat → Int32) : Option (Int32 × Int32 × Int32 × Int32 × Int32 × Int32 × Int32 × Int32 × Int32 × (Nat → Int32) × (Nat → Int32) × (Nat → Int32) × (Nat → Int32) × (Nat → Int32)) := pq_nm ((s0 >>> (s1 &&& 31)) &&& (1 : Int32)) fun (v49 : Int32) => pq_br (x2 = (0 : Int32)) (fX7_unpack_b148 k62 k74 f_kinds f_table2 f_table3 f_table4 f_table5 f_weight2 f_weight3 f_weight4 f_weight5 f_pace2 f_pace3 f_pace4 f_pace5 f_coefficients f_roots f_ups f_highs f_lowWeights f_highWeights f_heard56 f_heard64 f_tape x1 x2 x3 x4 x5 x7 (x6 ||| (v49 <<< (x7 &&& 31))) c_told c_sumZ c_sumE c_stepY c_odd c_even c_taped c_outs f_seconds f_g f_bands f_sieve f_out) (fX7_unpack_b148 k62 k74 f_kinds f_table2 f_table3 f_table4 f_table5 f_weight2 f_weight3 f_weight4 f_weight5 f_pace2 f_pace3 f_pace4 f_pace5 f_coefficients f_roots f_ups f_highs f_lowWeights f_highWeights f_heard56 f_heard64 f_tape x1 x2 x3 x4 x5 x7 (((2 : Int32) * x6) + v49) c_told c_sumZ c_sumE c_stepY c_odd c_even c_taped c_outs f_seconds f_g f_bands f_sieve f_out)
def fX7_unpack_b185 (k62 : (Int32) → (Int32) → (Int32) → (Int32) → (Int32) → (Int32) → (Int32) → (Int32) → (Int32) → (Int32) → (Int32) → (Int32) → (Int32) → (Nat → Int32) → (Nat → Int32) → (Nat → Int32) → (Nat → Int32) → (Nat → Int32) → Option (Int32 × Int32 × Int32 × Int32 × Int32 × Int32 × Int32 × Int32 × Int32 × (Nat → Int32) × (Nat → Int32) × (Nat → Int32) × (Nat → Int32) × (Nat → Int32))) (f_kinds : Nat → Int32) (f_table2 : Nat → Int32) (f_table3 : Nat → Int32) (f_table4 : Nat → Int32) (f_table5 : Nat → Int32) (f_weight2 : Nat → Int32) (f_weight3 : Nat → Int32) (f_weight4 : Nat → Int32) (f_weight5 : Nat → Int32) (f_pace2 : Nat → Int32) (f_pace3 : Nat → Int32) (f_pace4 : Nat → Int32) (f_pace5 : Nat → Int32) (f_coefficients : Nat → Int32) (f_roots : Nat → Int32) (f_ups : Nat → Int32) (f_highs : Nat → Int32) (f_lowWeights : Nat → Int32) (f_highWeights : Nat → Int32) (f_heard56 : Nat → Int32) (f_heard64 : Nat → Int32) (f_tape : Nat → Int32) (x1 : Int32) (x2 : Int32) (x3 : Int32) (x4 : Int32) (x5 : Int32) (c_told : Int32) (c_sumZ : Int32) (c_sumE : Int32) (c_stepY : Int32) (c_odd : Int32) (c_even : Int32) (c_taped : Int32) (c_outs : Int32) (f_seconds : Nat → Int32) (f_g : Nat → Int32) (f_bands : Nat → Int32) (f_sieve : Nat → Int32) (f_out : Nat → Int32) : Option (Int32 × Int32 × Int32 × Int32 × Int32 × Int32 × Int32 × Int32 × Int32 × (Nat → Int32) × (Nat → Int32) × (Nat → Int32) × (Nat → Int32) × (Nat → Int32)) := pq_nm (x5 + (1 : Int32)) fun (v54 : Int32) => k62 x1 x2 x3 x4 v54 c_told c_sumZ c_sumE c_stepY c_odd c_even c_taped c_outs f_seconds f_g f_bands f_sieve f_out
def fX7_unpack_b74 (k62 : (Int32) → (Int32) → (Int32) → (Int32) → (Int32) → (Int32) → (Int32) → (Int32) → (Int32) → (Int32) → (Int32) → (Int32) → (Int32) → (Nat → Int32) → (Nat → Int32) → (Nat → Int32) → (Nat → Int32) → (Nat → Int32) → Option (Int32 × Int32 × Int32 × Int32 × Int32 × Int32 × Int32 × Int32 × Int32 × (Nat → Int32) × (Nat → Int32) × (Nat → Int32) × (Nat → Int32) × (Nat → Int32))) (f_kinds : Nat → Int32) (f_table2 : Nat → Int32) (f_table3 : Nat → Int32) (f_table4 : Nat → Int32) (f_table5 : Nat → Int32) (f_weight2 : Nat → Int32) (f_weight3 : Nat → Int32) (f_weight4 : Nat → Int32) (f_weight5 : Nat → Int32) (f_pace2 : Nat → Int32) (f_pace3 : Nat → Int32) (f_pace4 : Nat → Int32) (f_pace5 : Nat → Int32) (f_coefficients : Nat → Int32) (f_roots : Nat → Int32) (f_ups : Nat → Int32) (f_highs : Nat → Int32) (f_lowWeights : Nat → Int32) (f_highWeights : Nat → Int32) (f_heard56 : Nat → Int32) (f_heard64 : Nat → Int32) (f_tape : Nat → Int32) (fuel : Nat) (x1 : Int32) (x2 : Int32) (x3 : Int32) (x4 : Int32) (x5 : Int32) (x6 : Int32) (x7 : Int32) (c_told : Int32) (c_sumZ : Int32) (c_sumE : Int32) (c_stepY : Int32) (c_odd : Int32) (c_even : Int32) (c_taped : Int32) (c_outs : Int32) (f_seconds : Nat → Int32) (f_g : Nat → Int32) (f_bands : Nat → Int32) (f_sieve : Nat → Int32) (f_out : Nat → Int32) : Option (Int32 × Int32 × Int32 × Int32 × Int32 × Int32 × Int32 × Int32 × Int32 × (Nat → Int32) × (Nat → Int32) × (Nat → Int32) × (Nat → Int32) × (Nat → Int32)) := match fuel with
  | 0 => none
  | fuel + 1 => pq_br (x4 ≤ x7) (pq_cl (fX7_hears x1 x6 f_kinds f_table2 f_table3 f_table4 f_table5 f_weight2 f_weight3 f_weight4 f_weight5 f_pace2 f_pace3 f_pace4 f_pace5 f_coefficients f_roots f_ups f_highs f_lowWeights f_highWeights f_heard56 f_heard64 c_sumZ c_sumE c_stepY c_odd c_even f_seconds f_g f_bands f_sieve) fun (u25 : (Int32) × (Int32) × (Int32) × (Int32) × (Int32) × (Int32) × (Nat → Int32) × (Nat → Int32) × (Nat → Int32) × (Nat → Int32)) => pq_nm (u25.1) fun (r14 : Int32) => pq_nm (u25.2.1) fun (c15 : Int32) => pq_nm (u25.2.2.1) fun (c16 : Int32) => pq_nm (u25.2.2.2.1) fun (c17 : Int32) => pq_nm (u25.2.2.2.2.1) fun (c18 : Int32) => pq_nm (u25.2.2.2.2.2.1) fun (c19 : Int32) => pq_nm (u25.2.2.2.2.2.2.1) fun (f20 : Nat → Int32) => pq_nm (u25.2.2.2.2.2.2.2.1) fun (f21 : Nat → Int32) => pq_nm (u25.2.2.2.2.2.2.2.2.1) fun (f22 : Nat → Int32) => pq_nm (u25.2.2.2.2.2.2.2.2.2) fun (f23 : Nat → Int32) => pq_cl (fX7_sample r14 c_outs f_out) fun (u29 : (Int32) × (Nat → Int32)) => pq_nm (u29.1) fun (c26 : Int32) => pq_nm (u29.2) fun (f27 : Nat → Int32) => pq_cl (fX7_isPaired x1 f_kinds) fun (r30 : Int32) => pq_br (r30 = (0 : Int32)) (fX7_unpack_b185 k62 f_kinds f_table2 f_table3 f_table4 f_table5 f_weight2 f_weight3 f_weight4 f_weight5 f_pace2 f_pace3 f_pace4 f_pace5 f_coefficients f_roots f_ups f_highs f_lowWeights f_highWeights f_heard56 f_heard64 f_tape x1 x2 x3 x4 x5 c_told c15 c16 c17 c18 c19 c_taped c26 f20 f21 f22 f23 f27) (pq_rd 4 f20 (x1) fun (v34 : Int32) => pq_cl (fX7_sample v34 c26 f27) fun (u39 : (Int32) × (Nat → Int32)) => pq_nm (u39.1) fun (c36 : Int32) => pq_nm (u39.2) fun (f37 : Nat → Int32) => fX7_unpack_b185 k62 f_kinds f_table2 f_table3 f_table4 f_table5 f_weight2 f_weight3 f_weight4 f_weight5 f_pace2 f_pace3 f_pace4 f_pace5 f_coefficients f_roots f_ups f_highs f_lowWeights f_highWeights f_heard56 f_heard64 f_tape x1 x2 x3 x4 x5 c_told c15 c16 c17 c18 c19 c_taped c36 f20 f21 f22 f23 f37)) (pq_nm ((x4 * x5) + x7) fun (v40 : Int32) => pq_nz (8 : Int32) <| pq_rd 1000 f_tape (v40 / (8 : Int32)) fun (v44 : Int32) => pq_br (x2 = (0 : Int32)) (pq_nz (8 : Int32) <| fX7_unpack_b121 k62 (fX7_unpack_b74 k62 f_kinds f_table2 f_table3 f_table4 f_table5 f_weight2 f_weight3 f_weight4 f_weight5 f_pace2 f_pace3 f_pace4 f_pace5 f_coefficients f_roots f_ups f_highs f_lowWeights f_highWeights f_heard56 f_heard64 f_tape fuel) f_kinds f_table2 f_table3 f_table4 f_table5 f_weight2 f_weight3 f_weight4 f_weight5 f_pace2 f_pace3 f_pace4 f_pace5 f_coefficients f_roots f_ups f_highs f_lowWeights f_highWeights f_heard56 f_heard64 f_tape x1 x2 x3 x4 x5 x6 x7 v44 (v40 - v40 / (8 : Int32) * (8 : Int32)) c_told c_sumZ c_sumE c_stepY c_odd c_even c_taped c_outs f_seconds f_g f_bands f_sieve f_out) (pq_nz (8 : Int32) <| fX7_unpack_b121 k62 (fX7_unpack_b74 k62 f_kinds f_table2 f_table3 f_table4 f_table5 f_weight2 f_weight3 f_weight4 f_weight5 f_pace2 f_pace3 f_pace4 f_pace5 f_coefficients f_roots f_ups f_highs f_lowWeights f_highWeights f_heard56 f_heard64 f_tape fuel) f_kinds f_table2 f_table3 f_table4 f_table5 f_weight2 f_weight3 f_weight4 f_weight5 f_pace2 f_pace3 f_pace4 f_pace5 f_coefficients f_roots f_ups f_highs f_lowWeights f_highWeights f_heard56 f_heard64 f_tape x1 x2 x3 x4 x5 x6 x7 v44 ((7 : Int32) - (v40 - v40 / (8 : Int32) * (8 : Int32))) c_told c_sumZ c_sumE c_stepY c_odd c_even c_taped c_outs f_seconds f_g f_bands f_sieve f_out))
def fX7_unpack_b62 (f_kinds : Nat → Int32) (f_table2 : Nat → Int32) (f_table3 : Nat → Int32) (f_table4 : Nat → Int32) (f_table5 : Nat → Int32) (f_weight2 : Nat → Int32) (f_weight3 : Nat → Int32) (f_weight4 : Nat → Int32) (f_weight5 : Nat → Int32) (f_pace2 : Nat → Int32) (f_pace3 : Nat → Int32) (f_pace4 : Nat → Int32) (f_pace5 : Nat → Int32) (f_coefficients : Nat → Int32) (f_roots : Nat → Int32) (f_ups : Nat → Int32) (f_highs : Nat → Int32) (f_lowWeights : Nat → Int32) (f_highWeights : Nat → Int32) (f_heard56 : Nat → Int32) (f_heard64 : Nat → Int32) (f_tape : Nat → Int32) (fuel : Nat) (x1 : Int32) (x2 : Int32) (x3 : Int32) (x4 : Int32) (x5 : Int32) (c_told : Int32) (c_sumZ : Int32) (c_sumE : Int32) (c_stepY : Int32) (c_odd : Int32) (c_even : Int32) (c_taped : Int32) (c_outs : Int32) (f_seconds : Nat → Int32) (f_g : Nat → Int32) (f_bands : Nat → Int32) (f_sieve : Nat → Int32) (f_out : Nat → Int32) : Option (Int32 × Int32 × Int32 × Int32 × Int32 × Int32 × Int32 × Int32 × Int32 × (Nat → Int32) × (Nat → Int32) × (Nat → Int32) × (Nat → Int32) × (Nat → Int32)) := match fuel with
  | 0 => none
  | fuel + 1 => pq_br (x3 ≤ x5) (some (c_outs, c_told, c_sumZ, c_sumE, c_stepY, c_odd, c_even, (0 : Int32), c_outs, f_seconds, f_g, f_bands, f_sieve, f_out)) (fX7_unpack_b74 (fX7_unpack_b62  f_kinds f_table2 f_table3 f_table4 f_table5 f_weight2 f_weight3 f_weight4 f_weight5 f_pace2 f_pace3 f_pace4 f_pace5 f_coefficients f_roots f_ups f_highs f_lowWeights f_highWeights f_heard56 f_heard64 f_tape fuel) f_kinds f_table2 f_table3 f_table4 f_table5 f_weight2 f_weight3 f_weight4 f_weight5 f_pace2 f_pace3 f_pace4 f_pace5 f_coefficients f_roots f_ups f_highs f_lowWeights f_highWeights f_heard56 f_heard64 f_tape 1100 x1 x2 x3 x4 x5 (0 : Int32) (0 : Int32) c_told c_sumZ c_sumE c_stepY c_odd c_even c_taped c_outs f_seconds f_g f_bands f_sieve f_out)
abbrev wX7_unpack (cI : ClassId) (th : Nat) (ad : Nat → Nat) (c_told : Int32) (c_sumZ : Int32) (c_sumE : Int32) (c_stepY : Int32) (c_odd : Int32) (c_even : Int32) (c_taped : Int32) (c_outs : Int32) (c_isFound : Int32) (f_kinds : Nat → Int32) (f_seconds : Nat → Int32) (f_g : Nat → Int32) (f_table2 : Nat → Int32) (f_table3 : Nat → Int32) (f_table4 : Nat → Int32) (f_table5 : Nat → Int32) (f_weight2 : Nat → Int32) (f_weight3 : Nat → Int32) (f_weight4 : Nat → Int32) (f_weight5 : Nat → Int32) (f_pace2 : Nat → Int32) (f_pace3 : Nat → Int32) (f_pace4 : Nat → Int32) (f_pace5 : Nat → Int32) (f_bands : Nat → Int32) (f_sieve : Nat → Int32) (f_coefficients : Nat → Int32) (f_roots : Nat → Int32) (f_ups : Nat → Int32) (f_highs : Nat → Int32) (f_lowWeights : Nat → Int32) (f_highWeights : Nat → Int32) (f_heard56 : Nat → Int32) (f_heard64 : Nat → Int32) (f_tape : Nat → Int32) (f_out : Nat → Int32) : va_W := [(th, .inr (6, pq_oM ad c_told c_sumZ c_sumE c_stepY c_odd c_even c_taped c_outs c_isFound)), ((ad 1), .inl (cI, 4, .inl f_kinds)), ((ad 2), .inl (cI, 4, .inl f_seconds)), ((ad 3), .inl (cI, 192, .inl f_g)), ((ad 8), .inl (cI, 2, .inl f_table2)), ((ad 9), .inl (cI, 4, .inl f_table3)), ((ad 10), .inl (cI, 8, .inl f_table4)), ((ad 11), .inl (cI, 16, .inl f_table5)), ((ad 12), .inl (cI, 2, .inl f_weight2)), ((ad 13), .inl (cI, 4, .inl f_weight3)), ((ad 14), .inl (cI, 8, .inl f_weight4)), ((ad 15), .inl (cI, 16, .inl f_weight5)), ((ad 16), .inl (cI, 2, .inl f_pace2)), ((ad 17), .inl (cI, 4, .inl f_pace3)), ((ad 18), .inl (cI, 8, .inl f_pace4)), ((ad 19), .inl (cI, 16, .inl f_pace5)), ((ad 23), .inl (cI, 368, .inl f_bands)), ((ad 24), .inl (cI, 192, .inl f_sieve)), ((ad 25), .inl (cI, 12, .inl f_coefficients)), ((ad 27), .inl (cI, 32, .inl f_roots)), ((ad 28), .inl (cI, 16, .inl f_ups)), ((ad 29), .inl (cI, 4, .inl f_highs)), ((ad 30), .inl (cI, 16, .inl f_lowWeights)), ((ad 31), .inl (cI, 4, .inl f_highWeights)), ((ad 32), .inl (cI, 16, .inl f_heard56)), ((ad 33), .inl (cI, 32, .inl f_heard64)), ((ad 36), .inl (cI, 1000, .inl f_tape)), ((ad 38), .inl (cI, 2000, .inl f_out))]
def fX7_unpack (a1 : Int32) (a2 : Int32) (a3 : Int32) (f_kinds : Nat → Int32) (f_table2 : Nat → Int32) (f_table3 : Nat → Int32) (f_table4 : Nat → Int32) (f_table5 : Nat → Int32) (f_weight2 : Nat → Int32) (f_weight3 : Nat → Int32) (f_weight4 : Nat → Int32) (f_weight5 : Nat → Int32) (f_pace2 : Nat → Int32) (f_pace3 : Nat → Int32) (f_pace4 : Nat → Int32) (f_pace5 : Nat → Int32) (f_coefficients : Nat → Int32) (f_roots : Nat → Int32) (f_ups : Nat → Int32) (f_highs : Nat → Int32) (f_lowWeights : Nat → Int32) (f_highWeights : Nat → Int32) (f_heard56 : Nat → Int32) (f_heard64 : Nat → Int32) (f_tape : Nat → Int32) (c_told : Int32) (c_sumZ : Int32) (c_sumE : Int32) (c_stepY : Int32) (c_odd : Int32) (c_even : Int32) (c_taped : Int32) (c_outs : Int32) (f_seconds : Nat → Int32) (f_g : Nat → Int32) (f_bands : Nat → Int32) (f_sieve : Nat → Int32) (f_out : Nat → Int32) : Option (Int32 × Int32 × Int32 × Int32 × Int32 × Int32 × Int32 × Int32 × Int32 × (Nat → Int32) × (Nat → Int32) × (Nat → Int32) × (Nat → Int32) × (Nat → Int32)) := pq_cl (fX7_isOpen a1 f_kinds) fun (r1 : Int32) => pq_br (r1 = (0 : Int32)) (some ((-100000 : Int32), (0 : Int32), c_sumZ, c_sumE, c_stepY, c_odd, c_even, c_taped, c_outs, f_seconds, f_g, f_bands, f_sieve, f_out)) (pq_br (a3 < (0 : Int32)) (some ((-100000 : Int32), (0 : Int32), c_sumZ, c_sumE, c_stepY, c_odd, c_even, c_taped, c_outs, f_seconds, f_g, f_bands, f_sieve, f_out)) (pq_br ((250 : Int32) < a3) (some ((-100000 : Int32), (0 : Int32), c_sumZ, c_sumE, c_stepY, c_odd, c_even, c_taped, c_outs, f_seconds, f_g, f_bands, f_sieve, f_out)) (pq_cl (fX7_bitsOf a1 f_kinds) fun (r6 : Int32) => pq_nz (8 : Int32) <| pq_br (c_taped = (((a3 * r6) + (7 : Int32)) / (8 : Int32))) (pq_cl (fX7_bitsOf a1 f_kinds) fun (r10 : Int32) => fX7_unpack_b62  f_kinds f_table2 f_table3 f_table4 f_table5 f_weight2 f_weight3 f_weight4 f_weight5 f_pace2 f_pace3 f_pace4 f_pace5 f_coefficients f_roots f_ups f_highs f_lowWeights f_highWeights f_heard56 f_heard64 f_tape 1100 a1 a2 a3 r10 (0 : Int32) (0 : Int32) c_sumZ c_sumE c_stepY c_odd c_even c_taped (0 : Int32) f_seconds f_g f_bands f_sieve f_out) (some ((-100000 : Int32), (0 : Int32), c_sumZ, c_sumE, c_stepY, c_odd, c_even, c_taped, c_outs, f_seconds, f_g, f_bands, f_sieve, f_out)))))

abbrev wX7_pass (cI : ClassId) (th : Nat) (ad : Nat → Nat) (c_told : Int32) (c_sumZ : Int32) (c_sumE : Int32) (c_stepY : Int32) (c_odd : Int32) (c_even : Int32) (c_taped : Int32) (c_outs : Int32) (c_isFound : Int32) (f_kinds : Nat → Int32) (f_seconds : Nat → Int32) (f_g : Nat → Int32) (f_bounds2 : Nat → Int32) (f_bounds3 : Nat → Int32) (f_bounds4 : Nat → Int32) (f_bounds5 : Nat → Int32) (f_table2 : Nat → Int32) (f_table3 : Nat → Int32) (f_table4 : Nat → Int32) (f_table5 : Nat → Int32) (f_weight2 : Nat → Int32) (f_weight3 : Nat → Int32) (f_weight4 : Nat → Int32) (f_weight5 : Nat → Int32) (f_pace2 : Nat → Int32) (f_pace3 : Nat → Int32) (f_pace4 : Nat → Int32) (f_pace5 : Nat → Int32) (f_bands : Nat → Int32) (f_sieve : Nat → Int32) (f_coefficients : Nat → Int32) (f_steps : Nat → Int32) (f_roots : Nat → Int32) (f_ups : Nat → Int32) (f_highs : Nat → Int32) (f_lowWeights : Nat → Int32) (f_highWeights : Nat → Int32) (f_heard56 : Nat → Int32) (f_heard64 : Nat → Int32) : va_W := [(th, .inr (6, pq_oM ad c_told c_sumZ c_sumE c_stepY c_odd c_even c_taped c_outs c_isFound)), ((ad 1), .inl (cI, 4, .inl f_kinds)), ((ad 2), .inl (cI, 4, .inl f_seconds)), ((ad 3), .inl (cI, 192, .inl f_g)), ((ad 4), .inl (cI, 1, .inl f_bounds2)), ((ad 5), .inl (cI, 3, .inl f_bounds3)), ((ad 6), .inl (cI, 7, .inl f_bounds4)), ((ad 7), .inl (cI, 15, .inl f_bounds5)), ((ad 8), .inl (cI, 2, .inl f_table2)), ((ad 9), .inl (cI, 4, .inl f_table3)), ((ad 10), .inl (cI, 8, .inl f_table4)), ((ad 11), .inl (cI, 16, .inl f_table5)), ((ad 12), .inl (cI, 2, .inl f_weight2)), ((ad 13), .inl (cI, 4, .inl f_weight3)), ((ad 14), .inl (cI, 8, .inl f_weight4)), ((ad 15), .inl (cI, 16, .inl f_weight5)), ((ad 16), .inl (cI, 2, .inl f_pace2)), ((ad 17), .inl (cI, 4, .inl f_pace3)), ((ad 18), .inl (cI, 8, .inl f_pace4)), ((ad 19), .inl (cI, 16, .inl f_pace5)), ((ad 23), .inl (cI, 368, .inl f_bands)), ((ad 24), .inl (cI, 192, .inl f_sieve)), ((ad 25), .inl (cI, 12, .inl f_coefficients)), ((ad 26), .inl (cI, 29, .inl f_steps)), ((ad 27), .inl (cI, 32, .inl f_roots)), ((ad 28), .inl (cI, 16, .inl f_ups)), ((ad 29), .inl (cI, 4, .inl f_highs)), ((ad 30), .inl (cI, 16, .inl f_lowWeights)), ((ad 31), .inl (cI, 4, .inl f_highWeights)), ((ad 32), .inl (cI, 16, .inl f_heard56)), ((ad 33), .inl (cI, 32, .inl f_heard64))]
def fX7_pass (a1 : Int32) (a2 : Int32) (a3 : Int32) (f_kinds : Nat → Int32) (f_bounds2 : Nat → Int32) (f_bounds3 : Nat → Int32) (f_bounds4 : Nat → Int32) (f_bounds5 : Nat → Int32) (f_table2 : Nat → Int32) (f_table3 : Nat → Int32) (f_table4 : Nat → Int32) (f_table5 : Nat → Int32) (f_weight2 : Nat → Int32) (f_weight3 : Nat → Int32) (f_weight4 : Nat → Int32) (f_weight5 : Nat → Int32) (f_pace2 : Nat → Int32) (f_pace3 : Nat → Int32) (f_pace4 : Nat → Int32) (f_pace5 : Nat → Int32) (f_coefficients : Nat → Int32) (f_steps : Nat → Int32) (f_roots : Nat → Int32) (f_ups : Nat → Int32) (f_highs : Nat → Int32) (f_lowWeights : Nat → Int32) (f_highWeights : Nat → Int32) (f_heard56 : Nat → Int32) (f_heard64 : Nat → Int32) (c_told : Int32) (c_sumZ : Int32) (c_sumE : Int32) (c_stepY : Int32) (c_odd : Int32) (c_even : Int32) (f_seconds : Nat → Int32) (f_g : Nat → Int32) (f_bands : Nat → Int32) (f_sieve : Nat → Int32) : Option (Int32 × Int32 × Int32 × Int32 × Int32 × Int32 × Int32 × (Nat → Int32) × (Nat → Int32) × (Nat → Int32) × (Nat → Int32)) := pq_cl (fX7_isOpen a1 f_kinds) fun (r1 : Int32) => pq_br (r1 = (0 : Int32)) (some ((-100000 : Int32), (0 : Int32), c_sumZ, c_sumE, c_stepY, c_odd, c_even, f_seconds, f_g, f_bands, f_sieve)) (pq_cl (fX7_isCode a1 a3 f_kinds) fun (r4 : Int32) => pq_br (r4 = (0 : Int32)) (some ((-100000 : Int32), (0 : Int32), c_sumZ, c_sumE, c_stepY, c_odd, c_even, f_seconds, f_g, f_bands, f_sieve)) (pq_cl (fX7_isOpen a2 f_kinds) fun (r7 : Int32) => pq_br (r7 = (0 : Int32)) (some ((-100000 : Int32), (0 : Int32), c_sumZ, c_sumE, c_stepY, c_odd, c_even, f_seconds, f_g, f_bands, f_sieve)) (pq_cl (fX7_isPaired a1 f_kinds) fun (r10 : Int32) => pq_cl (fX7_isPaired a2 f_kinds) fun (r12 : Int32) => pq_br (r10 = r12) (pq_cl (fX7_hears a1 a3 f_kinds f_table2 f_table3 f_table4 f_table5 f_weight2 f_weight3 f_weight4 f_weight5 f_pace2 f_pace3 f_pace4 f_pace5 f_coefficients f_roots f_ups f_highs f_lowWeights f_highWeights f_heard56 f_heard64 c_sumZ c_sumE c_stepY c_odd c_even f_seconds f_g f_bands f_sieve) fun (u26 : (Int32) × (Int32) × (Int32) × (Int32) × (Int32) × (Int32) × (Nat → Int32) × (Nat → Int32) × (Nat → Int32) × (Nat → Int32)) => pq_nm (u26.1) fun (r15 : Int32) => pq_nm (u26.2.1) fun (c16 : Int32) => pq_nm (u26.2.2.1) fun (c17 : Int32) => pq_nm (u26.2.2.2.1) fun (c18 : Int32) => pq_nm (u26.2.2.2.2.1) fun (c19 : Int32) => pq_nm (u26.2.2.2.2.2.1) fun (c20 : Int32) => pq_nm (u26.2.2.2.2.2.2.1) fun (f21 : Nat → Int32) => pq_nm (u26.2.2.2.2.2.2.2.1) fun (f22 : Nat → Int32) => pq_nm (u26.2.2.2.2.2.2.2.2.1) fun (f23 : Nat → Int32) => pq_nm (u26.2.2.2.2.2.2.2.2.2) fun (f24 : Nat → Int32) => pq_cl (fX7_isPaired a1 f_kinds) fun (r27 : Int32) => pq_br (r27 = (0 : Int32)) (pq_cl (fX7_says a2 r15 f_kinds f_bounds2 f_bounds3 f_bounds4 f_bounds5 f_table2 f_table3 f_table4 f_table5 f_weight2 f_weight3 f_weight4 f_weight5 f_pace2 f_pace3 f_pace4 f_pace5 c16 c17 c18 f22) fun (u36 : (Int32) × (Int32) × (Int32) × (Int32) × (Nat → Int32)) => pq_nm (u36.1) fun (r30 : Int32) => pq_nm (u36.2.1) fun (c31 : Int32) => pq_nm (u36.2.2.1) fun (c32 : Int32) => pq_nm (u36.2.2.2.1) fun (c33 : Int32) => pq_nm (u36.2.2.2.2) fun (f34 : Nat → Int32) => some (r30, (0 : Int32), c31, c32, c33, c19, c20, f21, f34, f23, f24)) (pq_rd 4 f21 (a1) fun (v38 : Int32) => pq_cl (fX7_says722 ((2 : Int32) * a2) r15 v38 f_coefficients f_steps f_roots f_ups f_highs f_lowWeights f_highWeights c19 c20 f23 f24) fun (u46 : (Int32) × (Int32) × (Int32) × (Nat → Int32) × (Nat → Int32)) => pq_nm (u46.1) fun (r40 : Int32) => pq_nm (u46.2.1) fun (c41 : Int32) => pq_nm (u46.2.2.1) fun (c42 : Int32) => pq_nm (u46.2.2.2.1) fun (f43 : Nat → Int32) => pq_nm (u46.2.2.2.2) fun (f44 : Nat → Int32) => some (r40, (0 : Int32), c16, c17, c18, c41, c42, f21, f22, f43, f44))) (some ((-100000 : Int32), (0 : Int32), c_sumZ, c_sumE, c_stepY, c_odd, c_even, f_seconds, f_g, f_bands, f_sieve)))))

def fX7_finds_b114 (k48 : (Int32) → (Int32) → (Nat → Int32) → (Nat → Int32) → Option (Int32 × (Nat → Int32) × (Nat → Int32))) (x1 : Int32) (x2 : Int32) (c_isFound : Int32) (f_least : Nat → Int32) (f_greatest : Nat → Int32) : Option (Int32 × (Nat → Int32) × (Nat → Int32)) := pq_wr 512 f_greatest (x2) (x1) fun (f36 : Nat → Int32) => pq_nm (x1 + (1 : Int32)) fun (v38 : Int32) => k48 v38 c_isFound f_least f36
def fX7_finds_b79 (k48 : (Int32) → (Int32) → (Nat → Int32) → (Nat → Int32) → Option (Int32 × (Nat → Int32) × (Nat → Int32))) (x1 : Int32) (x2 : Int32) (c_isFound : Int32) (f_least : Nat → Int32) (f_greatest : Nat → Int32) : Option (Int32 × (Nat → Int32) × (Nat → Int32)) := pq_wr 512 f_greatest (x2) (x1) fun (f22 : Nat → Int32) => pq_cl (fX7_aSays x1) fun (r24 : Int32) => pq_nm ((256 : Int32) + r24) fun (v26 : Int32) => pq_rd 512 f_least (v26) fun (v29 : Int32) => pq_br (v29 = (-100000 : Int32)) (pq_wr 512 f_least (v26) (x1) fun (f33 : Nat → Int32) => fX7_finds_b114 k48  x1 v26 c_isFound f33 f22) (fX7_finds_b114 k48  x1 v26 c_isFound f_least f22)
def fX7_finds_b48 (fuel : Nat) (x1 : Int32) (c_isFound : Int32) (f_least : Nat → Int32) (f_greatest : Nat → Int32) : Option (Int32 × (Nat → Int32) × (Nat → Int32)) := match fuel with
  | 0 => none
  | fuel + 1 => pq_br ((32767 : Int32) < x1) (some (c_isFound, f_least, f_greatest)) (pq_cl (fX7_muSays x1) fun (r12 : Int32) => pq_rd 512 f_least (r12) fun (v15 : Int32) => pq_br (v15 = (-100000 : Int32)) (pq_wr 512 f_least (r12) (x1) fun (f19 : Nat → Int32) => fX7_finds_b79 (fX7_finds_b48   fuel)  x1 r12 c_isFound f19 f_greatest) (fX7_finds_b79 (fX7_finds_b48   fuel)  x1 r12 c_isFound f_least f_greatest))
def fX7_finds_b15 (fuel : Nat) (x1 : Int32) (c_isFound : Int32) (f_least : Nat → Int32) (f_greatest : Nat → Int32) : Option (Int32 × (Nat → Int32) × (Nat → Int32)) := match fuel with
  | 0 => none
  | fuel + 1 => pq_br ((512 : Int32) ≤ x1) (fX7_finds_b48   66000 (-32768 : Int32) c_isFound f_least f_greatest) (pq_wr 512 f_least (x1) ((-100000 : Int32)) fun (f4 : Nat → Int32) => pq_wr 512 f_greatest (x1) ((-100000 : Int32)) fun (f7 : Nat → Int32) => pq_nm (x1 + (1 : Int32)) fun (v9 : Int32) => fX7_finds_b15   fuel v9 c_isFound f4 f7)
abbrev wX7_finds (cI : ClassId) (th : Nat) (ad : Nat → Nat) (c_told : Int32) (c_sumZ : Int32) (c_sumE : Int32) (c_stepY : Int32) (c_odd : Int32) (c_even : Int32) (c_taped : Int32) (c_outs : Int32) (c_isFound : Int32) (f_least : Nat → Int32) (f_greatest : Nat → Int32) : va_W := [(th, .inr (6, pq_oM ad c_told c_sumZ c_sumE c_stepY c_odd c_even c_taped c_outs c_isFound)), ((ad 41), .inl (cI, 512, .inl f_least)), ((ad 42), .inl (cI, 512, .inl f_greatest))]
def fX7_finds (c_isFound : Int32) (f_least : Nat → Int32) (f_greatest : Nat → Int32) : Option (Int32 × (Nat → Int32) × (Nat → Int32)) := pq_br (c_isFound = (0 : Int32)) (fX7_finds_b15   1100 (0 : Int32) (1 : Int32) f_least f_greatest) (some (c_isFound, f_least, f_greatest))

abbrev wX7_law (cI : ClassId) (th : Nat) (ad : Nat → Nat) (c_told : Int32) (c_sumZ : Int32) (c_sumE : Int32) (c_stepY : Int32) (c_odd : Int32) (c_even : Int32) (c_taped : Int32) (c_outs : Int32) (c_isFound : Int32) (f_least : Nat → Int32) (f_greatest : Nat → Int32) : va_W := [(th, .inr (6, pq_oM ad c_told c_sumZ c_sumE c_stepY c_odd c_even c_taped c_outs c_isFound)), ((ad 41), .inl (cI, 512, .inl f_least)), ((ad 42), .inl (cI, 512, .inl f_greatest))]
def fX7_law (a1 : Int32) (a2 : Int32) (a3 : Int32) (c_told : Int32) (c_isFound : Int32) (f_least : Nat → Int32) (f_greatest : Nat → Int32) : Option (Int32 × Int32 × Int32 × (Nat → Int32) × (Nat → Int32)) := pq_br (a1 < (0 : Int32)) (some ((-100000 : Int32), (0 : Int32), c_isFound, f_least, f_greatest)) (pq_br ((1 : Int32) < a1) (some ((-100000 : Int32), (0 : Int32), c_isFound, f_least, f_greatest)) (pq_br (a2 < (0 : Int32)) (some ((-100000 : Int32), (0 : Int32), c_isFound, f_least, f_greatest)) (pq_br ((255 : Int32) < a2) (some ((-100000 : Int32), (0 : Int32), c_isFound, f_least, f_greatest)) (pq_br (a3 < (0 : Int32)) (some ((-100000 : Int32), (0 : Int32), c_isFound, f_least, f_greatest)) (pq_br (a3 ≤ (2 : Int32)) (pq_br (a3 = (2 : Int32)) (pq_br (a1 = (0 : Int32)) (pq_cl (fX7_muHears a2) fun (r25 : Int32) => pq_cl (fX7_muSays r25) fun (r27 : Int32) => some (r27, (0 : Int32), c_isFound, f_least, f_greatest)) (pq_cl (fX7_aHears a2) fun (r21 : Int32) => pq_cl (fX7_aSays r21) fun (r23 : Int32) => some (r23, (0 : Int32), c_isFound, f_least, f_greatest))) (pq_cl (fX7_finds c_isFound f_least f_greatest) fun (u12 : (Int32) × (Nat → Int32) × (Nat → Int32)) => pq_nm (u12.1) fun (c8 : Int32) => pq_nm (u12.2.1) fun (f9 : Nat → Int32) => pq_nm (u12.2.2) fun (f10 : Nat → Int32) => pq_br (a3 = (0 : Int32)) (pq_rd 512 f9 (((256 : Int32) * a1) + a2) fun (v18 : Int32) => some (v18, (0 : Int32), c8, f9, f10)) (pq_rd 512 f10 (((256 : Int32) * a1) + a2) fun (v15 : Int32) => some (v15, (0 : Int32), c8, f9, f10)))) (some ((-100000 : Int32), (0 : Int32), c_isFound, f_least, f_greatest)))))))
end
section
/-! two pure programs side by side: both come to an end, with P between their answers -/
def sm {α β : Type} (P : α → β → Prop) (x : Option α) (y : Option β) : Prop := ∃ a b, x = some a ∧ y = some b ∧ P a b
section SM
variable {α β γ δ : Type} {P : α → β → Prop} {x : Option α} {y : Option β}
theorem sm_ret {a : α} {b : β} (h : P a b) : sm P (some a) (some b) := ⟨a, b, rfl, rfl, h⟩
theorem sm_imp {Q : α → β → Prop} (h : sm P x y) (hPQ : ∀ a b, P a b → Q a b) : sm Q x y := by
  obtain ⟨a, b, h1, h2, h3⟩ := h
  exact ⟨a, b, h1, h2, hPQ a b h3⟩
theorem sm_eqL {x' : Option α} (h : x = x') (k : sm P x' y) : sm P x y := h ▸ k
theorem sm_eqR {y' : Option β} (h : y = y') (k : sm P x y') : sm P x y := h ▸ k
theorem sm_nmL {e : γ} {k : γ → Option α} (h : sm P (k e) y) : sm P (pq_nm e k) y := h
theorem sm_nmR {e : γ} {k : γ → Option β} (h : sm P x (k e)) : sm P x (pq_nm e k) := h
theorem sm_nm {e : γ} {k : γ → Option α} {k' : γ → Option β} (h : ∀ v, sm P (k v) (k' v)) : sm P (pq_nm e k) (pq_nm e k') := h e
theorem sm_nme {e e' : γ} {k : γ → Option α} {k' : γ → Option β} (he : e = e') (h : ∀ v, v = e → sm P (k v) (k' v)) : sm P (pq_nm e k) (pq_nm e' k') := by subst he; exact h e rfl
theorem sm_br {c : Prop} [Decidable c] {a b : Option α} {a' b' : Option β} (h1 : c → sm P a a') (h2 : ¬ c → sm P b b') : sm P (pq_br c a b) (pq_br c a' b') := by
  unfold pq_br
  by_cases h : c
  · rw [if_pos h, if_pos h]; exact h1 h
  · rw [if_neg h, if_neg h]; exact h2 h
theorem sm_bri {c c' : Prop} [Decidable c] [Decidable c'] {a b : Option α} {a' b' : Option β} (hc : c ↔ c') (h1 : c → sm P a a') (h2 : ¬ c → sm P b b') : sm P (pq_br c a b) (pq_br c' a' b') := by
  unfold pq_br
  by_cases h : c
  · rw [if_pos h, if_pos (hc.mp h)]; exact h1 h
  · rw [if_neg h, if_neg (fun q => h (hc.mpr q))]; exact h2 h
theorem sm_brn {c c' : Prop} [Decidable c] [Decidable c'] {a b : Option α} {a' b' : Option β} (hc : c ↔ ¬ c') (h1 : c → sm P a b') (h2 : ¬ c → sm P b a') : sm P (pq_br c a b) (pq_br c' a' b') := by
  unfold pq_br
  by_cases h : c
  · rw [if_pos h, if_neg (hc.mp h)]; exact h1 h
  · rw [if_neg h, if_pos (Decidable.byContradiction fun q => h (hc.mpr q))]; exact h2 h
theorem sm_brL {c : Prop} [Decidable c] {a b : Option α} (h1 : c → sm P a y) (h2 : ¬ c → sm P b y) : sm P (pq_br c a b) y := by
  unfold pq_br
  by_cases h : c
  · rw [if_pos h]; exact h1 h
  · rw [if_neg h]; exact h2 h
theorem sm_brR {c : Prop} [Decidable c] {a b : Option β} (h1 : c → sm P x a) (h2 : ¬ c → sm P x b) : sm P x (pq_br c a b) := by
  unfold pq_br
  by_cases h : c
  · rw [if_pos h]; exact h1 h
  · rw [if_neg h]; exact h2 h
theorem sm_cl {Q : γ → δ → Prop} {o : Option γ} {o' : Option δ} {k : γ → Option α} {k' : δ → Option β} (h : sm Q o o') (hk : ∀ a b, o = some a → o' = some b → Q a b → sm P (k a) (k' b)) : sm P (pq_cl o k) (pq_cl o' k') := by
  obtain ⟨a, b, h1, h2, h3⟩ := h
  subst h1; subst h2
  exact hk a b rfl rfl h3
theorem sm_cle {o o' : Option γ} {a : γ} {k : γ → Option α} {k' : γ → Option β} (h1 : o = some a) (h2 : o' = some a) (hk : sm P (k a) (k' a)) : sm P (pq_cl o k) (pq_cl o' k') := by
  subst h1; subst h2
  exact hk
theorem sm_clL {o : Option γ} {a : γ} {k : γ → Option α} (h : o = some a) (hk : sm P (k a) y) : sm P (pq_cl o k) y := by subst h; exact hk
theorem sm_clR {o : Option γ} {a : γ} {k : γ → Option β} (h : o = some a) (hk : sm P x (k a)) : sm P x (pq_cl o k) := by subst h; exact hk
theorem rd_in {n j : Nat} {f : Nat → Int32} {i : Int32} {k : Int32 → Option α} (hi : i = nI j) (hj : j < n) (hn : n ≤ 2000) : pq_rd n f i k = k (f j) := by
  subst hi
  unfold pq_rd
  rw [if_neg (nI_in hj (by omega)), nI_clamp (by omega)]
theorem wr_in {n j : Nat} {f : Nat → Int32} {i v : Int32} {k : (Nat → Int32) → Option α} (hi : i = nI j) (hj : j < n) (hn : n ≤ 2000) : pq_wr n f i v k = k (upd f j v) := by
  subst hi
  unfold pq_wr
  rw [if_neg (nI_in hj (by omega)), nI_clamp (by omega)]
theorem sm_rdL {n j : Nat} {f : Nat → Int32} {i : Int32} {k : Int32 → Option α} (hi : i = nI j) (hj : j < n) (hn : n ≤ 2000) (h : sm P (k (f j)) y) : sm P (pq_rd n f i k) y := by rw [rd_in hi hj hn]; exact h
theorem sm_rdR {n j : Nat} {f : Nat → Int32} {i : Int32} {k : Int32 → Option β} (hi : i = nI j) (hj : j < n) (hn : n ≤ 2000) (h : sm P x (k (f j))) : sm P x (pq_rd n f i k) := by rw [rd_in hi hj hn]; exact h
theorem sm_wrL {n j : Nat} {f : Nat → Int32} {i v : Int32} {k : (Nat → Int32) → Option α} (hi : i = nI j) (hj : j < n) (hn : n ≤ 2000) (h : sm P (k (upd f j v)) y) : sm P (pq_wr n f i v k) y := by rw [wr_in hi hj hn]; exact h
theorem sm_wrR {n j : Nat} {f : Nat → Int32} {i v : Int32} {k : (Nat → Int32) → Option β} (hi : i = nI j) (hj : j < n) (hn : n ≤ 2000) (h : sm P x (k (upd f j v))) : sm P x (pq_wr n f i v k) := by rw [wr_in hi hj hn]; exact h
end SM
/-- the row n of N numbers is the model's row g from b on; outside of it g is g0 -/
def vA (N b : Nat) (n g g0 : Nat → Int32) : Prop := (∀ j, j < N → g (b + j) = n j) ∧ ∀ q, (q < b ∨ b + N ≤ q) → g q = g0 q
theorem vA.up {N b : Nat} {n g g0 : Nat → Int32} (h : vA N b n g g0) {j : Nat} (hj : j < N) (v : Int32) : vA N b (upd n j v) (upd g (b + j) v) g0 := by
  refine ⟨fun i hi => ?_, fun q hq => ?_⟩
  · unfold upd
    by_cases e : i = j
    · subst e; simp
    · rw [if_neg e, if_neg (by omega)]; exact h.1 i hi
  · unfold upd
    rw [if_neg (by omega)]
    exact h.2 q hq
section SV
variable {α β : Type} {P : α → β → Prop}
/-- both read one place -/
theorem sv_rd {N G b j : Nat} {n g g0 : Nat → Int32} (hR : vA N b n g g0) {i i' : Int32} {k : Int32 → Option α} {k' : Int32 → Option β} (hi : i = nI j) (hi' : i' = nI (b + j)) (hj : j < N) (hN : N ≤ 2000) (hb : b + N ≤ G) (hG : G ≤ 2000) (h : ∀ v, v = n j → sm P (k v) (k' v)) : sm P (pq_rd N n i k) (pq_rd G g i' k') := by
  rw [rd_in hi hj hN, rd_in hi' (by omega) hG, hR.1 j hj]
  exact h _ rfl
/-- both write one place -/
theorem sv_wr {N G b j : Nat} {n g g0 : Nat → Int32} (hR : vA N b n g g0) {i i' v v' : Int32} {k : (Nat → Int32) → Option α} {k' : (Nat → Int32) → Option β} (hi : i = nI j) (hi' : i' = nI (b + j)) (hj : j < N) (hN : N ≤ 2000) (hb : b + N ≤ G) (hG : G ≤ 2000) (hv : v = v') (h : ∀ n1 g1, n1 = upd n j v → vA N b n1 g1 g0 → sm P (k n1) (k' g1)) : sm P (pq_wr N n i v k) (pq_wr G g i' v' k') := by
  subst hv
  rw [wr_in hi hj hN, wr_in hi' (by omega) hG]
  exact h _ _ rfl (hR.up hj v)
end SV
theorem ix_l (a k : Nat) : nI a + (OfNat.ofNat k : Int32) = nI (a + k) := nI_add a k
theorem ix_r (a k : Nat) : (OfNat.ofNat k : Int32) + nI a = nI (k + a) := nI_add k a
theorem ix_0 (k : Nat) : (OfNat.ofNat k : Int32) = nI k := rfl
end
section
/-! numbers: bounds by toInt; helpers' total forms -/
theorem nq_le (a b : Int32) : a ≤ b ↔ a.toInt ≤ b.toInt := Int32.le_iff_toInt_le
theorem nq_lt (a b : Int32) : a < b ↔ a.toInt < b.toInt := Int32.lt_iff_toInt_lt
theorem nq_eq (a b : Int32) : a = b ↔ a.toInt = b.toInt := Int32.toInt_inj.symm
def tLim (v : Int32) : Int32 := if (-32768 : Int32) ≤ v then (if v ≤ (32767 : Int32) then v else 32767) else -32768
def tCut (v a b : Int32) : Int32 := if a ≤ v then (if v ≤ b then v else b) else a
def tSgn (v : Int32) : Int32 := if (0 : Int32) ≤ v then 0 else 1
def tAbs (v : Int32) : Int32 := if (0 : Int32) ≤ v then v else -v
def tWrap (v : Int32) : Int32 := v.toInt16.toInt32
theorem eX6_limited (v : Int32) : fX6_limited v = some (tLim v) := by
  unfold fX6_limited pq_br tLim
  repeat' split
  all_goals rfl
theorem eX7_limited (v : Int32) : fX7_limited v = some (tLim v) := by
  unfold fX7_limited pq_br tLim
  repeat' split
  all_goals first | rfl | (exfalso; simp only [nq_le, nq_lt, Int32.reduceToInt] at *; omega)
theorem eX6_cut (v a b : Int32) : fX6_cut v a b = some (tCut v a b) := by
  unfold fX6_cut pq_br tCut
  repeat' split
  all_goals rfl
theorem eX7_cut (v a b : Int32) (h : a ≤ b) : fX7_cut v a b = some (tCut v a b) := by
  unfold fX7_cut pq_br tCut
  repeat' split
  all_goals first | rfl | (exfalso; simp only [nq_le, nq_lt] at *; omega)
theorem eX6_sign (v : Int32) : fX6_sign v = some (tSgn v) := by
  unfold fX6_sign pq_br tSgn
  repeat' split
  all_goals rfl
theorem eX7_sign (v : Int32) : fX7_sign v = some (tSgn v) := by
  unfold fX7_sign pq_br tSgn
  repeat' split
  all_goals rfl
theorem eX7_amount (v : Int32) : fX7_amount v = some (tAbs v) := by
  unfold fX7_amount pq_br tAbs
  repeat' split
  all_goals rfl
theorem nq_zsub (v : Int32) : (0 : Int32) - v = -v := by simp
theorem nq_abs (v : Int32) : (if 0 ≤ v then v else 0 - v) = tAbs v := by
  unfold tAbs
  rw [nq_zsub]
theorem eX6_wrapped (v : Int32) : fX6_wrapped v = some (tWrap v) := rfl
theorem nq_wrap (v : Int32) : (v <<< ((16 : Int32) &&& 31)) >>> ((16 : Int32) &&& 31) = tWrap v := by
  unfold tWrap
  apply Int32.toBitVec_inj.mp
  have e1 : ((16 : Int32) &&& 31) = 16 := by decide
  rw [e1]
  simp only [Int32.toBitVec_shiftRight, Int32.toBitVec_shiftLeft, Int32.toBitVec_toInt16, Int16.toBitVec_toInt32]
  apply BitVec.eq_of_getLsbD_eq
  intro i hi
  have e2 : (BitVec.smod (16 : Int32).toBitVec 32) = 16#32 := by decide
  simp only [e2]
  simp only [BitVec.getLsbD_signExtend, BitVec.getLsbD_sshiftRight, BitVec.msb_shiftLeft, BitVec.getLsbD_shiftLeft, BitVec.sshiftRight', BitVec.shiftLeft_eq', show ((16#32 : BitVec 32)).toNat = 16 from rfl]
  by_cases h1 : i < 16
  · have h2 : 16 + i < 32 := by omega
    simp [h1, h2, hi, show ¬ 32 ≤ i from by omega, show ¬ 16 + i < 16 from by omega]
  · have h2 : ¬ 16 + i < 32 := by omega
    simp [h1, h2, hi, BitVec.msb_signExtend, BitVec.getMsbD]
theorem eX7_wrapped (v : Int32) : fX7_wrapped v = some (tWrap v) := by
  unfold fX7_wrapped
  rw [nq_wrap]
theorem eX7_isSample (v : Int32) : fX7_isSample v = fX6_isSample v := rfl
theorem nq_z (n : Nat) : (OfNat.ofNat n : Int32) = nI n := rfl
/-! SIZE -/
theorem eX7_size_b2 : ∀ (fuel : Nat) (a n : Int32), fX7_size_b2 fuel a n = fX0_size_b2 fuel a n := by
  intro fuel
  induction fuel with
  | zero => intro a n; rfl
  | succ f ih =>
    intro a n
    rw [fX7_size_b2, fX0_size_b2]
    simp only [ih]
theorem eX7_size (a : Int32) : fX7_size a = fX0_size a := eX7_size_b2 1100 a 0
theorem nq_pow : ∀ n, n < 15 → ((1 : Int32) <<< (nI n &&& 31)).toInt = 2 ^ n := by decide
theorem size_b2_some (a : Int32) : ∀ (fuel n : Nat), n ≤ 15 → 16 ≤ fuel + n → ∃ r : Nat, n ≤ r ∧ r ≤ 15 ∧ fX0_size_b2 fuel a (nI n) = some (nI r) ∧ (r = 15 ∨ a.toInt < 2 ^ r) ∧ (r = n ∨ (2 : Int) ^ (r - 1) ≤ a.toInt) := by
  intro fuel
  induction fuel with
  | zero => intro n h1 h2; exact absurd h2 (by omega)
  | succ f ih =>
    intro n h1 h2
    rw [fX0_size_b2]
    unfold pq_br pq_nm
    by_cases h : (15 : Int32) ≤ nI n
    · rw [if_pos h]
      have : n = 15 := by
        rw [nq_le, nI_toInt (by omega)] at h
        have : (15 : Int32).toInt = 15 := rfl
        omega
      exact ⟨n, Nat.le_refl n, h1, rfl, Or.inl this, Or.inl rfl⟩
    · rw [if_neg h]
      have hn : n < 15 := by
        rw [nq_le, nI_toInt (by omega)] at h
        have : (15 : Int32).toInt = 15 := rfl
        omega
      by_cases h3 : a < (1 : Int32) <<< (nI n &&& 31)
      · rw [if_pos h3]
        rw [nq_lt, nq_pow n hn] at h3
        exact ⟨n, Nat.le_refl n, h1, rfl, Or.inr h3, Or.inl rfl⟩
      · rw [if_neg h3]
        rw [nq_lt, nq_pow n hn] at h3
        obtain ⟨r, g1, g2, g3, g4, g5⟩ := ih (n + 1) (by omega) (by omega)
        refine ⟨r, by omega, g2, ?_, g4, ?_⟩
        · rw [nI_1]; exact g3
        · right
          rcases g5 with g5 | g5
          · rw [g5]; simpa using Int.not_lt.mp h3
          · exact g5
theorem size_some (a : Int32) : ∃ r : Nat, r ≤ 15 ∧ fX0_size a = some (nI r) ∧ (r = 15 ∨ a.toInt < 2 ^ r) ∧ (r = 0 ∨ (2 : Int) ^ (r - 1) ≤ a.toInt) := by
  obtain ⟨r, h1, h2, h3, h4, h5⟩ := size_b2_some a 1100 0 (by omega) (by omega)
  exact ⟨r, h2, h3, h4, h5⟩
end
section
theorem nq_of {x : Int32} (h : 0 ≤ x.toInt) : ∃ j : Nat, j < 2 ^ 31 ∧ x = nI j ∧ x.toInt = j := by
  obtain ⟨j, h1, h2⟩ := nI_of (x := x) (by rw [nq_lt]; have : (0 : Int32).toInt = 0 := rfl; omega)
  exact ⟨j, h1, h2, by rw [h2]; exact nI_toInt h1⟩
theorem nq_shr {n : Nat} (h : n < 2 ^ 31) (s : Int32) : ∃ m : Nat, m ≤ n ∧ nI n >>> s = nI m := ⟨n / 2 ^ _, Nat.div_le_self _ _, pk_shrN h s _ rfl⟩
theorem nq_and15 {n : Nat} (h : n < 32768) : nI n &&& (32767 : Int32) = nI n := by
  rw [pk_andN (by omega) 15 (by decide), Nat.mod_eq_of_lt (by omega)]
theorem times_sg (a f r : Int32) : ∃ v : Int32, (pq_br ((0 : Int32) ≤ a) (fX0_times_b84 f r (0 : Int32)) (fX0_times_b84 f r (1 : Int32))) = some v ∧ fX7_times_b100 a f r = some v := by
  unfold fX7_times_b100 fX0_times_b84 fX7_times_b111 fX0_times_b93 fX7_times_b120 pq_br
  repeat' split
  all_goals first | exact ⟨_, rfl, rfl⟩ | (exfalso; simp_all; done)
theorem times_tail (a f w : Int32) {q : Nat} (hq : q < 64) : ∃ v : Int32, fX0_times_b32 a f w (nI q) = some v ∧ fX7_times_b46 a f w (nI q) = some v := by
  unfold fX0_times_b32 fX7_times_b46
  simp only [pq_nm]
  generalize ((w + ((f >>> ((6 : Int32) &&& 31)) &&& (15 : Int32))) - (13 : Int32)) = u
  obtain ⟨t, ht, ht2⟩ := pk_andE f (m := (63 : Int32)) 6 (by decide)
  have e1 : (((nI q * (f &&& (63 : Int32))) + (48 : Int32)) >>> ((4 : Int32) &&& 31)) = nI ((q * t + 48) / 2 ^ 4) := by
    rw [ht2, pk_mul, show nI (q * t) + (48 : Int32) = nI (q * t + 48) from nI_add _ 48]
    have : q * t ≤ 63 * 63 := Nat.mul_le_mul (by omega) (by omega)
    exact pk_shrN (by omega) _ _ (by decide)
  rw [e1]
  have hp : (q * t + 48) / 2 ^ 4 < 256 := by
    have : q * t ≤ 63 * 63 := Nat.mul_le_mul (by omega) (by omega)
    omega
  generalize (q * t + 48) / 2 ^ 4 = p at hp
  unfold fX0_shifted
  by_cases h : u < 0
  · have h' : ¬ (0 : Int32) ≤ u := by rw [nq_le]; rw [nq_lt] at h; have : (0 : Int32).toInt = 0 := rfl; omega
    obtain ⟨m, hm, em⟩ := nq_shr (n := p) (by omega) ((-u) &&& 31)
    obtain ⟨v, h1, h2⟩ := times_sg a f (nI m)
    refine ⟨v, ?_, ?_⟩
    · show pq_cl (pq_br _ _ _) _ = _
      rw [show pq_br ((0 : Int32) ≤ u) (some (nI p <<< (u &&& 31))) (some (nI p >>> ((-u) &&& 31))) = some (nI m) from by unfold pq_br; rw [if_neg h', em]]
      show pq_br _ (fX0_times_b84 f (nI m &&& 32767) 0) (fX0_times_b84 f (nI m &&& 32767) 1) = some v
      rw [nq_and15 (by omega)]
      exact h1
    · show pq_br _ _ _ = _
      rw [show ∀ x y : Option Int32, pq_br (u < (0 : Int32)) x y = x from fun x y => by unfold pq_br; rw [if_pos h], em]
      exact h2
  · have h' : (0 : Int32) ≤ u := by rw [nq_le]; rw [nq_lt] at h; have : (0 : Int32).toInt = 0 := rfl; omega
    obtain ⟨v, h1, h2⟩ := times_sg a f ((nI p <<< (u &&& 31)) &&& (32767 : Int32))
    refine ⟨v, ?_, ?_⟩
    · show pq_cl (pq_br _ _ _) _ = _
      rw [show pq_br ((0 : Int32) ≤ u) (some (nI p <<< (u &&& 31))) (some (nI p >>> ((-u) &&& 31))) = some (nI p <<< (u &&& 31)) from by unfold pq_br; rw [if_pos h']]
      exact h1
    · show pq_br _ _ _ = _
      rw [show ∀ x y : Option Int32, pq_br (u < (0 : Int32)) x y = y from fun x y => by unfold pq_br; rw [if_neg h]]
      exact h2
/-- the amount of a, modulo 8192 -/
theorem times_m (a : Int32) : ∃ j : Nat, j < 8192 ∧ tAbs a &&& (8191 : Int32) = nI j := pk_andE (tAbs a) (m := (8191 : Int32)) 13 (by decide)
set_option maxHeartbeats 1000000 in
theorem times_both (a f : Int32) : ∃ v : Int32, fX0_times a f = some v ∧ fX7_times a f = some v := by
  unfold fX0_times fX7_times
  rw [nq_abs, eX7_amount]
  simp only [pq_nm, pq_cl, Option.bind_some]
  obtain ⟨j, hj, ej⟩ := times_m a
  rw [ej, eX7_size]
  obtain ⟨r, hr, er, h1, h2⟩ := size_some (nI j)
  rw [er, Option.bind_some, Option.bind_some]
  rw [nI_toInt (by omega)] at h1 h2
  have hr14 : r ≤ 13 := by
    rcases h2 with h2 | h2
    · omega
    · apply Decidable.byContradiction
      intro h
      have h3 := Nat.pow_le_pow_right (n := 2) (by decide) (show 13 ≤ r - 1 by omega)
      have : (2 : Int) ^ 13 ≤ 2 ^ (r - 1) := by exact_mod_cast h3
      omega
  have h1 : j < 2 ^ r := by
    rcases h1 with h1 | h1
    · omega
    · exact_mod_cast h1
  by_cases hz : nI j = (0 : Int32)
  · simp only [pq_br, if_pos hz]
    exact times_tail a f _ (q := 32) (by omega)
  · simp only [pq_br, if_neg hz]
    unfold fX0_shifted pq_br
    have cases14 : r = 0 ∨ r = 1 ∨ r = 2 ∨ r = 3 ∨ r = 4 ∨ r = 5 ∨ r = 6 ∨ r = 7 ∨ r = 8 ∨ r = 9 ∨ r = 10 ∨ r = 11 ∨ r = 12 ∨ r = 13 := by omega
    rcases cases14 with rfl | rfl | rfl | rfl | rfl | rfl | rfl | rfl | rfl | rfl | rfl | rfl | rfl | rfl
    · exact absurd (by have : j = 0 := by omega
                       rw [this]; rfl) hz
    · rw [if_pos (by decide), if_pos (by decide), Option.bind_some, pk_shlN (n := j) ((-(nI 1 - 6)) &&& 31) 5 (by decide) (by omega)]
      exact times_tail a f _ (by omega)
    · rw [if_pos (by decide), if_pos (by decide), Option.bind_some, pk_shlN (n := j) ((-(nI 2 - 6)) &&& 31) 4 (by decide) (by omega)]
      exact times_tail a f _ (by omega)
    · rw [if_pos (by decide), if_pos (by decide), Option.bind_some, pk_shlN (n := j) ((-(nI 3 - 6)) &&& 31) 3 (by decide) (by omega)]
      exact times_tail a f _ (by omega)
    · rw [if_pos (by decide), if_pos (by decide), Option.bind_some, pk_shlN (n := j) ((-(nI 4 - 6)) &&& 31) 2 (by decide) (by omega)]
      exact times_tail a f _ (by omega)
    · rw [if_pos (by decide), if_pos (by decide), Option.bind_some, pk_shlN (n := j) ((-(nI 5 - 6)) &&& 31) 1 (by decide) (by omega)]
      exact times_tail a f _ (by omega)
    · rw [if_pos (by decide), if_neg (by decide), Option.bind_some, pk_shlN (n := j) ((-(nI 6 - 6)) &&& 31) 0 (by decide) (by omega), pk_shrN (n := j) (by omega) ((nI 6 - 6) &&& 31) 0 (by decide)]
      simp only [Nat.pow_zero, Nat.mul_one, Nat.div_one]
      exact times_tail a f _ (by omega)
    all_goals
      rw [if_neg (by decide), if_neg (by decide), Option.bind_some]
    · rw [pk_shrN (n := j) (by omega) ((-(-(nI 7 - 6))) &&& 31) 1 (by decide), pk_shrN (n := j) (by omega) ((nI 7 - 6) &&& 31) 1 (by decide)]
      exact times_tail a f _ (by omega)
    · rw [pk_shrN (n := j) (by omega) ((-(-(nI 8 - 6))) &&& 31) 2 (by decide), pk_shrN (n := j) (by omega) ((nI 8 - 6) &&& 31) 2 (by decide)]
      exact times_tail a f _ (by omega)
    · rw [pk_shrN (n := j) (by omega) ((-(-(nI 9 - 6))) &&& 31) 3 (by decide), pk_shrN (n := j) (by omega) ((nI 9 - 6) &&& 31) 3 (by decide)]
      exact times_tail a f _ (by omega)
    · rw [pk_shrN (n := j) (by omega) ((-(-(nI 10 - 6))) &&& 31) 4 (by decide), pk_shrN (n := j) (by omega) ((nI 10 - 6) &&& 31) 4 (by decide)]
      exact times_tail a f _ (by omega)
    · rw [pk_shrN (n := j) (by omega) ((-(-(nI 11 - 6))) &&& 31) 5 (by decide), pk_shrN (n := j) (by omega) ((nI 11 - 6) &&& 31) 5 (by decide)]
      exact times_tail a f _ (by omega)
    · rw [pk_shrN (n := j) (by omega) ((-(-(nI 12 - 6))) &&& 31) 6 (by decide), pk_shrN (n := j) (by omega) ((nI 12 - 6) &&& 31) 6 (by decide)]
      exact times_tail a f _ (by omega)
    · rw [pk_shrN (n := j) (by omega) ((-(-(nI 13 - 6))) &&& 31) 7 (by decide), pk_shrN (n := j) (by omega) ((nI 13 - 6) &&& 31) 7 (by decide)]
      exact times_tail a f _ (by omega)
/-- TIMES, as both have it -/
noncomputable def tTimes (a f : Int32) : Int32 := (times_both a f).choose
theorem eX0_times (a f : Int32) : fX0_times a f = some (tTimes a f) := (times_both a f).choose_spec.1
theorem eX7_times (a f : Int32) : fX7_times a f = some (tTimes a f) := (times_both a f).choose_spec.2
end
section
/-! FOREHAND -/
def tStep (n : Nat → Int32) : Int32 := if n 4 < (256 : Int32) then (if n 1 - (n 0 >>> ((6 : Int32) &&& 31)) ≤ (0 : Int32) then (if (0 : Int32) ≤ n 1 - (n 0 >>> ((6 : Int32) &&& 31)) then n 0 >>> ((6 : Int32) &&& 31) else n 0 >>> ((6 : Int32) &&& 31) + ((((n 1 - (n 0 >>> ((6 : Int32) &&& 31))) * (n 4 >>> ((2 : Int32) &&& 31))) + (63 : Int32)) >>> ((6 : Int32) &&& 31))) else n 0 >>> ((6 : Int32) &&& 31) + (((n 1 - (n 0 >>> ((6 : Int32) &&& 31))) * (n 4 >>> ((2 : Int32) &&& 31))) >>> ((6 : Int32) &&& 31))) else n 1
theorem eX0_stepNow (n : Nat → Int32) : fX0_stepNow n = some (tStep n) := by
  unfold fX0_stepNow tStep
  rw [rd_in (j := 4) (nq_z 4) (by omega) (by omega)]
  by_cases h : n 4 < (256 : Int32)
  · rw [if_pos h]
    unfold pq_br
    rw [if_pos h, rd_in (j := 0) (nq_z 0) (by omega) (by omega)]
    simp only [pq_nm]
    rw [rd_in (j := 1) (nq_z 1) (by omega) (by omega)]
    rw [rd_in (j := 4) (nq_z 4) (by omega) (by omega)]
    by_cases h2 : n 1 - (n 0 >>> ((6 : Int32) &&& 31)) ≤ (0 : Int32)
    · rw [if_pos h2, if_pos h2]
      by_cases h3 : (0 : Int32) ≤ n 1 - (n 0 >>> ((6 : Int32) &&& 31))
      · rw [if_pos h3, if_pos h3]
      · rw [if_neg h3, if_neg h3]
    · rw [if_neg h2, if_neg h2]
  · rw [if_neg h]
    unfold pq_br
    rw [if_neg h, rd_in (j := 1) (nq_z 1) (by omega) (by omega)]
section FORE
variable {b : Nat} {n g g0 : Nat → Int32}
theorem fore_loop (hR : vA 24 b n g g0) (hb : b + 24 ≤ 192) (c1 c2 c3 d1 d2 d3 : Int32) : ∀ (fuel i : Nat) (x : Int32), i ≤ 6 → 7 ≤ fuel + i → sm (fun (u w : Int32 × Int32 × Int32) => u.1 = w.2.1 ∧ u.2.1 = w.1 ∧ u.2.2 = w.2.2 ∧ w.2.2 = tStep n) (fX0_foresee_b4 n fuel x (nI i) c1 c2 c3) (fX7_forehand_b10 g fuel (nI b) x (nI i) d1 d2 d3) := by
  intro fuel
  induction fuel with
  | zero => intro i x h1 h2; exact absurd h2 (by omega)
  | succ f ih =>
    intro i x h1 h2
    rw [fX0_foresee_b4, fX7_forehand_b10]
    refine sm_br (fun _ => ?_) (fun hc => ?_)
    · refine sm_cle (eX6_wrapped x) (eX7_wrapped x) ?_
      refine sm_nm (fun v4 => ?_)
      refine sv_rd hR (j := 7) rfl (nI_add b 7) (by decide) (by decide) hb (by decide) (fun v7 e7 => ?_)
      refine sv_rd hR (j := 15) rfl (nI_add b 15) (by decide) (by decide) hb (by decide) (fun v15 e15 => ?_)
      refine sm_cle (eX0_times _ _) (eX7_times _ _) ?_
      refine sv_rd hR (j := 6) rfl (nI_add b 6) (by decide) (by decide) hb (by decide) (fun v6 e6 => ?_)
      refine sv_rd hR (j := 14) rfl (nI_add b 14) (by decide) (by decide) hb (by decide) (fun v14 e14 => ?_)
      refine sm_cle (eX0_times _ _) (eX7_times _ _) ?_
      refine sm_nmL ?_
      refine sm_cle (eX6_wrapped _) (by rw [eX7_wrapped, Int32.add_assoc]) ?_
      refine sm_nm (fun v26 => ?_)
      refine sm_clL (eX0_stepNow n) ?_
      have hr := hR.1
      refine sm_rdR (j := b + 0) rfl (by omega) (by decide) ?_
      refine sm_nmR ?_
      refine sm_rdR (j := b + 1) (nI_add b 1) (by omega) (by decide) ?_
      refine sm_nmR ?_
      refine sm_rdR (j := b + 4) (nI_add b 4) (by omega) (by decide) ?_
      refine sm_nmR ?_
      refine sm_rdR (j := b + 4) (nI_add b 4) (by omega) (by decide) ?_
      rw [hr 0 (by decide), hr 1 (by decide), hr 4 (by decide)]
      refine sm_brR (fun q1 => ?_) (fun q1 => ?_)
      · refine sm_brR (fun q2 => ?_) (fun q2 => ?_)
        · refine sm_brR (fun q3 => ?_) (fun q3 => ?_)
          · exact sm_ret ⟨rfl, rfl, by simp only [tStep, if_pos q1, if_pos q2, if_pos q3], by simp only [tStep, if_pos q1, if_pos q2, if_pos q3]⟩
          · exact sm_ret ⟨rfl, rfl, by simp only [tStep, if_pos q1, if_pos q2, if_neg q3], by simp only [tStep, if_pos q1, if_pos q2, if_neg q3]⟩
        · exact sm_ret ⟨rfl, rfl, by simp only [tStep, if_pos q1, if_neg q2], by simp only [tStep, if_pos q1, if_neg q2]⟩
      · refine sm_rdR (j := b + 1) (nI_add b 1) (by omega) (by decide) ?_
        rw [hr 1 (by decide)]
        exact sm_ret ⟨rfl, rfl, by simp only [tStep, if_neg q1], by simp only [tStep, if_neg q1]⟩
    · have hi : i < 6 := by
        rw [nq_le, nI_toInt (by omega)] at hc
        have : (6 : Int32).toInt = 6 := rfl
        omega
      refine sv_rd hR (j := 8 + i) (nI_add 8 i) (by rw [show nI b + (8 : Int32) = nI (b + 8) from nI_add b 8, nI_add, Nat.add_assoc]) (by omega) (by decide) hb (by decide) (fun v8 e8 => ?_)
      refine sv_rd hR (j := 16 + i) (nI_add 16 i) (by rw [show nI b + (16 : Int32) = nI (b + 16) from nI_add b 16, nI_add, Nat.add_assoc]) (by omega) (by decide) hb (by decide) (fun v16 e16 => ?_)
      refine sm_cle (eX0_times _ _) (eX7_times _ _) ?_
      refine sm_nm (fun v38 => ?_)
      refine sm_nmL (sm_nmR ?_)
      rw [nI_1]
      exact ih (i + 1) v38 (by omega) (by omega)
theorem fore_both (hR : vA 24 b n g g0) (hb : b + 24 ≤ 192) (c1 c2 c3 d1 d2 d3 : Int32) {s : Int32} (hs : (24 : Int32) * s = nI b) : sm (fun (u w : Int32 × Int32 × Int32) => u.1 = w.2.1 ∧ u.2.1 = w.1 ∧ u.2.2 = w.2.2 ∧ w.2.2 = tStep n) (fX0_foresee n c1 c2 c3) (fX7_forehand s g d1 d2 d3) := by
  unfold fX0_foresee fX7_forehand
  refine sm_nmR ?_
  rw [hs]
  exact fore_loop hR hb c1 c2 c3 d1 d2 d3 1100 0 0 (by omega) (by omega)
end FORE
end
section
/-! the tables of G.726, and the code of a sample -/
def mt (f : Nat → Int32) (l : List Int32) : Prop := ∀ j, j < l.length → f j = l.getD j 0
def mt4 (f2 f3 f4 f5 : Nat → Int32) (l2 l3 l4 l5 : List Int32) : Prop := mt f2 l2 ∧ mt f3 l3 ∧ mt f4 l4 ∧ mt f5 l5
abbrev lB2 : List Int32 := [261]
abbrev lB3 : List Int32 := [8, 218, 331]
abbrev lB4 : List Int32 := [-124, 80, 178, 246, 300, 349, 400]
abbrev lB5 : List Int32 := [-122, -16, 68, 139, 198, 250, 298, 339, 378, 413, 445, 475, 502, 528, 553]
abbrev lT2 : List Int32 := [116, 365]
abbrev lT3 : List Int32 := [-2048, 135, 273, 373]
abbrev lT4 : List Int32 := [-2048, 4, 135, 213, 273, 323, 373, 425]
abbrev lT5 : List Int32 := [-2048, -66, 28, 104, 169, 224, 274, 318, 358, 395, 429, 459, 488, 514, 539, 566]
abbrev lW2 : List Int32 := [-704, 14048]
abbrev lW3 : List Int32 := [-128, 960, 4384, 18624]
abbrev lW4 : List Int32 := [-384, 576, 1312, 2048, 3584, 6336, 11360, 35904]
abbrev lW5 : List Int32 := [448, 448, 768, 1248, 1280, 1312, 1856, 3200, 4512, 5728, 7008, 8960, 11456, 14080, 16928, 22272]
abbrev lP2 : List Int32 := [0, 3584]
abbrev lP3 : List Int32 := [0, 512, 1024, 3584]
abbrev lP4 : List Int32 := [0, 0, 0, 512, 512, 512, 1536, 3584]
abbrev lP5 : List Int32 := [0, 0, 0, 0, 0, 512, 512, 512, 512, 512, 1024, 1536, 2048, 2560, 3072, 3072]
section CODE
variable {b2 b3 b4 b5 t2 t3 t4 t5 w2 w3 w4 w5 p2 p3 p4 p5 : Nat → Int32}
theorem kcases {k : Nat} (h : 2 ≤ k ∧ k ≤ 5) : k = 2 ∨ k = 3 ∨ k = 4 ∨ k = 5 := by omega
theorem bound_eq (hB : mt4 b2 b3 b4 b5 lB2 lB3 lB4 lB5) {k i : Nat} (hk : 2 ≤ k ∧ k ≤ 5) (hi : i < 2 ^ (k - 1) - 1) : fX7_bound (nI k) (nI i) b2 b3 b4 b5 = some (pq_t_BOUNDS (2 ^ (k - 1) - k + i)) := by
  unfold fX7_bound pq_br
  rcases kcases hk with rfl | rfl | rfl | rfl
  · rw [if_pos (by decide), rd_in rfl (by omega) (by decide), hB.1 i (by simpa using hi)]
    exact congrArg some ((by decide : ∀ i, i < 1 → lB2.getD i 0 = pq_t_BOUNDS (0 + i)) i (by omega))
  · rw [if_neg (by decide), if_pos (by decide), rd_in rfl (by omega) (by decide), hB.2.1 i (by simpa using hi)]
    exact congrArg some ((by decide : ∀ i, i < 3 → lB3.getD i 0 = pq_t_BOUNDS (1 + i)) i (by omega))
  · rw [if_neg (by decide), if_neg (by decide), if_pos (by decide), rd_in rfl (by omega) (by decide), hB.2.2.1 i (by simpa using hi)]
    exact congrArg some ((by decide : ∀ i, i < 7 → lB4.getD i 0 = pq_t_BOUNDS (4 + i)) i (by omega))
  · rw [if_neg (by decide), if_neg (by decide), if_neg (by decide), rd_in rfl (by omega) (by decide), hB.2.2.2 i (by simpa using hi)]
    exact congrArg some ((by decide : ∀ i, i < 15 → lB5.getD i 0 = pq_t_BOUNDS (11 + i)) i (by omega))
/-- the place of a code in the class's rows -/
def tPl (k c : Nat) : Nat := 2 ^ (k - 1) - 2 + (if c < 2 ^ (k - 1) then c else 2 ^ k - 1 - c)
theorem place_eq {k c : Nat} (hk : 2 ≤ k ∧ k ≤ 5) (hc : c < 2 ^ k) : fX0_tablePlace (nI c) (nI k) = some (nI (tPl k c)) ∧ tPl k c < 30 := by
  rcases kcases hk with rfl | rfl | rfl | rfl
  · exact (by decide : ∀ c, c < 4 → fX0_tablePlace (nI c) (nI 2) = some (nI (tPl 2 c)) ∧ tPl 2 c < 30) c hc
  · exact (by decide : ∀ c, c < 8 → fX0_tablePlace (nI c) (nI 3) = some (nI (tPl 3 c)) ∧ tPl 3 c < 30) c hc
  · exact (by decide : ∀ c, c < 16 → fX0_tablePlace (nI c) (nI 4) = some (nI (tPl 4 c)) ∧ tPl 4 c < 30) c hc
  · exact (by decide : ∀ c, c < 32 → fX0_tablePlace (nI c) (nI 5) = some (nI (tPl 5 c)) ∧ tPl 5 c < 30) c hc
theorem half_eq {k c : Nat} (hk : 2 ≤ k ∧ k ≤ 5) (hc : c < 2 ^ k) : fX7_half (nI k) (nI c) = some (nI (tPl k c - (2 ^ (k - 1) - 2))) ∧ tPl k c - (2 ^ (k - 1) - 2) < 2 ^ (k - 1) := by
  rcases kcases hk with rfl | rfl | rfl | rfl
  · exact (by decide : ∀ c, c < 4 → fX7_half (nI 2) (nI c) = some (nI (tPl 2 c - (2 ^ (2 - 1) - 2))) ∧ tPl 2 c - (2 ^ (2 - 1) - 2) < 2 ^ (2 - 1)) c hc
  · exact (by decide : ∀ c, c < 8 → fX7_half (nI 3) (nI c) = some (nI (tPl 3 c - (2 ^ (3 - 1) - 2))) ∧ tPl 3 c - (2 ^ (3 - 1) - 2) < 2 ^ (3 - 1)) c hc
  · exact (by decide : ∀ c, c < 16 → fX7_half (nI 4) (nI c) = some (nI (tPl 4 c - (2 ^ (4 - 1) - 2))) ∧ tPl 4 c - (2 ^ (4 - 1) - 2) < 2 ^ (4 - 1)) c hc
  · exact (by decide : ∀ c, c < 32 → fX7_half (nI 5) (nI c) = some (nI (tPl 5 c - (2 ^ (5 - 1) - 2))) ∧ tPl 5 c - (2 ^ (5 - 1) - 2) < 2 ^ (5 - 1)) c hc
theorem plsum {k c : Nat} (hk : 2 ≤ k ∧ k ≤ 5) : tPl k c = 2 ^ (k - 1) - 2 + (tPl k c - (2 ^ (k - 1) - 2)) := by unfold tPl; omega
theorem table_eq (hT : mt4 t2 t3 t4 t5 lT2 lT3 lT4 lT5) {k c : Nat} (hk : 2 ≤ k ∧ k ≤ 5) (hc : c < 2 ^ k) : fX7_table (nI k) (nI c) t2 t3 t4 t5 = some (pq_t_TABLE (tPl k c)) := by
  obtain ⟨h1, h2⟩ := half_eq hk hc
  rw [plsum hk]
  generalize tPl k c - (2 ^ (k - 1) - 2) = j at h1 h2
  unfold fX7_table
  rw [h1]
  simp only [pq_cl, Option.bind_some, pq_br]
  rcases kcases hk with rfl | rfl | rfl | rfl
  · rw [if_pos (by decide), rd_in rfl (by simpa using h2) (by decide), hT.1 j (by simpa using h2)]
    exact congrArg some ((by decide : ∀ i, i < 2 → lT2.getD i 0 = pq_t_TABLE (0 + i)) j (by simpa using h2))
  · rw [if_neg (by decide), if_pos (by decide), rd_in rfl (by simpa using h2) (by decide), hT.2.1 j (by simpa using h2)]
    exact congrArg some ((by decide : ∀ i, i < 4 → lT3.getD i 0 = pq_t_TABLE (2 + i)) j (by simpa using h2))
  · rw [if_neg (by decide), if_neg (by decide), if_pos (by decide), rd_in rfl (by simpa using h2) (by decide), hT.2.2.1 j (by simpa using h2)]
    exact congrArg some ((by decide : ∀ i, i < 8 → lT4.getD i 0 = pq_t_TABLE (6 + i)) j (by simpa using h2))
  · rw [if_neg (by decide), if_neg (by decide), if_neg (by decide), rd_in rfl (by simpa using h2) (by decide), hT.2.2.2 j (by simpa using h2)]
    exact congrArg some ((by decide : ∀ i, i < 16 → lT5.getD i 0 = pq_t_TABLE (14 + i)) j (by simpa using h2))
theorem weight_eq (hT : mt4 w2 w3 w4 w5 lW2 lW3 lW4 lW5) {k c : Nat} (hk : 2 ≤ k ∧ k ≤ 5) (hc : c < 2 ^ k) : fX7_weight (nI k) (nI c) w2 w3 w4 w5 = some (pq_t_WEIGHT (tPl k c)) := by
  obtain ⟨h1, h2⟩ := half_eq hk hc
  rw [plsum hk]
  generalize tPl k c - (2 ^ (k - 1) - 2) = j at h1 h2
  unfold fX7_weight
  rw [h1]
  simp only [pq_cl, Option.bind_some, pq_br]
  rcases kcases hk with rfl | rfl | rfl | rfl
  · rw [if_pos (by decide), rd_in rfl (by simpa using h2) (by decide), hT.1 j (by simpa using h2)]
    exact congrArg some ((by decide : ∀ i, i < 2 → lW2.getD i 0 = pq_t_WEIGHT (0 + i)) j (by simpa using h2))
  · rw [if_neg (by decide), if_pos (by decide), rd_in rfl (by simpa using h2) (by decide), hT.2.1 j (by simpa using h2)]
    exact congrArg some ((by decide : ∀ i, i < 4 → lW3.getD i 0 = pq_t_WEIGHT (2 + i)) j (by simpa using h2))
  · rw [if_neg (by decide), if_neg (by decide), if_pos (by decide), rd_in rfl (by simpa using h2) (by decide), hT.2.2.1 j (by simpa using h2)]
    exact congrArg some ((by decide : ∀ i, i < 8 → lW4.getD i 0 = pq_t_WEIGHT (6 + i)) j (by simpa using h2))
  · rw [if_neg (by decide), if_neg (by decide), if_neg (by decide), rd_in rfl (by simpa using h2) (by decide), hT.2.2.2 j (by simpa using h2)]
    exact congrArg some ((by decide : ∀ i, i < 16 → lW5.getD i 0 = pq_t_WEIGHT (14 + i)) j (by simpa using h2))
theorem pace_eq (hT : mt4 p2 p3 p4 p5 lP2 lP3 lP4 lP5) {k c : Nat} (hk : 2 ≤ k ∧ k ≤ 5) (hc : c < 2 ^ k) : fX7_pace (nI k) (nI c) p2 p3 p4 p5 = some (pq_t_PACE (tPl k c)) := by
  obtain ⟨h1, h2⟩ := half_eq hk hc
  rw [plsum hk]
  generalize tPl k c - (2 ^ (k - 1) - 2) = j at h1 h2
  unfold fX7_pace
  rw [h1]
  simp only [pq_cl, Option.bind_some, pq_br]
  rcases kcases hk with rfl | rfl | rfl | rfl
  · rw [if_pos (by decide), rd_in rfl (by simpa using h2) (by decide), hT.1 j (by simpa using h2)]
    exact congrArg some ((by decide : ∀ i, i < 2 → lP2.getD i 0 = pq_t_PACE (0 + i)) j (by simpa using h2))
  · rw [if_neg (by decide), if_pos (by decide), rd_in rfl (by simpa using h2) (by decide), hT.2.1 j (by simpa using h2)]
    exact congrArg some ((by decide : ∀ i, i < 4 → lP3.getD i 0 = pq_t_PACE (2 + i)) j (by simpa using h2))
  · rw [if_neg (by decide), if_neg (by decide), if_pos (by decide), rd_in rfl (by simpa using h2) (by decide), hT.2.2.1 j (by simpa using h2)]
    exact congrArg some ((by decide : ∀ i, i < 8 → lP4.getD i 0 = pq_t_PACE (6 + i)) j (by simpa using h2))
  · rw [if_neg (by decide), if_neg (by decide), if_neg (by decide), rd_in rfl (by simpa using h2) (by decide), hT.2.2.2 j (by simpa using h2)]
    exact congrArg some ((by decide : ∀ i, i < 16 → lP5.getD i 0 = pq_t_PACE (14 + i)) j (by simpa using h2))
theorem below_eq {k c : Nat} (hk : 2 ≤ k ∧ k ≤ 5) (hc : c < 2 ^ k) : (nI c < ((1 : Int32) <<< ((nI k - (1 : Int32)) &&& 31)) ↔ ¬ (nI c >>> ((nI k - (1 : Int32)) &&& 31)) = (1 : Int32)) := by
  rcases kcases hk with rfl | rfl | rfl | rfl
  · exact (by decide : ∀ c, c < 4 → (nI c < ((1 : Int32) <<< ((nI 2 - (1 : Int32)) &&& 31)) ↔ ¬ (nI c >>> ((nI 2 - (1 : Int32)) &&& 31)) = (1 : Int32))) c hc
  · exact (by decide : ∀ c, c < 8 → (nI c < ((1 : Int32) <<< ((nI 3 - (1 : Int32)) &&& 31)) ↔ ¬ (nI c >>> ((nI 3 - (1 : Int32)) &&& 31)) = (1 : Int32))) c hc
  · exact (by decide : ∀ c, c < 16 → (nI c < ((1 : Int32) <<< ((nI 4 - (1 : Int32)) &&& 31)) ↔ ¬ (nI c >>> ((nI 4 - (1 : Int32)) &&& 31)) = (1 : Int32))) c hc
  · exact (by decide : ∀ c, c < 32 → (nI c < ((1 : Int32) <<< ((nI 5 - (1 : Int32)) &&& 31)) ↔ ¬ (nI c >>> ((nI 5 - (1 : Int32)) &&& 31)) = (1 : Int32))) c hc
theorem code_loop (hB : mt4 b2 b3 b4 b5 lB2 lB3 lB4 lB5) {k : Nat} (hk : 2 ≤ k ∧ k ≤ 5) (st d l s z e y : Int32) (g : Nat → Int32) : ∀ (fuel i : Nat), i ≤ 2 ^ (k - 1) - 1 → 2 ^ (k - 1) ≤ fuel + i → ∃ c : Nat, c < 2 ^ k ∧ fX0_codeOf_b67 (nI k) st fuel d l (nI (2 ^ (k - 1) - 1)) (nI (2 ^ (k - 1) - k)) (nI i) = some (nI c) ∧ fX7_says726_b73 b2 b3 b4 b5 t2 t3 t4 t5 w2 w3 w4 w5 p2 p3 p4 p5 fuel s (nI k) d l (nI (2 ^ (k - 1) - 1)) (nI i) z e y g = fX7_says726_b149 b2 b3 b4 b5 t2 t3 t4 t5 w2 w3 w4 w5 p2 p3 p4 p5 s (nI k) (nI c) z e y g := by
  have hp : 2 * 2 ^ (k - 1) = 2 ^ k := by rcases kcases hk with rfl | rfl | rfl | rfl <;> rfl
  have hq : 2 ≤ 2 ^ (k - 1) ∧ 2 ^ (k - 1) ≤ 16 := by rcases kcases hk with rfl | rfl | rfl | rfl <;> decide
  have hr : k ≤ 2 ^ (k - 1) ∧ 2 ^ (k - 1) - k + (2 ^ (k - 1) - 1) ≤ 26 := by rcases kcases hk with rfl | rfl | rfl | rfl <;> decide
  have hend : ∀ i : Nat, i ≤ 2 ^ (k - 1) - 1 → ∃ c : Nat, c < 2 ^ k ∧ fX0_codeOf_b94 (nI k) st d (nI (2 ^ (k - 1) - 1)) (nI i) = some (nI c) ∧ fX7_says726_b101 b2 b3 b4 b5 t2 t3 t4 t5 w2 w3 w4 w5 p2 p3 p4 p5 s (nI k) d (nI (2 ^ (k - 1) - 1)) (nI i) z e y g = fX7_says726_b149 b2 b3 b4 b5 t2 t3 t4 t5 w2 w3 w4 w5 p2 p3 p4 p5 s (nI k) (nI c) z e y g := by
    intro i hi
    have e1 : ((2 : Int32) * nI (2 ^ (k - 1) - 1)) + (1 : Int32) = nI (2 ^ k - 1) := by
      rw [show (2 : Int32) = nI 2 from rfl, pk_mul, nI_1]
      congr 1
      omega
    have e2 : (((2 : Int32) * nI (2 ^ (k - 1) - 1)) + (1 : Int32)) - nI i = nI (2 ^ k - 1 - i) := by
      rw [e1, pk_sub (by omega)]
    unfold fX0_codeOf_b94 fX7_says726_b101 fX7_says726_b120 fX7_says726_b147
    unfold pq_br
    by_cases hd : (0 : Int32) ≤ d
    · have hd' : ¬ d < (0 : Int32) := by rw [nq_lt]; rw [nq_le] at hd; omega
      rw [if_pos hd, if_pos hd, if_neg hd']
      by_cases hz : i = 0
      · subst hz
        rw [if_pos (show nI 0 ≤ (0 : Int32) by decide), if_pos (show nI 0 = (0 : Int32) from rfl)]
        by_cases h2 : nI k = (2 : Int32)
        · rw [if_pos h2, if_pos h2]
          exact ⟨0, by omega, rfl, rfl⟩
        · rw [if_neg h2, if_neg h2, e1]
          exact ⟨2 ^ k - 1, by omega, rfl, rfl⟩
      · have g1 : ¬ nI i ≤ (0 : Int32) := nI_nle (by omega) (by omega)
        have g2 : ¬ nI i = (0 : Int32) := nI_ne0 (by omega) (by omega)
        rw [if_neg g1, if_neg g2]
        exact ⟨i, by omega, rfl, rfl⟩
    · have hd' : d < (0 : Int32) := by rw [nq_lt]; rw [nq_le] at hd; omega
      rw [if_neg hd, if_neg hd, if_pos hd', e2]
      exact ⟨2 ^ k - 1 - i, by omega, rfl, rfl⟩
  intro fuel
  induction fuel with
  | zero => intro i h1 h2; exact absurd h2 (by omega)
  | succ f ih =>
    intro i h1 h2
    rw [fX0_codeOf_b67, fX7_says726_b73]
    by_cases hc : nI (2 ^ (k - 1) - 1) ≤ nI i
    · obtain ⟨c, g1, g2, g3⟩ := hend i h1
      refine ⟨c, g1, ?_, ?_⟩
      · unfold pq_br; rw [if_pos hc]; exact g2
      · unfold pq_br; rw [if_pos hc]; exact g3
    · have hi : i < 2 ^ (k - 1) - 1 := by
        rw [nI_leI (by omega) (by omega)] at hc
        omega
      rw [bound_eq hB hk hi]
      have er : nI (2 ^ (k - 1) - k) + nI i = nI (2 ^ (k - 1) - k + i) := nI_add _ _
      by_cases hl : l < pq_t_BOUNDS (2 ^ (k - 1) - k + i)
      · obtain ⟨c, g1, g2, g3⟩ := hend i h1
        refine ⟨c, g1, ?_, ?_⟩
        · unfold pq_br; rw [if_neg hc, rd_in er (by omega) (by decide), if_pos hl]; exact g2
        · simp only [pq_br, if_neg hc, pq_cl, Option.bind_some, if_pos hl]; exact g3
      · obtain ⟨c, g1, g2, g3⟩ := ih (i + 1) (by omega) (by omega)
        rw [← nI_1] at g2 g3
        refine ⟨c, g1, ?_, ?_⟩
        · unfold pq_br; rw [if_neg hc, rd_in er (by omega) (by decide), if_neg hl]; exact g2
        · simp only [pq_br, if_neg hc, pq_cl, Option.bind_some, if_neg hl, pq_nm]; exact g3
end CODE
end
section
/-! what comes of a code (G.726): amounts, transition, step, filters -/
def tAm (q : Int32) : Int32 := if (0 : Int32) ≤ q then (((128 : Int32) + (q &&& (127 : Int32))) * (128 : Int32)) >>> (((14 : Int32) - ((q >>> ((7 : Int32) &&& 31)) &&& (15 : Int32))) &&& 31) else 0
theorem eX0_amount (q : Int32) : fX0_amount q = some (tAm q) := by
  unfold fX0_amount pq_br tAm
  split <;> rfl
theorem tAm_rng (q : Int32) : ∃ j : Nat, j < 32768 ∧ tAm q = nI j := by
  unfold tAm
  split
  · obtain ⟨t, ht, et⟩ := pk_andE q (m := (127 : Int32)) 7 (by decide)
    rw [et, show (128 : Int32) + nI t = nI (128 + t) from nI_add 128 t, show nI (128 + t) * (128 : Int32) = nI ((128 + t) * 128) from pk_mul _ 128]
    obtain ⟨m, hm, em⟩ := nq_shr (n := (128 + t) * 128) (by omega) (((14 : Int32) - ((q >>> ((7 : Int32) &&& 31)) &&& (15 : Int32))) &&& 31)
    exact ⟨m, by omega, em⟩
  · exact ⟨0, by omega, rfl⟩
def tH (yl : Int32) : Int32 := ((if yl >>> ((15 : Int32) &&& 31) ≤ (9 : Int32) then ((32 : Int32) + ((yl >>> ((10 : Int32) &&& 31)) &&& (31 : Int32))) <<< ((yl >>> ((15 : Int32) &&& 31)) &&& 31) else 31744) + ((if yl >>> ((15 : Int32) &&& 31) ≤ (9 : Int32) then ((32 : Int32) + ((yl >>> ((10 : Int32) &&& 31)) &&& (31 : Int32))) <<< ((yl >>> ((15 : Int32) &&& 31)) &&& 31) else 31744) >>> ((1 : Int32) &&& 31))) >>> ((1 : Int32) &&& 31)
def tTr (t : Int32) (n : Nat → Int32) : Int32 := if n 5 = (0 : Int32) then 0 else if t ≤ tH (n 0) then 0 else 1
theorem tTr_01 (t : Int32) (n : Nat → Int32) : tTr t n = 0 ∨ tTr t n = 1 := by
  unfold tTr
  split
  · exact Or.inl rfl
  · split
    · exact Or.inl rfl
    · exact Or.inr rfl
theorem eX0_isTransition (t : Int32) (n : Nat → Int32) : fX0_isTransition t n = some (tTr t n) := by
  unfold fX0_isTransition tTr
  rw [rd_in (j := 5) (nq_z 5) (by omega) (by omega)]
  unfold pq_br
  by_cases h : n 5 = (0 : Int32)
  · rw [if_pos h, if_pos h]
  · rw [if_neg h, if_neg h, rd_in (j := 0) (nq_z 0) (by omega) (by omega)]
    simp only [pq_nm, fX0_isTransition_b50, pq_br]
    unfold tH
    by_cases h2 : n 0 >>> ((15 : Int32) &&& 31) ≤ (9 : Int32)
    · rw [if_pos h2, if_pos h2, rd_in (j := 0) (nq_z 0) (by omega) (by omega)]
      split <;> rfl
    · rw [if_neg h2, if_neg h2]
      split <;> rfl
def tAS (w y : Int32) (n : Nat → Int32) : Nat → Int32 := upd (upd n 1 (tCut (y + ((w - y) >>> ((5 : Int32) &&& 31))) 544 5120)) 0 (n 0 + (tCut (y + ((w - y) >>> ((5 : Int32) &&& 31))) 544 5120 + ((-(n 0)) >>> ((6 : Int32) &&& 31))))
theorem eX0_adaptStep (w y : Int32) (n : Nat → Int32) : fX0_adaptStep w y n = some (tAS w y n) := by
  unfold fX0_adaptStep
  rw [eX6_cut]
  simp only [pq_cl, Option.bind_some]
  rw [wr_in (j := 1) (nq_z 1) (by omega) (by omega), rd_in (j := 0) (nq_z 0) (by omega) (by omega), rd_in (j := 1) (nq_z 1) (by omega) (by omega), rd_in (j := 0) (nq_z 0) (by omega) (by omega), wr_in (j := 0) (nq_z 0) (by omega) (by omega)]
  rfl
def inv (n : Nat → Int32) : Prop := (n 5 = 0 ∨ n 5 = 1) ∧ -12288 ≤ (n 7).toInt ∧ (n 7).toInt ≤ 12288
theorem nudge_rng (a : Int32) {d : Int32} (hd : d = 128 ∨ d = -128) : ∃ v : Int32, fX0_nudgedA2 a d = some v ∧ -12288 ≤ v.toInt ∧ v.toInt ≤ 12288 := by
  unfold fX0_nudgedA2 pq_br
  have hb := a.toInt_le
  have hb2 := a.le_toInt
  rcases hd with rfl | rfl
  · by_cases h1 : ((-12288 : Int32) - 128) < a
    · rw [if_pos h1]
      by_cases h2 : a < ((12288 : Int32) - 128)
      · rw [if_pos h2]
        refine ⟨_, rfl, ?_⟩
        rw [nq_lt] at h1 h2
        have e1 : ((-12288 : Int32) - 128).toInt = -12416 := by decide
        have e2 : ((12288 : Int32) - 128).toInt = 12160 := by decide
        rw [Int32.toInt_add, show (128 : Int32).toInt = 128 from rfl, Int.bmod_eq_of_le (by omega) (by omega)]
        omega
      · rw [if_neg h2]
        exact ⟨_, rfl, by decide⟩
    · rw [if_neg h1]
      exact ⟨_, rfl, by decide⟩
  · by_cases h1 : ((-12288 : Int32) - (-128)) < a
    · rw [if_pos h1]
      by_cases h2 : a < ((12288 : Int32) - (-128))
      · rw [if_pos h2]
        refine ⟨_, rfl, ?_⟩
        rw [nq_lt] at h1 h2
        have e1 : ((-12288 : Int32) - (-128)).toInt = -12160 := by decide
        have e2 : ((12288 : Int32) - (-128)).toInt = 12416 := by decide
        rw [Int32.toInt_add, show (-128 : Int32).toInt = -128 from rfl, Int.bmod_eq_of_le (by omega) (by omega)]
        omega
      · rw [if_neg h2]
        exact ⟨_, rfl, by decide⟩
    · rw [if_neg h1]
      exact ⟨_, rfl, by decide⟩
theorem leak_rng {a : Int32} (h : -12288 ≤ a.toInt ∧ a.toInt ≤ 12288) : -12288 ≤ (a - (a >>> ((7 : Int32) &&& 31))).toInt ∧ (a - (a >>> ((7 : Int32) &&& 31))).toInt ≤ 12288 := by
  have e : (a >>> ((7 : Int32) &&& 31)).toInt = a.toInt >>> 7 := pk_shr a _ 7 (by decide)
  rw [Int32.toInt_sub, e, Int.shiftRight_eq_div_pow, Int.bmod_eq_of_le (by omega) (by omega)]
  omega
theorem lims {a : Int32} (h : -12288 ≤ a.toInt ∧ a.toInt ≤ 12288) : ((15360 : Int32) - a).toInt = 15360 - a.toInt ∧ (a - (15360 : Int32)).toInt = a.toInt - 15360 ∧ a - (15360 : Int32) = -((15360 : Int32) - a) := by
  refine ⟨?_, ?_, ?_⟩
  · rw [Int32.toInt_sub, show (15360 : Int32).toInt = 15360 from rfl, Int.bmod_eq_of_le (by omega) (by omega)]
  · rw [Int32.toInt_sub, show (15360 : Int32).toInt = 15360 from rfl, Int.bmod_eq_of_le (by omega) (by omega)]
  · rw [Int32.neg_sub]
end
section
theorem nm_eq {α β : Type} (e : α) (k : α → Option β) : pq_nm e k = k e := rfl
theorem cl_eq {α β : Type} (a : α) (k : α → Option β) : pq_cl (some a) k = k a := rfl
theorem br_t1 {β : Type} {c : Prop} [Decidable c] (h : c) (a b : Option β) : pq_br c a b = a := if_pos h
theorem br_f1 {β : Type} {c : Prop} [Decidable c] (h : ¬ c) (a b : Option β) : pq_br c a b = b := if_neg h
theorem nq_sub192 (v : Int32) : v - (192 : Int32) = v + (-192 : Int32) := Int32.sub_eq_add_neg v 192
theorem nq_sub128 (v : Int32) : v - (128 : Int32) = v + (-128 : Int32) := Int32.sub_eq_add_neg v 128
section ADA
variable {b : Nat} {n g g0 : Nat → Int32}
theorem A1_key (hR : vA 24 b n g g0) (hb : b + 24 ≤ 192) (a x : Int32) (ha : -12288 ≤ a.toInt ∧ a.toInt ≤ 12288) : ∃ n2 g2, fX0_adaptA1_b49 x (upd n 7 a) = some n2 ∧ fX7_adapts_b258 (nI b) x a (upd g (b + 7) a) = some (a, g2) ∧ vA 24 b n2 g2 g0 ∧ n2 7 = a ∧ n2 5 = n 5 := by
  have r7 : (upd n 7 a) 7 = a := pk_us
  have hR1 := hR.up (j := 7) (by omega) a
  obtain ⟨l1, l2, l3⟩ := lims ha
  have hcut : fX7_cut x (a - (15360 : Int32)) ((15360 : Int32) - a) = some (tCut x (-((15360 : Int32) - a)) ((15360 : Int32) - a)) := by
    rw [eX7_cut _ _ _ (by rw [nq_le]; omega), l3]
  refine ⟨upd (upd n 7 a) 6 (tCut x (-((15360 : Int32) - a)) ((15360 : Int32) - a)), upd (upd g (b + 7) a) (b + 6) (tCut x (-((15360 : Int32) - a)) ((15360 : Int32) - a)), ?_, ?_, hR1.up (by omega) _, ?_, ?_⟩
  · unfold fX0_adaptA1_b49
    rw [rd_in (j := 7) (nq_z 7) (by omega) (by omega), r7]
    simp only [pq_nm]
    rw [eX6_cut]
    simp only [pq_cl, Option.bind_some]
    rw [wr_in (j := 6) (nq_z 6) (by omega) (by omega)]
  · unfold fX7_adapts_b258
    rw [hcut]
    simp only [pq_cl, Option.bind_some]
    rw [wr_in (j := b + 6) (ix_l b 6) (by omega) (by omega)]
  · rw [pk_un (by omega)]; exact r7
  · rw [pk_un (by omega), pk_un (by omega)]
theorem A1_both (hR : vA 24 b n g g0) (hb : b + 24 ≤ 192) (ds a : Int32) (ha : -12288 ≤ a.toInt ∧ a.toInt ≤ 12288) : ∃ n2 g2, fX0_adaptA1 ds (upd n 7 a) = some n2 ∧ fX7_adapts_b203 (nI b) (tSgn ds) ds (n 6) a g = some (a, g2) ∧ vA 24 b n2 g2 g0 ∧ n2 7 = a ∧ n2 5 = n 5 := by
  have r6 : (upd n 7 a) 6 = n 6 := pk_un (by omega)
  have r22 : (upd n 7 a) 22 = n 22 := pk_un (by omega)
  have hR1 := hR.up (j := 7) (by omega) a
  have s22 : (upd g (b + 7) a) (b + 22) = n 22 := (hR1.1 22 (by omega)).trans r22
  unfold fX0_adaptA1 fX7_adapts_b203
  rw [rd_in (j := 6) (nq_z 6) (by omega) (by omega), rd_in (j := 6) (nq_z 6) (by omega) (by omega), wr_in (j := b + 7) (ix_l b 7) (by omega) (by omega), r6]
  simp only [pq_nm, pq_br]
  by_cases h0 : ds = (0 : Int32)
  · rw [if_pos h0, if_pos h0]
    exact A1_key hR hb a _ ha
  · rw [if_neg h0, if_neg h0, eX6_sign, rd_in (j := b + 22) (ix_l b 22) (by omega) (by omega), s22]
    simp only [pq_cl, Option.bind_some]
    rw [rd_in (j := 22) (nq_z 22) (by omega) (by omega), r22]
    by_cases h1 : tSgn ds = n 22
    · rw [if_pos h1, if_pos h1]
      rw [fX0_adaptA1_b47, fX7_adapts_b256, nm_eq]
      exact A1_key hR hb a _ ha
    · rw [if_neg h1, if_neg h1]
      rw [fX0_adaptA1_b47, fX7_adapts_b256, nm_eq]
      rw [nq_sub192]
      exact A1_key hR hb a _ ha
theorem A2_nudge (hR : vA 24 b n g g0) (hb : b + 24 ≤ 192) (ds v a : Int32) (u : Int32) : ∃ a', (-12288 ≤ a'.toInt ∧ a'.toInt ≤ 12288) ∧ fX0_adaptA2_b100 (a + u) (tSgn ds) n = some (upd n 7 a') ∧ fX7_adapts_b96 (nI b) (tSgn ds) ds v a u g = fX7_adapts_b203 (nI b) (tSgn ds) ds v a' g := by
  unfold fX0_adaptA2_b100 fX7_adapts_b96
  rw [rd_in (j := 23) (nq_z 23) (by omega) (by omega)]
  simp only [pq_nm]
  rw [rd_in (j := b + 23) (ix_l b 23) (by omega) (by omega), hR.1 23 (by decide)]
  generalize a + u = q
  simp only [pq_br]
  by_cases h1 : tSgn ds = n 23
  · rw [if_pos h1, if_pos h1]
    obtain ⟨w, e1, e2, e3⟩ := nudge_rng q (d := 128) (Or.inl rfl)
    refine ⟨w, ⟨e2, e3⟩, ?_, ?_⟩
    · unfold fX0_adaptA2_b120 fX0_adaptA2_b124
      rw [e1]
      simp only [pq_cl, Option.bind_some]
      rw [wr_in (j := 7) (nq_z 7) (by omega) (by omega)]
    · unfold fX7_adapts_b117 fX7_adapts_b133 fX7_adapts_b149 fX7_adapts_b201
      unfold fX0_nudgedA2 at e1
      simp only [pq_br] at e1 ⊢
      rw [if_neg (by decide), if_neg (by decide)]
      rw [show ((-12288 : Int32) - 128) = -12416 from by decide, show ((12288 : Int32) - 128) = 12160 from by decide] at e1
      by_cases h2 : (-12416 : Int32) < q
      · rw [if_pos h2] at e1 ⊢
        by_cases h3 : q < (12160 : Int32)
        · rw [if_pos h3] at e1 ⊢
          rw [if_neg (by decide), Option.some.inj e1]
        · rw [if_neg h3] at e1 ⊢
          rw [Option.some.inj e1]
      · rw [if_neg h2] at e1 ⊢
        rw [Option.some.inj e1]
  · rw [if_neg h1, if_neg h1]
    obtain ⟨w, e1, e2, e3⟩ := nudge_rng q (d := -128) (Or.inr rfl)
    refine ⟨w, ⟨e2, e3⟩, ?_, ?_⟩
    · unfold fX0_adaptA2_b120 fX0_adaptA2_b124
      rw [e1]
      simp only [pq_cl, Option.bind_some]
      rw [wr_in (j := 7) (nq_z 7) (by omega) (by omega)]
    · unfold fX7_adapts_b117 fX7_adapts_b133 fX7_adapts_b149 fX7_adapts_b201
      unfold fX0_nudgedA2 at e1
      simp only [pq_br] at e1 ⊢
      rw [if_pos (by decide), if_pos (by decide)]
      rw [show ((-12288 : Int32) - (-128)) = -12160 from by decide, show ((12288 : Int32) - (-128)) = 12416 from by decide] at e1
      by_cases h2 : (-12160 : Int32) < q
      · rw [if_pos h2] at e1 ⊢
        by_cases h3 : q < (12416 : Int32)
        · rw [if_pos h3] at e1 ⊢
          rw [if_pos (by decide), nq_sub128, Option.some.inj e1]
        · rw [if_neg h3] at e1 ⊢
          rw [Option.some.inj e1]
      · rw [if_neg h2] at e1 ⊢
        rw [Option.some.inj e1]
theorem A2_u (hR : vA 24 b n g g0) (hb : b + 24 ≤ 192) (ds v a u : Int32) : ∃ a', (-12288 ≤ a'.toInt ∧ a'.toInt ≤ 12288) ∧ fX0_adaptA2_b57 a (tSgn ds) u n = some (upd n 7 a') ∧ fX7_adapts_b60 (nI b) (tSgn ds) ds v a u g = fX7_adapts_b203 (nI b) (tSgn ds) ds v a' g := by
  unfold fX0_adaptA2_b57 fX7_adapts_b60
  simp only [pq_br, pq_nm]
  by_cases h1 : (-8191 : Int32) ≤ u
  · rw [if_pos h1, if_pos h1]
    by_cases h2 : u ≤ (8191 : Int32)
    · rw [if_pos h2, if_pos h2]
      exact A2_nudge hR hb ds v a _
    · rw [if_neg h2, if_neg h2]
      exact A2_nudge hR hb ds v a _
  · rw [if_neg h1, if_neg h1]
    exact A2_nudge hR hb ds v a _
theorem A2_both (hR : vA 24 b n g g0) (hb : b + 24 ≤ 192) (ds : Int32) (hi : -12288 ≤ (n 7).toInt ∧ (n 7).toInt ≤ 12288) : ∃ a, (-12288 ≤ a.toInt ∧ a.toInt ≤ 12288) ∧ fX0_adaptA2 ds n = some (upd n 7 a) ∧ fX7_adapts (nI b) (tSgn ds) ds g = fX7_adapts_b203 (nI b) (tSgn ds) ds (n 6) a g := by
  unfold fX0_adaptA2 fX7_adapts
  rw [rd_in (j := 7) (nq_z 7) (by omega) (by omega), rd_in (j := 7) (nq_z 7) (by omega) (by omega), rd_in (j := b + 6) (ix_l b 6) (by omega) (by omega), rd_in (j := b + 7) (ix_l b 7) (by omega) (by omega), rd_in (j := b + 7) (ix_l b 7) (by omega) (by omega), hR.1 6 (by decide), hR.1 7 (by decide)]
  simp only [pq_nm, pq_br]
  by_cases h0 : ds = (0 : Int32)
  · rw [if_pos h0, if_pos h0]
    refine ⟨_, leak_rng hi, ?_, rfl⟩
    unfold fX0_adaptA2_b124
    rw [wr_in (j := 7) (nq_z 7) (by omega) (by omega)]
  · rw [if_neg h0, if_neg h0, eX6_sign, rd_in (j := b + 22) (ix_l b 22) (by omega) (by omega), hR.1 22 (by decide)]
    simp only [pq_cl, Option.bind_some]
    rw [rd_in (j := 22) (nq_z 22) (by omega) (by omega)]
    by_cases h1 : tSgn ds = n 22
    · rw [if_pos h1, if_pos h1, rd_in (j := 6) (nq_z 6) (by omega) (by omega)]
      exact A2_u hR hb ds _ _ _
    · rw [if_neg h1, if_neg h1, rd_in (j := 6) (nq_z 6) (by omega) (by omega)]
      exact A2_u hR hb ds _ _ _
theorem adapts_both (hR : vA 24 b n g g0) (hb : b + 24 ≤ 192) (ds : Int32) (hi : -12288 ≤ (n 7).toInt ∧ (n 7).toInt ≤ 12288) : ∃ n1 n2 g2 a, fX0_adaptA2 ds n = some n1 ∧ fX0_adaptA1 ds n1 = some n2 ∧ fX7_adapts (nI b) (tSgn ds) ds g = some (a, g2) ∧ vA 24 b n2 g2 g0 ∧ n2 7 = a ∧ (-12288 ≤ a.toInt ∧ a.toInt ≤ 12288) ∧ n2 5 = n 5 := by
  obtain ⟨a, h1, h2, h3⟩ := A2_both hR hb ds hi
  obtain ⟨n2, g2, k1, k2, k3, k4, k5⟩ := A1_both hR hb ds a h1
  exact ⟨_, n2, g2, a, h2, k1, h3.trans k2, k3, k4, h1, k5⟩
end ADA
end
section
section ZER
variable {b k : Nat} {g0 t2 t3 t4 t5 w2 w3 w4 w5 p2 p3 p4 p5 : Nat → Int32} {Z E Y : Int32}
theorem zer_ix (b i j : Nat) (c : Int32) (hc : c = nI j) : (nI b + c) + nI i = nI (b + (j + i)) := by
  subst hc
  rw [nI_add, nI_add, Nat.add_assoc]
theorem not6 {i : Nat} (h : i < 6) : ¬ (6 : Int32) ≤ nI i := by
  rw [nq_le, nI_toInt (by omega)]
  have : (6 : Int32).toInt = 6 := rfl
  omega
theorem zer_loop (hk : 2 ≤ k ∧ k ≤ 5) (hb : b + 24 ≤ 192) (c y t bl sr tr p a : Int32) : ∀ (f1 f2 i : Nat) (n g : Nat → Int32), vA 24 b n g g0 → i ≤ 6 → 7 ≤ f1 + i → 7 ≤ f2 + i →
    ∃ n1 g1, fX0_adaptZeros_b19 (nI k) f1 t bl (if nI k = (5 : Int32) then (9 : Int32) else 8) (nI i) n = some n1 ∧ fX7_comes_b342 Z E Y t2 t3 t4 t5 w2 w3 w4 w5 p2 p3 p4 p5 f2 (nI k) c (nI b) y t bl sr tr p a (nI i) g = fX7_comes_b453 Z E Y t2 t3 t4 t5 w2 w3 w4 w5 p2 p3 p4 p5 (nI k) c (nI b) y t bl sr tr p a g1 ∧ vA 24 b n1 g1 g0 ∧ ∀ j, (j < 8 ∨ 14 ≤ j) → n1 j = n j := by
  intro f1
  induction f1 with
  | zero => intro f2 i n g hR h1 h2 h3; exact absurd h2 (by omega)
  | succ f1 ih =>
    intro f2 i n g hR h1 h2 h3
    cases f2 with
    | zero => exact absurd h3 (by omega)
    | succ f2 =>
      rw [fX0_adaptZeros_b19, fX7_comes_b342]
      by_cases h6 : i = 6
      · subst h6
        refine ⟨n, g, br_t1 (by decide) _ _, br_t1 (by decide) _ _, hR, fun _ _ => rfl⟩
      · have hi : i < 6 := by omega
        have hn := not6 hi
        rw [br_f1 hn, br_f1 hn, rd_in (j := 8 + i) (ix_r i 8) (by omega) (by omega), rd_in (j := b + (8 + i)) (zer_ix b i 8 8 rfl) (by omega) (by omega), hR.1 (8 + i) (by omega), nm_eq]
        -- one turn
        have turn : ∀ x : Int32, ∃ n1 g1, fX0_adaptZeros_b86 (fX0_adaptZeros_b19 (nI k) f1) (nI k) t bl (if nI k = (5 : Int32) then (9 : Int32) else 8) (nI i) x n = some n1 ∧ fX7_comes_b428 (fX7_comes_b342 Z E Y t2 t3 t4 t5 w2 w3 w4 w5 p2 p3 p4 p5 f2) Z E Y t2 t3 t4 t5 w2 w3 w4 w5 p2 p3 p4 p5 (nI k) c (nI b) y t bl sr tr p a (nI i) x g = fX7_comes_b453 Z E Y t2 t3 t4 t5 w2 w3 w4 w5 p2 p3 p4 p5 (nI k) c (nI b) y t bl sr tr p a g1 ∧ vA 24 b n1 g1 g0 ∧ ∀ j, (j < 8 ∨ 14 ≤ j) → n1 j = n j := by
          intro x
          rw [fX0_adaptZeros_b86, fX7_comes_b428, eX6_wrapped, eX7_wrapped, cl_eq, cl_eq, wr_in (j := 8 + i) (ix_r i 8) (by omega) (by omega), wr_in (j := b + (8 + i)) (zer_ix b i 8 8 rfl) (by omega) (by omega), nm_eq, nm_eq, nI_1]
          obtain ⟨n1, g1, q1, q2, q3, q4⟩ := ih f2 (i + 1) _ _ (hR.up (j := 8 + i) (by omega) (tWrap x)) (by omega) (by omega) (by omega)
          exact ⟨n1, g1, q1, q2, q3, fun j hj => by rw [q4 j hj, pk_un (by omega)]⟩
        have next : ∀ x : Int32, ∃ n1 g1, (pq_br (t = (0 : Int32)) (fX0_adaptZeros_b86 (fX0_adaptZeros_b19 (nI k) f1) (nI k) t bl (if nI k = (5 : Int32) then (9 : Int32) else 8) (nI i) x n) (pq_rd 24 n ((16 : Int32) + nI i) fun (v10 : Int32) => pq_br ((0 : Int32) ≤ v10) (fX0_adaptZeros_b72 (fX0_adaptZeros_b19 (nI k) f1) (nI k) t bl (if nI k = (5 : Int32) then (9 : Int32) else 8) (nI i) x bl (0 : Int32) n) (fX0_adaptZeros_b72 (fX0_adaptZeros_b19 (nI k) f1) (nI k) t bl (if nI k = (5 : Int32) then (9 : Int32) else 8) (nI i) x bl (1 : Int32) n))) = some n1 ∧ (pq_br (t = (0 : Int32)) (fX7_comes_b428 (fX7_comes_b342 Z E Y t2 t3 t4 t5 w2 w3 w4 w5 p2 p3 p4 p5 f2) Z E Y t2 t3 t4 t5 w2 w3 w4 w5 p2 p3 p4 p5 (nI k) c (nI b) y t bl sr tr p a (nI i) x g) (pq_rd 192 g ((nI b + (16 : Int32)) + nI i) fun (v167 : Int32) => pq_br ((0 : Int32) ≤ v167) (fX7_comes_b414 (fX7_comes_b342 Z E Y t2 t3 t4 t5 w2 w3 w4 w5 p2 p3 p4 p5 f2) Z E Y t2 t3 t4 t5 w2 w3 w4 w5 p2 p3 p4 p5 (nI k) c (nI b) y t bl sr tr p a (nI i) x bl (0 : Int32) g) (fX7_comes_b414 (fX7_comes_b342 Z E Y t2 t3 t4 t5 w2 w3 w4 w5 p2 p3 p4 p5 f2) Z E Y t2 t3 t4 t5 w2 w3 w4 w5 p2 p3 p4 p5 (nI k) c (nI b) y t bl sr tr p a (nI i) x bl (1 : Int32) g))) = fX7_comes_b453 Z E Y t2 t3 t4 t5 w2 w3 w4 w5 p2 p3 p4 p5 (nI k) c (nI b) y t bl sr tr p a g1 ∧ vA 24 b n1 g1 g0 ∧ ∀ j, (j < 8 ∨ 14 ≤ j) → n1 j = n j := by
          intro x
          by_cases ht : t = (0 : Int32)
          · rw [br_t1 ht, br_t1 ht]; exact turn x
          · rw [br_f1 ht, br_f1 ht, rd_in (j := 16 + i) (ix_r i 16) (by omega) (by omega), rd_in (j := b + (16 + i)) (zer_ix b i 16 16 rfl) (by omega) (by omega), hR.1 (16 + i) (by omega)]
            have sgn : ∀ z : Int32, ∃ n1 g1, fX0_adaptZeros_b72 (fX0_adaptZeros_b19 (nI k) f1) (nI k) t bl (if nI k = (5 : Int32) then (9 : Int32) else 8) (nI i) x bl z n = some n1 ∧ fX7_comes_b414 (fX7_comes_b342 Z E Y t2 t3 t4 t5 w2 w3 w4 w5 p2 p3 p4 p5 f2) Z E Y t2 t3 t4 t5 w2 w3 w4 w5 p2 p3 p4 p5 (nI k) c (nI b) y t bl sr tr p a (nI i) x bl z g = fX7_comes_b453 Z E Y t2 t3 t4 t5 w2 w3 w4 w5 p2 p3 p4 p5 (nI k) c (nI b) y t bl sr tr p a g1 ∧ vA 24 b n1 g1 g0 ∧ ∀ j, (j < 8 ∨ 14 ≤ j) → n1 j = n j := by
              intro z
              rw [fX0_adaptZeros_b72, fX7_comes_b414]
              by_cases hz : bl = z
              · rw [br_t1 hz, br_t1 hz, fX0_adaptZeros_b83, fX7_comes_b425, nm_eq, nm_eq]; exact turn _
              · rw [br_f1 hz, br_f1 hz, fX0_adaptZeros_b83, fX7_comes_b425, nm_eq, nm_eq]; exact turn _
            by_cases hs : (0 : Int32) ≤ n (16 + i)
            · rw [br_t1 hs, br_t1 hs]; exact sgn 0
            · rw [br_f1 hs, br_f1 hs]; exact sgn 1
        by_cases h5 : nI k = (5 : Int32)
        · rw [br_t1 h5, fX7_comes_b380, nm_eq, if_pos h5]
          have := next (n (8 + i) - (n (8 + i) >>> ((9 : Int32) &&& 31)))
          rw [if_pos h5] at this
          exact this
        · rw [br_f1 h5, fX7_comes_b380, nm_eq, if_neg h5]
          have := next (n (8 + i) - (n (8 + i) >>> ((8 : Int32) &&& 31)))
          rw [if_neg h5] at this
          exact this
theorem zer_both (hk : 2 ≤ k ∧ k ≤ 5) (hb : b + 24 ≤ 192) (c y t bl sr tr p a : Int32) {n g : Nat → Int32} (hR : vA 24 b n g g0) : ∃ n1 g1, fX0_adaptZeros t bl (nI k) n = some n1 ∧ fX7_comes_b342 Z E Y t2 t3 t4 t5 w2 w3 w4 w5 p2 p3 p4 p5 1100 (nI k) c (nI b) y t bl sr tr p a (0 : Int32) g = fX7_comes_b453 Z E Y t2 t3 t4 t5 w2 w3 w4 w5 p2 p3 p4 p5 (nI k) c (nI b) y t bl sr tr p a g1 ∧ vA 24 b n1 g1 g0 ∧ ∀ j, (j < 8 ∨ 14 ≤ j) → n1 j = n j := by
  have h := zer_loop (t2 := t2) (t3 := t3) (t4 := t4) (t5 := t5) (w2 := w2) (w3 := w3) (w4 := w4) (w5 := w5) (p2 := p2) (p3 := p3) (p4 := p4) (p5 := p5) (Z := Z) (E := E) (Y := Y) hk hb c y t bl sr tr p a 1100 1100 0 n g hR (by omega) (by omega) (by omega)
  rw [show (fX0_adaptZeros t bl (nI k) n) = fX0_adaptZeros_b19 (nI k) 1100 t bl (if nI k = (5 : Int32) then (9 : Int32) else 8) (nI 0) n from by
    rw [fX0_adaptZeros]
    by_cases h5 : nI k = (5 : Int32)
    · rw [br_t1 h5, if_pos h5]; rfl
    · rw [br_f1 h5, if_neg h5]; rfl]
  exact h
theorem fgt_loop (hb : b + 24 ≤ 192) (c y t bl sr tr p a kk : Int32) : ∀ (f1 f2 i : Nat) (n g : Nat → Int32), vA 24 b n g g0 → i ≤ 6 → 7 ≤ f1 + i → 7 ≤ f2 + i →
    ∃ n1 g1, fX0_forgetFilters_b18 f1 (nI i) n = some n1 ∧ fX7_comes_b300 Z E Y t2 t3 t4 t5 w2 w3 w4 w5 p2 p3 p4 p5 f2 kk c (nI b) y t bl sr tr p a (nI (8 + i)) g = fX7_comes_b453 Z E Y t2 t3 t4 t5 w2 w3 w4 w5 p2 p3 p4 p5 kk c (nI b) y t bl sr tr p a g1 ∧ vA 24 b n1 g1 g0 ∧ ∀ j, (j < 8 ∨ 14 ≤ j) → n1 j = n j := by
  intro f1
  induction f1 with
  | zero => intro f2 i n g hR h1 h2 h3; exact absurd h2 (by omega)
  | succ f1 ih =>
    intro f2 i n g hR h1 h2 h3
    cases f2 with
    | zero => exact absurd h3 (by omega)
    | succ f2 =>
      rw [fX0_forgetFilters_b18, fX7_comes_b300]
      by_cases h6 : i = 6
      · subst h6
        refine ⟨n, g, br_t1 (by decide) _ _, br_t1 (by decide) _ _, hR, fun _ _ => rfl⟩
      · have hi : i < 6 := by omega
        have hn := not6 hi
        have hn2 : ¬ (14 : Int32) ≤ nI (8 + i) := by
          rw [nq_le, nI_toInt (by omega)]
          have : (14 : Int32).toInt = 14 := rfl
          omega
        rw [br_f1 hn, br_f1 hn2, wr_in (j := 8 + i) (ix_r i 8) (by omega) (by omega), wr_in (j := b + (8 + i)) (nI_add b (8 + i)) (by omega) (by omega), nm_eq, nm_eq, nI_1, nI_1]
        obtain ⟨n1, g1, q1, q2, q3, q4⟩ := ih f2 (i + 1) _ _ (hR.up (j := 8 + i) (by omega) 0) (by omega) (by omega) (by omega)
        exact ⟨n1, g1, q1, q2, q3, fun j hj => by rw [q4 j hj, pk_un (by omega)]⟩
theorem fgt_both (hb : b + 24 ≤ 192) (c y t bl sr tr p a kk : Int32) {n g : Nat → Int32} (hR : vA 24 b n g g0) : ∃ n1 g1, fX0_forgetFilters n = some n1 ∧ fX7_comes_b300 Z E Y t2 t3 t4 t5 w2 w3 w4 w5 p2 p3 p4 p5 1100 kk c (nI b) y t bl sr tr p a (6 : Int32) g = fX7_comes_b453 Z E Y t2 t3 t4 t5 w2 w3 w4 w5 p2 p3 p4 p5 kk c (nI b) y t bl sr tr p a g1 ∧ vA 24 b n1 g1 g0 ∧ n1 7 = 0 ∧ n1 5 = n 5 := by
  rw [fX0_forgetFilters, wr_in (j := 6) (nq_z 6) (by omega) (by omega), wr_in (j := 7) (nq_z 7) (by omega) (by omega)]
  rw [fX7_comes_b300, br_f1 (by decide), wr_in (j := b + 6) (ix_l b 6) (by omega) (by omega), nm_eq]
  rw [show (6 : Int32) + 1 = 7 from by decide, fX7_comes_b300, br_f1 (by decide), wr_in (j := b + 7) (ix_l b 7) (by omega) (by omega), nm_eq, show (7 : Int32) + 1 = nI (8 + 0) from by decide]
  obtain ⟨n1, g1, q1, q2, q3, q4⟩ := fgt_loop (t2 := t2) (t3 := t3) (t4 := t4) (t5 := t5) (w2 := w2) (w3 := w3) (w4 := w4) (w5 := w5) (p2 := p2) (p3 := p3) (p4 := p4) (p5 := p5) (Z := Z) (E := E) (Y := Y) hb c y t bl sr tr p a kk 1100 1098 0 _ _ ((hR.up (j := 6) (by omega) 0).up (j := 7) (by omega) 0) (by omega) (by omega) (by omega)
  exact ⟨n1, g1, q1, q2, q3, by rw [q4 7 (by omega), pk_us], by rw [q4 5 (by omega), pk_un (by omega), pk_un (by omega)]⟩
/-! FLOAT -/
theorem flo_both {t : Nat} (ht : t < 32768) (s : Int32) : ∃ v, fX0_floatOf (nI t) s = some v ∧ fX7_floated (nI t) s = some v := by
  unfold fX0_floatOf fX7_floated
  obtain ⟨r, hr, er, -⟩ := size_some (nI t)
  rw [eX7_size, er, cl_eq, cl_eq]
  have fin : ∀ x : Int32, ∃ v, fX0_floatOf_b30 s x = some v ∧ fX7_floated_b26 s x = some v := by
    intro x
    unfold fX0_floatOf_b30 fX7_floated_b26 pq_br
    split <;> exact ⟨_, rfl, rfl⟩
  by_cases h0 : t = 0
  · subst h0
    rw [br_t1 (by decide), br_t1 (by decide)]
    exact fin _
  · rw [br_f1 (nI_nle (by omega) (by omega)), br_f1 (nI_ne0 (by omega) (by omega)), br_f1 (by rw [nq_le, nI_toInt (by omega)]; have : (32768 : Int32).toInt = 32768 := rfl; omega), nm_eq]
    exact fin _
end ZER
end
section
section REM
variable {b k c : Nat} {g0 t2 t3 t4 t5 w2 w3 w4 w5 p2 p3 p4 p5 : Nat → Int32} {Z E Y : Int32}
/-- the end: PACE, AP -/
theorem pace_both (hP : mt4 p2 p3 p4 p5 lP2 lP3 lP4 lP5) (hk : 2 ≤ k ∧ k ≤ 5) (hc : c < 2 ^ k) (hb : b + 24 ≤ 192) (y sr tr td : Int32) (htr : tr = 0 ∨ tr = 1) (htd : td = 0 ∨ td = 1) {n g : Nat → Int32} (hR : vA 24 b n g g0) (h7 : -12288 ≤ (n 7).toInt ∧ (n 7).toInt ≤ 12288) (bb se sz : Int32) :
    sm (fun (u : Int32 × (Nat → Int32)) (w : Int32 × (Nat → Int32)) => u.1 = sr ∧ w.1 = tLim (sr * 4) ∧ vA 24 b u.2 w.2 g0 ∧ inv u.2) (fX0_settle_b193 bb se sz y (nI (tPl k c)) sr tr (5 : Int32) td n) (fX7_comes_b635 Z E Y t2 t3 t4 t5 w2 w3 w4 w5 p2 p3 p4 p5 (nI k) (nI c) (nI b) y sr tr (nI b + (5 : Int32)) td g) := by
  rw [fX0_settle_b193, fX7_comes_b635]
  refine sv_wr hR (j := 5) rfl (nI_add b 5) (by omega) (by omega) hb (by omega) rfl (fun n1 g1 e1 hR => ?_)
  have q7 : n1 7 = n 7 := by rw [e1, pk_un (by omega)]
  have q5 : n1 5 = td := by rw [e1, pk_us]
  refine sm_rdL (j := tPl k c) rfl (place_eq hk hc).2 (by omega) ?_
  refine sm_clR (pace_eq hP hk hc) ?_
  rw [fX0_adaptPace]
  generalize pq_t_PACE (tPl k c) = F
  -- the class's pace is a program of its own: its end is the end here
  have end4 : ∀ (n2 g2 : Nat → Int32) (v v' : Int32), vA 24 b n2 g2 g0 → n2 7 = n 7 → n2 5 = td → v = v' → sm (fun (u : Int32 × (Nat → Int32)) (w : Int32 × (Nat → Int32)) => u.1 = sr ∧ w.1 = tLim (sr * 4) ∧ vA 24 b u.2 w.2 g0 ∧ inv u.2) (pq_cl (pq_wr 24 n2 (4 : Int32) v fun (f56 : Nat → Int32) => some (f56)) fun (f52 : Nat → Int32) => some (sr, f52)) (pq_wr 192 g2 (nI b + (4 : Int32)) v' fun (f154 : Nat → Int32) => fX7_comes_b844 Z E Y t2 t3 t4 t5 w2 w3 w4 w5 p2 p3 p4 p5 sr f154) := by
    intro n2 g2 v v' hR2 z7 z5 hv
    subst hv
    rw [wr_in (j := 4) (nq_z 4) (by omega) (by omega), wr_in (j := b + 4) (ix_l b 4) (by omega) (by omega), cl_eq, fX7_comes_b844, eX7_limited, cl_eq]
    refine sm_ret ⟨rfl, rfl, hR2.up (j := 4) (by omega) v, ?_, ?_⟩
    · show upd n2 4 v 5 = 0 ∨ upd n2 4 v 5 = 1
      rw [pk_un (by omega), z5]; exact htd
    · show -12288 ≤ (upd n2 4 v 7).toInt ∧ (upd n2 4 v 7).toInt ≤ 12288
      rw [pk_un (by omega), z7]; exact h7
  rw [rd_in (j := 2) (nq_z 2) (by omega) (by omega), rd_in (j := 2) (nq_z 2) (by omega) (by omega), wr_in (j := 2) (nq_z 2) (by omega) (by omega)]
  rw [rd_in (j := b + 2) (ix_l b 2) (by omega) (by omega), rd_in (j := b + 2) (ix_l b 2) (by omega) (by omega), wr_in (j := b + 2) (ix_l b 2) (by omega) (by omega), hR.1 2 (by omega)]
  have hR2 := hR.up (j := 2) (by omega) (n1 2 + ((F - n1 2) >>> ((5 : Int32) &&& 31)))
  generalize e2 : upd n1 2 (n1 2 + ((F - n1 2) >>> ((5 : Int32) &&& 31))) = n2 at hR2 ⊢
  generalize upd g1 (b + 2) (n1 2 + ((F - n1 2) >>> ((5 : Int32) &&& 31))) = g2 at hR2 ⊢
  have z7 : n2 7 = n 7 := by rw [← e2, pk_un (by omega)]; exact q7
  have z5 : n2 5 = td := by rw [← e2, pk_un (by omega)]; exact q5
  rw [rd_in (j := 3) (nq_z 3) (by omega) (by omega), rd_in (j := 3) (nq_z 3) (by omega) (by omega), wr_in (j := 3) (nq_z 3) (by omega) (by omega)]
  rw [rd_in (j := b + 3) (ix_l b 3) (by omega) (by omega), rd_in (j := b + 3) (ix_l b 3) (by omega) (by omega), wr_in (j := b + 3) (ix_l b 3) (by omega) (by omega), hR2.1 3 (by omega)]
  have hR3 := hR2.up (j := 3) (by omega) (n2 3 + ((((4 : Int32) * F) - n2 3) >>> ((7 : Int32) &&& 31)))
  generalize e3 : upd n2 3 (n2 3 + ((((4 : Int32) * F) - n2 3) >>> ((7 : Int32) &&& 31))) = n3 at hR3 ⊢
  generalize upd g2 (b + 3) (n2 3 + ((((4 : Int32) * F) - n2 3) >>> ((7 : Int32) &&& 31))) = g3 at hR3 ⊢
  have y7 : n3 7 = n 7 := by rw [← e3, pk_un (by omega)]; exact z7
  have y5 : n3 5 = td := by rw [← e3, pk_un (by omega)]; exact z5
  rw [rd_in (j := 2) (nq_z 2) (by omega) (by omega), rd_in (j := 3) (nq_z 3) (by omega) (by omega), nq_abs, nm_eq]
  have fast : sm (fun (u : Int32 × (Nat → Int32)) (w : Int32 × (Nat → Int32)) => u.1 = sr ∧ w.1 = tLim (sr * 4) ∧ vA 24 b u.2 w.2 g0 ∧ inv u.2) (pq_cl (fX0_adaptPace_b108 y n3) fun (f52 : Nat → Int32) => some (sr, f52)) (fX7_comes_b830 Z E Y t2 t3 t4 t5 w2 w3 w4 w5 p2 p3 p4 p5 (nI b) sr (nI b + (4 : Int32)) (n3 4) (512 : Int32) g3) := by
    rw [fX0_adaptPace_b108, fX7_comes_b830, rd_in (j := 4) (nq_z 4) (by omega) (by omega), rd_in (j := 4) (nq_z 4) (by omega) (by omega), rd_in (j := b + 4) (ix_l b 4) (by omega) (by omega), hR3.1 4 (by omega)]
    exact end4 n3 g3 _ _ hR3 y7 y5 rfl
  rcases htr with rfl | rfl
  · rw [br_t1 rfl]
    have slow : ∀ s0 : Int32, fX7_comes_b778 Z E Y t2 t3 t4 t5 w2 w3 w4 w5 p2 p3 p4 p5 (nI b) sr (0 : Int32) s0 g3 = pq_br (s0 = (0 : Int32)) (fX7_comes_b830 Z E Y t2 t3 t4 t5 w2 w3 w4 w5 p2 p3 p4 p5 (nI b) sr (nI b + (4 : Int32)) (n3 4) (0 : Int32) g3) (fX7_comes_b830 Z E Y t2 t3 t4 t5 w2 w3 w4 w5 p2 p3 p4 p5 (nI b) sr (nI b + (4 : Int32)) (n3 4) (512 : Int32) g3) := by
      intro s0
      rw [fX7_comes_b778, br_f1 (by decide), rd_in (j := b + 4) (ix_l b 4) (by omega) (by omega), hR3.1 4 (by omega)]
    by_cases hy : y < (1536 : Int32)
    · rw [br_t1 hy, br_t1 hy, fX7_comes_b773, slow, br_f1 (by decide)]
      exact fast
    · rw [br_f1 hy, br_f1 hy, rd_in (j := 5) (nq_z 5) (by omega) (by omega), rd_in (j := b + 5) (ix_l b 5) (by omega) (by omega), hR3.1 5 (by omega)]
      by_cases h5 : n3 5 = (1 : Int32)
      · rw [br_t1 h5, br_t1 h5, fX7_comes_b773, slow, br_f1 (by decide)]
        exact fast
      · rw [br_f1 h5, br_f1 h5, rd_in (j := 3) (nq_z 3) (by omega) (by omega), rd_in (j := b + 2) (ix_l b 2) (by omega) (by omega), rd_in (j := b + 3) (ix_l b 3) (by omega) (by omega), hR3.1 2 (by omega), hR3.1 3 (by omega), eX7_amount, cl_eq, rd_in (j := b + 3) (ix_l b 3) (by omega) (by omega), hR3.1 3 (by omega)]
        by_cases ha : tAbs ((4 : Int32) * n3 2 - n3 3) < n3 3 >>> ((3 : Int32) &&& 31)
        · rw [br_t1 ha, br_t1 ha, slow, br_t1 rfl, fX7_comes_b830, rd_in (j := 4) (nq_z 4) (by omega) (by omega), rd_in (j := 4) (nq_z 4) (by omega) (by omega), rd_in (j := b + 4) (ix_l b 4) (by omega) (by omega), hR3.1 4 (by omega), nq_zsub]
          exact end4 n3 g3 _ _ hR3 y7 y5 rfl
        · rw [br_f1 ha, br_f1 ha, fX7_comes_b773, slow, br_f1 (by decide)]
          exact fast
  · rw [br_f1 (by decide)]
    have all : ∀ s0 : Int32, fX7_comes_b778 Z E Y t2 t3 t4 t5 w2 w3 w4 w5 p2 p3 p4 p5 (nI b) sr (1 : Int32) s0 g3 = (pq_wr 192 g3 (nI b + (4 : Int32)) (256 : Int32) fun (f146 : Nat → Int32) => fX7_comes_b844 Z E Y t2 t3 t4 t5 w2 w3 w4 w5 p2 p3 p4 p5 sr f146) := by
      intro s0
      rw [fX7_comes_b778, br_t1 rfl]
    have e0 : fX7_comes_b773 Z E Y t2 t3 t4 t5 w2 w3 w4 w5 p2 p3 p4 p5 (nI b) sr (1 : Int32) g3 = (pq_wr 192 g3 (nI b + (4 : Int32)) (256 : Int32) fun (f146 : Nat → Int32) => fX7_comes_b844 Z E Y t2 t3 t4 t5 w2 w3 w4 w5 p2 p3 p4 p5 sr f146) := by rw [fX7_comes_b773, all]
    rw [e0, all]
    by_cases hy : y < (1536 : Int32)
    · rw [br_t1 hy]
      exact end4 n3 g3 _ _ hR3 y7 y5 rfl
    · rw [br_f1 hy, rd_in (j := b + 5) (ix_l b 5) (by omega) (by omega)]
      refine sm_brR (fun _ => end4 n3 g3 _ _ hR3 y7 y5 rfl) (fun _ => ?_)
      rw [rd_in (j := b + 2) (ix_l b 2) (by omega) (by omega), rd_in (j := b + 3) (ix_l b 3) (by omega) (by omega), eX7_amount, cl_eq, rd_in (j := b + 3) (ix_l b 3) (by omega) (by omega)]
      exact sm_brR (fun _ => end4 n3 g3 _ _ hR3 y7 y5 rfl) (fun _ => end4 n3 g3 _ _ hR3 y7 y5 rfl)
end REM
end
section
theorem wrap_rng (v : Int32) : -32768 ≤ (tWrap v).toInt ∧ (tWrap v).toInt ≤ 32767 := by
  unfold tWrap
  rw [Int16.toInt_toInt32]
  exact ⟨Int16.le_toInt _, Int16.toInt_le _⟩
theorem abs_rng {v : Int32} (h : -32768 ≤ v.toInt ∧ v.toInt ≤ 32767) (h2 : ¬ v = (-32768 : Int32)) : ∃ j : Nat, j < 32768 ∧ tAbs v = nI j := by
  have h3 : v.toInt ≠ -32768 := fun q => h2 ((nq_eq _ _).mpr q)
  unfold tAbs
  by_cases h0 : (0 : Int32) ≤ v
  · rw [if_pos h0]
    rw [nq_le] at h0
    obtain ⟨j, q1, q2, q3⟩ := nq_of (x := v) h0
    exact ⟨j, by omega, q2⟩
  · rw [if_neg h0]
    rw [nq_le] at h0
    have z : (0 : Int32).toInt = 0 := rfl
    have e : (-v).toInt = -v.toInt := by rw [Int32.toInt_neg, Int.bmod_eq_of_le (by omega) (by omega)]
    obtain ⟨j, q1, q2, q3⟩ := nq_of (x := -v) (by omega)
    exact ⟨j, by omega, q2⟩
section REM
variable {b k c : Nat} {g0 t2 t3 t4 t5 w2 w3 w4 w5 p2 p3 p4 p5 : Nat → Int32} {Z E Y : Int32}
theorem shf_loop (hb : b + 24 ≤ 192) (kk cc y t bl sr tr p a : Int32) : ∀ (i f1 f2 : Nat) (n g : Nat → Int32), vA 24 b n g g0 → i ≤ 5 → i < f1 → i < f2 →
    ∃ n1 g1 e1 e2, (∀ a1 a2 a3 : Int32, fX0_remember_b3 f1 a1 a2 a3 (nI i) n = fX0_remember_b3 (e1 + 1) a1 a2 a3 (0 : Int32) n1) ∧ fX7_comes_b456 Z E Y t2 t3 t4 t5 w2 w3 w4 w5 p2 p3 p4 p5 f2 kk cc (nI b) y t bl sr tr p a (nI i) g = fX7_comes_b456 Z E Y t2 t3 t4 t5 w2 w3 w4 w5 p2 p3 p4 p5 (e2 + 1) kk cc (nI b) y t bl sr tr p a (0 : Int32) g1 ∧ vA 24 b n1 g1 g0 ∧ ∀ j, (j < 16 ∨ 22 ≤ j) → n1 j = n j := by
  intro i
  induction i with
  | zero =>
    intro f1 f2 n g hR h1 h2 h3
    exact ⟨n, g, f1 - 1, f2 - 1, fun _ _ _ => by rw [show f1 - 1 + 1 = f1 by omega]; rfl, by rw [show f2 - 1 + 1 = f2 by omega]; rfl, hR, fun _ _ => rfl⟩
  | succ i ih =>
    intro f1 f2 n g hR h1 h2 h3
    cases f1 with
    | zero => exact absurd h2 (by omega)
    | succ f1 =>
    cases f2 with
    | zero => exact absurd h3 (by omega)
    | succ f2 =>
      have x1 : ((16 : Int32) + nI (i + 1)) - (1 : Int32) = nI (16 + i) := by
        rw [show (16 : Int32) + nI (i + 1) = nI (16 + i + 1) from nI_add 16 (i + 1)]; exact nI_pred _
      have x2 : ((nI b + (16 : Int32)) + nI (i + 1)) - (1 : Int32) = nI (b + (16 + i)) := by
        rw [zer_ix b (i + 1) 16 16 rfl, show b + (16 + (i + 1)) = b + (16 + i) + 1 by omega]; exact nI_pred _
      obtain ⟨n1, g1, e1, e2, q1, q2, q3, q4⟩ := ih f1 f2 _ _ (hR.up (j := 16 + (i + 1)) (by omega) (n (16 + i))) (by omega) (by omega) (by omega)
      refine ⟨n1, g1, e1, e2, fun a1 a2 a3 => ?_, ?_, q3, fun j hj => by rw [q4 j hj, pk_un (by omega)]⟩
      · rw [fX0_remember_b3, br_f1 (nI_nle (by omega) (by omega)), rd_in (j := 16 + i) x1 (by omega) (by omega), wr_in (j := 16 + (i + 1)) (ix_r (i + 1) 16) (by omega) (by omega), nm_eq, pk_m1]
        exact q1 a1 a2 a3
      · rw [fX7_comes_b456, br_f1 (nI_nle (by omega) (by omega)), rd_in (j := b + (16 + i)) x2 (by omega) (by omega), wr_in (j := b + (16 + (i + 1))) (zer_ix b (i + 1) 16 16 rfl) (by omega) (by omega), nm_eq, pk_m1, hR.1 (16 + i) (by omega)]
        exact q2
theorem tail_both (hP : mt4 p2 p3 p4 p5 lP2 lP3 lP4 lP5) (hk : 2 ≤ k ∧ k ≤ 5) (hc : c < 2 ^ k) (hb : b + 24 ≤ 192) (y sr ds tr a bl : Int32) {tt : Nat} (htt : tt < 32768) (hsr : -32768 ≤ sr.toInt ∧ sr.toInt ≤ 32767) (htr : tr = 0 ∨ tr = 1) {n g : Nat → Int32} (hR : vA 24 b n g g0) (h7 : -12288 ≤ (n 7).toInt ∧ (n 7).toInt ≤ 12288) (ha : tr = 0 → n 7 = a) (bb se sz : Int32) :
    sm (fun (u : Int32 × (Nat → Int32)) (w : Int32 × (Nat → Int32)) => u.1 = sr ∧ w.1 = tLim (sr * 4) ∧ vA 24 b u.2 w.2 g0 ∧ inv u.2) (fX0_settle_b132 bb se sz y (nI (tPl k c)) bl (nI tt) sr ds tr n) (fX7_comes_b453 Z E Y t2 t3 t4 t5 w2 w3 w4 w5 p2 p3 p4 p5 (nI k) (nI c) (nI b) y (nI tt) bl sr tr (tSgn ds) a g) := by
  rw [fX0_settle_b132, fX7_comes_b453, nq_abs]
  obtain ⟨r1, f1, f2⟩ := flo_both htt bl
  rw [f1, cl_eq, nm_eq]
  obtain ⟨n1, g1, e1, e2, s1, s2, hR1, hj⟩ := shf_loop (t2 := t2) (t3 := t3) (t4 := t4) (t5 := t5) (w2 := w2) (w3 := w3) (w4 := w4) (w5 := w5) (p2 := p2) (p3 := p3) (p4 := p4) (p5 := p5) (Z := Z) (E := E) (Y := Y) hb (nI k) (nI c) y (nI tt) bl sr tr (tSgn ds) a 5 1100 1100 n g hR (by omega) (by omega) (by omega)
  rw [show (5 : Int32) = nI 5 from rfl, s2, fX7_comes_b456, br_t1 (show (0 : Int32) ≤ 0 by decide), f2, cl_eq, wr_in (j := b + 16) (ix_l b 16) (by omega) (by omega), rd_in (j := b + 14) (ix_l b 14) (by omega) (by omega), wr_in (j := b + 15) (ix_l b 15) (by omega) (by omega)]
  have hRa := hR1.up (j := 16) (by omega) r1
  rw [hRa.1 14 (by omega)]
  have hRb := hRa.up (j := 15) (by omega) (upd n1 16 r1 14)
  have rest : ∀ (v2 s3 r2 : Int32), fX0_floatOf v2 s3 = some r2 → sm (fun (u : Int32 × (Nat → Int32)) (w : Int32 × (Nat → Int32)) => u.1 = sr ∧ w.1 = tLim (sr * 4) ∧ vA 24 b u.2 w.2 g0 ∧ inv u.2) (fX0_settle_b154 bb se sz y (nI (tPl k c)) sr ds tr r1 v2 s3 n) (fX7_comes_b576 Z E Y t2 t3 t4 t5 w2 w3 w4 w5 p2 p3 p4 p5 (nI k) (nI c) (nI b) y sr tr (tSgn ds) a (nI b + (14 : Int32)) r2 (upd (upd g1 (b + 16) r1) (b + 15) (upd n1 16 r1 14))) := by
    intro v2 s3 r2 hfl
    have hRc := hRb.up (j := 14) (by omega) r2
    have hRd := hRc.up (j := 23) (by omega) (upd (upd (upd n1 16 r1) 15 (upd n1 16 r1 14)) 14 r2 22)
    have hRe := hRd.up (j := 22) (by omega) (tSgn ds)
    rw [fX0_settle_b154, hfl, cl_eq, eX6_sign, cl_eq, fX0_remember, show (5 : Int32) = nI 5 from rfl, s1, fX0_remember_b3, br_t1 (show (0 : Int32) ≤ 0 by decide), wr_in (j := 16) (nq_z 16) (by omega) (by omega), rd_in (j := 14) (nq_z 14) (by omega) (by omega), wr_in (j := 15) (nq_z 15) (by omega) (by omega), wr_in (j := 14) (nq_z 14) (by omega) (by omega), rd_in (j := 22) (nq_z 22) (by omega) (by omega), wr_in (j := 23) (nq_z 23) (by omega) (by omega), wr_in (j := 22) (nq_z 22) (by omega) (by omega), cl_eq]
    rw [fX7_comes_b576, wr_in (j := b + 14) (ix_l b 14) (by omega) (by omega), rd_in (j := b + 22) (ix_l b 22) (by omega) (by omega), hRc.1 22 (by omega), wr_in (j := b + 23) (ix_l b 23) (by omega) (by omega), wr_in (j := b + 22) (ix_l b 22) (by omega) (by omega)]
    have v7 : upd (upd (upd (upd (upd n1 16 r1) 15 (upd n1 16 r1 14)) 14 r2) 23 (upd (upd (upd n1 16 r1) 15 (upd n1 16 r1 14)) 14 r2 22)) 22 (tSgn ds) 7 = n 7 := by
      rw [pk_un (by omega), pk_un (by omega), pk_un (by omega), pk_un (by omega), pk_un (by omega), hj 7 (by omega)]
    generalize upd (upd (upd (upd (upd n1 16 r1) 15 (upd n1 16 r1 14)) 14 r2) 23 (upd (upd (upd n1 16 r1) 15 (upd n1 16 r1 14)) 14 r2 22)) 22 (tSgn ds) = nf at hRe v7 ⊢
    generalize upd (upd (upd (upd (upd g1 (b + 16) r1) (b + 15) (upd n1 16 r1 14)) (b + 14) r2) (b + 23) (upd (upd (upd n1 16 r1) 15 (upd n1 16 r1 14)) 14 r2 22)) (b + 22) (tSgn ds) = gf at hRe ⊢
    have h7f : -12288 ≤ (nf 7).toInt ∧ (nf 7).toInt ≤ 12288 := by rw [v7]; exact h7
    have fin : ∀ td : Int32, td = 0 ∨ td = 1 → sm (fun (u : Int32 × (Nat → Int32)) (w : Int32 × (Nat → Int32)) => u.1 = sr ∧ w.1 = tLim (sr * 4) ∧ vA 24 b u.2 w.2 g0 ∧ inv u.2) (fX0_settle_b193 bb se sz y (nI (tPl k c)) sr tr (5 : Int32) td nf) (fX7_comes_b635 Z E Y t2 t3 t4 t5 w2 w3 w4 w5 p2 p3 p4 p5 (nI k) (nI c) (nI b) y sr tr (nI b + (5 : Int32)) td gf) := fun td htd => pace_both hP hk hc hb y sr tr td htr htd hRe h7f bb se sz
    by_cases h0 : tr = (0 : Int32)
    · rw [br_t1 h0, br_t1 h0, rd_in (j := 7) (nq_z 7) (by omega) (by omega), v7, ha h0]
      by_cases h1 : (-11776 : Int32) ≤ a
      · rw [br_t1 h1, br_t1 h1, fX0_settle_b192, fX7_comes_b634]
        exact fin 0 (Or.inl rfl)
      · rw [br_f1 h1, br_f1 h1]
        exact fin 1 (Or.inr rfl)
    · rw [br_f1 h0, br_f1 h0, fX0_settle_b192, fX7_comes_b634]
      exact fin 0 (Or.inl rfl)
  by_cases hm : sr = (-32768 : Int32)
  · rw [br_t1 hm, br_f1 (show ¬ (0 : Int32) ≤ sr by rw [hm]; decide)]
    exact rest _ _ _ (by rw [hm]; decide)
  · obtain ⟨j, hj1, hj2⟩ := abs_rng hsr hm
    rw [br_f1 hm, eX7_amount, cl_eq, hj2]
    by_cases h0 : (0 : Int32) ≤ sr
    · obtain ⟨r2, d1, d2⟩ := flo_both hj1 0
      rw [br_t1 h0, br_t1 h0, fX7_comes_b573, d2, cl_eq]
      exact rest _ _ _ d1
    · obtain ⟨r2, d1, d2⟩ := flo_both hj1 1
      rw [br_f1 h0, br_f1 h0, fX7_comes_b573, d2, cl_eq]
      exact rest _ _ _ d1
/-- what comes of a code -/
theorem settle_core (hT : mt4 t2 t3 t4 t5 lT2 lT3 lT4 lT5) (hW : mt4 w2 w3 w4 w5 lW2 lW3 lW4 lW5) (hP : mt4 p2 p3 p4 p5 lP2 lP3 lP4 lP5) (hk : 2 ≤ k ∧ k ≤ 5) (hc : c < 2 ^ k) (hb : b + 24 ≤ 192) (bl s0 : Int32) {tt : Nat} (htt : tt < 32768) {n g : Nat → Int32} (hR : vA 24 b n g g0) (hi : inv n) :
    sm (fun (u : Int32 × (Nat → Int32)) (w : Int32 × (Nat → Int32)) => w.1 = tLim (u.1 * 4) ∧ vA 24 b u.2 w.2 g0 ∧ inv u.2) (fX0_settle_b62 (nI k) E Z Y (nI (tPl k c)) bl (nI tt) s0 n) (fX7_comes_b100 Z E Y t2 t3 t4 t5 w2 w3 w4 w5 p2 p3 p4 p5 (nI k) (nI c) (nI b) Y (nI tt) bl s0 g) := by
  rw [fX0_settle_b62, fX7_comes_b100, eX6_wrapped, eX7_wrapped, cl_eq, cl_eq, eX6_wrapped, eX7_wrapped, cl_eq, cl_eq, eX0_isTransition, cl_eq]
  have hsr := wrap_rng s0
  generalize tWrap s0 = sr at hsr ⊢
  generalize tWrap ((sr + Z) - E) = ds
  obtain ⟨hpl1, hpl2⟩ := place_eq hk hc
  rw [rd_in (j := tPl k c) rfl hpl2 (by omega), eX0_adaptStep, cl_eq]
  -- the model's transition is the class's
  have htr : (pq_rd 192 g (nI b + (5 : Int32)) fun (v15 : Int32) => pq_br (v15 = (1 : Int32)) (pq_rd 192 g (nI b) fun (v19 : Int32) => pq_nm (v19 >>> ((15 : Int32) &&& 31)) fun (v21 : Int32) => pq_br (v21 ≤ (9 : Int32)) (pq_rd 192 g (nI b) fun (v25 : Int32) => fX7_comes_b183 Z E Y t2 t3 t4 t5 w2 w3 w4 w5 p2 p3 p4 p5 (nI k) (nI c) (nI b) Y (nI tt) bl sr ds (((32 : Int32) + ((v25 >>> ((10 : Int32) &&& 31)) &&& (31 : Int32))) <<< (v21 &&& 31)) g) (fX7_comes_b183 Z E Y t2 t3 t4 t5 w2 w3 w4 w5 p2 p3 p4 p5 (nI k) (nI c) (nI b) Y (nI tt) bl sr ds (31744 : Int32) g)) (fX7_comes_b210 Z E Y t2 t3 t4 t5 w2 w3 w4 w5 p2 p3 p4 p5 (nI k) (nI c) (nI b) Y (nI tt) bl sr ds (0 : Int32) g)) = fX7_comes_b210 Z E Y t2 t3 t4 t5 w2 w3 w4 w5 p2 p3 p4 p5 (nI k) (nI c) (nI b) Y (nI tt) bl sr ds (tTr (nI tt) n) g := by
    rw [rd_in (j := b + 5) (ix_l b 5) (by omega) (by omega), hR.1 5 (by omega)]
    unfold tTr
    rcases hi.1 with h5 | h5
    · rw [br_f1 (by rw [h5]; decide), if_pos h5]
    · rw [br_t1 h5, if_neg (by rw [h5]; decide), rd_in (i := nI b) (j := b + 0) rfl (by omega) (by omega), hR.1 0 (by omega), nm_eq]
      unfold tH
      by_cases h9 : n 0 >>> ((15 : Int32) &&& 31) ≤ (9 : Int32)
      · rw [br_t1 h9, if_pos h9, rd_in (i := nI b) (j := b + 0) rfl (by omega) (by omega), hR.1 0 (by omega), fX7_comes_b183, nm_eq]
        split
        · rename_i q; rw [br_t1 q, fX7_comes_b208]
        · rename_i q; rw [br_f1 q, fX7_comes_b208]
      · rw [br_f1 h9, if_neg h9, fX7_comes_b183, nm_eq]
        split
        · rename_i q; rw [br_t1 q, fX7_comes_b208]
        · rename_i q; rw [br_f1 q, fX7_comes_b208]
  rw [htr]
  have h01 := tTr_01 (nI tt) n
  generalize tTr (nI tt) n = tr at h01
  rw [fX7_comes_b210, weight_eq hW hk hc, cl_eq, eX7_cut _ _ _ (by decide), cl_eq, wr_in (j := b + 1) (ix_l b 1) (by omega) (by omega)]
  generalize hcut : tCut (Y + ((pq_t_WEIGHT (tPl k c) - Y) >>> ((5 : Int32) &&& 31))) 544 5120 = cu
  have hR1 := hR.up (j := 1) (by omega) cu
  rw [rd_in (i := nI b) (j := b + 0) rfl (by omega) (by omega), rd_in (j := b + 1) (ix_l b 1) (by omega) (by omega), rd_in (i := nI b) (j := b + 0) rfl (by omega) (by omega), hR1.1 0 (by omega), hR1.1 1 (by omega), pk_us, pk_un (by omega : (0 : Nat) ≠ 1), wr_in (i := nI b) (j := b + 0) rfl (by omega) (by omega), Int32.add_assoc]
  have hR2 := hR1.up (j := 0) (by omega) (n 0 + (cu + ((-(n 0)) >>> ((6 : Int32) &&& 31))))
  have eAS : tAS (pq_t_WEIGHT (tPl k c)) Y n = upd (upd n 1 cu) 0 (n 0 + (cu + ((-(n 0)) >>> ((6 : Int32) &&& 31)))) := by unfold tAS; rw [hcut]
  rw [eAS, eX7_sign, cl_eq]
  have u5 : upd (upd n 1 cu) 0 (n 0 + (cu + ((-(n 0)) >>> ((6 : Int32) &&& 31)))) 5 = n 5 := by rw [pk_un (by omega), pk_un (by omega)]
  have u7 : upd (upd n 1 cu) 0 (n 0 + (cu + ((-(n 0)) >>> ((6 : Int32) &&& 31)))) 7 = n 7 := by rw [pk_un (by omega), pk_un (by omega)]
  generalize upd (upd n 1 cu) 0 (n 0 + (cu + ((-(n 0)) >>> ((6 : Int32) &&& 31)))) = m at hR2 u5 u7 ⊢
  generalize upd (upd g (b + 1) cu) (b + 0) (n 0 + (cu + ((-(n 0)) >>> ((6 : Int32) &&& 31)))) = q at hR2 ⊢
  have m7 : -12288 ≤ (m 7).toInt ∧ (m 7).toInt ≤ 12288 := by rw [u7]; exact hi.2
  have out : ∀ (x : Option (Int32 × (Nat → Int32))) (w : Option (Int32 × (Nat → Int32))), sm (fun (u : Int32 × (Nat → Int32)) (w : Int32 × (Nat → Int32)) => u.1 = sr ∧ w.1 = tLim (sr * 4) ∧ vA 24 b u.2 w.2 g0 ∧ inv u.2) x w → sm (fun (u : Int32 × (Nat → Int32)) (w : Int32 × (Nat → Int32)) => w.1 = tLim (u.1 * 4) ∧ vA 24 b u.2 w.2 g0 ∧ inv u.2) x w := fun x w h => sm_imp h (fun u v hh => ⟨by rw [hh.2.1, hh.1], hh.2.2.1, hh.2.2.2⟩)
  rcases h01 with rfl | rfl
  · rw [br_t1 rfl, br_f1 (by decide)]
    obtain ⟨n1, n2, g2, a, a1, a2, a3, a4, a5, a6, a7⟩ := adapts_both hR2 hb ds m7
    rw [a1, cl_eq, a2, cl_eq, a3, cl_eq, nm_eq, nm_eq]
    obtain ⟨n3, g3, z1, z2, z3, z4⟩ := zer_both (t2 := t2) (t3 := t3) (t4 := t4) (t5 := t5) (w2 := w2) (w3 := w3) (w4 := w4) (w5 := w5) (p2 := p2) (p3 := p3) (p4 := p4) (p5 := p5) (Z := Z) (E := E) (Y := Y) hk hb (nI c) Y (nI tt) bl sr 0 (tSgn ds) a a4
    rw [z1, cl_eq, z2]
    have e7 : n3 7 = a := (z4 7 (by omega)).trans a5
    exact out _ _ (tail_both hP hk hc hb Y sr ds 0 a bl htt hsr (Or.inl rfl) z3 (by rw [e7]; exact a6) (fun _ => e7) (nI k) E Z)
  · rw [br_f1 (by decide), br_t1 rfl]
    obtain ⟨n3, g3, z1, z2, z3, z4, z5⟩ := fgt_both (t2 := t2) (t3 := t3) (t4 := t4) (t5 := t5) (w2 := w2) (w3 := w3) (w4 := w4) (w5 := w5) (p2 := p2) (p3 := p3) (p4 := p4) (p5 := p5) (Z := Z) (E := E) (Y := Y) hb (nI c) Y (nI tt) bl sr 1 (tSgn ds) 0 (nI k) hR2
    rw [z1, cl_eq, z2]
    exact out _ _ (tail_both hP hk hc hb Y sr ds 1 0 bl htt hsr (Or.inr rfl) z3 (by rw [z4]; decide) (fun q => absurd q (by decide)) (nI k) E Z)
theorem settle_both (hT : mt4 t2 t3 t4 t5 lT2 lT3 lT4 lT5) (hW : mt4 w2 w3 w4 w5 lW2 lW3 lW4 lW5) (hP : mt4 p2 p3 p4 p5 lP2 lP3 lP4 lP5) (hk : 2 ≤ k ∧ k ≤ 5) (hc : c < 2 ^ k) (hb : b + 24 ≤ 192) {s : Int32} (hs : (24 : Int32) * s = nI b) {n g : Nat → Int32} (hR : vA 24 b n g g0) (hi : inv n) :
    sm (fun (u : Int32 × (Nat → Int32)) (w : Int32 × (Nat → Int32)) => w.1 = tLim (u.1 * 4) ∧ vA 24 b u.2 w.2 g0 ∧ inv u.2) (fX0_settle (nI c) (nI k) E Z Y n) (fX7_comes s (nI k) (nI c) Z E Y t2 t3 t4 t5 w2 w3 w4 w5 p2 p3 p4 p5 g) := by
  rw [fX0_settle, fX7_comes, nm_eq, hs, (place_eq hk hc).1, cl_eq, table_eq hT hk hc, cl_eq, nm_eq]
  generalize hq : pq_t_TABLE (tPl k c) + (Y >>> ((2 : Int32) &&& 31)) = q
  have e59 : pq_br ((0 : Int32) ≤ q) (fX7_comes_b59 Z E Y t2 t3 t4 t5 w2 w3 w4 w5 p2 p3 p4 p5 (nI k) (nI c) (nI b) Y ((((128 : Int32) + (q &&& (127 : Int32))) * (128 : Int32)) >>> (((14 : Int32) - ((q >>> ((7 : Int32) &&& 31)) &&& (15 : Int32))) &&& 31)) g) (fX7_comes_b59 Z E Y t2 t3 t4 t5 w2 w3 w4 w5 p2 p3 p4 p5 (nI k) (nI c) (nI b) Y (0 : Int32) g) = fX7_comes_b59 Z E Y t2 t3 t4 t5 w2 w3 w4 w5 p2 p3 p4 p5 (nI k) (nI c) (nI b) Y (tAm q) g := by
    unfold tAm
    by_cases h : (0 : Int32) ≤ q
    · rw [br_t1 h, if_pos h]
    · rw [br_f1 h, if_neg h]
  rw [e59]
  obtain ⟨tt, htt, et⟩ := tAm_rng q
  have cls : ∀ bl : Int32, fX0_settle_b23 (nI k) E Z Y (nI (tPl k c)) bl n = pq_br (bl = (0 : Int32)) (fX0_settle_b62 (nI k) E Z Y (nI (tPl k c)) bl (nI tt) (E + nI tt) n) (fX0_settle_b62 (nI k) E Z Y (nI (tPl k c)) bl (nI tt) (E - nI tt) n) := by
    intro bl
    rw [fX0_settle_b23, rd_in (j := tPl k c) rfl (place_eq hk hc).2 (by omega), hq, eX0_amount, cl_eq, et]
  rw [cls, cls, et, fX7_comes_b59]
  have bel := below_eq hk hc
  by_cases h1 : nI c < ((1 : Int32) <<< ((nI k - (1 : Int32)) &&& 31))
  · rw [br_t1 h1, br_f1 (bel.mp h1), fX7_comes_b75, br_t1 rfl, br_t1 rfl]
    exact settle_core hT hW hP hk hc hb _ _ htt hR hi
  · rw [br_f1 h1, br_t1 (Decidable.byContradiction fun z => h1 (bel.mpr z)), fX7_comes_b75, br_f1 (by decide), br_f1 (by decide)]
    exact settle_core hT hW hP hk hc hb _ _ htt hR hi
end REM
end
section
/-! G.722: a band -/
theorem lim_rng (v : Int32) : -32768 ≤ (tLim v).toInt ∧ (tLim v).toInt ≤ 32767 := by
  unfold tLim
  by_cases h1 : (-32768 : Int32) ≤ v
  · rw [if_pos h1]
    by_cases h2 : v ≤ (32767 : Int32)
    · rw [if_pos h2]
      rw [nq_le] at h1 h2
      have e1 : (-32768 : Int32).toInt = -32768 := by decide
      have e2 : (32767 : Int32).toInt = 32767 := by decide
      omega
    · rw [if_neg h2]; decide
  · rw [if_neg h1]; decide
theorem lim_le (v : Int32) : tLim v ≤ (32767 : Int32) := by
  rw [nq_le]
  have := lim_rng v
  have e2 : (32767 : Int32).toInt = 32767 := by decide
  omega
theorem cut_rng (v : Int32) : -12288 ≤ (tCut v (-12288) 12288).toInt ∧ (tCut v (-12288) 12288).toInt ≤ 12288 := by
  unfold tCut
  by_cases h1 : (-12288 : Int32) ≤ v
  · rw [if_pos h1]
    by_cases h2 : v ≤ (12288 : Int32)
    · rw [if_pos h2]
      rw [nq_le] at h1 h2
      have e1 : (-12288 : Int32).toInt = -12288 := by decide
      have e2 : (12288 : Int32).toInt = 12288 := by decide
      omega
    · rw [if_neg h2]; decide
  · rw [if_neg h1]; decide
section BAND
variable {b : Nat} {g0 : Nat → Int32}
theorem eX1_product {n : Nat → Int32} {i j : Nat} {a c : Int32} (ha : a = nI i) (hc : c = nI j) (hi : i < 23) (hj : j < 23) : fX1_product a c n = some ((n i * tLim ((2 : Int32) * n j)) >>> ((15 : Int32) &&& 31)) := by
  rw [fX1_product, rd_in ha hi (by omega), rd_in hc hj (by omega), eX6_limited, cl_eq]
theorem bd_sum : ∀ (i f1 f2 : Nat) (x : Int32) (n g : Nat → Int32), (∀ j, (7 ≤ j ∧ j < 13) ∨ (17 ≤ j ∧ j < 23) → g (b + j) = n j) → b + 23 ≤ 368 → i ≤ 6 → i < f1 → i < f2 →
    ∃ z e1 e2, fX1_settle_b71 f1 x (nI (6 - i)) n = fX1_settle_b71 (e1 + 1) z (6 : Int32) n ∧ fX7_goesOn_b535 f2 (nI b) x (nI (6 - i)) g = fX7_goesOn_b535 (e2 + 1) (nI b) z (6 : Int32) g := by
  intro i
  induction i with
  | zero =>
    intro f1 f2 x n g hg hb h1 h2 h3
    exact ⟨x, f1 - 1, f2 - 1, by rw [show f1 - 1 + 1 = f1 by omega]; rfl, by rw [show f2 - 1 + 1 = f2 by omega]; rfl⟩
  | succ i ih =>
    intro f1 f2 x n g hg hb h1 h2 h3
    cases f1 with
    | zero => exact absurd h2 (by omega)
    | succ f1 =>
    cases f2 with
    | zero => exact absurd h3 (by omega)
    | succ f2 =>
      have hn := not6 (i := 6 - (i + 1)) (by omega)
      obtain ⟨z, e1, e2, q1, q2⟩ := ih f1 f2 (x + ((n (7 + (6 - (i + 1))) * tLim ((2 : Int32) * n (17 + (6 - (i + 1))))) >>> ((15 : Int32) &&& 31))) n g hg hb (by omega) (by omega) (by omega)
      have e6 : 6 - (i + 1) + 1 = 6 - i := by omega
      refine ⟨z, e1, e2, ?_, ?_⟩
      · rw [fX1_settle_b71, br_f1 hn, eX1_product (i := 7 + (6 - (i + 1))) (j := 17 + (6 - (i + 1))) (ix_r _ 7) (ix_r _ 17) (by omega) (by omega), cl_eq, nm_eq, nm_eq, nI_1, e6]
        exact q1
      · rw [fX7_goesOn_b535, br_f1 hn, rd_in (j := b + (7 + (6 - (i + 1)))) (zer_ix b _ 7 7 rfl) (by omega) (by omega), rd_in (j := b + (17 + (6 - (i + 1)))) (zer_ix b _ 17 17 rfl) (by omega) (by omega), hg (7 + (6 - (i + 1))) (Or.inl (by omega)), hg (17 + (6 - (i + 1))) (Or.inr (by omega)), eX7_limited, cl_eq, nm_eq, nm_eq, nI_1, e6]
        exact q2
/-- behind the shift: P and R, SP, SZ, S -/
theorem bd_end (hb : b + 23 ≤ 368) (d r p p1 : Int32) {n g : Nat → Int32} (hR : vA 23 b n g g0) (h15 : n 15 = p1) (e f : Nat) :
    ∃ n1 n2 g1, fX1_remember_b3 (e + 1) d r p (0 : Int32) n = some n1 ∧ fX1_settle_b71 1100 (0 : Int32) (0 : Int32) n1 = some n2 ∧ fX7_goesOn_b356 (f + 1) (nI b) d r p p1 (0 : Int32) g = some g1 ∧ vA 23 b n2 g1 g0 := by
  have hRa := hR.up (j := 17) (by omega) d
  have hRb := hRa.up (j := 14) (by omega) (upd n 17 d 13)
  have hRc := hRb.up (j := 13) (by omega) r
  have e15 : upd (upd (upd n 17 d) 14 (upd n 17 d 13)) 13 r 15 = p1 := by rw [pk_un (by omega), pk_un (by omega), pk_un (by omega)]; exact h15
  have hRd := hRc.up (j := 16) (by omega) p1
  have hRe := hRd.up (j := 15) (by omega) p
  have c1 : fX1_remember_b3 (e + 1) d r p (0 : Int32) n = some (upd (upd (upd (upd (upd n 17 d) 14 (upd n 17 d 13)) 13 r) 16 p1) 15 p) := by
    rw [fX1_remember_b3, br_t1 (show (0 : Int32) ≤ 0 by decide), wr_in (j := 17) (nq_z 17) (by omega) (by omega), rd_in (j := 13) (nq_z 13) (by omega) (by omega), wr_in (j := 14) (nq_z 14) (by omega) (by omega), wr_in (j := 13) (nq_z 13) (by omega) (by omega), rd_in (j := 15) (nq_z 15) (by omega) (by omega), e15, wr_in (j := 16) (nq_z 16) (by omega) (by omega), wr_in (j := 15) (nq_z 15) (by omega) (by omega)]
  rw [fX7_goesOn_b356, br_t1 (show (0 : Int32) ≤ 0 by decide), wr_in (j := b + 17) (ix_l b 17) (by omega) (by omega), rd_in (j := b + 13) (ix_l b 13) (by omega) (by omega), hRa.1 13 (by omega), wr_in (j := b + 14) (ix_l b 14) (by omega) (by omega), wr_in (j := b + 13) (ix_l b 13) (by omega) (by omega), wr_in (j := b + 16) (ix_l b 16) (by omega) (by omega), wr_in (j := b + 15) (ix_l b 15) (by omega) (by omega)]
  generalize upd (upd (upd (upd (upd n 17 d) 14 (upd n 17 d 13)) 13 r) 16 p1) 15 p = m at hRe c1
  generalize upd (upd (upd (upd (upd g (b + 17) d) (b + 14) (upd n 17 d 13)) (b + 13) r) (b + 16) p1) (b + 15) p = q at hRe ⊢
  rw [rd_in (j := b + 5) (ix_l b 5) (by omega) (by omega), rd_in (j := b + 13) (ix_l b 13) (by omega) (by omega), hRe.1 5 (by omega), hRe.1 13 (by omega), eX7_limited, cl_eq, nm_eq, rd_in (j := b + 6) (ix_l b 6) (by omega) (by omega), rd_in (j := b + 14) (ix_l b 14) (by omega) (by omega), hRe.1 6 (by omega), hRe.1 14 (by omega), eX7_limited, cl_eq, nm_eq, eX7_limited, cl_eq, wr_in (j := b + 3) (ix_l b 3) (by omega) (by omega)]
  generalize hsp : tLim (((m 5 * tLim ((2 : Int32) * m 13)) >>> ((15 : Int32) &&& 31)) + ((m 6 * tLim ((2 : Int32) * m 14)) >>> ((15 : Int32) &&& 31))) = sp
  have hR3 := hRe.up (j := 3) (by omega) sp
  obtain ⟨z, e1, e2, q1, q2⟩ := bd_sum (b := b) 6 1100 1100 0 m (upd q (b + 3) sp) (fun j hj => by rw [hR3.1 j (by omega), pk_un (by omega)]) hb (by omega) (by omega) (by omega)
  have hR4 := hR3.up (j := 4) (by omega) (tLim z)
  have hR5 := hR4.up (j := 2) (by omega) (tLim (sp + tLim z))
  have v3 : upd (upd m 3 sp) 4 (tLim z) 3 = sp := by rw [pk_un (by omega), pk_us]
  have v4 : upd (upd m 3 sp) 4 (tLim z) 4 = tLim z := pk_us
  refine ⟨m, upd (upd (upd m 3 sp) 4 (tLim z)) 2 (tLim (sp + tLim z)), upd (upd (upd q (b + 3) sp) (b + 4) (tLim z)) (b + 2) (tLim (sp + tLim z)), c1, ?_, ?_, hR5⟩
  · refine Eq.trans q1 ?_
    rw [fX1_settle_b71, br_t1 (show (6 : Int32) ≤ 6 by decide), eX1_product (i := 5) (j := 13) (nq_z 5) (nq_z 13) (by omega) (by omega), cl_eq, eX1_product (i := 6) (j := 14) (nq_z 6) (nq_z 14) (by omega) (by omega), cl_eq, eX6_limited, cl_eq, hsp, wr_in (j := 3) (nq_z 3) (by omega) (by omega), eX6_limited, cl_eq, wr_in (j := 4) (nq_z 4) (by omega) (by omega), rd_in (j := 3) (nq_z 3) (by omega) (by omega), rd_in (j := 4) (nq_z 4) (by omega) (by omega), v3, v4, eX6_limited, cl_eq, wr_in (j := 2) (nq_z 2) (by omega) (by omega)]
  · refine Eq.trans q2 ?_
    rw [fX7_goesOn_b535, br_t1 (show (6 : Int32) ≤ 6 by decide), eX7_limited, cl_eq, wr_in (j := b + 4) (ix_l b 4) (by omega) (by omega), rd_in (j := b + 3) (ix_l b 3) (by omega) (by omega), rd_in (j := b + 4) (ix_l b 4) (by omega) (by omega), hR4.1 3 (by omega), hR4.1 4 (by omega), v3, v4, eX7_limited, cl_eq, wr_in (j := b + 2) (ix_l b 2) (by omega) (by omega)]
theorem bd_shift (hb : b + 23 ≤ 368) (d r p p1 : Int32) : ∀ (i f1 f2 : Nat) (n g : Nat → Int32), vA 23 b n g g0 → i ≤ 5 → i < f1 → i < f2 →
    ∃ n1 g1 e1 e2, fX1_remember_b3 f1 d r p (nI i) n = fX1_remember_b3 (e1 + 1) d r p (0 : Int32) n1 ∧ fX7_goesOn_b356 f2 (nI b) d r p p1 (nI i) g = fX7_goesOn_b356 (e2 + 1) (nI b) d r p p1 (0 : Int32) g1 ∧ vA 23 b n1 g1 g0 ∧ ∀ j, (j < 17) → n1 j = n j := by
  intro i
  induction i with
  | zero =>
    intro f1 f2 n g hR h1 h2 h3
    exact ⟨n, g, f1 - 1, f2 - 1, by rw [show f1 - 1 + 1 = f1 by omega]; rfl, by rw [show f2 - 1 + 1 = f2 by omega]; rfl, hR, fun _ _ => rfl⟩
  | succ i ih =>
    intro f1 f2 n g hR h1 h2 h3
    cases f1 with
    | zero => exact absurd h2 (by omega)
    | succ f1 =>
    cases f2 with
    | zero => exact absurd h3 (by omega)
    | succ f2 =>
      have x1 : ((17 : Int32) + nI (i + 1)) - (1 : Int32) = nI (17 + i) := by
        rw [show (17 : Int32) + nI (i + 1) = nI (17 + i + 1) from nI_add 17 (i + 1)]; exact nI_pred _
      have x2 : ((nI b + (17 : Int32)) + nI (i + 1)) - (1 : Int32) = nI (b + (17 + i)) := by
        rw [zer_ix b (i + 1) 17 17 rfl, show b + (17 + (i + 1)) = b + (17 + i) + 1 by omega]; exact nI_pred _
      obtain ⟨n1, g1, e1, e2, q1, q2, q3, q4⟩ := ih f1 f2 _ _ (hR.up (j := 17 + (i + 1)) (by omega) (n (17 + i))) (by omega) (by omega) (by omega)
      refine ⟨n1, g1, e1, e2, ?_, ?_, q3, fun j hj => by rw [q4 j hj, pk_un (by omega)]⟩
      · rw [fX1_remember_b3, br_f1 (nI_nle (by omega) (by omega)), rd_in (j := 17 + i) x1 (by omega) (by omega), wr_in (j := 17 + (i + 1)) (ix_r (i + 1) 17) (by omega) (by omega), nm_eq, pk_m1]
        exact q1
      · rw [fX7_goesOn_b356, br_f1 (nI_nle (by omega) (by omega)), rd_in (j := b + (17 + i)) x2 (by omega) (by omega), wr_in (j := b + (17 + (i + 1))) (zer_ix b (i + 1) 17 17 rfl) (by omega) (by omega), nm_eq, pk_m1, hR.1 (17 + i) (by omega)]
        exact q2
theorem bd_zeros (hb : b + 23 ≤ 368) (d r p p1 : Int32) : ∀ (i f1 f2 : Nat) (n g : Nat → Int32), vA 23 b n g g0 → i ≤ 6 → i < f1 → i < f2 →
    ∃ n1 g1, fX1_adaptZeros_b2 f1 d (nI (6 - i)) n = some n1 ∧ fX7_goesOn_b260 f2 (nI b) d r p p1 (nI (6 - i)) g = fX7_goesOn_b356 1100 (nI b) d r p p1 (5 : Int32) g1 ∧ vA 23 b n1 g1 g0 ∧ ∀ j, (j < 7 ∨ 13 ≤ j) → n1 j = n j := by
  intro i
  induction i with
  | zero =>
    intro f1 f2 n g hR h1 h2 h3
    cases f1 with
    | zero => exact absurd h2 (by omega)
    | succ f1 =>
    cases f2 with
    | zero => exact absurd h3 (by omega)
    | succ f2 =>
      refine ⟨n, g, ?_, ?_, hR, fun _ _ => rfl⟩
      · rw [fX1_adaptZeros_b2]; exact br_t1 (by decide) _ _
      · rw [fX7_goesOn_b260]; exact br_t1 (by decide) _ _
  | succ i ih =>
    intro f1 f2 n g hR h1 h2 h3
    cases f1 with
    | zero => exact absurd h2 (by omega)
    | succ f1 =>
    cases f2 with
    | zero => exact absurd h3 (by omega)
    | succ f2 =>
      have hn := not6 (i := 6 - (i + 1)) (by omega)
      have e6 : 6 - (i + 1) + 1 = 6 - i := by omega
      have turn : ∀ x : Int32, ∃ n1 g1, fX1_adaptZeros_b42 (fX1_adaptZeros_b2 f1) d (nI (6 - (i + 1))) x n = some n1 ∧ fX7_goesOn_b307 (fX7_goesOn_b260 f2) (nI b) d r p p1 (nI (6 - (i + 1))) x g = fX7_goesOn_b356 1100 (nI b) d r p p1 (5 : Int32) g1 ∧ vA 23 b n1 g1 g0 ∧ ∀ j, (j < 7 ∨ 13 ≤ j) → n1 j = n j := by
        intro x
        obtain ⟨n1, g1, q1, q2, q3, q4⟩ := ih f1 f2 _ _ (hR.up (j := 7 + (6 - (i + 1))) (by omega) (tLim (x + ((n (7 + (6 - (i + 1))) * (32640 : Int32)) >>> ((15 : Int32) &&& 31))))) (by omega) (by omega) (by omega)
        refine ⟨n1, g1, ?_, ?_, q3, fun j hj => by rw [q4 j hj, pk_un (by omega)]⟩
        · rw [fX1_adaptZeros_b42, rd_in (j := 7 + (6 - (i + 1))) (ix_r _ 7) (by omega) (by omega), eX6_limited, cl_eq, wr_in (j := 7 + (6 - (i + 1))) (ix_r _ 7) (by omega) (by omega), nm_eq, nI_1, e6]
          exact q1
        · rw [fX7_goesOn_b307, rd_in (j := b + (7 + (6 - (i + 1)))) (zer_ix b _ 7 7 rfl) (by omega) (by omega), hR.1 _ (by omega), eX7_limited, cl_eq, wr_in (j := b + (7 + (6 - (i + 1)))) (zer_ix b _ 7 7 rfl) (by omega) (by omega), nm_eq, nI_1, e6]
          exact q2
      rw [fX1_adaptZeros_b2, fX7_goesOn_b260, br_f1 hn, br_f1 hn, eX6_sign, cl_eq, rd_in (j := 17 + (6 - (i + 1))) (ix_r _ 17) (by omega) (by omega), eX6_sign, cl_eq]
      by_cases hd : d = (0 : Int32)
      · rw [br_t1 hd]
        have e0 : ∀ s0 : Int32, fX1_adaptZeros_b35 (fX1_adaptZeros_b2 f1) d (nI (6 - (i + 1))) s0 n = fX1_adaptZeros_b42 (fX1_adaptZeros_b2 f1) d (nI (6 - (i + 1))) (0 : Int32) n := by
          intro s0
          rw [fX1_adaptZeros_b35, br_t1 hd]
        rw [e0, e0]
        by_cases hs : tSgn d = tSgn (n (17 + (6 - (i + 1))))
        · rw [br_t1 hs]; exact turn 0
        · rw [br_f1 hs]; exact turn 0
      · have e0 : ∀ s0 : Int32, fX1_adaptZeros_b35 (fX1_adaptZeros_b2 f1) d (nI (6 - (i + 1))) s0 n = fX1_adaptZeros_b42 (fX1_adaptZeros_b2 f1) d (nI (6 - (i + 1))) s0 n := by
          intro s0
          rw [fX1_adaptZeros_b35, br_f1 hd]
        rw [br_f1 hd, e0, e0, eX7_sign, cl_eq, rd_in (j := b + (17 + (6 - (i + 1)))) (zer_ix b _ 17 17 rfl) (by omega) (by omega), hR.1 _ (by omega), eX7_sign, cl_eq]
        by_cases hs : tSgn d = tSgn (n (17 + (6 - (i + 1))))
        · rw [br_t1 hs, br_t1 hs]; exact turn 128
        · rw [br_f1 hs, br_f1 hs]; exact turn (-128)
end BAND
end
section
section BAND2
variable {b : Nat} {g0 : Nat → Int32}
/-- from A2 on: poles, zeros, shift, the end -/
theorem bd_poles (hb : b + 23 ≤ 368) (d r p p1 x4 s0 like : Int32) (hl : (like = 0 ∧ ¬ tSgn p = tSgn p1) ∨ (like = 1 ∧ tSgn p = tSgn p1)) {n g : Nat → Int32} (hR : vA 23 b n g g0) (h15 : n 15 = p1) :
    ∃ n1 n2 n3 n4 g1, fX1_adaptPoles_b86 like x4 s0 n = some n1 ∧ fX1_adaptZeros d n1 = some n2 ∧ fX1_remember d r p n2 = some n3 ∧ fX1_settle_b71 1100 (0 : Int32) (0 : Int32) n3 = some n4 ∧ fX7_goesOn_b125 (nI b) d r p p1 x4 s0 g = some g1 ∧ vA 23 b n4 g1 g0 := by
  rw [fX1_adaptPoles_b86, fX7_goesOn_b125, rd_in (j := 6) (nq_z 6) (by omega) (by omega), rd_in (j := b + 6) (ix_l b 6) (by omega) (by omega), hR.1 6 (by omega), nm_eq, nm_eq, eX6_cut, cl_eq, eX7_cut _ _ _ (by decide), cl_eq, wr_in (j := 6) (nq_z 6) (by omega) (by omega), wr_in (j := b + 6) (ix_l b 6) (by omega) (by omega), eX7_sign, cl_eq, eX7_sign, cl_eq]
  have ha := cut_rng ((s0 + (x4 >>> ((7 : Int32) &&& 31))) + ((n 6 * (32512 : Int32)) >>> ((15 : Int32) &&& 31)))
  generalize tCut ((s0 + (x4 >>> ((7 : Int32) &&& 31))) + ((n 6 * (32512 : Int32)) >>> ((15 : Int32) &&& 31))) (-12288) 12288 = a at ha ⊢
  obtain ⟨l1, l2, l3⟩ := lims ha
  have hR1 := hR.up (j := 6) (by omega) a
  have v5 : upd n 6 a 5 = n 5 := pk_un (by omega)
  have v6 : upd n 6 a 6 = a := pk_us
  have key : ∀ w : Int32, ∃ n1 n2 n3 n4 g1, fX1_adaptPoles_b140 w (upd n 6 a) = some n1 ∧ fX1_adaptZeros d n1 = some n2 ∧ fX1_remember d r p n2 = some n3 ∧ fX1_settle_b71 1100 (0 : Int32) (0 : Int32) n3 = some n4 ∧ fX7_goesOn_b196 (nI b) d r p p1 w (upd g (b + 6) a) = some g1 ∧ vA 23 b n4 g1 g0 := by
    intro w
    rw [fX1_adaptPoles_b140, fX7_goesOn_b196, rd_in (j := 5) (nq_z 5) (by omega) (by omega), rd_in (j := b + 5) (ix_l b 5) (by omega) (by omega), hR1.1 5 (by omega), v5, eX6_limited, cl_eq, eX7_limited, cl_eq, rd_in (j := 6) (nq_z 6) (by omega) (by omega), rd_in (j := b + 6) (ix_l b 6) (by omega) (by omega), rd_in (j := b + 6) (ix_l b 6) (by omega) (by omega), hR1.1 6 (by omega), v6, nm_eq, eX6_cut, cl_eq, eX7_cut _ _ _ (by rw [nq_le]; omega), cl_eq, l3, wr_in (j := 5) (nq_z 5) (by omega) (by omega), wr_in (j := b + 5) (ix_l b 5) (by omega) (by omega)]
    generalize tCut (tLim (w + ((n 5 * (32640 : Int32)) >>> ((15 : Int32) &&& 31)))) (-((15360 : Int32) - a)) ((15360 : Int32) - a) = c5
    have hR2 := hR1.up (j := 5) (by omega) c5
    obtain ⟨n2, g2, z1, z2, z3, z4⟩ := bd_zeros hb d r p p1 6 1100 1100 _ _ hR2 (by omega) (by omega) (by omega)
    obtain ⟨n3, g3, e1, e2, s1, s2, s3, s4⟩ := bd_shift hb d r p p1 5 1100 1100 _ _ z3 (by omega) (by omega) (by omega)
    have q15 : n3 15 = p1 := by rw [s4 15 (by omega), z4 15 (by omega), pk_un (by omega), pk_un (by omega)]; exact h15
    obtain ⟨m1, m2, h1, k1, k2, k3, k4⟩ := bd_end hb d r p p1 s3 q15 e1 e2
    exact ⟨_, n2, m1, m2, h1, rfl, z1, s1.trans k1, k2, z2.trans (s2.trans k3), k4⟩
  rcases hl with ⟨rfl, h⟩ | ⟨rfl, h⟩
  · rw [br_t1 rfl, br_f1 h]; exact key (-192)
  · rw [br_f1 (by decide), br_t1 h]; exact key 192
theorem bd_goes (hb : b + 23 ≤ 368) (d : Int32) {n g : Nat → Int32} (hR : vA 23 b n g g0) :
    ∃ n1 n2 n3 n4 g1, fX1_adaptPoles (tLim (n 4 + d)) n = some n1 ∧ fX1_adaptZeros d n1 = some n2 ∧ fX1_remember d (tLim (n 2 + d)) (tLim (n 4 + d)) n2 = some n3 ∧ fX1_settle_b71 1100 (0 : Int32) (0 : Int32) n3 = some n4 ∧ fX7_goesOn (nI b) d g = some g1 ∧ vA 23 b n4 g1 g0 := by
  rw [fX7_goesOn, rd_in (j := b + 2) (ix_l b 2) (by omega) (by omega), hR.1 2 (by omega), eX7_limited, cl_eq, rd_in (j := b + 4) (ix_l b 4) (by omega) (by omega), hR.1 4 (by omega), eX7_limited, cl_eq, rd_in (j := b + 15) (ix_l b 15) (by omega) (by omega), rd_in (j := b + 16) (ix_l b 16) (by omega) (by omega), rd_in (j := b + 5) (ix_l b 5) (by omega) (by omega), hR.1 15 (by omega), hR.1 16 (by omega), hR.1 5 (by omega), eX7_limited, cl_eq, eX7_sign, cl_eq, eX7_sign, cl_eq]
  generalize tLim (n 2 + d) = r
  generalize tLim (n 4 + d) = p
  rw [fX1_adaptPoles, eX6_sign, cl_eq, rd_in (j := 15) (nq_z 15) (by omega) (by omega), eX6_sign, cl_eq]
  -- the second likeness, in both
  have two : ∀ (like x4 : Int32), ((like = 0 ∧ ¬ tSgn p = tSgn (n 15)) ∨ (like = 1 ∧ tSgn p = tSgn (n 15))) → ∀ l2 : Int32, ((l2 = 0 ∧ ¬ tSgn p = tSgn (n 16)) ∨ (l2 = 1 ∧ tSgn p = tSgn (n 16))) → ∃ n1 n2 n3 n4 g1, fX1_adaptPoles_b74 like l2 x4 n = some n1 ∧ fX1_adaptZeros d n1 = some n2 ∧ fX1_remember d r p n2 = some n3 ∧ fX1_settle_b71 1100 (0 : Int32) (0 : Int32) n3 = some n4 ∧ fX7_goesOn_b102 (nI b) d r p (n 15) (n 16) x4 g = some g1 ∧ vA 23 b n4 g1 g0 := by
    intro like x4 hl l2 hl2
    rw [fX1_adaptPoles_b74, fX7_goesOn_b102, eX7_sign, cl_eq, eX7_sign, cl_eq]
    rcases hl2 with ⟨rfl, h⟩ | ⟨rfl, h⟩
    · rw [br_t1 rfl, br_f1 h]; exact bd_poles hb d r p (n 15) x4 _ like hl hR rfl
    · rw [br_f1 (by decide), br_t1 h]; exact bd_poles hb d r p (n 15) x4 _ like hl hR rfl
  have one : ∀ like : Int32, ((like = 0 ∧ ¬ tSgn p = tSgn (n 15)) ∨ (like = 1 ∧ tSgn p = tSgn (n 15))) → ∀ g' : Option (Nat → Int32), (like = 0 → g' = fX7_goesOn_b89 (nI b) d r p (n 15) (n 16) (tLim ((4 : Int32) * n 5)) g) → (like = 1 → g' = fX7_goesOn_b89 (nI b) d r p (n 15) (n 16) (-(tLim ((4 : Int32) * n 5))) g) → ∃ n1 n2 n3 n4 g1, fX1_adaptPoles_b22 p like n = some n1 ∧ fX1_adaptZeros d n1 = some n2 ∧ fX1_remember d r p n2 = some n3 ∧ fX1_settle_b71 1100 (0 : Int32) (0 : Int32) n3 = some n4 ∧ g' = some g1 ∧ vA 23 b n4 g1 g0 := by
    intro like hl g' hg0 hg1
    have b45 : ∀ l2 : Int32, ((l2 = 0 ∧ ¬ tSgn p = tSgn (n 16)) ∨ (l2 = 1 ∧ tSgn p = tSgn (n 16))) → ∃ n1 n2 n3 n4 g1, fX1_adaptPoles_b45 like l2 n = some n1 ∧ fX1_adaptZeros d n1 = some n2 ∧ fX1_remember d r p n2 = some n3 ∧ fX1_settle_b71 1100 (0 : Int32) (0 : Int32) n3 = some n4 ∧ g' = some g1 ∧ vA 23 b n4 g1 g0 := by
      intro l2 hl2
      rw [fX1_adaptPoles_b45, rd_in (j := 5) (nq_z 5) (by omega) (by omega), eX6_limited, cl_eq]
      have hle := lim_le ((4 : Int32) * n 5)
      generalize tLim ((4 : Int32) * n 5) = q at hg0 hg1 hle ⊢
      by_cases h0 : like = (0 : Int32)
      · rw [br_t1 h0, hg0 h0, fX7_goesOn_b89, br_t1 hle]
        exact two like q hl l2 hl2
      · have h1 : like = 1 := by
          rcases hl with ⟨h, -⟩ | ⟨h, -⟩
          · exact absurd h h0
          · exact h
        rw [br_f1 h0, hg1 h1, fX7_goesOn_b89, nm_eq]
        by_cases h2 : (32767 : Int32) < -q
        · rw [if_pos h2, br_f1 (by rw [nq_le]; rw [nq_lt] at h2; omega)]
          exact two like _ hl l2 hl2
        · rw [if_neg h2, br_t1 (by rw [nq_le]; rw [nq_lt] at h2; omega)]
          exact two like _ hl l2 hl2
    rw [fX1_adaptPoles_b22, eX6_sign, cl_eq, rd_in (j := 16) (nq_z 16) (by omega) (by omega), eX6_sign, cl_eq]
    by_cases h : tSgn p = tSgn (n 16)
    · rw [br_t1 h]; exact b45 1 (Or.inr ⟨rfl, h⟩)
    · rw [br_f1 h]; exact b45 0 (Or.inl ⟨rfl, h⟩)
  by_cases h : tSgn p = tSgn (n 15)
  · rw [br_t1 h, br_t1 h, nm_eq]
    exact one 1 (Or.inr ⟨rfl, h⟩) _ (fun q => absurd q (by decide)) (fun _ => rfl)
  · rw [br_f1 h, br_f1 h]
    exact one 0 (Or.inl ⟨rfl, h⟩) _ (fun _ => rfl) (fun q => absurd q (by decide))
/-- the model's root, and the class's scale -/
def tDet (nb sh : Int32) : Int32 := (4 : Int32) * (if (0 : Int32) ≤ sh - (nb >>> ((11 : Int32) &&& 31)) then pq_t_ROOTS ((nb >>> ((6 : Int32) &&& 31)) &&& (31 : Int32)).toNatClampNeg >>> ((sh - (nb >>> ((11 : Int32) &&& 31))) &&& 31) else pq_t_ROOTS ((nb >>> ((6 : Int32) &&& 31)) &&& (31 : Int32)).toNatClampNeg <<< ((-(sh - (nb >>> ((11 : Int32) &&& 31)))) &&& 31))
abbrev lRoots : List Int32 := [2048, 2093, 2139, 2186, 2233, 2282, 2332, 2383, 2435, 2489, 2543, 2599, 2656, 2714, 2774, 2834, 2896, 2960, 3025, 3091, 3158, 3228, 3298, 3371, 3444, 3520, 3597, 3676, 3756, 3838, 3922, 4008]
theorem root_ix (nb : Int32) : ∃ j : Nat, j < 32 ∧ (nb >>> ((6 : Int32) &&& 31)) &&& (31 : Int32) = nI j ∧ ((nb >>> ((6 : Int32) &&& 31)) &&& (31 : Int32)).toNatClampNeg = j := by
  obtain ⟨j, h1, h2⟩ := pk_andE (nb >>> ((6 : Int32) &&& 31)) (m := (31 : Int32)) 5 (by decide)
  exact ⟨j, h1, h2, by rw [h2]; exact nI_clamp (by omega)⟩
theorem eX7_root {fr : Nat → Int32} (hf : mt fr lRoots) (nb sh : Int32) : fX7_root nb sh fr = some (tDet nb sh) := by
  obtain ⟨j, h1, h2, h3⟩ := root_ix nb
  unfold tDet
  rw [fX7_root, rd_in (j := j) h2 h1 (by omega), h3, nm_eq, hf j h1, (by decide : ∀ j, j < 32 → lRoots.getD j 0 = pq_t_ROOTS j) j h1]
  by_cases h : (0 : Int32) ≤ sh - (nb >>> ((11 : Int32) &&& 31))
  · rw [br_t1 h, if_pos h]
  · rw [br_f1 h, if_neg h]
theorem eX1_adaptScale (w mx sh : Int32) (n : Nat → Int32) : fX1_adaptScale w mx sh n = some (upd (upd n 0 (tCut ((((127 : Int32) * n 0) >>> ((7 : Int32) &&& 31)) + w) 0 mx)) 1 (tDet (tCut ((((127 : Int32) * n 0) >>> ((7 : Int32) &&& 31)) + w) 0 mx) sh)) := by
  rw [fX1_adaptScale, rd_in (j := 0) (nq_z 0) (by omega) (by omega), eX6_cut, cl_eq]
  generalize tCut ((((127 : Int32) * n 0) >>> ((7 : Int32) &&& 31)) + w) 0 mx = nb
  obtain ⟨j, h1, h2, h3⟩ := root_ix nb
  unfold tDet
  rw [rd_in (j := j) h2 h1 (by omega), h3, nm_eq, wr_in (j := 0) (nq_z 0) (by omega) (by omega)]
  by_cases h : (0 : Int32) ≤ sh - (nb >>> ((11 : Int32) &&& 31))
  · rw [br_t1 h, if_pos h, fX1_adaptScale_b77, wr_in (j := 1) (nq_z 1) (by omega) (by omega)]
  · rw [br_f1 h, if_neg h, fX1_adaptScale_b77, wr_in (j := 1) (nq_z 1) (by omega) (by omega)]
/-- a band settles: the class's method, and the model's goesOn behind the new scale -/
theorem bd_settle (hb : b + 23 ≤ 368) (f w mx sh : Int32) {n g : Nat → Int32} (hR : vA 23 b n g g0) :
    ∃ n4 g1, fX1_settle f w mx sh n = some n4 ∧ fX7_goesOn (nI b) ((n 1 * f) >>> ((15 : Int32) &&& 31)) (upd (upd g (b + 0) (tCut ((((127 : Int32) * n 0) >>> ((7 : Int32) &&& 31)) + w) 0 mx)) (b + 1) (tDet (tCut ((((127 : Int32) * n 0) >>> ((7 : Int32) &&& 31)) + w) 0 mx) sh)) = some g1 ∧ vA 23 b n4 g1 g0 := by
  rw [fX1_settle, fX1_difference, rd_in (j := 1) (nq_z 1) (by omega) (by omega), cl_eq, rd_in (j := 2) (nq_z 2) (by omega) (by omega), eX6_limited, cl_eq, rd_in (j := 4) (nq_z 4) (by omega) (by omega), eX6_limited, cl_eq, eX1_adaptScale, cl_eq]
  generalize tCut ((((127 : Int32) * n 0) >>> ((7 : Int32) &&& 31)) + w) 0 mx = nb
  generalize (n 1 * f) >>> ((15 : Int32) &&& 31) = d
  have hR1 := (hR.up (j := 0) (by omega) nb).up (j := 1) (by omega) (tDet nb sh)
  have v2 : upd (upd n 0 nb) 1 (tDet nb sh) 2 = n 2 := by rw [pk_un (by omega), pk_un (by omega)]
  have v4 : upd (upd n 0 nb) 1 (tDet nb sh) 4 = n 4 := by rw [pk_un (by omega), pk_un (by omega)]
  obtain ⟨n1, n2, n3, n4, g1, k1, k2, k3, k4, k5, k6⟩ := bd_goes hb d hR1
  rw [v2, v4] at k3
  rw [v4] at k1
  exact ⟨n4, g1, by rw [k1, cl_eq, k2, cl_eq, k3, cl_eq, k4], k5, k6⟩
end BAND2
end
section
/-! G.722: the sieve, the codes, both bands -/
theorem rd_cg {β : Type} {n : Nat} {f f' : Nat → Int32} (h : ∀ j, j < n → f j = f' j) (hn : n ≤ 2000) (i : Int32) (k : Int32 → Option β) : pq_rd n f i k = pq_rd n f' i k := by
  unfold pq_rd
  by_cases hc : i < 0 ∨ n ≤ i.toNatClampNeg
  · rw [if_pos hc, if_pos hc]
  · rw [if_neg hc, if_neg hc, h _ (by omega)]
abbrev lCo : List Int32 := [3, -11, 12, 32, -210, 951, 3876, -805, 362, -156, 53, -11]
abbrev lSt : List Int32 := [35, 72, 110, 150, 190, 233, 276, 323, 370, 422, 473, 530, 587, 650, 714, 786, 858, 940, 1023, 1121, 1219, 1339, 1458, 1612, 1765, 1980, 2195, 2557, 2919]
abbrev lUps : List Int32 := [0, -20456, -12896, -8968, -6288, -4240, -2584, -1200, 20456, 12896, 8968, 6288, 4240, 2584, 1200, 0]
abbrev lHig : List Int32 := [-7408, -1616, 7408, 1616]
abbrev lLw : List Int32 := [-60, 3042, 1198, 538, 334, 172, 58, -30, 3042, 1198, 538, 334, 172, 58, -30, -60]
abbrev lHw : List Int32 := [798, -214, 798, -214]
abbrev lH56 : List Int32 := [-280, -280, -23352, -17560, -14120, -11664, -9752, -8184, -6864, -5712, -4696, -3784, -2960, -2208, -1520, -880]
abbrev lH64 : List Int32 := [-136, -136, -136, -136, -24808, -21904, -19008, -16704, -14984, -13512, -12280, -11192, -10232, -9360, -8576, -7856, -7192, -6576, -6000, -5456, -4944, -4464, -4008, -3576, -3168, -2776, -2400, -2032, -1688, -1360, -1040, -728]
section WIDE
variable {s : Nat} {v0 fc : Nat → Int32}
theorem not_le_nI {i m : Nat} {c : Int32} (hc : c = nI m) (h : i < m) (hm : m < 2 ^ 31) : ¬ c ≤ nI i := by
  rw [hc, nI_leI hm (by omega)]
  omega
theorem sv_sum (hfc : mt fc lCo) {x v : Nat → Int32} (hx : ∀ j, j < 24 → v (s + j) = x j) (hs : s + 24 ≤ 192) : ∀ (k f1 f2 f3 : Nat) (o e : Int32), k ≤ 12 → k < f1 → k < f2 → k < f3 →
    ∃ o1 e1, fX5_evenSum_b4 x f1 o (nI (12 - k)) = some o1 ∧ fX5_oddSum_b4 x f2 e (nI (12 - k)) = some e1 ∧ fX7_sieves_b79 fc f3 (nI s) (nI (12 - k)) o e v = some (o1, e1, v) := by
  intro k
  induction k with
  | zero =>
    intro f1 f2 f3 o e h1 h2 h3 h4
    obtain ⟨f1, rfl⟩ : ∃ z, f1 = z + 1 := ⟨f1 - 1, by omega⟩
    obtain ⟨f2, rfl⟩ : ∃ z, f2 = z + 1 := ⟨f2 - 1, by omega⟩
    obtain ⟨f3, rfl⟩ : ∃ z, f3 = z + 1 := ⟨f3 - 1, by omega⟩
    refine ⟨o, e, ?_, ?_, ?_⟩
    · rw [fX5_evenSum_b4]; exact br_t1 (by decide) _ _
    · rw [fX5_oddSum_b4]; exact br_t1 (by decide) _ _
    · rw [fX7_sieves_b79]; exact br_t1 (by decide) _ _
  | succ k ih =>
    intro f1 f2 f3 o e h1 h2 h3 h4
    obtain ⟨f1, rfl⟩ : ∃ z, f1 = z + 1 := ⟨f1 - 1, by omega⟩
    obtain ⟨f2, rfl⟩ : ∃ z, f2 = z + 1 := ⟨f2 - 1, by omega⟩
    obtain ⟨f3, rfl⟩ : ∃ z, f3 = z + 1 := ⟨f3 - 1, by omega⟩
    generalize hi : 12 - (k + 1) = i
    have hi12 : i < 12 := by omega
    have hn : ¬ (12 : Int32) ≤ nI i := not_le_nI (m := 12) rfl hi12 (by omega)
    have e2 : (2 : Int32) * nI i = nI (2 * i) := pk_mul 2 i
    have e11 : (11 : Int32) - nI i = nI (11 - i) := pk_sub (a := 11) (by omega)
    have c1 : fc i = pq_t_COEFFICIENTS i := by rw [hfc i hi12]; exact (by decide : ∀ i, i < 12 → lCo.getD i 0 = pq_t_COEFFICIENTS i) i hi12
    have c2 : fc (11 - i) = pq_t_COEFFICIENTS (11 - i) := by rw [hfc (11 - i) (show 11 - i < 12 by omega)]; exact (by decide : ∀ i, i < 12 → lCo.getD i 0 = pq_t_COEFFICIENTS i) (11 - i) (by omega)
    obtain ⟨o1, e1, q1, q2, q3⟩ := ih f1 f2 f3 (o + x (2 * i) * pq_t_COEFFICIENTS i) (e + x (2 * i + 1) * pq_t_COEFFICIENTS (11 - i)) (by omega) (by omega) (by omega) (by omega)
    rw [show 12 - k = i + 1 by omega] at q1 q2 q3
    refine ⟨o1, e1, ?_, ?_, ?_⟩
    · rw [fX5_evenSum_b4, br_f1 hn, rd_in (j := 2 * i) e2 (by omega) (by omega), rd_in (j := i) rfl (by omega) (by omega), nm_eq, nm_eq, nI_1]
      exact q1
    · rw [fX5_oddSum_b4, br_f1 hn, e2, rd_in (j := 2 * i + 1) (nI_1 _) (by omega) (by omega), rd_in (j := 11 - i) e11 (by omega) (by omega), nm_eq, nm_eq, nI_1]
      exact q2
    · rw [fX7_sieves_b79, br_f1 hn, e2, rd_in (j := s + 2 * i) (nI_add s (2 * i)) (by omega) (by omega), rd_in (j := i) rfl (by omega) (by omega), nm_eq, hx (2 * i) (by omega), c1, nI_add, rd_in (j := s + (2 * i + 1)) (by rw [nI_1, Nat.add_assoc]) (by omega) (by omega), rd_in (j := 11 - i) e11 (by omega) (by omega), nm_eq, nm_eq, hx (2 * i + 1) (by omega), c2, nI_1]
      exact q3
theorem sv_push (hs : s + 24 ≤ 192) (a w : Int32) (od ev : Int32) : ∀ (k f1 f2 : Nat) (x v : Nat → Int32), vA 24 s x v v0 → k ≤ 22 → k < f1 → k < f2 →
    ∃ x1 v1, fX5_push_b2 f1 a w (nI (22 - k)) x = some x1 ∧ fX7_sieves_b9 fc f2 a w (nI s) (nI (22 - k)) od ev v = fX7_sieves_b79 fc 1100 (nI s) (0 : Int32) (0 : Int32) (0 : Int32) v1 ∧ vA 24 s x1 v1 v0 := by
  intro k
  induction k with
  | zero =>
    intro f1 f2 x v hR h1 h2 h3
    obtain ⟨f1, rfl⟩ : ∃ z, f1 = z + 1 := ⟨f1 - 1, by omega⟩
    obtain ⟨f2, rfl⟩ : ∃ z, f2 = z + 1 := ⟨f2 - 1, by omega⟩
    refine ⟨upd (upd x 22 a) 23 w, upd (upd v (s + 22) a) (s + 23) w, ?_, ?_, (hR.up (j := 22) (by omega) a).up (j := 23) (by omega) w⟩
    · rw [fX5_push_b2, br_t1 (show (22 : Int32) ≤ nI (22 - 0) by decide), wr_in (j := 22) (nq_z 22) (by omega) (by omega), wr_in (j := 23) (nq_z 23) (by omega) (by omega)]
    · rw [fX7_sieves_b9, br_t1 (show (22 : Int32) ≤ nI (22 - 0) by decide), wr_in (j := s + 22) (ix_l s 22) (by omega) (by omega), wr_in (j := s + 23) (ix_l s 23) (by omega) (by omega)]
  | succ k ih =>
    intro f1 f2 x v hR h1 h2 h3
    obtain ⟨f1, rfl⟩ : ∃ z, f1 = z + 1 := ⟨f1 - 1, by omega⟩
    obtain ⟨f2, rfl⟩ : ∃ z, f2 = z + 1 := ⟨f2 - 1, by omega⟩
    generalize hi : 22 - (k + 1) = i
    have hi22 : i < 22 := by omega
    have hn : ¬ (22 : Int32) ≤ nI i := not_le_nI (m := 22) rfl hi22 (by omega)
    obtain ⟨x1, v1, q1, q2, q3⟩ := ih f1 f2 _ _ (hR.up (j := i) (by omega) (x (i + 2))) (by omega) (by omega) (by omega)
    rw [show 22 - k = i + 1 by omega] at q1 q2
    refine ⟨x1, v1, ?_, ?_, q3⟩
    · rw [fX5_push_b2, br_f1 hn, rd_in (j := i + 2) (ix_l i 2) (by omega) (by omega), wr_in (i := nI i) (j := i) rfl (by omega) (by omega), nm_eq, nI_1]
      exact q1
    · rw [fX7_sieves_b9, br_f1 hn, nI_add, rd_in (j := s + (i + 2)) (by rw [show nI (s + i) + (2 : Int32) = nI (s + i + 2) from nI_add _ 2, Nat.add_assoc]) (by omega) (by omega), wr_in (i := nI (s + i)) (j := s + i) rfl (by omega) (by omega), nm_eq, hR.1 (i + 2) (by omega), nI_1]
      exact q2
/-- the sieve, with both sums -/
theorem sv_both (hfc : mt fc lCo) (hs : s + 24 ≤ 192) (a w od ev : Int32) {sd : Int32} (hsd : (24 : Int32) * sd = nI s) {x v : Nat → Int32} (hR : vA 24 s x v v0) :
    ∃ x1 v1 o e, fX5_push a w x = some x1 ∧ fX5_evenSum x1 = some o ∧ fX5_oddSum x1 = some e ∧ fX7_sieves sd a w fc od ev v = some (o, e, v1) ∧ vA 24 s x1 v1 v0 := by
  obtain ⟨x1, v1, q1, q2, q3⟩ := sv_push (fc := fc) hs a w od ev 22 1100 1100 x v hR (by omega) (by omega) (by omega)
  obtain ⟨o, e, k1, k2, k3⟩ := sv_sum hfc q3.1 hs 12 1100 1100 1100 0 0 (by omega) (by omega) (by omega) (by omega)
  refine ⟨x1, v1, o, e, q1, k1, k2, ?_, q3⟩
  rw [fX7_sieves, nm_eq, hsd]
  exact q2.trans k3
end WIDE
section CODES
variable {fc fs fr fu fh fl fw : Nat → Int32} {b : Nat}
theorem lo_loop (hfs : mt fs lSt) (d m sd od ev : Int32) {lo g vv : Nat → Int32} (hb : b + 23 ≤ 368) (h1b : g (b + 1) = lo 1) : ∀ (k f1 f2 : Nat), k ≤ 29 → k < f1 → k < f2 →
    ∃ il : Nat, il < 64 ∧ fX5_lowCode_b15 lo f1 d m (nI (30 - k)) = some (nI il) ∧ fX7_says722_b61 fc fs fr fu fh fl fw f2 sd (nI b) d m (nI (30 - k)) od ev g vv = fX7_says722_b136 fc fs fr fu fh fl fw sd (nI b) (nI il) od ev g vv := by
  have ends : ∀ i : Nat, 1 ≤ i → i ≤ 30 → ∃ il : Nat, il < 64 ∧ fX5_lowCode_b45 lo d (nI i) = some (nI il) ∧ fX7_says722_b104 fc fs fr fu fh fl fw sd (nI b) d (nI i) od ev g vv = fX7_says722_b136 fc fs fr fu fh fl fw sd (nI b) (nI il) od ev g vv := by
    intro i h1 h2
    rw [fX5_lowCode_b45, fX7_says722_b104]
    by_cases hd : d < (0 : Int32)
    · rw [br_t1 hd, br_t1 hd]
      by_cases h3 : (3 : Int32) ≤ nI i
      · have h3' : 3 ≤ i := by
          rw [show (3 : Int32) = nI 3 from rfl, nI_leI (by omega) (by omega)] at h3
          exact h3
        rw [br_t1 h3, br_t1 h3, show (34 : Int32) - nI i = nI (34 - i) from pk_sub (a := 34) (by omega)]
        exact ⟨34 - i, by omega, rfl, rfl⟩
      · rw [br_f1 h3, br_f1 h3, show (64 : Int32) - nI i = nI (64 - i) from pk_sub (a := 64) (by omega)]
        exact ⟨64 - i, by omega, rfl, rfl⟩
    · rw [br_f1 hd, br_f1 hd, show (62 : Int32) - nI i = nI (62 - i) from pk_sub (a := 62) (by omega)]
      exact ⟨62 - i, by omega, rfl, rfl⟩
  intro k
  induction k with
  | zero =>
    intro f1 f2 h1 h2 h3
    obtain ⟨f1, rfl⟩ : ∃ z, f1 = z + 1 := ⟨f1 - 1, by omega⟩
    obtain ⟨f2, rfl⟩ : ∃ z, f2 = z + 1 := ⟨f2 - 1, by omega⟩
    obtain ⟨il, q1, q2, q3⟩ := ends 30 (by omega) (by omega)
    refine ⟨il, q1, ?_, ?_⟩
    · rw [fX5_lowCode_b15, br_t1 (show (30 : Int32) ≤ nI (30 - 0) by decide)]; exact q2
    · rw [fX7_says722_b61, br_t1 (show (30 : Int32) ≤ nI (30 - 0) by decide)]; exact q3
  | succ k ih =>
    intro f1 f2 h1 h2 h3
    obtain ⟨f1, rfl⟩ : ∃ z, f1 = z + 1 := ⟨f1 - 1, by omega⟩
    obtain ⟨f2, rfl⟩ : ∃ z, f2 = z + 1 := ⟨f2 - 1, by omega⟩
    obtain ⟨il2, r1, r2, r3⟩ := ih f1 f2 (by omega) (by omega) (by omega)
    generalize hi : 30 - (k + 1) = i
    have hi30 : 1 ≤ i ∧ i < 30 := by omega
    rw [show 30 - k = i + 1 by omega] at r2 r3
    have hn : ¬ (30 : Int32) ≤ nI i := not_le_nI (m := 30) rfl hi30.2 (by omega)
    have e1 : nI i - (1 : Int32) = nI (i - 1) := pk_sub (b := 1) (by omega)
    have c1 : fs (i - 1) = pq_t_Q (i - 1) := by rw [hfs (i - 1) (show i - 1 < 29 by omega)]; exact (by decide : ∀ i, i < 29 → lSt.getD i 0 = pq_t_Q i) (i - 1) (by omega)
    obtain ⟨il, q1, q2, q3⟩ := ends i hi30.1 (by omega)
    rw [fX5_lowCode_b15, fX7_says722_b61, br_f1 hn, br_f1 hn, rd_in (j := i - 1) e1 (by omega) (by omega), rd_in (j := i - 1) e1 (by omega) (by omega), rd_in (j := b + 1) (ix_l b 1) (by omega) (by omega), h1b, c1, fX1_scaled, rd_in (j := 1) (nq_z 1) (by omega) (by omega), cl_eq]
    by_cases hm : m < (pq_t_Q (i - 1) * lo 1) >>> ((12 : Int32) &&& 31)
    · rw [br_t1 hm, br_t1 hm]; exact ⟨il, q1, q2, q3⟩
    · rw [br_f1 hm, br_f1 hm, nm_eq, nm_eq, nI_1]; exact ⟨il2, r1, r2, r3⟩
/-- both bands are the model's, b on; outside g is g0 -/
def vW (b : Nat) (lo hi g g0 : Nat → Int32) : Prop := (∀ j, j < 23 → g (b + j) = lo j) ∧ (∀ j, j < 23 → g (b + 23 + j) = hi j) ∧ ∀ q, (q < b ∨ b + 46 ≤ q) → g q = g0 q
theorem both_eq (hfr : mt fr lRoots) (hfu : mt fu lUps) (hfh : mt fh lHig) (hfl : mt fl lLw) (hfw : mt fw lHw) (hb : b + 46 ≤ 368) {sd : Int32} (hsd : (46 : Int32) * sd = nI b) {il ih : Nat} (hil : il < 64) (hih : ih < 4) {lo hi g g0 : Nat → Int32} (hR : vW b lo hi g g0) :
    ∃ lo1 hi1 g1, fX5_settle (nI il) (nI ih) lo hi = some (lo1, hi1) ∧ fX7_both sd (nI il) (nI ih) fr fu fh fl fw g = some g1 ∧ vW b lo1 hi1 g1 g0 := by
  have hr : il / 4 < 16 := by omega
  have er : nI il >>> ((2 : Int32) &&& 31) = nI (il / 4) := pk_shrN (by omega) _ 2 (by decide)
  have er15 : nI (il / 4) &&& (15 : Int32) = nI (il / 4) := by rw [pk_andN (by omega) 4 (by decide), Nat.mod_eq_of_lt (by omega)]
  have eh3 : nI ih &&& (3 : Int32) = nI ih := by rw [pk_andN (by omega) 2 (by decide), Nat.mod_eq_of_lt (by omega)]
  have cu : fu (il / 4) = pq_t_U (il / 4) := by rw [hfu _ hr]; exact (by decide : ∀ i, i < 16 → lUps.getD i 0 = pq_t_U i) _ hr
  have cl : fl (il / 4) = pq_t_WL (il / 4) := by rw [hfl _ hr]; exact (by decide : ∀ i, i < 16 → lLw.getD i 0 = pq_t_WL i) _ hr
  have ch : fh ih = pq_t_V ih := by rw [hfh _ hih]; exact (by decide : ∀ i, i < 4 → lHig.getD i 0 = pq_t_V i) _ hih
  have cw : fw ih = pq_t_WH ih := by rw [hfw _ hih]; exact (by decide : ∀ i, i < 4 → lHw.getD i 0 = pq_t_WH i) _ hih
  have hL : vA 23 b lo g g := ⟨hR.1, fun _ _ => rfl⟩
  obtain ⟨lo1, g1, s1, s2, s3⟩ := bd_settle (b := b) (by omega) (pq_t_U (il / 4)) (pq_t_WL (il / 4)) 18432 8 hL
  have hH : vA 23 (b + 23) hi g1 g1 := ⟨fun j hj => by rw [s3.2 _ (by omega)]; exact hR.2.1 j hj, fun _ _ => rfl⟩
  obtain ⟨hi1, g2, u1, u2, u3⟩ := bd_settle (b := b + 23) (by omega) (pq_t_V ih) (pq_t_WH ih) 22528 10 hH
  refine ⟨lo1, hi1, g2, ?_, ?_, fun j hj => by rw [u3.2 _ (by omega)]; exact s3.1 j hj, u3.1, fun q hq => ?_⟩
  · rw [fX5_settle, nm_eq, er, er15, rd_in (j := il / 4) rfl hr (by omega), rd_in (j := il / 4) rfl hr (by omega), s1, cl_eq, eh3, rd_in (j := ih) rfl hih (by omega), rd_in (j := ih) rfl hih (by omega), u1, cl_eq]
  · have x23 : nI b + (23 : Int32) = nI (b + 23) := nI_add b 23
    have x24 : nI b + (24 : Int32) = nI (b + 23 + 1) := nI_add b 24
    have h23 := hH.1 0 (by omega)
    have h24 := hH.1 1 (by omega)
    rw [fX7_both, nm_eq, hsd, nm_eq, er, rd_in (j := b + 1) (ix_l b 1) (by omega) (by omega), rd_in (j := il / 4) rfl hr (by omega), nm_eq, rd_in (i := nI b) (j := b + 0) rfl (by omega) (by omega), rd_in (j := il / 4) rfl hr (by omega), hR.1 1 (by omega), hR.1 0 (by omega), cu, cl, eX7_cut _ _ _ (by decide), cl_eq, wr_in (i := nI b) (j := b + 0) rfl (by omega) (by omega), rd_in (i := nI b) (j := b + 0) rfl (by omega) (by omega), pk_us, eX7_root hfr, cl_eq, wr_in (j := b + 1) (ix_l b 1) (by omega) (by omega), s2, cl_eq]
    rw [rd_in (j := b + 23 + 1) x24 (by omega) (by omega), h24, rd_in (j := ih) rfl hih (by omega), nm_eq, rd_in (j := b + 23 + 0) x23 (by omega) (by omega), h23, rd_in (j := ih) rfl hih (by omega), ch, cw, eX7_cut _ _ _ (by decide), cl_eq, wr_in (j := b + 23 + 0) x23 (by omega) (by omega), rd_in (j := b + 23 + 0) x23 (by omega) (by omega), pk_us, eX7_root hfr, cl_eq, wr_in (j := b + 23 + 1) x24 (by omega) (by omega), x23, u2, cl_eq]
  · rw [u3.2 q (by omega), s3.2 q (by omega)]
    exact hR.2.2 q hq
end CODES
end
section
section WENC
variable {fc fs fr fu fh fl fw f56 f64 : Nat → Int32} {b s : Nat} {g0 v0 : Nat → Int32}
/-- a pair is said -/
theorem wenc (hfc : mt fc lCo) (hfs : mt fs lSt) (hfr : mt fr lRoots) (hfu : mt fu lUps) (hfh : mt fh lHig) (hfl : mt fl lLw) (hfw : mt fw lHw) (hb : b + 46 ≤ 368) (hs : s + 24 ≤ 192) {sd : Int32} (hsd : (46 : Int32) * sd = nI b) (hss : (24 : Int32) * sd = nI s) (a w od ev : Int32) {lo hi x g v : Nat → Int32} (hR : vW b lo hi g g0) (hX : vA 24 s x v v0) :
    ∃ (c : Nat) (o e : Int32) (lo1 hi1 x1 g1 v1 : Nat → Int32), c < 256 ∧ fX5_encode a w lo hi x = some (nI c, lo1, hi1, x1) ∧ fX7_says722 sd a w fc fs fr fu fh fl fw od ev g v = some (nI c, o, e, g1, v1) ∧ vW b lo1 hi1 g1 g0 ∧ vA 24 s x1 v1 v0 := by
  obtain ⟨x1, v1, o, e, k1, k2, k3, k4, k5⟩ := sv_both hfc hs a w od ev hss hX
  rw [fX5_encode, k1, cl_eq, k2, cl_eq, k3, cl_eq, fX7_says722, k4, cl_eq, nm_eq, nm_eq, nm_eq, nm_eq, hsd, rd_in (j := b + 2) (ix_l b 2) (by omega) (by omega), hR.1 2 (by omega), eX7_limited, cl_eq, fX1_error, rd_in (j := 2) (nq_z 2) (by omega) (by omega), eX6_limited, cl_eq, cl_eq]
  generalize tLim (((e + o) >>> ((14 : Int32) &&& 31)) - lo 2) = d
  -- the high band, for any IL
  have high : ∀ il : Nat, il < 64 → ∃ (c : Nat) (lo1 hi1 g1 : Nat → Int32), c < 256 ∧ (pq_cl (fX1_error ((e - o) >>> ((14 : Int32) &&& 31)) hi) fun (r11 : Int32) => pq_cl (fX5_highCode r11 hi) fun (r13 : Int32) => pq_cl (fX5_settle (nI il) r13 lo hi) fun (u18 : (Nat → Int32) × (Nat → Int32)) => pq_nm (u18.1) fun (f15 : Nat → Int32) => pq_nm (u18.2) fun (f16 : Nat → Int32) => some (((64 : Int32) * r13) + nI il, f15, f16, x1)) = some (nI c, lo1, hi1, x1) ∧ fX7_says722_b136 fc fs fr fu fh fl fw sd (nI b) (nI il) o e g v1 = some (nI c, o, e, g1, v1) ∧ vW b lo1 hi1 g1 g0 := by
    intro il hil
    have x25 : nI b + (25 : Int32) = nI (b + 23 + 2) := nI_add b 25
    have x24 : nI b + (24 : Int32) = nI (b + 23 + 1) := nI_add b 24
    rw [fX1_error, rd_in (j := 2) (nq_z 2) (by omega) (by omega), eX6_limited, cl_eq, cl_eq, fX7_says722_b136, rd_in (j := b + 23 + 2) x25 (by omega) (by omega), hR.2.1 2 (by omega), eX7_limited, cl_eq]
    generalize tLim (((e - o) >>> ((14 : Int32) &&& 31)) - hi 2) = h
    have fin : ∀ ih : Nat, ih < 4 → ∃ (c : Nat) (lo1 hi1 g1 : Nat → Int32), c < 256 ∧ (pq_cl (fX5_settle (nI il) (nI ih) lo hi) fun (u18 : (Nat → Int32) × (Nat → Int32)) => pq_nm (u18.1) fun (f15 : Nat → Int32) => pq_nm (u18.2) fun (f16 : Nat → Int32) => some (((64 : Int32) * nI ih) + nI il, f15, f16, x1)) = some (nI c, lo1, hi1, x1) ∧ fX7_says722_b241 fc fs fr fu fh fl fw sd (nI il) (nI ih) o e g v1 = some (nI c, o, e, g1, v1) ∧ vW b lo1 hi1 g1 g0 := by
      intro ih hih
      obtain ⟨lo1, hi1, g1, q1, q2, q3⟩ := both_eq hfr hfu hfh hfl hfw hb hsd hil hih hR
      have ec : ((64 : Int32) * nI ih) + nI il = nI (64 * ih + il) := by rw [show (64 : Int32) * nI ih = nI (64 * ih) from pk_mul 64 ih, nI_add]
      refine ⟨64 * ih + il, lo1, hi1, g1, by omega, ?_, ?_, q3⟩
      · rw [q1, cl_eq, nm_eq, nm_eq, ec]
      · rw [fX7_says722_b241, q2, cl_eq, ec]
    have mid : ∀ m : Int32, ∃ (c : Nat) (lo1 hi1 g1 : Nat → Int32), c < 256 ∧ (pq_cl (fX5_highCode_b12 hi h m) fun (r13 : Int32) => pq_cl (fX5_settle (nI il) r13 lo hi) fun (u18 : (Nat → Int32) × (Nat → Int32)) => pq_nm (u18.1) fun (f15 : Nat → Int32) => pq_nm (u18.2) fun (f16 : Nat → Int32) => some (((64 : Int32) * r13) + nI il, f15, f16, x1)) = some (nI c, lo1, hi1, x1) ∧ fX7_says722_b182 fc fs fr fu fh fl fw sd (nI b) (nI il) h m o e g v1 = some (nI c, o, e, g1, v1) ∧ vW b lo1 hi1 g1 g0 := by
      intro m
      rw [fX5_highCode_b12, fX1_scaled, rd_in (j := 1) (nq_z 1) (by omega) (by omega), cl_eq, fX7_says722_b182, rd_in (j := b + 23 + 1) x24 (by omega) (by omega), hR.2.1 1 (by omega)]
      by_cases hm : ((564 : Int32) * hi 1) >>> ((12 : Int32) &&& 31) ≤ m
      · rw [br_t1 hm, br_t1 hm, fX5_highCode_b32, fX7_says722_b211]
        by_cases h0 : (0 : Int32) ≤ h
        · rw [br_t1 h0, br_t1 h0, br_t1 rfl, cl_eq]; exact fin 2 (by omega)
        · rw [br_f1 h0, br_f1 h0, br_t1 rfl, cl_eq]; exact fin 0 (by omega)
      · rw [br_f1 hm, br_f1 hm, fX5_highCode_b32, fX7_says722_b211]
        by_cases h0 : (0 : Int32) ≤ h
        · rw [br_t1 h0, br_t1 h0, br_f1 (by decide), cl_eq]; exact fin 3 (by omega)
        · rw [br_f1 h0, br_f1 h0, br_f1 (by decide), cl_eq]; exact fin 1 (by omega)
    rw [fX5_highCode]
    by_cases h0 : (0 : Int32) ≤ h
    · rw [br_t1 h0, br_t1 h0]; exact mid h
    · rw [br_f1 h0, br_f1 h0]; exact mid _
  have low : ∀ m : Int32, ∃ (c : Nat) (o1 e1 : Int32) (lo1 hi1 x2 g1 v2 : Nat → Int32), c < 256 ∧ (pq_cl (fX5_lowCode_b12 lo d m) fun (r9 : Int32) => pq_cl (fX1_error ((e - o) >>> ((14 : Int32) &&& 31)) hi) fun (r11 : Int32) => pq_cl (fX5_highCode r11 hi) fun (r13 : Int32) => pq_cl (fX5_settle r9 r13 lo hi) fun (u18 : (Nat → Int32) × (Nat → Int32)) => pq_nm (u18.1) fun (f15 : Nat → Int32) => pq_nm (u18.2) fun (f16 : Nat → Int32) => some (((64 : Int32) * r13) + r9, f15, f16, x1)) = some (nI c, lo1, hi1, x2) ∧ fX7_says722_b56 fc fs fr fu fh fl fw sd (nI b) d m o e g v1 = some (nI c, o1, e1, g1, v2) ∧ vW b lo1 hi1 g1 g0 ∧ vA 24 s x2 v2 v0 := by
    intro m
    obtain ⟨il, q1, q2, q3⟩ := lo_loop (fc := fc) (fr := fr) (fu := fu) (fh := fh) (fl := fl) (fw := fw) (vv := v1) hfs d m sd o e (b := b) (by omega) (hR.1 1 (by omega)) 29 1100 1100 (by omega) (by omega) (by omega)
    obtain ⟨c, lo1, hi1, g1, r0, r1, r2, r3⟩ := high il q1
    refine ⟨c, o, e, lo1, hi1, x1, g1, v1, r0, ?_, ?_, r3, k5⟩
    · rw [fX5_lowCode_b12, show (1 : Int32) = nI (30 - 29) from rfl, q2, cl_eq]; exact r1
    · rw [fX7_says722_b56, show (1 : Int32) = nI (30 - 29) from rfl, q3]; exact r2
  rw [fX5_lowCode]
  by_cases h0 : (0 : Int32) ≤ d
  · rw [br_t1 h0, br_t1 h0]; exact low d
  · rw [br_f1 h0, br_f1 h0]; exact low _
def lstF (l : List Int32) : Nat → Int32 := fun j => l.getD j 0
theorem hb_cg (hfu : mt fu lUps) (h56 : mt f56 lH56) (h64 : mt f64 lH64) (k i : Int32) : fX7_heardBy k i fu f56 f64 = fX7_heardBy k i (lstF lUps) (lstF lH56) (lstF lH64) := by
  unfold fX7_heardBy
  simp only [rd_cg (f := fu) (f' := lstF lUps) (n := 16) hfu (by omega), rd_cg (f := f56) (f' := lstF lH56) (n := 16) h56 (by omega), rd_cg (f := f64) (f' := lstF lH64) (n := 32) h64 (by omega)]
theorem fac_eq (hfu : mt fu lUps) (h56 : mt f56 lH56) (h64 : mt f64 lH64) {il kd : Nat} (hil : il < 64) (hkd : kd = 6 ∨ kd = 7 ∨ kd = 8) : ∃ f, fX5_lowFactor (nI il) (nI kd) = some f ∧ fX7_heardBy (nI kd) (nI il) fu f56 f64 = some f := by
  rw [hb_cg hfu h56 h64]
  have key : fX5_lowFactor (nI il) (nI kd) = fX7_heardBy (nI kd) (nI il) (lstF lUps) (lstF lH56) (lstF lH64) ∧ (fX5_lowFactor (nI il) (nI kd)).isSome = true := by
    rcases hkd with rfl | rfl | rfl
    · exact (by decide +kernel : ∀ il, il < 64 → fX5_lowFactor (nI il) (nI 6) = fX7_heardBy (nI 6) (nI il) (lstF lUps) (lstF lH56) (lstF lH64) ∧ (fX5_lowFactor (nI il) (nI 6)).isSome = true) il hil
    · exact (by decide +kernel : ∀ il, il < 64 → fX5_lowFactor (nI il) (nI 7) = fX7_heardBy (nI 7) (nI il) (lstF lUps) (lstF lH56) (lstF lH64) ∧ (fX5_lowFactor (nI il) (nI 7)).isSome = true) il hil
    · exact (by decide +kernel : ∀ il, il < 64 → fX5_lowFactor (nI il) (nI 8) = fX7_heardBy (nI 8) (nI il) (lstF lUps) (lstF lH56) (lstF lH64) ∧ (fX5_lowFactor (nI il) (nI 8)).isSome = true) il hil
  obtain ⟨f, hf⟩ := Option.isSome_iff_exists.mp key.2
  exact ⟨f, hf, by rw [← key.1]; exact hf⟩
/-- a code is heard -/
theorem wdec (hfc : mt fc lCo) (hfr : mt fr lRoots) (hfu : mt fu lUps) (hfh : mt fh lHig) (hfl : mt fl lLw) (hfw : mt fw lHw) (h56 : mt f56 lH56) (h64 : mt f64 lH64) (hb : b + 46 ≤ 368) (hs : s + 24 ≤ 192) {ln c kd : Nat} (hln : ln < 4) (hsd : (46 : Int32) * (((2 : Int32) * nI ln) + (1 : Int32)) = nI b) (hss : (24 : Int32) * (((2 : Int32) * nI ln) + (1 : Int32)) = nI s) (hc : c < 256) (hkd : kd = 6 ∨ kd = 7 ∨ kd = 8) (sec od ev : Int32) {lo hi x g v fk fse : Nat → Int32} (hk : fk ln = nI kd) (hR : vW b lo hi g g0) (hX : vA 24 s x v v0) :
    ∃ (r sec1 o e : Int32) (lo1 hi1 x1 g1 v1 : Nat → Int32), fX5_decode (nI c) (nI kd) sec lo hi x = some (r, sec1, lo1, hi1, x1) ∧ fX7_hears722 (nI ln) (nI c) fk fc fr fu fh fl fw f56 f64 od ev fse g v = some (r, o, e, upd fse ln sec1, g1, v1) ∧ vW b lo1 hi1 g1 g0 ∧ vA 24 s x1 v1 v0 ∧ (-32768 ≤ r.toInt ∧ r.toInt ≤ 32767) ∧ (-32768 ≤ sec1.toInt ∧ sec1.toInt ≤ 32767) := by
  have e63 : nI c &&& (63 : Int32) = nI (c % 64) := pk_andN (by omega) 6 (by decide)
  have e6 : nI c >>> ((6 : Int32) &&& 31) = nI (c / 64) := pk_shrN (by omega) _ 6 (by decide)
  have e3 : nI (c / 64) &&& (3 : Int32) = nI (c / 64) := by rw [pk_andN (by omega) 2 (by decide), Nat.mod_eq_of_lt (by omega)]
  have hil : c % 64 < 64 := Nat.mod_lt _ (by omega)
  have hih : c / 64 < 4 := by omega
  obtain ⟨f, f1, f2⟩ := fac_eq hfu h56 h64 hil hkd
  have ch : fh (c / 64) = pq_t_V (c / 64) := by rw [hfh _ hih]; exact (by decide : ∀ i, i < 4 → lHig.getD i 0 = pq_t_V i) _ hih
  obtain ⟨lo1, hi1, g1, q1, q2, q3⟩ := both_eq hfr hfu hfh hfl hfw hb hsd hil hih hR
  have x25 : nI b + (25 : Int32) = nI (b + 23 + 2) := nI_add b 25
  have x24 : nI b + (24 : Int32) = nI (b + 23 + 1) := nI_add b 24
  generalize hl1 : tCut (lo 2 + ((lo 1 * f) >>> ((15 : Int32) &&& 31))) (-16384) 16383 = L
  generalize hh1 : tCut (hi 2 + ((hi 1 * pq_t_V (c / 64)) >>> ((15 : Int32) &&& 31))) (-16384) 16383 = Hh
  obtain ⟨x1, v1, o, e, k1, k2, k3, k4, k5⟩ := sv_both hfc hs (L + Hh) (L - Hh) od ev hss hX
  refine ⟨tLim (e >>> ((11 : Int32) &&& 31)), tLim (o >>> ((11 : Int32) &&& 31)), o, e, lo1, hi1, x1, g1, v1, ?_, ?_, q3, k5, lim_rng _, lim_rng _⟩
  · rw [fX5_decode, nm_eq, nm_eq, e63, e6, e3, f1, cl_eq, fX1_heard, rd_in (j := 2) (nq_z 2) (by omega) (by omega), fX1_difference, rd_in (j := 1) (nq_z 1) (by omega) (by omega), cl_eq, eX6_cut, cl_eq, cl_eq, hl1, rd_in (j := c / 64) rfl hih (by omega), fX1_heard, rd_in (j := 2) (nq_z 2) (by omega) (by omega), fX1_difference, rd_in (j := 1) (nq_z 1) (by omega) (by omega), cl_eq, eX6_cut, cl_eq, cl_eq, hh1, q1, cl_eq, nm_eq, nm_eq, k1, cl_eq, k2, cl_eq, eX6_limited, cl_eq, k3, cl_eq, eX6_limited, cl_eq]
  · rw [fX7_hears722, nm_eq, nm_eq, hsd, nm_eq, nm_eq, e63, e6, rd_in (j := b + 2) (ix_l b 2) (by omega) (by omega), rd_in (j := b + 1) (ix_l b 1) (by omega) (by omega), hR.1 2 (by omega), hR.1 1 (by omega), rd_in (i := nI ln) (j := ln) rfl hln (by omega), hk, f2, cl_eq, eX7_cut _ _ _ (by decide), cl_eq, hl1, rd_in (j := b + 23 + 2) x25 (by omega) (by omega), rd_in (j := b + 23 + 1) x24 (by omega) (by omega), hR.2.1 2 (by omega), hR.2.1 1 (by omega), rd_in (j := c / 64) rfl hih (by omega), ch, eX7_cut _ _ _ (by decide), cl_eq, hh1, q2, cl_eq, k4, cl_eq, nm_eq, nm_eq, nm_eq, eX7_limited, cl_eq, wr_in (i := nI ln) (j := ln) rfl hln (by omega), eX7_limited, cl_eq]
end WENC
section AENC
variable {b k : Nat} {g0 b2 b3 b4 b5 t2 t3 t4 t5 w2 w3 w4 w5 p2 p3 p4 p5 : Nat → Int32}
theorem bits_eq (hk : 2 ≤ k ∧ k ≤ 5) : ((1 : Int32) <<< ((nI k - (1 : Int32)) &&& 31)) - (1 : Int32) = nI (2 ^ (k - 1) - 1) ∧ ((1 : Int32) <<< ((nI k - (1 : Int32)) &&& 31)) - nI k = nI (2 ^ (k - 1) - k) := by
  rcases kcases hk with rfl | rfl | rfl | rfl <;> decide
theorem aenc (hB : mt4 b2 b3 b4 b5 lB2 lB3 lB4 lB5) (hT : mt4 t2 t3 t4 t5 lT2 lT3 lT4 lT5) (hW : mt4 w2 w3 w4 w5 lW2 lW3 lW4 lW5) (hP : mt4 p2 p3 p4 p5 lP2 lP3 lP4 lP5) (hk : 2 ≤ k ∧ k ≤ 5) (hb : b + 24 ≤ 192) {s : Int32} (hs : (24 : Int32) * s = nI b) (x se sz st z e y : Int32) {n g : Nat → Int32} (hR : vA 24 b n g g0) (hi : inv n) :
    ∃ (c : Nat) (se1 sz1 st1 : Int32) (n1 g1 : Nat → Int32), c < 2 ^ k ∧ fX0_encode x (nI k) se sz st n = some (nI c, se1, sz1, st1, n1) ∧ fX7_says726 s (nI k) x b2 b3 b4 b5 t2 t3 t4 t5 w2 w3 w4 w5 p2 p3 p4 p5 z e y g = some (nI c, sz1, se1, st1, g1) ∧ vA 24 b n1 g1 g0 ∧ inv n1 := by
  obtain ⟨⟨E, Z, Y⟩, ⟨Z', E', Y'⟩, f1, f2, f3, f4, f5, -⟩ := fore_both hR hb se sz st z e y hs
  simp only at f3 f4 f5
  subst f3; subst f4; subst f5
  rw [fX0_encode, f1, cl_eq, nm_eq, nm_eq, nm_eq, fX7_says726, f2, cl_eq, nm_eq, nm_eq, nm_eq, nm_eq, eX7_amount, cl_eq, eX7_size, fX0_codeOf, nq_abs, nm_eq]
  generalize (x >>> ((2 : Int32) &&& 31)) - E = d
  obtain ⟨r, -, hr, -⟩ := size_some (tAbs d >>> ((1 : Int32) &&& 31))
  rw [hr, cl_eq, cl_eq, nm_eq, nm_eq, nm_eq, nm_eq, nm_eq, (bits_eq hk).1, (bits_eq hk).2]
  obtain ⟨c, h1, h2, h3⟩ := code_loop (t2 := t2) (t3 := t3) (t4 := t4) (t5 := t5) (w2 := w2) (w3 := w3) (w4 := w4) (w5 := w5) (p2 := p2) (p3 := p3) (p4 := p4) (p5 := p5) hB hk Y d ((((128 : Int32) * nI r) + ((((128 : Int32) * tAbs d) >>> (nI r &&& 31)) &&& (127 : Int32))) - (Y >>> ((2 : Int32) &&& 31))) s Z E Y g 1100 0 (by omega) (by have : 2 ^ (k - 1) ≤ 16 := (by rcases kcases hk with rfl | rfl | rfl | rfl <;> decide); omega)
  rw [show (0 : Int32) = nI 0 from rfl, h2, cl_eq, h3, fX7_says726_b149]
  obtain ⟨⟨sr, n1⟩, ⟨lv, g1⟩, k1, k2, k3, k4, k5⟩ := settle_both (Z := Z) (E := E) (Y := Y) hT hW hP hk h1 hb hs hR hi
  rw [k1, cl_eq, nm_eq, nm_eq, k2, cl_eq, nm_eq, nm_eq]
  exact ⟨c, E, Z, Y, n1, g1, h1, rfl, rfl, k4, k5⟩
theorem adec (hT : mt4 t2 t3 t4 t5 lT2 lT3 lT4 lT5) (hW : mt4 w2 w3 w4 w5 lW2 lW3 lW4 lW5) (hP : mt4 p2 p3 p4 p5 lP2 lP3 lP4 lP5) (hk : 2 ≤ k ∧ k ≤ 5) (hb : b + 24 ≤ 192) {s : Int32} (hs : (24 : Int32) * s = nI b) {c : Nat} (hc : c < 2 ^ k) (se sz st z e y : Int32) {n g : Nat → Int32} (hR : vA 24 b n g g0) (hi : inv n) :
    ∃ (r se1 sz1 st1 : Int32) (n1 g1 : Nat → Int32), fX0_decode (nI c) (nI k) se sz st n = some (r, se1, sz1, st1, n1) ∧ fX7_hears726 s (nI k) (nI c) t2 t3 t4 t5 w2 w3 w4 w5 p2 p3 p4 p5 z e y g = some (r, sz1, se1, st1, g1) ∧ vA 24 b n1 g1 g0 ∧ inv n1 ∧ (-32768 ≤ r.toInt ∧ r.toInt ≤ 32767) := by
  obtain ⟨⟨E, Z, Y⟩, ⟨Z', E', Y'⟩, f1, f2, f3, f4, f5, -⟩ := fore_both hR hb se sz st z e y hs
  simp only at f3 f4 f5
  subst f3; subst f4; subst f5
  rw [fX0_decode, f1, cl_eq, nm_eq, nm_eq, nm_eq, fX7_hears726, f2, cl_eq, nm_eq, nm_eq, nm_eq]
  obtain ⟨⟨sr, n1⟩, ⟨lv, g1⟩, k1, k2, k3, k4, k5⟩ := settle_both (Z := Z) (E := E) (Y := Y) hT hW hP hk hc hb hs hR hi
  simp only at k3
  rw [k1, cl_eq, nm_eq, nm_eq, eX6_limited, cl_eq, k2, cl_eq, nm_eq, nm_eq, k3, Int32.mul_comm (4 : Int32) sr]
  exact ⟨_, E, Z, Y, n1, g1, rfl, rfl, k4, k5, lim_rng _⟩
end AENC
end
section
/-! G.711 -/
theorem shl64 : ∀ n, n ≤ 7 → (64 : Int32) <<< (nI n &&& 31) = nI (64 * 2 ^ n) := by decide
theorem shl32 : ∀ n, n ≤ 7 → (32 : Int32) <<< (nI n &&& 31) = nI (32 * 2 ^ n) := by decide
theorem mu_seg {q : Nat} (hq : q ≤ 8191) (sg : Int32) : ∀ (k f1 f2 : Nat), k ≤ 7 → k < f1 → k < f2 → ∃ r : Nat, 7 - k ≤ r ∧ r ≤ 7 ∧ q < 64 * 2 ^ r ∧ (r = 7 - k ∨ 32 * 2 ^ r ≤ q) ∧ fX3_segment_b2 f1 (nI q) (64 : Int32) (nI (7 - k)) = some (nI r) ∧ fX7_muSays_b35 f2 (nI q) sg (nI (7 - k)) = pq_br (sg = (1 : Int32)) (fX7_muSays_b66 (nI q) (nI r) (127 : Int32)) (fX7_muSays_b66 (nI q) (nI r) (255 : Int32)) := by
  intro k
  induction k with
  | zero =>
    intro f1 f2 h1 h2 h3
    obtain ⟨f1, rfl⟩ : ∃ z, f1 = z + 1 := ⟨f1 - 1, by omega⟩
    obtain ⟨f2, rfl⟩ : ∃ z, f2 = z + 1 := ⟨f2 - 1, by omega⟩
    refine ⟨7, by omega, by omega, by omega, Or.inl rfl, ?_, ?_⟩
    · rw [fX3_segment_b2]; exact br_t1 (by decide) _ _
    · rw [fX7_muSays_b35, show nI (7 - 0) = nI 7 from rfl, shl64 7 (by omega)]
      exact br_t1 (nI_lt (by omega) (by omega)) _ _
  | succ k ih =>
    intro f1 f2 h1 h2 h3
    obtain ⟨f1, rfl⟩ : ∃ z, f1 = z + 1 := ⟨f1 - 1, by omega⟩
    obtain ⟨f2, rfl⟩ : ∃ z, f2 = z + 1 := ⟨f2 - 1, by omega⟩
    obtain ⟨r, r1, r2, r3, r4, r5, r6⟩ := ih f1 f2 (by omega) (by omega) (by omega)
    generalize hn : 7 - (k + 1) = n at *
    rw [show 7 - k = n + 1 by omega] at r1 r4 r5 r6
    have hn7 : n < 7 := by omega
    have hb : 64 * 2 ^ n ≤ 64 * 2 ^ 7 := Nat.mul_le_mul_left _ (Nat.pow_le_pow_right (by omega) (by omega))
    rw [fX3_segment_b2, fX7_muSays_b35, br_f1 (show ¬ (7 : Int32) ≤ nI n from not_le_nI (m := 7) rfl hn7 (by omega)), shl64 n (by omega)]
    by_cases hc : q < 64 * 2 ^ n
    · have hc' : nI q < nI (64 * 2 ^ n) := nI_lt hc (by omega)
      rw [br_t1 hc', br_t1 hc']
      exact ⟨n, Nat.le_refl n, by omega, hc, Or.inl rfl, rfl, rfl⟩
    · have hc' : ¬ nI q < nI (64 * 2 ^ n) := nI_nlt (by omega) (by omega)
      rw [br_f1 hc', br_f1 hc', nm_eq, nm_eq, nI_1]
      refine ⟨r, by omega, r2, r3, Or.inr ?_, r5, r6⟩
      rcases r4 with r4 | r4
      · rw [r4, Nat.pow_succ]; omega
      · exact r4
theorem a_seg {q : Nat} (hq : q ≤ 4095) (x : Int32) : ∀ (k f1 f2 : Nat), k ≤ 7 → k < f1 → k < f2 → ∃ r : Nat, 7 - k ≤ r ∧ r ≤ 7 ∧ q < 32 * 2 ^ r ∧ (r = 7 - k ∨ 16 * 2 ^ r ≤ q) ∧ fX3_segment_b2 f1 (nI q) (32 : Int32) (nI (7 - k)) = some (nI r) ∧ fX7_aSays_b15 f2 x (nI q) (nI (7 - k)) = pq_br ((2 : Int32) ≤ nI r) (fX7_aSays_b44 x (nI r) (nI q >>> (nI r &&& 31))) (fX7_aSays_b44 x (nI r) (nI q >>> ((1 : Int32) &&& 31))) := by
  intro k
  induction k with
  | zero =>
    intro f1 f2 h1 h2 h3
    obtain ⟨f1, rfl⟩ : ∃ z, f1 = z + 1 := ⟨f1 - 1, by omega⟩
    obtain ⟨f2, rfl⟩ : ∃ z, f2 = z + 1 := ⟨f2 - 1, by omega⟩
    refine ⟨7, by omega, by omega, by omega, Or.inl rfl, ?_, ?_⟩
    · rw [fX3_segment_b2]; exact br_t1 (by decide) _ _
    · rw [fX7_aSays_b15, show nI (7 - 0) = nI 7 from rfl, shl32 7 (by omega)]
      exact br_t1 (nI_lt (by omega) (by omega)) _ _
  | succ k ih =>
    intro f1 f2 h1 h2 h3
    obtain ⟨f1, rfl⟩ : ∃ z, f1 = z + 1 := ⟨f1 - 1, by omega⟩
    obtain ⟨f2, rfl⟩ : ∃ z, f2 = z + 1 := ⟨f2 - 1, by omega⟩
    obtain ⟨r, r1, r2, r3, r4, r5, r6⟩ := ih f1 f2 (by omega) (by omega) (by omega)
    generalize hn : 7 - (k + 1) = n at *
    rw [show 7 - k = n + 1 by omega] at r1 r4 r5 r6
    have hn7 : n < 7 := by omega
    have hb : 32 * 2 ^ n ≤ 32 * 2 ^ 7 := Nat.mul_le_mul_left _ (Nat.pow_le_pow_right (by omega) (by omega))
    rw [fX3_segment_b2, fX7_aSays_b15, br_f1 (show ¬ (7 : Int32) ≤ nI n from not_le_nI (m := 7) rfl hn7 (by omega)), shl32 n (by omega)]
    by_cases hc : q < 32 * 2 ^ n
    · have hc' : nI q < nI (32 * 2 ^ n) := nI_lt hc (by omega)
      rw [br_t1 hc', br_t1 hc']
      exact ⟨n, Nat.le_refl n, by omega, hc, Or.inl rfl, rfl, rfl⟩
    · have hc' : ¬ nI q < nI (32 * 2 ^ n) := nI_nlt (by omega) (by omega)
      rw [br_f1 hc', br_f1 hc', nm_eq, nm_eq, nI_1]
      refine ⟨r, by omega, r2, r3, Or.inr ?_, r5, r6⟩
      rcases r4 with r4 | r4
      · rw [r4, Nat.pow_succ]; omega
      · exact r4
theorem abs_toInt {v : Int32} (h : -1073741824 ≤ v.toInt ∧ v.toInt ≤ 1073741823) : ∃ j : Nat, tAbs v = nI j ∧ (j : Int) = (if v.toInt < 0 then -v.toInt else v.toInt) ∧ j ≤ 1073741824 := by
  have z : (0 : Int32).toInt = 0 := rfl
  unfold tAbs
  by_cases h0 : (0 : Int32) ≤ v
  · rw [if_pos h0]
    rw [nq_le] at h0
    obtain ⟨j, q1, q2, q3⟩ := nq_of (x := v) (by omega)
    exact ⟨j, q2, by rw [if_neg (by omega)]; omega, by omega⟩
  · rw [if_neg h0]
    rw [nq_le] at h0
    have e : (-v).toInt = -v.toInt := by rw [Int32.toInt_neg, Int.bmod_eq_of_le (by omega) (by omega)]
    obtain ⟨j, q1, q2, q3⟩ := nq_of (x := -v) (by omega)
    exact ⟨j, q2, by rw [if_pos (by omega)]; omega, by omega⟩
theorem shr2 (x : Int32) : (x >>> ((2 : Int32) &&& 31)).toInt = x.toInt / 4 := by
  rw [pk_shr x _ 2 (by decide), Int.shiftRight_eq_div_pow]; rfl
theorem shr3 (x : Int32) : (x >>> ((3 : Int32) &&& 31)).toInt = x.toInt / 8 := by
  rw [pk_shr x _ 3 (by decide), Int.shiftRight_eq_div_pow]; rfl
/-- mu, said: what both answer, and how -/
theorem mu_both (x : Int32) : ∃ (a q r t : Nat), (a : Int) = (if x.toInt / 4 < 0 then -(x.toInt / 4) else x.toInt / 4) ∧ q = (if a ≤ 8158 then a else 8158) + 33 ∧ r ≤ 7 ∧ t = q / 2 ^ (r + 1) ∧ 16 ≤ t ∧ t < 32 ∧ fX3_muCode x = some (nI ((if x.toInt < 0 then 127 else 255) - (16 * r + (t - 16)))) ∧ fX7_muSays x = some (nI ((if x.toInt < 0 then 127 else 255) - (16 * r + (t - 16)))) := by
  have hx1 : x.toInt ≤ 2147483647 := x.toInt_le
  have hx2 : -2147483648 ≤ x.toInt := x.le_toInt
  have hv := shr2 x
  have z : (0 : Int32).toInt = 0 := rfl
  obtain ⟨a, ha, ha2, ha3⟩ := abs_toInt (v := x >>> ((2 : Int32) &&& 31)) (by rw [hv]; omega)
  rw [hv] at ha2
  have hq33 : (if a ≤ 8158 then a else 8158) + 33 ≤ 8191 := by split <;> omega
  generalize hq : (if a ≤ 8158 then a else 8158) + 33 = q at hq33
  obtain ⟨r, r1, r2, r3, r4, r5, r6⟩ := mu_seg (q := q) hq33 (tSgn (x >>> ((2 : Int32) &&& 31))) 7 1100 1100 (by omega) (by omega) (by omega)
  have hlow : 32 * 2 ^ r ≤ q := by
    rcases r4 with r4 | r4
    · rw [r4]; omega
    · exact r4
  have hp : 2 ^ (r + 1) = 2 * 2 ^ r := by rw [Nat.pow_succ]; omega
  have hp0 : 0 < 2 ^ r := Nat.pow_pos (by omega)
  have ht1 : 16 ≤ q / 2 ^ (r + 1) := (Nat.le_div_iff_mul_le (by omega)).mpr (by omega)
  have ht2 : q / 2 ^ (r + 1) < 32 := (Nat.div_lt_iff_lt_mul (by omega)).mpr (by omega)
  have esh : nI q >>> ((nI r + (1 : Int32)) &&& 31) = nI (q / 2 ^ (r + 1)) := by
    rw [nI_1]
    have : r = 0 ∨ r = 1 ∨ r = 2 ∨ r = 3 ∨ r = 4 ∨ r = 5 ∨ r = 6 ∨ r = 7 := by omega
    rcases this with rfl | rfl | rfl | rfl | rfl | rfl | rfl | rfl <;> exact pk_shrN (by omega) _ _ (by decide)
  have e15 : nI (q / 2 ^ (r + 1)) &&& (15 : Int32) = nI (q / 2 ^ (r + 1) - 16) := by
    rw [pk_andN (by omega) 4 (by decide)]
    congr 1
    omega
  have e16 : ((16 : Int32) * nI r) + nI (q / 2 ^ (r + 1) - 16) = nI (16 * r + (q / 2 ^ (r + 1) - 16)) := by rw [show (16 : Int32) * nI r = nI (16 * r) from pk_mul 16 r, nI_add]
  have sub255 : (255 : Int32) - nI (16 * r + (q / 2 ^ (r + 1) - 16)) = nI (255 - (16 * r + (q / 2 ^ (r + 1) - 16))) := pk_sub (a := 255) (by omega)
  have sub127 : (127 : Int32) - nI (16 * r + (q / 2 ^ (r + 1) - 16)) = nI (127 - (16 * r + (q / 2 ^ (r + 1) - 16))) := pk_sub (a := 127) (by omega)
  have emin : (if (8158 : Int32) < nI a then (8158 : Int32) else nI a) + (33 : Int32) = nI q := by
    by_cases h : a ≤ 8158
    · rw [if_neg (by rw [show (8158 : Int32) = nI 8158 from rfl]; exact nI_nlt h (by omega)), show nI a + (33 : Int32) = nI (a + 33) from nI_add a 33, ← hq, if_pos h]
    · rw [if_pos (by rw [show (8158 : Int32) = nI 8158 from rfl]; exact nI_lt (by omega) (by omega)), ← hq, if_neg h]; rfl
  refine ⟨a, q, r, q / 2 ^ (r + 1), ha2, hq.symm, r2, rfl, ht1, ht2, ?_, ?_⟩
  · rw [fX3_muCode, nm_eq, nq_abs, nm_eq, nm_eq, nm_eq, ha, emin, fX3_segment, show (0 : Int32) = nI (7 - 7) from rfl, r5, cl_eq]
    by_cases hs : x.toInt < 0
    · rw [br_f1 (by rw [nq_le, hv]; show ¬ (0 : Int) ≤ _; omega), fX3_muCode_b37, esh, e15, e16, sub127, if_pos hs]
    · rw [br_t1 (by rw [nq_le, hv]; show (0 : Int) ≤ _; omega), fX3_muCode_b37, esh, e15, e16, sub255, if_neg hs]
  · rw [fX7_muSays, nm_eq, eX7_sign, cl_eq, eX7_amount, cl_eq, ha]
    have e27 : pq_br (nI a ≤ (8158 : Int32)) (fX7_muSays_b27 (nI a) (tSgn (x >>> ((2 : Int32) &&& 31)))) (fX7_muSays_b27 (8158 : Int32) (tSgn (x >>> ((2 : Int32) &&& 31)))) = fX7_muSays_b35 1100 (nI q) (tSgn (x >>> ((2 : Int32) &&& 31))) (0 : Int32) := by
      by_cases h : a ≤ 8158
      · rw [br_t1 (show nI a ≤ (8158 : Int32) from nI_le (a := a) (b := 8158) h (by omega)), fX7_muSays_b27, nm_eq, show nI a + (33 : Int32) = nI (a + 33) from nI_add a 33, ← hq, if_pos h]
      · rw [br_f1 (show ¬ nI a ≤ (8158 : Int32) from nI_ge (a := 8158) (b := a) (by omega) (by omega)), fX7_muSays_b27, nm_eq, ← hq, if_neg h]; rfl
    rw [e27, show (0 : Int32) = nI (7 - 7) from rfl, r6]
    by_cases hs : x.toInt < 0
    · have hg : tSgn (x >>> ((2 : Int32) &&& 31)) = 1 := by unfold tSgn; rw [if_neg (by rw [nq_le, hv]; show ¬ (0 : Int) ≤ _; omega)]
      rw [br_t1 hg, fX7_muSays_b66, esh, e15, e16, sub127, if_pos hs]
    · have hg : ¬ tSgn (x >>> ((2 : Int32) &&& 31)) = 1 := by unfold tSgn; rw [if_pos (by rw [nq_le, hv]; show (0 : Int) ≤ _; omega)]; decide
      rw [br_f1 hg, fX7_muSays_b66, esh, e15, e16, sub255, if_neg hs]
theorem mu_hears {c : Nat} (hc : c < 256) : ∃ v : Int32, fX3_muSample (nI c) = some v ∧ fX7_muHears (nI c) = some v ∧ (-32768 ≤ v.toInt ∧ v.toInt ≤ 32767) := by
  have h := (by decide +kernel : ∀ c, c < 256 → fX3_muSample (nI c) = fX7_muHears (nI c) ∧ (match fX3_muSample (nI c) with | some v => decide (-32768 ≤ v.toInt ∧ v.toInt ≤ 32767) | none => false) = true) c hc
  cases hv : fX3_muSample (nI c) with
  | none => rw [hv] at h; cases h.2
  | some v => rw [hv] at h; exact ⟨v, rfl, h.1.symm, of_decide_eq_true h.2⟩
theorem a_hears {c : Nat} (hc : c < 256) : ∃ v : Int32, fX3_aSample (nI c) = some v ∧ fX7_aHears (nI c) = some v ∧ (-32768 ≤ v.toInt ∧ v.toInt ≤ 32767) := by
  have h := (by decide +kernel : ∀ c, c < 256 → fX3_aSample (nI c) = fX7_aHears (nI c) ∧ (match fX3_aSample (nI c) with | some v => decide (-32768 ≤ v.toInt ∧ v.toInt ≤ 32767) | none => false) = true) c hc
  cases hv : fX3_aSample (nI c) with
  | none => rw [hv] at h; cases h.2
  | some v => rw [hv] at h; exact ⟨v, rfl, h.1.symm, of_decide_eq_true h.2⟩
end
section
theorem xor_rng : ∀ y, y < 128 → nI y ^^^ (213 : Int32) = nI (y ^^^ 213) ∧ y ^^^ 213 < 256 ∧ nI y ^^^ (85 : Int32) = nI (y ^^^ 85) ∧ y ^^^ 85 < 256 := by decide +kernel
/-- A, said -/
theorem a_both {x : Int32} (hx : -32768 ≤ x.toInt ∧ x.toInt ≤ 32767) : ∃ (q r t : Nat), (q : Int) = (if x.toInt < 0 then -(x.toInt / 8) - 1 else x.toInt / 8) ∧ r ≤ 7 ∧ t = q / 2 ^ (if r = 0 then 1 else r) ∧ (r = 0 → t < 16) ∧ (0 < r → 16 ≤ t ∧ t < 32) ∧ fX3_aCode x = some (nI ((16 * r + t % 16) ^^^ (if x.toInt < 0 then 85 else 213))) ∧ fX7_aSays x = some (nI ((16 * r + t % 16) ^^^ (if x.toInt < 0 then 85 else 213))) := by
  have hv := shr3 x
  have z : (0 : Int32).toInt = 0 := rfl
  have tail : ∀ q : Nat, q ≤ 4095 → ∃ (r t : Nat), r ≤ 7 ∧ t = q / 2 ^ (if r = 0 then 1 else r) ∧ (r = 0 → t < 16) ∧ (0 < r → 16 ≤ t ∧ t < 32) ∧ fX3_aCode_b16 x (nI q) = some (nI ((16 * r + t % 16) ^^^ (if x.toInt < 0 then 85 else 213))) ∧ fX7_aSays_b13 x (nI q) = some (nI ((16 * r + t % 16) ^^^ (if x.toInt < 0 then 85 else 213))) := by
    intro q hq
    obtain ⟨r, r1, r2, r3, r4, r5, r6⟩ := a_seg (q := q) hq x 7 1100 1100 (by omega) (by omega) (by omega)
    have hp0 : 0 < 2 ^ r := Nat.pow_pos (by omega)
    have h0 : r = 0 → q / 2 ^ (if r = 0 then 1 else r) < 16 := by
      intro h; subst h; simp only [if_pos]; omega
    have h1 : 0 < r → 16 ≤ q / 2 ^ (if r = 0 then 1 else r) ∧ q / 2 ^ (if r = 0 then 1 else r) < 32 := by
      intro h
      rw [if_neg (by omega)]
      have hl : 16 * 2 ^ r ≤ q := by
        rcases r4 with r4 | r4
        · omega
        · exact r4
      exact ⟨(Nat.le_div_iff_mul_le (by omega)).mpr (by omega), (Nat.div_lt_iff_lt_mul (by omega)).mpr (by omega)⟩
    have e16 : ∀ w : Nat, ((16 : Int32) * nI r) + (nI w &&& (15 : Int32)) = nI (16 * r + w % 16) := by
      intro w
      rw [show (16 : Int32) * nI r = nI (16 * r) from pk_mul 16 r, show nI w &&& (15 : Int32) = nI (w % 16) from by
        by_cases hw : w < 2 ^ 32
        · exact pk_andN hw 4 (by decide)
        · rw [pk_and (nI w) 4 (by decide)]
          congr 1
          rw [nI, Int32.toBitVec_ofNat', BitVec.toNat_ofNat]
          omega, nI_add]
    have ey : 16 * r + (q / 2 ^ (if r = 0 then 1 else r)) % 16 < 128 := by omega
    obtain ⟨x1, x2, x3, x4⟩ := xor_rng _ ey
    have esh : nI q >>> ((if nI r < (1 : Int32) then (1 : Int32) else nI r) &&& 31) = nI (q / 2 ^ (if r = 0 then 1 else r)) := by
      have : r = 0 ∨ r = 1 ∨ r = 2 ∨ r = 3 ∨ r = 4 ∨ r = 5 ∨ r = 6 ∨ r = 7 := by omega
      rcases this with rfl | rfl | rfl | rfl | rfl | rfl | rfl | rfl <;> exact pk_shrN (by omega) _ _ (by decide)
    have emod : pq_br ((2 : Int32) ≤ nI r) (fX7_aSays_b44 x (nI r) (nI q >>> (nI r &&& 31))) (fX7_aSays_b44 x (nI r) (nI q >>> ((1 : Int32) &&& 31))) = fX7_aSays_b44 x (nI r) (nI (q / 2 ^ (if r = 0 then 1 else r))) := by
      have : r = 0 ∨ r = 1 ∨ r = 2 ∨ r = 3 ∨ r = 4 ∨ r = 5 ∨ r = 6 ∨ r = 7 := by omega
      rcases this with rfl | rfl | rfl | rfl | rfl | rfl | rfl | rfl
      · rw [br_f1 (by decide), pk_shrN (n := q) (by omega) ((1 : Int32) &&& 31) 1 (by decide)]; rfl
      · rw [br_f1 (by decide), pk_shrN (n := q) (by omega) ((1 : Int32) &&& 31) 1 (by decide)]; rfl
      · rw [br_t1 (by decide), pk_shrN (n := q) (by omega) (nI 2 &&& 31) 2 (by decide)]; rfl
      · rw [br_t1 (by decide), pk_shrN (n := q) (by omega) (nI 3 &&& 31) 3 (by decide)]; rfl
      · rw [br_t1 (by decide), pk_shrN (n := q) (by omega) (nI 4 &&& 31) 4 (by decide)]; rfl
      · rw [br_t1 (by decide), pk_shrN (n := q) (by omega) (nI 5 &&& 31) 5 (by decide)]; rfl
      · rw [br_t1 (by decide), pk_shrN (n := q) (by omega) (nI 6 &&& 31) 6 (by decide)]; rfl
      · rw [br_t1 (by decide), pk_shrN (n := q) (by omega) (nI 7 &&& 31) 7 (by decide)]; rfl
    refine ⟨r, _, r2, rfl, h0, h1, ?_, ?_⟩
    · rw [fX3_aCode_b16, fX3_segment, show (0 : Int32) = nI (7 - 7) from rfl, r5, cl_eq, nm_eq, nm_eq, esh, e16]
      by_cases hs : x.toInt < 0
      · rw [br_f1 (by rw [nq_le]; show ¬ (0 : Int) ≤ _; omega), if_pos hs, x3]
      · rw [br_t1 (by rw [nq_le]; show (0 : Int) ≤ _; omega), if_neg hs, x1]
    · rw [fX7_aSays_b13, show (0 : Int32) = nI (7 - 7) from rfl, r6, emod, fX7_aSays_b44, e16]
      by_cases hs : x.toInt < 0
      · rw [br_t1 (by rw [nq_lt]; show _ < (0 : Int); omega), if_pos hs, x3]
      · rw [br_f1 (by rw [nq_lt]; show ¬ _ < (0 : Int); omega), if_neg hs, x1]
  rw [fX3_aCode, fX7_aSays, nm_eq, nm_eq]
  by_cases hs : x.toInt < 0
  · have hn : ¬ (0 : Int32) ≤ x >>> ((3 : Int32) &&& 31) := by rw [nq_le, hv]; show ¬ (0 : Int) ≤ _; omega
    have e1 : ((-(x >>> ((3 : Int32) &&& 31))) - (1 : Int32)).toInt = -(x.toInt / 8) - 1 := by
      have e0 : (-(x >>> ((3 : Int32) &&& 31))).toInt = -(x.toInt / 8) := by rw [Int32.toInt_neg, hv, Int.bmod_eq_of_le (by omega) (by omega)]
      rw [Int32.toInt_sub, e0, show (1 : Int32).toInt = 1 from rfl, Int.bmod_eq_of_le (by omega) (by omega)]
    obtain ⟨j, q1, q2, q3⟩ := nq_of (x := (-(x >>> ((3 : Int32) &&& 31))) - (1 : Int32)) (by rw [e1]; omega)
    rw [e1] at q3
    obtain ⟨r, t, k1, k2, k3, k4, k5, k6⟩ := tail j (by omega)
    rw [br_f1 hn, br_f1 hn, nm_eq, q2, if_pos hs]
    exact ⟨j, r, t, by omega, k1, k2, k3, k4, k5, k6⟩
  · have hn : (0 : Int32) ≤ x >>> ((3 : Int32) &&& 31) := by rw [nq_le, hv]; show (0 : Int) ≤ _; omega
    obtain ⟨j, q1, q2, q3⟩ := nq_of (x := x >>> ((3 : Int32) &&& 31)) (by rw [hv]; omega)
    rw [hv] at q3
    obtain ⟨r, t, k1, k2, k3, k4, k5, k6⟩ := tail j (by omega)
    rw [br_t1 hn, br_t1 hn, q2, if_neg hs]
    exact ⟨j, r, t, by omega, k1, k2, k3, k4, k5, k6⟩
/-! the edges -/
def edg (k g c : Nat) : Int32 := (if k = 0 then fX3_muEdge (nI c) (nI g) else fX3_aEdge (nI c) (nI g)).getD 0
def sys (k : Nat) (x : Int32) : Option Int32 := if k = 0 then fX7_muSays x else fX7_aSays x
theorem edg_some : ∀ k, k < 2 → ∀ g, g < 2 → ∀ c, c < 256 → (if k = 0 then fX3_muEdge (nI c) (nI g) else fX3_aEdge (nI c) (nI g)) = some (edg k g c) := by decide +kernel
theorem edg_att : ∀ k, k < 2 → ∀ c, c < 256 → (edg k 0 c = -100000 ∧ edg k 1 c = -100000) ∨ (-32768 ≤ (edg k 0 c).toInt ∧ (edg k 0 c).toInt ≤ (edg k 1 c).toInt ∧ (edg k 1 c).toInt ≤ 32767 ∧ sys k (edg k 0 c) = some (nI c) ∧ sys k (edg k 1 c) = some (nI c)) := by decide +kernel
theorem mu_tab : ∀ r, r < 8 → ∀ j, j < 16 → ((edg 0 0 (255 - (16 * r + j))).toInt = 4 * (((16 + j) * 2 ^ (r + 1) - 33 : Nat) : Int) ∧ (edg 0 1 (255 - (16 * r + j))).toInt = 4 * ((if 16 * r + j = 127 then 8191 else (17 + j) * 2 ^ (r + 1) - 34 : Nat) : Int) + 3) ∧ ((r = 0 ∧ j = 0) ∨ ((edg 0 0 (127 - (16 * r + j))).toInt = -(4 * ((if 16 * r + j = 127 then 8192 else (17 + j) * 2 ^ (r + 1) - 34 : Nat) : Int)) ∧ (edg 0 1 (127 - (16 * r + j))).toInt = 3 - 4 * ((if (16 + j) * 2 ^ (r + 1) ≤ 34 then 1 else (16 + j) * 2 ^ (r + 1) - 33 : Nat) : Int))) := by decide +kernel
theorem a_tab : ∀ r, r < 8 → ∀ j, j < 16 → ((edg 1 0 ((16 * r + j) ^^^ 213)).toInt = 8 * (((if r = 0 then j else 16 + j) * 2 ^ (if r = 0 then 1 else r) : Nat) : Int) ∧ (edg 1 1 ((16 * r + j) ^^^ 213)).toInt = 8 * (((if r = 0 then j else 16 + j) + 1) * 2 ^ (if r = 0 then 1 else r) : Nat) - 1) ∧ ((edg 1 0 ((16 * r + j) ^^^ 85)).toInt = -(8 * (((if r = 0 then j else 16 + j) + 1) * 2 ^ (if r = 0 then 1 else r) : Nat)) ∧ (edg 1 1 ((16 * r + j) ^^^ 85)).toInt = -(8 * (((if r = 0 then j else 16 + j) * 2 ^ (if r = 0 then 1 else r) : Nat) : Int)) - 1) := by decide +kernel
end
section
theorem nne {v : Int32} (h : -32768 ≤ v.toInt) : ¬ v = (-100000 : Int32) := by
  intro q
  rw [q] at h
  exact absurd h (by decide)
/-- a sample lies between the edges of its code -/
theorem hit {x : Int32} (hx : -32768 ≤ x.toInt ∧ x.toInt ≤ 32767) {k : Nat} (hk : k < 2) : ∃ c : Nat, c < 256 ∧ sys k x = some (nI c) ∧ (edg k 0 c).toInt ≤ x.toInt ∧ x.toInt ≤ (edg k 1 c).toInt := by
  rcases (show k = 0 ∨ k = 1 by omega) with rfl | rfl
  · obtain ⟨a, q, r, t, h1, h2, h3, h4, h5, h6, -, h8⟩ := mu_both x
    obtain ⟨j, rfl⟩ : ∃ j, t = 16 + j := ⟨t - 16, by omega⟩
    obtain ⟨⟨m1, m2⟩, m3⟩ := mu_tab r (by omega) j (by omega)
    rw [show 16 + j - 16 = j by omega] at h8
    refine ⟨(if x.toInt < 0 then 127 else 255) - (16 * r + j), by split <;> omega, h8, ?_⟩
    by_cases hs : x.toInt < 0
    · rw [if_pos hs]
      rw [if_pos (by omega)] at h1
      have m3 : (edg 0 0 (127 - (16 * r + j))).toInt = -(4 * ((if 16 * r + j = 127 then 8192 else (17 + j) * 2 ^ (r + 1) - 34 : Nat) : Int)) ∧ (edg 0 1 (127 - (16 * r + j))).toInt = 3 - 4 * ((if (16 + j) * 2 ^ (r + 1) ≤ 34 then 1 else (16 + j) * 2 ^ (r + 1) - 33 : Nat) : Int) := by
        rcases m3 with ⟨rfl, rfl⟩ | m3
        · exfalso
          have : a ≥ 1 := by omega
          split at h2 <;> omega
        · exact m3
      rw [m3.1, m3.2]
      have hr8 : r = 0 ∨ r = 1 ∨ r = 2 ∨ r = 3 ∨ r = 4 ∨ r = 5 ∨ r = 6 ∨ r = 7 := by omega
      rcases hr8 with rfl | rfl | rfl | rfl | rfl | rfl | rfl | rfl <;> (simp only [Nat.reduceAdd, Nat.reducePow] at h4 ⊢; split at h2 <;> (constructor <;> split <;> omega))
    · rw [if_neg hs]
      rw [if_neg (by omega)] at h1
      rw [m1, m2]
      have hr8 : r = 0 ∨ r = 1 ∨ r = 2 ∨ r = 3 ∨ r = 4 ∨ r = 5 ∨ r = 6 ∨ r = 7 := by omega
      rcases hr8 with rfl | rfl | rfl | rfl | rfl | rfl | rfl | rfl <;> (simp only [Nat.reduceAdd, Nat.reducePow] at h4 ⊢; split at h2 <;> (constructor <;> first | omega | (split <;> omega)))
  · obtain ⟨q, r, t, h1, h2, h3, h4, h5, -, h7⟩ := a_both hx
    have hy : 16 * r + t % 16 < 128 := by omega
    obtain ⟨x1, x2, x3, x4⟩ := xor_rng _ hy
    obtain ⟨⟨m1, m2⟩, m3, m4⟩ := a_tab r (by omega) (t % 16) (by omega)
    refine ⟨(16 * r + t % 16) ^^^ (if x.toInt < 0 then 85 else 213), by split <;> assumption, h7, ?_⟩
    have et : (if r = 0 then t % 16 else 16 + t % 16) = t := by
      split
      · have := h4 (by assumption); omega
      · have := h5 (by omega); omega
    rw [et] at m1 m2 m3 m4
    have hr8 : r = 0 ∨ r = 1 ∨ r = 2 ∨ r = 3 ∨ r = 4 ∨ r = 5 ∨ r = 6 ∨ r = 7 := by omega
    by_cases hs : x.toInt < 0
    · rw [if_pos hs]
      rw [if_pos hs] at h1
      rw [m3, m4]
      rcases hr8 with rfl | rfl | rfl | rfl | rfl | rfl | rfl | rfl <;> (simp only [Nat.reducePow, Nat.reduceEqDiff, if_true, if_false, reduceIte] at h3 ⊢; omega)
    · rw [if_neg hs]
      rw [if_neg hs] at h1
      rw [m1, m2]
      rcases hr8 with rfl | rfl | rfl | rfl | rfl | rfl | rfl | rfl <;> (simp only [Nat.reducePow, Nat.reduceEqDiff, if_true, if_false, reduceIte] at h3 ⊢; omega)
/-- the rows of least and greatest of one law, with all samples below X read -/
def ivK (k : Nat) (X : Int) (l g : Nat → Int32) : Prop := ∀ c, c < 256 → (edg k 0 c = -100000 → l (256 * k + c) = -100000 ∧ g (256 * k + c) = -100000) ∧ (¬ edg k 0 c = -100000 → l (256 * k + c) = (if X ≤ (edg k 0 c).toInt then -100000 else edg k 0 c) ∧ (X ≤ (edg k 0 c).toInt → g (256 * k + c) = -100000) ∧ ((edg k 1 c).toInt < X → g (256 * k + c) = edg k 1 c))
theorem ivK.step {k : Nat} (hk : k < 2) {x : Int32} (hx : -32768 ≤ x.toInt ∧ x.toInt ≤ 32767) {l g : Nat → Int32} (h : ivK k x.toInt l g) {c0 : Nat} (hc0 : c0 < 256) (hs : sys k x = some (nI c0)) (hlo : (edg k 0 c0).toInt ≤ x.toInt) (hhi : x.toInt ≤ (edg k 1 c0).toInt) :
    ivK k (x.toInt + 1) (if l (256 * k + c0) = -100000 then upd l (256 * k + c0) x else l) (upd g (256 * k + c0) x) := by
  have hne0 : ¬ edg k 0 c0 = -100000 := by
    intro q
    rcases edg_att k hk c0 hc0 with ⟨-, q2⟩ | q2
    · rw [q2] at hhi
      have : (-100000 : Int32).toInt = -100000 := by decide
      omega
    · exact nne q2.1 q
  intro c hc
  have hatt := edg_att k hk c hc
  obtain ⟨h1, h2⟩ := h c hc
  by_cases hcc : c = c0
  · subst hcc
    refine ⟨fun q => absurd q hne0, fun _ => ?_⟩
    obtain ⟨e1, e2, e3⟩ := h2 hne0
    refine ⟨?_, fun q => absurd q (by omega), fun q => ?_⟩
    · rw [if_neg (show ¬ x.toInt + 1 ≤ (edg k 0 c).toInt by omega)]
      by_cases hX : x.toInt ≤ (edg k 0 c).toInt
      · rw [if_pos hX] at e1
        rw [if_pos e1, pk_us]
        exact (nq_eq _ _).mpr (by omega)
      · rw [if_neg hX] at e1
        rw [if_neg (by rw [e1]; exact hne0)]
        exact e1
    · rw [pk_us]
      exact (nq_eq _ _).mpr (by omega)
  · have hix : 256 * k + c ≠ 256 * k + c0 := by omega
    have el : (if l (256 * k + c0) = -100000 then upd l (256 * k + c0) x else l) (256 * k + c) = l (256 * k + c) := by
      split
      · exact pk_un hix
      · rfl
    rw [el, pk_un hix]
    refine ⟨h1, fun q => ?_⟩
    obtain ⟨e1, e2, e3⟩ := h2 q
    have hdis : ∀ y : Int32, sys k y = some (nI c) → ¬ x = y := by
      intro y hy hxy
      rw [hxy, hy] at hs
      exact hcc ((nI_eq (by omega) (by omega)).mp (Option.some.inj hs))
    rcases hatt with ⟨q1, -⟩ | ⟨q1, q2, q3, q4, q5⟩
    · exact absurd q1 q
    have d0 : x.toInt ≠ (edg k 0 c).toInt := fun z => hdis _ q4 ((nq_eq _ _).mpr z)
    have d1 : x.toInt ≠ (edg k 1 c).toInt := fun z => hdis _ q5 ((nq_eq _ _).mpr z)
    refine ⟨?_, fun z => e2 (by omega), fun z => e3 (by omega)⟩
    rw [e1]
    by_cases hX : x.toInt ≤ (edg k 0 c).toInt
    · rw [if_pos hX, if_pos (by omega)]
    · rw [if_neg hX, if_neg (by omega)]
theorem ivK.other {k k2 : Nat} (hkk : k ≠ k2) {X : Int} {x : Int32} {l g : Nat → Int32} (h : ivK k X l g) {c0 : Nat} (hc0 : c0 < 256) : ivK k X (if l (256 * k2 + c0) = -100000 then upd l (256 * k2 + c0) x else l) (upd g (256 * k2 + c0) x) := by
  intro c hc
  have hix : 256 * k + c ≠ 256 * k2 + c0 := by omega
  have el : (if l (256 * k2 + c0) = -100000 then upd l (256 * k2 + c0) x else l) (256 * k + c) = l (256 * k + c) := by
    split
    · exact pk_un hix
    · rfl
  rw [el, pk_un hix]
  exact h c hc
theorem finds_clear : ∀ (n f : Nat) (cf : Int32) (l g : Nat → Int32), n ≤ 512 → n < f → (∀ j, j < 512 - n → l j = -100000 ∧ g j = -100000) → ∃ l1 g1, fX7_finds_b15 f (nI (512 - n)) cf l g = fX7_finds_b48 66000 (-32768 : Int32) cf l1 g1 ∧ ∀ j, j < 512 → l1 j = -100000 ∧ g1 j = -100000 := by
  intro n
  induction n with
  | zero =>
    intro f cf l g h1 h2 h3
    obtain ⟨f, rfl⟩ : ∃ z, f = z + 1 := ⟨f - 1, by omega⟩
    refine ⟨l, g, ?_, fun j hj => h3 j (by omega)⟩
    rw [fX7_finds_b15]
    exact br_t1 (by decide) _ _
  | succ n ih =>
    intro f cf l g h1 h2 h3
    obtain ⟨f, rfl⟩ : ∃ z, f = z + 1 := ⟨f - 1, by omega⟩
    generalize hi : 512 - (n + 1) = i at h3 ⊢
    have hi5 : i < 512 := by omega
    rw [fX7_finds_b15, br_f1 (show ¬ (512 : Int32) ≤ nI i from not_le_nI (m := 512) rfl hi5 (by omega)), wr_in (i := nI i) (j := i) rfl (by omega) (by omega), wr_in (i := nI i) (j := i) rfl (by omega) (by omega), nm_eq, nI_1]
    obtain ⟨l1, g1, q1, q2⟩ := ih f cf (upd l i (-100000)) (upd g i (-100000)) (by omega) (by omega) (fun j hj => by
      by_cases e : j = i
      · subst e; exact ⟨pk_us, pk_us⟩
      · rw [pk_un e, pk_un e]; exact h3 j (by omega))
    rw [show 512 - n = i + 1 by omega] at q1
    exact ⟨l1, g1, q1, q2⟩
theorem finds_loop (cf : Int32) : ∀ (n f : Nat) (x : Int32) (l g : Nat → Int32), x.toInt = 32768 - (n : Int) → n ≤ 65536 → n < f → ivK 0 x.toInt l g → ivK 1 x.toInt l g → ∃ l1 g1, fX7_finds_b48 f x cf l g = some (cf, l1, g1) ∧ ivK 0 32768 l1 g1 ∧ ivK 1 32768 l1 g1 := by
  intro n
  induction n with
  | zero =>
    intro f x l g hx h1 h2 h3 h4
    obtain ⟨f, rfl⟩ : ∃ z, f = z + 1 := ⟨f - 1, by omega⟩
    have hx : x.toInt = 32768 := by omega
    rw [hx] at h3 h4
    refine ⟨l, g, ?_, h3, h4⟩
    rw [fX7_finds_b48]
    exact br_t1 (by rw [nq_lt, hx]; decide) _ _
  | succ n ih =>
    intro f x l g hx h1 h2 h3 h4
    obtain ⟨f, rfl⟩ : ∃ z, f = z + 1 := ⟨f - 1, by omega⟩
    have hxr : -32768 ≤ x.toInt ∧ x.toInt ≤ 32767 := by omega
    have e1 : (x + (1 : Int32)).toInt = x.toInt + 1 := by rw [Int32.toInt_add, show (1 : Int32).toInt = 1 from rfl, Int.bmod_eq_of_le (by omega) (by omega)]
    obtain ⟨c, c1, c2, c3, c4⟩ := hit hxr (k := 0) (by omega)
    obtain ⟨d, d1, d2, d3, d4⟩ := hit hxr (k := 1) (by omega)
    have c2' : fX7_muSays x = some (nI c) := c2
    have d2' : fX7_aSays x = some (nI d) := d2
    -- mu
    have s0 := ivK.step (by omega) hxr h3 c1 c2 c3 c4
    have s1 := ivK.other (x := x) (show 1 ≠ 0 by omega) h4 c1
    -- A
    have t1 := ivK.step (by omega) hxr s1 d1 d2 d3 d4
    have t0 := ivK.other (x := x) (show 0 ≠ 1 by omega) s0 d1
    rw [show 256 * 0 + c = c by omega] at t0 t1
    rw [show 256 * 1 + d = 256 + d by omega] at t0 t1
    rw [← e1] at t0 t1
    obtain ⟨l1, g1, q1, q2, q3⟩ := ih f (x + 1) _ _ (by omega) (by omega) (by omega) t0 t1
    refine ⟨l1, g1, ?_, q2, q3⟩
    rw [fX7_finds_b48, br_f1 (by rw [nq_lt]; have : (32767 : Int32).toInt = 32767 := (by decide); omega), c2', cl_eq, rd_in (i := nI c) (j := c) rfl (by omega) (by omega)]
    have e79 : ∀ l : Nat → Int32, fX7_finds_b79 (fX7_finds_b48 f) x (nI c) cf l g = fX7_finds_b48 f (x + 1) cf (if l (256 + d) = -100000 then upd l (256 + d) x else l) (upd (upd g c x) (256 + d) x) := by
      intro l
      have ed : (256 : Int32) + nI d = nI (256 + d) := nI_add 256 d
      rw [fX7_finds_b79, wr_in (i := nI c) (j := c) rfl (by omega) (by omega), d2', cl_eq, nm_eq, ed, rd_in (i := nI (256 + d)) (j := 256 + d) rfl (by omega) (by omega)]
      by_cases hl : l (256 + d) = (-100000 : Int32)
      · rw [br_t1 hl, if_pos hl, wr_in (i := nI (256 + d)) (j := 256 + d) rfl (by omega) (by omega), fX7_finds_b114, wr_in (i := nI (256 + d)) (j := 256 + d) rfl (by omega) (by omega), nm_eq]
      · rw [br_f1 hl, if_neg hl, fX7_finds_b114, wr_in (i := nI (256 + d)) (j := 256 + d) rfl (by omega) (by omega), nm_eq]
    by_cases hl : l c = (-100000 : Int32)
    · rw [br_t1 hl, wr_in (i := nI c) (j := c) rfl (by omega) (by omega), e79]
      rw [if_pos hl] at q1
      exact q1
    · rw [br_f1 hl, e79]
      rw [if_neg hl] at q1
      exact q1
def ivF (l g : Nat → Int32) : Prop := ∀ k, k < 2 → ∀ c, c < 256 → l (256 * k + c) = edg k 0 c ∧ g (256 * k + c) = edg k 1 c
theorem ivK.fin {k : Nat} (hk : k < 2) {l g : Nat → Int32} (h : ivK k 32768 l g) : ∀ c, c < 256 → l (256 * k + c) = edg k 0 c ∧ g (256 * k + c) = edg k 1 c := by
  intro c hc
  obtain ⟨h1, h2⟩ := h c hc
  rcases edg_att k hk c hc with ⟨q1, q2⟩ | ⟨q1, q2, q3, q4, q5⟩
  · rw [q1, q2]; exact h1 q1
  · obtain ⟨e1, e2, e3⟩ := h2 (nne q1)
    rw [if_neg (by omega)] at e1
    exact ⟨e1, e3 (by omega)⟩
theorem finds_eq (l g : Nat → Int32) : ∃ l1 g1, fX7_finds (0 : Int32) l g = some (1, l1, g1) ∧ ivF l1 g1 := by
  obtain ⟨l1, g1, q1, q2⟩ := finds_clear 512 1100 1 l g (by omega) (by omega) (fun j hj => absurd hj (by omega))
  have i0 : ∀ k, k < 2 → ivK k (-32768 : Int32).toInt l1 g1 := by
    intro k hk c hc
    have hq := q2 (256 * k + c) (by omega)
    refine ⟨fun _ => hq, fun hne => ?_⟩
    rcases edg_att k hk c hc with ⟨z1, -⟩ | ⟨z1, z2, z3, -⟩
    · exact absurd z1 hne
    have e0 : (-32768 : Int32).toInt = -32768 := by decide
    rw [e0]
    exact ⟨by rw [if_pos z1]; exact hq.1, fun _ => hq.2, fun z => absurd z (by omega)⟩
  obtain ⟨l2, g2, k1, k2, k3⟩ := finds_loop 1 65536 66000 (-32768) l1 g1 (by decide) (by omega) (by omega) (i0 0 (by omega)) (i0 1 (by omega))
  refine ⟨l2, g2, ?_, fun k hk => ?_⟩
  · rw [fX7_finds, br_t1 rfl]
    exact q1.trans k1
  · rcases (show k = 0 ∨ k = 1 by omega) with rfl | rfl
    · exact k2.fin (by omega)
    · exact k3.fin (by omega)
end
section
/-! a line: its kind, its speaker, its hearer -/
def bt (q : Nat) : Nat := if 2 ≤ q ∧ q ≤ 5 then q else 8
theorem bt_le (q : Nat) : bt q ≤ 8 ∧ 1 ≤ bt q := by unfold bt; split <;> omega
theorem kd_W : ∀ q, q < 9 → fX4_isWide (nI q) = some (if q < 6 then 0 else 1) := by decide +kernel
theorem kd_A : ∀ q, q < 9 → fX4_isAdpcm (nI q) = some (if 2 ≤ q ∧ q ≤ 5 then 1 else 0) := by decide +kernel
theorem kd_B : ∀ q, q < 9 → fX4_codeBits (nI q) = some (nI (bt q)) := by decide +kernel
theorem kd_sh : ∀ q, q < 9 → (1 : Int32) <<< (nI (bt q) &&& 31) = nI (2 ^ bt q) := by decide +kernel
theorem kd_pw (q : Nat) : 2 ^ bt q ≤ 256 := Nat.le_trans (Nat.pow_le_pow_right (by omega) (bt_le q).1) (by decide)
theorem ne_NONE : ∀ q, q < 9 → ¬ nI q = (-100000 : Int32) := by decide +kernel
theorem ix_in {β : Type} {n j : Nat} {k : Option β} (hj : j < n) (hn : n ≤ 2000) : pq_ix n (nI j) k = k := by
  unfold pq_ix
  rw [if_neg (nI_in hj (by omega))]
theorem ol_i {k : Nat} (hk : k < 4) (kd : Int32) : fX6_openLine_i (nI k) kd = some (if kd = (-100000 : Int32) then 0 else 1) := by
  rw [fX6_openLine_i, br_f1 ((by decide +kernel : ∀ k, k < 4 → ¬ nI k < (0 : Int32)) k hk), br_t1 ((by decide +kernel : ∀ k, k < 4 → nI k < (4 : Int32)) k hk), ix_in hk (by omega)]
  by_cases h : kd = (-100000 : Int32)
  · rw [br_t1 h, if_pos h]
  · rw [br_f1 h, if_neg h]
theorem ol_o {a : Int32} (h : a < 0 ∨ nI 4 ≤ a) : fX6_openLine_o a = some () := by
  rw [fX6_openLine_o]
  by_cases h0 : a < (0 : Int32)
  · rw [br_t1 h0]
  · rw [br_f1 h0]
    by_cases h1 : a < (4 : Int32)
    · exact absurd (h.resolve_left h0) (by rw [Int32.not_le]; exact h1)
    · rw [br_f1 h1]
theorem rk_line_o {a : Int32} (h : a < 0 ∨ nI 4 ≤ a) : fX7_isLine a = some 0 := by
  rw [fX7_isLine]
  by_cases h0 : a < (0 : Int32)
  · rw [br_t1 h0]
  · rw [br_f1 h0, br_t1 (show (4 : Int32) ≤ a from h.resolve_left h0)]
theorem rk_line {k : Nat} (hk : k < 4) : fX7_isLine (nI k) = some 1 := (by decide +kernel : ∀ k, k < 4 → fX7_isLine (nI k) = some 1) k hk
theorem rk_open_o {a : Int32} (h : a < 0 ∨ nI 4 ≤ a) (fk : Nat → Int32) : fX7_isOpen a fk = some 0 := by
  rw [fX7_isOpen, rk_line_o h, cl_eq, br_t1 rfl]
theorem rk_open {k : Nat} (hk : k < 4) (fk : Nat → Int32) : fX7_isOpen (nI k) fk = some (if fk k = (-100000 : Int32) then 0 else 1) := by
  rw [fX7_isOpen, rk_line hk, cl_eq, br_f1 (by decide), rd_in (j := k) rfl hk (by omega)]
  by_cases h : fk k = (-100000 : Int32)
  · rw [br_t1 h, if_pos h]
  · rw [br_f1 h, if_neg h]
theorem rk_pair {k q : Nat} (hk : k < 4) (hq : q < 9) {fk : Nat → Int32} (h : fk k = nI q) : fX7_isPaired (nI k) fk = some (if q < 6 then 0 else 1) := by
  rw [fX7_isPaired, rd_in (j := k) rfl hk (by omega), h]
  exact (by decide +kernel : ∀ q, q < 9 → pq_br (nI q < (6 : Int32)) (some (0 : Int32)) (some (1 : Int32)) = some (if q < 6 then 0 else 1)) q hq
theorem rk_bits {k q : Nat} (hk : k < 4) (hq : q < 9) {fk : Nat → Int32} (h : fk k = nI q) : fX7_bitsOf (nI k) fk = some (nI (bt q)) := by
  rw [fX7_bitsOf, rd_in (j := k) rfl hk (by omega), rd_in (j := k) rfl hk (by omega), rd_in (j := k) rfl hk (by omega), h]
  exact (by decide +kernel : ∀ q, q < 9 → pq_br (nI q < (2 : Int32)) (some (8 : Int32)) (pq_br ((5 : Int32) < nI q) (some (8 : Int32)) (some (nI q))) = some (nI (bt q))) q hq
/-- what counts as a code: the same on both sides -/
theorem has_both {k q : Nat} (hk : k < 4) (hq : q < 9) {fk : Nat → Int32} (h : fk k = nI q) (c : Int32) : (fX4_hasCode c (nI q) = some 0 ∧ fX7_isCode (nI k) c fk = some 0) ∨ (∃ j : Nat, j < 2 ^ bt q ∧ c = nI j ∧ fX4_hasCode c (nI q) = some 1 ∧ fX7_isCode (nI k) c fk = some 1) := by
  have e : fX7_isCode (nI k) c fk = fX4_hasCode c (nI q) := by rw [fX7_isCode, fX4_hasCode, rk_bits hk hq h, kd_B q hq]
  rw [e, fX4_hasCode, kd_B q hq, cl_eq, kd_sh q hq]
  have hp := kd_pw q
  rcases pk_ix c (n := 2 ^ bt q) (by omega) with g | g | ⟨j, hj, rfl⟩
  · rw [br_t1 g]; exact Or.inl ⟨rfl, rfl⟩
  · by_cases g0 : c < (0 : Int32)
    · rw [br_t1 g0]; exact Or.inl ⟨rfl, rfl⟩
    · rw [br_f1 g0, br_t1 g]; exact Or.inl ⟨rfl, rfl⟩
  · refine Or.inr ⟨j, hj, rfl, ?_⟩
    have g0 : ¬ nI j < (0 : Int32) := by rw [show (0 : Int32) = nI 0 from rfl, nI_ltI (by omega) (by omega)]; omega
    have g1 : ¬ nI (2 ^ bt q) ≤ nI j := by rw [nI_leI (by omega) (by omega)]; omega
    rw [br_f1 g0, br_f1 g1]; exact ⟨rfl, rfl⟩
theorem is_sam (a : Int32) : (fX6_isSample a = some 0 ∧ fX7_isSample a = some 0) ∨ (fX6_isSample a = some 1 ∧ fX7_isSample a = some 1 ∧ (-32768 ≤ a.toInt ∧ a.toInt ≤ 32767)) := by
  rw [fX6_isSample, fX7_isSample]
  by_cases h0 : a < (-32768 : Int32)
  · rw [br_t1 h0]; exact Or.inl ⟨rfl, rfl⟩
  · rw [br_f1 h0]
    by_cases h1 : (32767 : Int32) < a
    · rw [br_t1 h1]; exact Or.inl ⟨rfl, rfl⟩
    · rw [br_f1 h1]
      refine Or.inr ⟨rfl, rfl, ?_, ?_⟩
      · have := Int32.le_iff_toInt_le.mp (Int32.not_lt.mp h0); simpa using this
      · have := Int32.le_iff_toInt_le.mp (Int32.not_lt.mp h1); simpa using this
theorem z_0 : nI 0 = (0 : Int32) := rfl
theorem z_1 : nI 1 = (1 : Int32) := rfl
/-- one side s of a line of kind q: the class's rows are the model's -/
def vR (s q : Nat) (bits : Int32) (n lo hi x g b v : Nat → Int32) : Prop := (2 ≤ q → q ≤ 5 → bits = nI q ∧ (∀ j, j < 24 → g (24 * s + j) = n j) ∧ inv n) ∧ (6 ≤ q → (∀ j, j < 23 → b (46 * s + j) = lo j) ∧ (∀ j, j < 23 → b (46 * s + 23 + j) = hi j) ∧ ∀ j, j < 24 → v (24 * s + j) = x j)
/-- nothing changed but side s -/
def frm (s : Nat) (g b v g1 b1 v1 : Nat → Int32) : Prop := (∀ p, (p < 24 * s ∨ 24 * s + 24 ≤ p) → g1 p = g p) ∧ (∀ p, (p < 46 * s ∨ 46 * s + 46 ≤ p) → b1 p = b p) ∧ ∀ p, (p < 24 * s ∨ 24 * s + 24 ≤ p) → v1 p = v p
theorem frm.rf (s : Nat) (g b v : Nat → Int32) : frm s g b v g b v := ⟨fun _ _ => rfl, fun _ _ => rfl, fun _ _ => rfl⟩
theorem vR.other {s s' q : Nat} {bits : Int32} {n lo hi x g b v g1 b1 v1 : Nat → Int32} (h : vR s q bits n lo hi x g b v) (hne : s ≠ s') (hf : frm s' g b v g1 b1 v1) : vR s q bits n lo hi x g1 b1 v1 := by
  refine ⟨fun h2 h5 => ?_, fun h6 => ?_⟩
  · obtain ⟨e1, e2, e3⟩ := h.1 h2 h5
    exact ⟨e1, fun j hj => by rw [hf.1 _ (by omega)]; exact e2 j hj, e3⟩
  · obtain ⟨e1, e2, e3⟩ := h.2 h6
    exact ⟨fun j hj => by rw [hf.2.1 _ (by omega)]; exact e1 j hj, fun j hj => by rw [hf.2.1 _ (by omega)]; exact e2 j hj, fun j hj => by rw [hf.2.2 _ (by omega)]; exact e3 j hj⟩
section LN
variable {b2 b3 b4 b5 t2 t3 t4 t5 w2 w3 w4 w5 p2 p3 p4 p5 fc fs fr fu fh fl fw f56 f64 : Nat → Int32}
theorem sd_n : ∀ k, k < 4 → (24 : Int32) * ((2 : Int32) * nI k) = nI (24 * (2 * k)) ∧ (46 : Int32) * ((2 : Int32) * nI k) = nI (46 * (2 * k)) ∧ (24 : Int32) * (((2 : Int32) * nI k) + (1 : Int32)) = nI (24 * (2 * k + 1)) ∧ (46 : Int32) * (((2 : Int32) * nI k) + (1 : Int32)) = nI (46 * (2 * k + 1)) := by decide +kernel
set_option maxHeartbeats 1000000 in
/-- a sample is said on a line that is not wide -/
theorem enc_n (hB : mt4 b2 b3 b4 b5 lB2 lB3 lB4 lB5) (hT : mt4 t2 t3 t4 t5 lT2 lT3 lT4 lT5) (hW : mt4 w2 w3 w4 w5 lW2 lW3 lW4 lW5) (hP : mt4 p2 p3 p4 p5 lP2 lP3 lP4 lP5) {k q : Nat} (hk : k < 4) (hq : q < 6) {fk : Nat → Int32} (hfk : fk k = nI q) (a w : Int32) (ha : -32768 ≤ a.toInt ∧ a.toInt ≤ 32767) {bits : Int32} {n lo hi x g b v : Nat → Int32} (hR : vR (2 * k) q bits n lo hi x g b v) (se sz st z e y : Int32) :
    ∃ (c : Nat) (se1 sz1 st1 z1 e1 y1 : Int32) (n1 g1 : Nat → Int32), c < 2 ^ bt q ∧ fX4_encode a w (nI q) bits se sz st n lo hi x = some (nI c, se1, sz1, st1, n1, lo, hi, x) ∧ fX7_says (nI k) a fk b2 b3 b4 b5 t2 t3 t4 t5 w2 w3 w4 w5 p2 p3 p4 p5 z e y g = some (nI c, z1, e1, y1, g1) ∧ vR (2 * k) q bits n1 lo hi x g1 b v ∧ frm (2 * k) g b v g1 b v := by
  rw [fX4_encode, kd_W q (by omega), if_pos hq, cl_eq, br_t1 rfl, kd_A q (by omega), cl_eq, fX7_says, rd_in (j := k) rfl hk (by omega), rd_in (j := k) rfl hk (by omega), rd_in (j := k) rfl hk (by omega), hfk]
  by_cases h0 : q = 0
  · subst h0
    obtain ⟨a0, q0, r, t, -, -, hr, -, h16, h32, k1, k2⟩ := mu_both a
    rw [if_neg (by decide), br_t1 rfl, br_t1 z_0, br_t1 z_0, k1, cl_eq, k2, cl_eq]
    exact ⟨_, se, sz, st, z, e, y, n, g, (by show _ < 256; split <;> omega), rfl, rfl, hR, frm.rf _ _ _ _⟩
  · have hz : ¬ nI q = (0 : Int32) := (by decide +kernel : ∀ q, q < 6 → q ≠ 0 → ¬ nI q = (0 : Int32)) q hq h0
    by_cases h1 : q = 1
    · subst h1
      obtain ⟨q0, r, t, -, hr, -, hr0, hr1, k1, k2⟩ := a_both ha
      rw [if_neg (by decide), br_t1 rfl, br_f1 hz, br_f1 hz, br_t1 z_1, k1, cl_eq, k2, cl_eq]
      refine ⟨_, se, sz, st, z, e, y, n, g, ?_, rfl, rfl, hR, frm.rf _ _ _ _⟩
      have hx := xor_rng (16 * r + t % 16) (by omega)
      show _ < 256
      split
      · exact hx.2.2.2
      · exact hx.2.1
    · have hk2 : 2 ≤ q ∧ q ≤ 5 := by omega
      have hz1 : ¬ nI q = (1 : Int32) := (by decide +kernel : ∀ q, q < 6 → q ≠ 1 → ¬ nI q = (1 : Int32)) q hq h1
      obtain ⟨e1, e2, e3⟩ := hR.1 hk2.1 hk2.2
      subst e1
      obtain ⟨c, se1, sz1, st1, n1, g1, m1, m2, m3, m4, m5⟩ := aenc (g0 := g) hB hT hW hP hk2 (b := 24 * (2 * k)) (by omega) (sd_n k hk).1 a se sz st z e y ⟨e2, fun _ _ => rfl⟩ e3
      rw [if_pos hk2, br_f1 (by decide), m2, cl_eq, nm_eq, nm_eq, nm_eq, nm_eq, nm_eq, br_f1 hz, br_f1 hz1, m3, cl_eq, nm_eq, nm_eq, nm_eq, nm_eq, nm_eq]
      exact ⟨c, se1, sz1, st1, sz1, se1, st1, n1, g1, by unfold bt; rw [if_pos hk2]; exact m1, rfl, rfl, ⟨fun _ _ => ⟨rfl, m4.1, m5⟩, fun h => absurd h (by omega)⟩, m4.2, fun _ _ => rfl, fun _ _ => rfl⟩
set_option maxHeartbeats 1000000 in
/-- a pair is said on a wide line -/
theorem enc_w (hfc : mt fc lCo) (hfs : mt fs lSt) (hfr : mt fr lRoots) (hfu : mt fu lUps) (hfh : mt fh lHig) (hfl : mt fl lLw) (hfw : mt fw lHw) {k q : Nat} (hk : k < 4) (hq : q < 9) (h6 : 6 ≤ q) (a w : Int32) {bits : Int32} {n lo hi x g b v : Nat → Int32} (hR : vR (2 * k) q bits n lo hi x g b v) (se sz st od ev : Int32) :
    ∃ (c : Nat) (od1 ev1 : Int32) (lo1 hi1 x1 b1 v1 : Nat → Int32), c < 256 ∧ fX4_encode a w (nI q) bits se sz st n lo hi x = some (nI c, se, sz, st, n, lo1, hi1, x1) ∧ fX7_says722 ((2 : Int32) * nI k) a w fc fs fr fu fh fl fw od ev b v = some (nI c, od1, ev1, b1, v1) ∧ vR (2 * k) q bits n lo1 hi1 x1 g b1 v1 ∧ frm (2 * k) g b v g b1 v1 := by
  obtain ⟨e1, e2, e3⟩ := hR.2 h6
  obtain ⟨c, o1, v1, lo1, hi1, x1, g1, w1, m1, m2, m3, m4, m5⟩ := wenc (g0 := b) (v0 := v) hfc hfs hfr hfu hfh hfl hfw (b := 46 * (2 * k)) (s := 24 * (2 * k)) (by omega) (by omega) (sd_n k hk).2.1 (sd_n k hk).1 a w od ev ⟨e1, e2, fun _ _ => rfl⟩ ⟨e3, fun _ _ => rfl⟩
  rw [fX4_encode, kd_W q hq, if_neg (by omega), cl_eq, br_f1 (by decide), m2, cl_eq, nm_eq, nm_eq, nm_eq, nm_eq, m3]
  exact ⟨c, o1, v1, lo1, hi1, x1, g1, w1, m1, rfl, rfl, ⟨fun _ h => absurd h (by omega), fun _ => ⟨m4.1, m4.2.1, m5.1⟩⟩, fun _ _ => rfl, m4.2.2, m5.2⟩
set_option maxHeartbeats 1000000 in
/-- a code is heard -/
theorem dec_b (hT : mt4 t2 t3 t4 t5 lT2 lT3 lT4 lT5) (hW : mt4 w2 w3 w4 w5 lW2 lW3 lW4 lW5) (hP : mt4 p2 p3 p4 p5 lP2 lP3 lP4 lP5) (hfc : mt fc lCo) (hfr : mt fr lRoots) (hfu : mt fu lUps) (hfh : mt fh lHig) (hfl : mt fl lLw) (hfw : mt fw lHw) (h56 : mt f56 lH56) (h64 : mt f64 lH64) {k q c : Nat} (hk : k < 4) (hq : q < 9) {fk : Nat → Int32} (hfk : fk k = nI q) (hc : c < 2 ^ bt q) {bits : Int32} {n lo hi x g b v : Nat → Int32} (hR : vR (2 * k + 1) q bits n lo hi x g b v) (se sz st sec z e y od ev : Int32) (fse : Nat → Int32) :
    ∃ (r se1 sz1 st1 sec1 z1 e1 y1 od1 ev1 : Int32) (n1 lo1 hi1 x1 fse1 g1 b1 v1 : Nat → Int32), fX4_decode (nI c) (nI q) bits se sz st n sec lo hi x = some (r, se1, sz1, st1, n1, sec1, lo1, hi1, x1) ∧ fX7_hears (nI k) (nI c) fk t2 t3 t4 t5 w2 w3 w4 w5 p2 p3 p4 p5 fc fr fu fh fl fw f56 f64 z e y od ev fse g b v = some (r, z1, e1, y1, od1, ev1, fse1, g1, b1, v1) ∧ vR (2 * k + 1) q bits n1 lo1 hi1 x1 g1 b1 v1 ∧ frm (2 * k + 1) g b v g1 b1 v1 ∧ (-32768 ≤ r.toInt ∧ r.toInt ≤ 32767) ∧ (∀ p, p ≠ k → fse1 p = fse p) ∧ (6 ≤ q → fse1 k = sec1 ∧ (-32768 ≤ sec1.toInt ∧ sec1.toInt ≤ 32767)) := by
  have hpw := kd_pw q
  rw [fX4_decode, kd_W q hq, cl_eq, fX7_hears, rd_in (j := k) rfl hk (by omega), rd_in (j := k) rfl hk (by omega), rd_in (j := k) rfl hk (by omega), hfk]
  by_cases h6 : 6 ≤ q
  · obtain ⟨e1, e2, e3⟩ := hR.2 h6
    obtain ⟨r, s1, o1, w1, lo1, hi1, x1, g1, v1, m1, m2, m3, m4, m5, m6⟩ := wdec (g0 := b) (v0 := v) (fse := fse) hfc hfr hfu hfh hfl hfw h56 h64 (b := 46 * (2 * k + 1)) (s := 24 * (2 * k + 1)) (by omega) (by omega) hk (sd_n k hk).2.2.2 (sd_n k hk).2.2.1 (c := c) (by omega) (kd := q) (by omega) sec od ev hfk ⟨e1, e2, fun _ _ => rfl⟩ ⟨e3, fun _ _ => rfl⟩
    have hz0 := (by decide +kernel : ∀ q, q < 9 → 6 ≤ q → ¬ nI q = (0 : Int32) ∧ ¬ nI q = (1 : Int32) ∧ (6 : Int32) ≤ nI q) q hq h6
    rw [if_neg (by omega), br_f1 (by decide), m1, cl_eq, nm_eq, nm_eq, nm_eq, nm_eq, nm_eq, br_f1 hz0.1, br_f1 hz0.2.1, br_t1 hz0.2.2, m2, cl_eq, nm_eq, nm_eq, nm_eq, nm_eq, nm_eq, nm_eq]
    refine ⟨r, se, sz, st, s1, z, e, y, o1, w1, n, lo1, hi1, x1, _, g, g1, v1, rfl, rfl, ⟨fun _ h => absurd h (by omega), fun _ => ⟨m3.1, m3.2.1, m4.1⟩⟩, ⟨fun _ _ => rfl, m3.2.2, m4.2⟩, m5, fun p hp => ?_, fun _ => ⟨?_, m6⟩⟩
    · show upd fse k s1 p = fse p
      unfold upd; rw [if_neg hp]
    · show upd fse k s1 k = s1
      unfold upd; rw [if_pos rfl]
  · have h6' : q < 6 := by omega
    rw [if_pos h6', br_t1 rfl, kd_A q hq, cl_eq]
    by_cases h0 : q = 0
    · subst h0
      obtain ⟨r, k1, k2, k3⟩ := mu_hears (c := c) hc
      rw [if_neg (by decide), br_t1 rfl, br_t1 z_0, br_t1 z_0, k1, cl_eq, k2, cl_eq]
      exact ⟨r, se, sz, st, sec, z, e, y, od, ev, n, lo, hi, x, fse, g, b, v, rfl, rfl, hR, frm.rf _ _ _ _, k3, fun _ _ => rfl, fun h => absurd h (by omega)⟩
    · have hz : ¬ nI q = (0 : Int32) := (by decide +kernel : ∀ q, q < 6 → q ≠ 0 → ¬ nI q = (0 : Int32)) q h6' h0
      by_cases h1 : q = 1
      · subst h1
        obtain ⟨r, k1, k2, k3⟩ := a_hears (c := c) hc
        rw [if_neg (by decide), br_t1 rfl, br_f1 hz, br_f1 hz, br_t1 z_1, k1, cl_eq, k2, cl_eq]
        exact ⟨r, se, sz, st, sec, z, e, y, od, ev, n, lo, hi, x, fse, g, b, v, rfl, rfl, hR, frm.rf _ _ _ _, k3, fun _ _ => rfl, fun h => absurd h (by omega)⟩
      · have hk2 : 2 ≤ q ∧ q ≤ 5 := by omega
        have hz1 := (by decide +kernel : ∀ q, q < 6 → q ≠ 1 → ¬ nI q = (1 : Int32) ∧ ¬ (6 : Int32) ≤ nI q) q h6' h1
        obtain ⟨e1, e2, e3⟩ := hR.1 hk2.1 hk2.2
        subst e1
        have hc2 : c < 2 ^ q := by unfold bt at hc; rw [if_pos hk2] at hc; exact hc
        obtain ⟨r, se1, sz1, st1, n1, g1, m2, m3, m4, m5, m6⟩ := adec (g0 := g) hT hW hP hk2 (b := 24 * (2 * k + 1)) (by omega) (sd_n k hk).2.2.1 hc2 se sz st z e y ⟨e2, fun _ _ => rfl⟩ e3
        rw [if_pos hk2, br_f1 (by decide), m2, cl_eq, nm_eq, nm_eq, nm_eq, nm_eq, nm_eq, br_f1 hz, br_f1 hz1.1, br_f1 hz1.2, rd_in (j := k) rfl hk (by omega), hfk, m3, cl_eq, nm_eq, nm_eq, nm_eq, nm_eq, nm_eq]
        exact ⟨r, se1, sz1, st1, sec, sz1, se1, st1, od, ev, n1, lo, hi, x, fse, g1, b, v, rfl, rfl, ⟨fun _ _ => ⟨rfl, m4.1, m5⟩, fun h => absurd h (by omega)⟩, ⟨m4.2, fun _ _ => rfl, fun _ _ => rfl⟩, m6, fun _ _ => rfl, fun h => absurd h (by omega)⟩
end LN
end
section
/-! rows of bytes side by side: only what lies below the length counts -/
def ag (t : Nat) (r f : Nat → Int32) : Prop := ∀ j, j < t → r j = f j
theorem ag.up {t : Nat} {r f : Nat → Int32} (h : ag t r f) (v : Int32) : ag (t + 1) (upd r t v) (upd f t v) := by
  intro j hj
  unfold upd
  by_cases e : j = t
  · rw [if_pos e, if_pos e]
  · rw [if_neg e, if_neg e]; exact h j (by omega)
theorem ag.at {t : Nat} {r f : Nat → Int32} (h : ag t r f) (i : Nat) (v : Int32) : ag t (upd r i v) (upd f i v) := by
  intro j hj
  unfold upd
  by_cases e : j = i
  · rw [if_pos e, if_pos e]
  · rw [if_neg e, if_neg e]; exact h j hj
theorem ag.le {t t1 : Nat} {r f : Nat → Int32} (h : ag t r f) (h1 : t1 ≤ t) : ag t1 r f := fun j hj => h j (by omega)
theorem add_b {t : Nat} (ht : t < 1000) (v : Int32) (r : Nat → Int32) : fX2_add v (nI t) r = some (nI (t + 1), upd r t (v &&& 255)) := by
  rw [fX2_add, br_f1 (show ¬ (1000 : Int32) ≤ nI t from nI_ge (b := 1000) ht (by omega)), wr_in (j := t) rfl ht (by omega), nm_eq, nI_1]
theorem shr_0 (v : Int32) : v >>> ((0 : Int32) &&& 31) = v := by
  apply Int32.toInt_inj.mp
  rw [pk_shr v _ 0 (by decide)]
  simp
def puW (v : Int32) (t : Nat) (r : Nat → Int32) : Nat → Int32 := upd (upd (upd (upd r t ((v >>> ((24 : Int32) &&& 31)) &&& 255)) (t + 1) ((v >>> ((16 : Int32) &&& 31)) &&& 255)) (t + 2) ((v >>> ((8 : Int32) &&& 31)) &&& 255)) (t + 3) (v &&& 255)
theorem puW_ag {t : Nat} {r f : Nat → Int32} (h : ag t r f) (v : Int32) : ag (t + 4) (puW v t r) (puW v t f) := (((h.up _).up _).up _).up _
theorem puts_c {t : Nat} (ht : t + 4 ≤ 1000) (v : Int32) (r : Nat → Int32) : fX2_addInt v (nI t) r = some (nI (t + 4), puW v t r) := by
  rw [fX2_addInt, add_b (by omega), cl_eq, nm_eq, nm_eq, add_b (by omega), cl_eq, nm_eq, nm_eq, add_b (by omega), cl_eq, nm_eq, nm_eq, add_b (by omega), cl_eq, nm_eq, nm_eq]
  rfl
theorem puts_r {t : Nat} (ht : t + 4 ≤ 1000) (v : Int32) (f : Nat → Int32) : fX7_puts v (nI t) f = some (nI (t + 4), puW v t f) := by
  show fX7_puts_b3 (1095 + 1 + 1 + 1 + 1 + 1) v 24 (nI t) f = _
  rw [fX7_puts_b3, br_f1 (by decide), wr_in (j := t) rfl (by omega) (by omega), nm_eq, nm_eq, nI_1, show (24 : Int32) + (-8) = 16 from by decide, fX7_puts_b3, br_f1 (by decide), wr_in (j := t + 1) rfl (by omega) (by omega), nm_eq, nm_eq, nI_1, show (16 : Int32) + (-8) = 8 from by decide, fX7_puts_b3, br_f1 (by decide), wr_in (j := t + 1 + 1) rfl (by omega) (by omega), nm_eq, nm_eq, nI_1, show (8 : Int32) + (-8) = 0 from by decide, fX7_puts_b3, br_f1 (by decide), wr_in (j := t + 1 + 1 + 1) rfl (by omega) (by omega), nm_eq, nm_eq, nI_1, show (0 : Int32) + (-8) = -8 from by decide, fX7_puts_b3, br_t1 (by decide), shr_0]
  rfl
theorem feed_both {t : Nat} (ht : t ≤ 1000) (a b c d e z : Int32) {r f : Nat → Int32} (h : ag t r f) : ∃ (t1 : Nat) (y : Int32) (r1 f1 : Nat → Int32), t1 ≤ 1000 ∧ fX6_feed a b c d e (nI t) r = some (y, nI t1, r1) ∧ fX7_feed a b c d e z (nI t) f = some (y, 0, nI t1, f1) ∧ ag t1 r1 f1 := by
  have ec : nI t ≤ (980 : Int32) ↔ t ≤ 980 := nI_leI (b := 980) (by omega) (by omega)
  have er : nI t + (20 : Int32) ≤ (1000 : Int32) ↔ t + 20 ≤ 1000 := by rw [show nI t + (20 : Int32) = nI (t + 20) from ix_l t 20]; exact nI_leI (b := 1000) (by omega) (by omega)
  rw [fX6_feed, fX7_feed]
  by_cases g : t ≤ 980
  · rw [br_t1 (ec.mpr g), br_t1 (er.mpr (by omega))]
    rw [puts_c (by omega), cl_eq, nm_eq, nm_eq, puts_c (by omega), cl_eq, nm_eq, nm_eq, puts_c (by omega), cl_eq, nm_eq, nm_eq, puts_c (by omega), cl_eq, nm_eq, nm_eq, puts_c (by omega), cl_eq, nm_eq, nm_eq]
    rw [puts_r (by omega), cl_eq, nm_eq, nm_eq, puts_r (by omega), cl_eq, nm_eq, nm_eq, puts_r (by omega), cl_eq, nm_eq, nm_eq, puts_r (by omega), cl_eq, nm_eq, nm_eq, puts_r (by omega), cl_eq, nm_eq, nm_eq]
    exact ⟨t + 4 + 4 + 4 + 4 + 4, _, _, _, by omega, rfl, rfl, puW_ag (puW_ag (puW_ag (puW_ag (puW_ag h a) b) c) d) e⟩
  · rw [br_f1 (fun q => g (ec.mp q)), br_f1 (fun q => g (by have := er.mp q; omega))]
    exact ⟨t, _, r, f, ht, rfl, rfl, h⟩
theorem end_both {t : Nat} (ht : t ≤ 1000) (a z : Int32) : ∃ (t1 : Nat) (y : Int32), t1 ≤ t ∧ fX6_end a (nI t) = some (y, nI t1) ∧ fX7_end a z (nI t) = some (y, 0, nI t1) := by
  rw [fX6_end, fX7_end]
  by_cases g : a < (0 : Int32)
  · rw [br_t1 g, br_t1 g]; exact ⟨t, _, by omega, rfl, rfl⟩
  · rw [br_f1 g, br_f1 g]
    by_cases g1 : a ≤ nI t
    · rw [br_t1 g1, br_t1 g1]
      obtain ⟨j, hj, rfl⟩ := nI_of2 (nI_toInt (by omega)) g g1
      exact ⟨j, _, hj, rfl, rfl⟩
    · rw [br_f1 g1, br_f1 g1]; exact ⟨t, _, by omega, rfl, rfl⟩
theorem copy_c {o : Nat} (ho : o ≤ 1000) (cl : Int32) (w : Nat → Int32) : ∀ (F i : Nat) (r : Nat → Int32), i ≤ o → o < F + i → ∃ r1, fX2_copyFrom_b10 cl w F (nI i) (nI o) r = some (nI o, r1) ∧ (∀ j, j < i → r1 j = r j) ∧ ∀ j, i ≤ j → j < o → r1 j = w j := by
  intro F
  induction F with
  | zero => intro i r h1 h2; exact absurd h2 (by omega)
  | succ F ih =>
    intro i r h1 h2
    rw [fX2_copyFrom_b10]
    by_cases g : o ≤ i
    · rw [br_t1 (nI_le g (by omega))]
      exact ⟨r, rfl, fun _ _ => rfl, fun j h3 h4 => absurd h4 (by omega)⟩
    · rw [br_f1 (nI_ge (by omega) (by omega)), rd_in (j := i) rfl (by omega) (by omega), wr_in (j := i) rfl (by omega) (by omega), nm_eq, nI_1]
      obtain ⟨r1, k1, k2, k3⟩ := ih (i + 1) (upd r i (w i)) (by omega) (by omega)
      refine ⟨r1, k1, fun j hj => ?_, fun j h3 h4 => ?_⟩
      · rw [k2 j (by omega)]; exact pk_un (by omega)
      · by_cases e : j = i
        · subst e; rw [k2 j (by omega)]; exact pk_us
        · exact k3 j (by omega) h4
theorem copy_r {o : Nat} (ho : o ≤ 1000) (cl z : Int32) (w : Nat → Int32) : ∀ (F i : Nat) (r : Nat → Int32), i ≤ o → o < F + i → ∃ r1, fX7_take_b31 cl w F (nI i) z (nI o) r = some (nI o, z, nI o, r1) ∧ (∀ j, j < i → r1 j = r j) ∧ ∀ j, i ≤ j → j < o → r1 j = w j := by
  intro F
  induction F with
  | zero => intro i r h1 h2; exact absurd h2 (by omega)
  | succ F ih =>
    intro i r h1 h2
    rw [fX7_take_b31]
    by_cases g : o ≤ i
    · rw [br_t1 (nI_le g (by omega))]
      exact ⟨r, rfl, fun _ _ => rfl, fun j h3 h4 => absurd h4 (by omega)⟩
    · rw [br_f1 (nI_ge (by omega) (by omega)), rd_in (j := i) rfl (by omega) (by omega), wr_in (j := i) rfl (by omega) (by omega), nm_eq, nI_1]
      obtain ⟨r1, k1, k2, k3⟩ := ih (i + 1) (upd r i (w i)) (by omega) (by omega)
      refine ⟨r1, k1, fun j hj => ?_, fun j h3 h4 => ?_⟩
      · rw [k2 j (by omega)]; exact pk_un (by omega)
      · by_cases e : j = i
        · subst e; rw [k2 j (by omega)]; exact pk_us
        · exact k3 j (by omega) h4
theorem take_both {o : Nat} (ho : o ≤ 1000) (cl tl z : Int32) (r f : Nat → Int32) {w v : Nat → Int32} (h : ag o w v) : ∃ r1 f1, fX6_take (nI o) w tl r = some (nI o, nI o, r1) ∧ fX7_take (nI o) v z cl f = some (nI o, 0, nI o, f1) ∧ ag o r1 f1 := by
  obtain ⟨r1, k1, -, k3⟩ := copy_c ho (nI o) w 1100 0 r (by omega) (by omega)
  obtain ⟨f1, m1, -, m3⟩ := copy_r ho (nI o) 0 v 1100 0 f (by omega) (by omega)
  refine ⟨r1, f1, ?_, ?_, fun j hj => by rw [k3 j (by omega) hj, m3 j (by omega) hj]; exact h j hj⟩
  · rw [fX6_take, fX2_copyFrom, show (0 : Int32) = nI 0 from rfl, k1, cl_eq, nm_eq, nm_eq]
  · rw [fX7_take]
    by_cases g : (1000 : Int32) ≤ nI o
    · have e : o = 1000 := by have := (nI_leI (a := 1000) (b := o) (by omega) (by omega)).mp g; omega
      subst e
      rw [br_t1 g]; exact m1
    · rw [br_f1 g]; exact m1
theorem byte_in {j o : Nat} (hj : j < o) (ho : o ≤ 1000) (r : Nat → Int32) : fX2_byteAt (nI j) (nI o) r = some (r j) := by
  rw [fX2_byteAt, br_f1 (nI_pos (by omega)), br_t1 (nI_lt hj (by omega)), rd_in (j := j) rfl (by omega) (by omega)]
theorem out_both {o : Nat} (ho : o ≤ 1000) (a z : Int32) {r f : Nat → Int32} (h : ag o r f) : ∃ y, fX6_out a (nI o) r = some y ∧ fX7_out a (nI o) f z = some (y, 0) := by
  rw [fX6_out, fX7_out]
  rcases pk_ix a (n := o) (by omega) with g | g | ⟨j, hj, rfl⟩
  · rw [fX2_byteAt, br_t1 g, br_t1 g]; exact ⟨_, rfl, rfl⟩
  · by_cases g0 : a < (0 : Int32)
    · rw [fX2_byteAt, br_t1 g0, br_t1 g0]; exact ⟨_, rfl, rfl⟩
    · rw [fX2_byteAt, br_f1 g0, br_f1 g0, br_f1 (Int32.not_lt.mpr g), br_t1 g]; exact ⟨_, rfl, rfl⟩
  · rw [byte_in hj ho, cl_eq, br_f1 (nI_pos (by omega)), br_f1 (nI_ge hj (by omega)), rd_in (j := j) rfl (by omega) (by omega), ← h j hj]
    exact ⟨_, rfl, rfl⟩
theorem sam_both {j t : Nat} (hj : j + 1 < t) (ht : t ≤ 1000) {r f : Nat → Int32} (h : ag t r f) : fX2_sampleAt (nI j) (nI t) r = some (tWrap ((r j <<< ((8 : Int32) &&& 31)) ||| r (j + 1))) ∧ fX7_sampleAt (nI j) f = some (tWrap ((r j <<< ((8 : Int32) &&& 31)) ||| r (j + 1))) := by
  constructor
  · rw [fX2_sampleAt, byte_in (by omega) ht, cl_eq, nI_1, byte_in hj ht, cl_eq, eX6_wrapped, cl_eq]
  · rw [fX7_sampleAt, rd_in (j := j) rfl (by omega) (by omega), nI_1, rd_in (j := j + 1) rfl (by omega) (by omega), ← h j (by omega), ← h (j + 1) hj, eX7_wrapped, cl_eq]
theorem clear_c {m : Nat} (hm : m ≤ 1000) : ∀ (F i : Nat) (r : Nat → Int32), i ≤ m → m < F + i → ∃ r1, fX2_clearFor_b16 F (nI i) (nI m) r = some (nI m, r1) ∧ (∀ j, j < i → r1 j = r j) ∧ ∀ j, i ≤ j → j < m → r1 j = 0 := by
  intro F
  induction F with
  | zero => intro i r h1 h2; exact absurd h2 (by omega)
  | succ F ih =>
    intro i r h1 h2
    rw [fX2_clearFor_b16]
    by_cases g : m ≤ i
    · rw [br_t1 (nI_le g (by omega))]
      exact ⟨r, rfl, fun _ _ => rfl, fun j h3 h4 => absurd h4 (by omega)⟩
    · rw [br_f1 (nI_ge (by omega) (by omega)), wr_in (j := i) rfl (by omega) (by omega), nm_eq, nI_1]
      obtain ⟨r1, k1, k2, k3⟩ := ih (i + 1) (upd r i 0) (by omega) (by omega)
      refine ⟨r1, k1, fun j hj => ?_, fun j h3 h4 => ?_⟩
      · rw [k2 j (by omega)]; exact pk_un (by omega)
      · by_cases e : j = i
        · subst e; rw [k2 j (by omega)]; exact pk_us
        · exact k3 j (by omega) h4
theorem needed_c {n B : Nat} (hB : B ≤ 8) (hn : n ≤ 1000) : fX2_needed (nI n * nI B) = some (nI ((n * B + 7) / 8)) := by
  have h8 : n * B ≤ 1000 * 8 := Nat.mul_le_mul hn hB
  rw [fX2_needed, pk_mul, show nI (n * B) + (7 : Int32) = nI (n * B + 7) from ix_l _ 7, pk_shrN (n := n * B + 7) (by omega) _ 3 (by decide)]
theorem clear_n {n B : Nat} (hB : B ≤ 8) (hn : n ≤ 500) (cl : Int32) (r : Nat → Int32) : ∃ r1, fX2_clearFor (nI n * nI B) cl r = some (nI ((n * B + 7) / 8), r1) ∧ ∀ j, j < (n * B + 7) / 8 → r1 j = 0 := by
  have h8 : n * B ≤ 500 * 8 := Nat.mul_le_mul hn hB
  obtain ⟨r1, k1, -, k3⟩ := clear_c (m := (n * B + 7) / 8) (by omega) 1100 0 r (by omega) (by omega)
  refine ⟨r1, ?_, fun j hj => k3 j (by omega) hj⟩
  rw [fX2_clearFor, needed_c hB (by omega), cl_eq, if_pos (show nI ((n * B + 7) / 8) < (1000 : Int32) from nI_lt (b := 1000) (by omega) (by omega)), nm_eq]
  exact k1
theorem addS_c {t : Nat} (ht : t + 2 ≤ 1000) (v : Int32) (r : Nat → Int32) : fX2_addSample v (nI t) r = some (nI (t + 2), upd (upd r t ((v >>> ((8 : Int32) &&& 31)) &&& 255)) (t + 1) (v &&& 255)) := by
  rw [fX2_addSample, add_b (by omega), cl_eq, nm_eq, nm_eq, add_b (by omega), cl_eq, nm_eq, nm_eq]
theorem addS_r {t : Nat} (ht : t + 2 ≤ 1000) (v : Int32) (r : Nat → Int32) : fX7_sample v (nI t) r = some (nI (t + 2), upd (upd r t ((v >>> ((8 : Int32) &&& 31)) &&& 255)) (t + 1) (v &&& 255)) := by
  rw [fX7_sample, wr_in (j := t) rfl (by omega) (by omega), nI_1, wr_in (j := t + 1) rfl (by omega) (by omega), nm_eq, ix_l]
theorem cb_c (a0 a1 a2 : Int32) : fX2_codeBit a0 a1 a2 = some (if a2 = 0 then a0 else (a1 - 1) - a0) := by
  rw [fX2_codeBit]
  by_cases h : a2 = 0
  · rw [br_t1 h, if_pos h]
  · rw [br_f1 h, if_neg h]
theorem bb_c {p : Nat} (hp : p < 100000) (a : Int32) : fX2_byteBit (nI p) a = some (if a = 0 then nI (p % 8) else 7 - nI (p % 8)) := by
  have e : nI p &&& (7 : Int32) = nI (p % 8) := pk_andN (by omega) 3 (by decide)
  rw [fX2_byteBit, e]
  by_cases h : a = 0
  · rw [br_t1 h, if_pos h]
  · rw [br_f1 h, if_neg h]
theorem p_shr {p : Nat} (hp : p < 100000) : nI p >>> ((3 : Int32) &&& 31) = nI (p / 8) := pk_shrN (by omega) _ 3 (by decide)
theorem p_div {p : Nat} (hp : p < 100000) : nI p / (8 : Int32) = nI (p / 8) := pk_div (d := 8) (by omega) (by omega) (by omega)
theorem p_rem {p : Nat} (hp : p < 100000) : nI p - nI p / (8 : Int32) * (8 : Int32) = nI (p % 8) := pk_rem (d := 8) (by omega) (by omega) (by omega)
theorem nz_8 {β : Type} (k : Option β) : pq_nz (8 : Int32) k = k := if_neg (by decide)
/-- one bit on both sides -/
theorem bit_r {p m : Nat} (hp : p / 8 < m) (hm : m ≤ 1000) (v a : Int32) (f : Nat → Int32) : fX7_bit (nI p) v a f = some (upd f (p / 8) (f (p / 8) ||| (v <<< ((if a = 0 then nI (p % 8) else 7 - nI (p % 8)) &&& 31)))) := by
  rw [fX7_bit, nz_8, nz_8, p_rem (by omega), p_div (by omega), rd_in (j := p / 8) rfl (by omega) (by omega)]
  by_cases h : a = 0
  · rw [br_t1 h, if_pos h, nz_8, fX7_bit_b36, wr_in (j := p / 8) rfl (by omega) (by omega)]
  · rw [br_f1 h, if_neg h, nz_8, fX7_bit_b36, wr_in (j := p / 8) rfl (by omega) (by omega)]
end
section
/-! codes put into a row of bits and read out of it, on both sides -/
abbrev kP := Int32 → Int32 → Int32 → Int32 → Int32 → Int32 → Int32 → Int32 → Int32 → Int32 → Int32 → Int32 → Int32 → Int32 → (Nat → Int32) → (Nat → Int32) → (Nat → Int32) → (Nat → Int32) → Option (Int32 × Int32 × Int32 × Int32 × Int32 × Int32 × Int32 × Int32 × Int32 × (Nat → Int32) × (Nat → Int32) × (Nat → Int32) × (Nat → Int32))
abbrev kU := Int32 → Int32 → Int32 → Int32 → Int32 → Int32 → Int32 → Int32 → Int32 → Int32 → Int32 → Int32 → Int32 → (Nat → Int32) → (Nat → Int32) → (Nat → Int32) → (Nat → Int32) → (Nat → Int32) → Option (Int32 × Int32 × Int32 × Int32 × Int32 × Int32 × Int32 × Int32 × Int32 × (Nat → Int32) × (Nat → Int32) × (Nat → Int32) × (Nat → Int32) × (Nat → Int32))
def cB (first : Int32) (B c : Nat) : Int32 := if first = 0 then nI c else (nI B - 1) - nI c
def yB (first : Int32) (p : Nat) : Int32 := if first = 0 then nI (p % 8) else 7 - nI (p % 8)
theorem put_c1 {B i m c : Nat} (hB : B ≤ 8) (hm : m ≤ 1000) (hi : i * B + B ≤ 8 * m) (hc : c < B) (F : Nat) (first code : Int32) (r : Nat → Int32) : fX2_putCode_b3 (nI m) (F + 1) (nI i) (nI B) first code (nI c) r = fX2_putCode_b3 (nI m) F (nI i) (nI B) first code (nI (c + 1)) (upd r ((i * B + c) / 8) (r ((i * B + c) / 8) ||| (((code >>> (cB first B c &&& 31)) &&& 1) <<< (yB first (i * B + c) &&& 31)))) := by
  have hp : (i * B + c) / 8 < m := by omega
  rw [fX2_putCode_b3, br_f1 (nI_ge hc (by omega)), pk_mul, nI_add, nm_eq, p_shr (by omega), nm_eq, cb_c, cl_eq, nm_eq, br_f1 (nI_pos (by omega)), br_f1 (nI_ge hp (by omega)), rd_in (j := (i * B + c) / 8) rfl (by omega) (by omega), bb_c (by omega), cl_eq, wr_in (j := (i * B + c) / 8) rfl (by omega) (by omega), fX2_putCode_b70, nm_eq, nI_1]
  rfl
section PK
variable {fk b2 b3 b4 b5 t2 t3 t4 t5 w2 w3 w4 w5 p2 p3 p4 p5 fc fs fr fu fh fl fw tf : Nat → Int32}
theorem put_r1 {B i m c : Nat} (hB : B ≤ 8) (hm : m ≤ 1000) (hi : i * B + B ≤ 8 * m) (hc : c < B) (K : kP) (F : Nat) (first code x1 x3 x4 to z e y od ev ta cl : Int32) (g b v f : Nat → Int32) : fX7_pack_b159 K fk b2 b3 b4 b5 t2 t3 t4 t5 w2 w3 w4 w5 p2 p3 p4 p5 fc fs fr fu fh fl fw tf (F + 1) x1 first x3 x4 (nI B) (nI i) code (nI c) to z e y od ev ta cl g b v f = fX7_pack_b159 K fk b2 b3 b4 b5 t2 t3 t4 t5 w2 w3 w4 w5 p2 p3 p4 p5 fc fs fr fu fh fl fw tf F x1 first x3 x4 (nI B) (nI i) code (nI (c + 1)) to z e y od ev ta cl g b v (upd f ((i * B + c) / 8) (f ((i * B + c) / 8) ||| (((code >>> (cB first B c &&& 31)) &&& 1) <<< (yB first (i * B + c) &&& 31)))) := by
  have hp : (i * B + c) / 8 < m := by omega
  have e2 : nI B * nI i + nI c = nI (i * B + c) := by rw [pk_mul, nI_add, Nat.mul_comm]
  rw [fX7_pack_b159, br_f1 (nI_ge hc (by omega)), e2]
  by_cases h : first = 0
  · rw [br_t1 h, fX7_pack_b197, bit_r hp hm, cl_eq, nm_eq, nI_1, cB, yB, if_pos h, if_pos h]
  · rw [br_f1 h, fX7_pack_b197, bit_r hp hm, cl_eq, nm_eq, nI_1, cB, yB, if_neg h, if_neg h]
theorem put_both {B i m : Nat} (hB : B ≤ 8) (hm : m ≤ 1000) (hi : i * B + B ≤ 8 * m) (K : kP) (first code x1 x3 x4 to z e y od ev ta cl : Int32) (g b v : Nat → Int32) : ∀ (F c : Nat) (r f : Nat → Int32), c ≤ B → B < F + c → ag m r f → ∃ r1 f1, fX2_putCode_b3 (nI m) F (nI i) (nI B) first code (nI c) r = some r1 ∧ fX7_pack_b159 K fk b2 b3 b4 b5 t2 t3 t4 t5 w2 w3 w4 w5 p2 p3 p4 p5 fc fs fr fu fh fl fw tf F x1 first x3 x4 (nI B) (nI i) code (nI c) to z e y od ev ta cl g b v f = K x1 first x3 x4 (nI B) (nI (i + 1)) to z e y od ev ta cl g b v f1 ∧ ag m r1 f1 := by
  intro F
  induction F with
  | zero => intro c r f h1 h2; exact absurd h2 (by omega)
  | succ F ih =>
    intro c r f h1 h2 h
    by_cases g0 : B ≤ c
    · rw [fX2_putCode_b3, fX7_pack_b159, br_t1 (nI_le g0 (by omega)), br_t1 (nI_le g0 (by omega)), nm_eq, nI_1]
      exact ⟨r, f, rfl, rfl, h⟩
    · rw [put_c1 hB hm hi (by omega), put_r1 hB hm hi (by omega)]
      refine ih (c + 1) _ _ (by omega) (by omega) ?_
      rw [h _ (by omega : (i * B + c) / 8 < m)]
      exact h.at _ _
end PK
theorem s_0 : ∀ c, c < 8 → ∀ mm, mm < 2 ^ c → ∀ w, w < 2 → nI mm ||| (nI w <<< (nI c &&& 31)) = nI (mm + w * 2 ^ c) := by decide +kernel
theorem s_1 : ∀ B, B < 9 → ∀ c, c < B → ∀ mm, mm < 2 ^ c → ∀ w, w < 2 → nI (mm * 2 ^ (B - c)) ||| (nI w <<< (((nI B - 1) - nI c) &&& 31)) = nI ((2 * mm + w) * 2 ^ (B - (c + 1))) := by decide +kernel
theorem get_c1 {B i t c : Nat} (hB : B ≤ 8) (ht : t ≤ 1000) (hi : i * B + B ≤ 8 * t) (hc : c < B) (F : Nat) (first x4 : Int32) (r : Nat → Int32) : fX2_codeAt_b6 (nI t) r (F + 1) (nI i) (nI B) first x4 (nI c) = fX2_codeAt_b6 (nI t) r F (nI i) (nI B) first (x4 ||| (((r ((i * B + c) / 8) >>> (yB first (i * B + c) &&& 31)) &&& 1) <<< (cB first B c &&& 31))) (nI (c + 1)) := by
  have hp : (i * B + c) / 8 < t := by omega
  rw [fX2_codeAt_b6, br_f1 (nI_ge hc (by omega)), pk_mul, nI_add, nm_eq, p_shr (by omega), byte_in hp ht, cl_eq, bb_c (by omega), cl_eq, nm_eq, cb_c, cl_eq, nm_eq, nm_eq, nI_1]
  rfl
section UK
variable {fk t2 t3 t4 t5 w2 w3 w4 w5 p2 p3 p4 p5 fc fr fu fh fl fw f56 f64 tf : Nat → Int32}
theorem get_r1 {B i t c : Nat} (hB : B ≤ 8) (ht : t ≤ 1000) (hi : i * B + B ≤ 8 * t) (hc : c < B) (K : kU) (F : Nat) (first x1 x3 x6 to z e y od ev ta cl : Int32) (fse g b v f : Nat → Int32) : fX7_unpack_b74 K fk t2 t3 t4 t5 w2 w3 w4 w5 p2 p3 p4 p5 fc fr fu fh fl fw f56 f64 tf (F + 1) x1 first x3 (nI B) (nI i) x6 (nI c) to z e y od ev ta cl fse g b v f = fX7_unpack_b74 K fk t2 t3 t4 t5 w2 w3 w4 w5 p2 p3 p4 p5 fc fr fu fh fl fw f56 f64 tf F x1 first x3 (nI B) (nI i) (if first = 0 then x6 ||| (((tf ((i * B + c) / 8) >>> (yB first (i * B + c) &&& 31)) &&& 1) <<< (nI c &&& 31)) else 2 * x6 + ((tf ((i * B + c) / 8) >>> (yB first (i * B + c) &&& 31)) &&& 1)) (nI (c + 1)) to z e y od ev ta cl fse g b v f := by
  have hp : (i * B + c) / 8 < t := by omega
  have e2 : nI B * nI i + nI c = nI (i * B + c) := by rw [pk_mul, nI_add, Nat.mul_comm]
  rw [fX7_unpack_b74, br_f1 (nI_ge hc (by omega)), e2, nm_eq, nz_8, p_rem (by omega), p_div (by omega), rd_in (j := (i * B + c) / 8) rfl (by omega) (by omega)]
  unfold yB
  by_cases h : first = 0
  · rw [br_t1 h, nz_8, fX7_unpack_b121, nm_eq, br_t1 h, fX7_unpack_b148, nm_eq, nI_1, if_pos h, if_pos h]
  · rw [br_f1 h, nz_8, fX7_unpack_b121, nm_eq, br_f1 h, fX7_unpack_b148, nm_eq, nI_1, if_neg h, if_neg h]
theorem get_both {B i t : Nat} (hB : B ≤ 8) (ht : t ≤ 1000) (hi : i * B + B ≤ 8 * t) {r : Nat → Int32} (hr : ag t r tf) (K : kU) (F : Nat) (first x1 x3 to z e y od ev ta cl : Int32) (fse g b v f : Nat → Int32) : ∀ (d c mm : Nat), c + d = B → mm < 2 ^ c → ∃ cc, cc < 2 ^ B ∧ fX2_codeAt_b6 (nI t) r (F + 1 + d) (nI i) (nI B) first (if first = 0 then nI mm else nI (mm * 2 ^ (B - c))) (nI c) = some (nI cc) ∧ fX7_unpack_b74 K fk t2 t3 t4 t5 w2 w3 w4 w5 p2 p3 p4 p5 fc fr fu fh fl fw f56 f64 tf (F + 1 + d) x1 first x3 (nI B) (nI i) (nI mm) (nI c) to z e y od ev ta cl fse g b v f = fX7_unpack_b74 K fk t2 t3 t4 t5 w2 w3 w4 w5 p2 p3 p4 p5 fc fr fu fh fl fw f56 f64 tf (F + 1) x1 first x3 (nI B) (nI i) (nI cc) (nI B) to z e y od ev ta cl fse g b v f := by
  intro d
  induction d with
  | zero =>
    intro c mm h1 h2
    have e : c = B := by omega
    subst e
    refine ⟨mm, h2, ?_, rfl⟩
    rw [Nat.add_zero, fX2_codeAt_b6, br_t1 (nI_le (Nat.le_refl _) (by omega)), Nat.sub_self, Nat.pow_zero, Nat.mul_one, ite_self]
  | succ d ih =>
    intro c mm h1 h2
    have hp : (i * B + c) / 8 < t := by omega
    rw [show F + 1 + (d + 1) = (F + 1 + d) + 1 from rfl, get_c1 hB ht hi (by omega), get_r1 hB ht hi (by omega), hr _ hp]
    obtain ⟨w, hw, ew⟩ := pk_andE (tf ((i * B + c) / 8) >>> (yB first (i * B + c) &&& 31)) (m := 1) 1 (by decide)
    rw [ew]
    by_cases h : first = 0
    · obtain ⟨cc, k1, k2, k3⟩ := ih (c + 1) (mm + w * 2 ^ c) (by omega) (by rw [Nat.pow_succ]; have : w * 2 ^ c ≤ 1 * 2 ^ c := Nat.mul_le_mul_right _ (by omega); omega)
      rw [if_pos h] at k2
      refine ⟨cc, k1, ?_, ?_⟩
      · rw [if_pos h, cB, if_pos h, s_0 c (by omega) mm h2 w hw]; exact k2
      · rw [if_pos h, s_0 c (by omega) mm h2 w hw]; exact k3
    · obtain ⟨cc, k1, k2, k3⟩ := ih (c + 1) (2 * mm + w) (by omega) (by rw [Nat.pow_succ]; omega)
      rw [if_neg h] at k2
      refine ⟨cc, k1, ?_, ?_⟩
      · rw [if_neg h, cB, if_neg h, s_1 B (by omega) c (by omega) mm h2 w hw]; exact k2
      · rw [if_neg h, show (2 : Int32) * nI mm + nI w = nI (2 * mm + w) from by rw [show (2 : Int32) = nI 2 from rfl, pk_mul, nI_add]]; exact k3
theorem get_all {B i t : Nat} (hB : B ≤ 8) (ht : t ≤ 1000) (hi : i * B + B ≤ 8 * t) {r : Nat → Int32} (hr : ag t r tf) (K : kU) (first x1 x3 to z e y od ev ta cl : Int32) (fse g b v f : Nat → Int32) : ∃ cc, cc < 2 ^ B ∧ fX2_codeAt (nI i) (nI B) first (nI t) r = some (nI cc) ∧ fX7_unpack_b74 K fk t2 t3 t4 t5 w2 w3 w4 w5 p2 p3 p4 p5 fc fr fu fh fl fw f56 f64 tf 1100 x1 first x3 (nI B) (nI i) 0 0 to z e y od ev ta cl fse g b v f = fX7_unpack_b74 K fk t2 t3 t4 t5 w2 w3 w4 w5 p2 p3 p4 p5 fc fr fu fh fl fw f56 f64 tf (1099 - B + 1) x1 first x3 (nI B) (nI i) (nI cc) (nI B) to z e y od ev ta cl fse g b v f := by
  obtain ⟨cc, k1, k2, k3⟩ := get_both (fk := fk) (t2 := t2) (t3 := t3) (t4 := t4) (t5 := t5) (w2 := w2) (w3 := w3) (w4 := w4) (w5 := w5) (p2 := p2) (p3 := p3) (p4 := p4) (p5 := p5) (fc := fc) (fr := fr) (fu := fu) (fh := fh) (fl := fl) (fw := fw) (f56 := f56) (f64 := f64) hB ht hi hr K (1099 - B) first x1 x3 to z e y od ev ta cl fse g b v f B 0 0 (by omega) (by simp)
  have e : 1099 - B + 1 + B = 1100 := by omega
  rw [e] at k2 k3
  rw [Nat.zero_mul, ite_self] at k2
  exact ⟨cc, k1, k2, k3⟩
end UK
end
section
/-! rows of samples packed, on both sides -/
theorem frm.tr {s : Nat} {g b v g1 b1 v1 g2 b2 v2 : Nat → Int32} (h : frm s g b v g1 b1 v1) (h' : frm s g1 b1 v1 g2 b2 v2) : frm s g b v g2 b2 v2 := ⟨fun p hp => by rw [h'.1 p hp, h.1 p hp], fun p hp => by rw [h'.2.1 p hp, h.2.1 p hp], fun p hp => by rw [h'.2.2 p hp, h.2.2 p hp]⟩
theorem sh_1 {i : Nat} (hi : i < 100000) : nI i <<< ((1 : Int32) &&& 31) = nI (2 * i) := by rw [pk_shlN _ 1 (by decide) (by omega), Nat.mul_comm]
theorem sh_2 {i : Nat} (hi : i < 100000) : nI i <<< ((2 : Int32) &&& 31) = nI (4 * i) := by rw [pk_shlN _ 2 (by decide) (by omega), Nat.mul_comm]
theorem hs_1 {i : Nat} (hi : i < 100000) : nI i >>> ((1 : Int32) &&& 31) = nI (i / 2) := pk_shrN (by omega) _ 1 (by decide)
theorem hs_2 {i : Nat} (hi : i < 100000) : nI i >>> ((2 : Int32) &&& 31) = nI (i / 4) := pk_shrN (by omega) _ 2 (by decide)
theorem ix_7 (a : Nat) : nI a + (7 : Int32) = nI (a + 7) := ix_l a 7
theorem ix_2 (a : Nat) : nI a + (2 : Int32) = nI (a + 2) := ix_l a 2
theorem nz_2 {β : Type} (k : Option β) : pq_nz (2 : Int32) k = k := if_neg (by decide)
theorem nz_4 {β : Type} (k : Option β) : pq_nz (4 : Int32) k = k := if_neg (by decide)
theorem ml_2 (i : Nat) : (2 : Int32) * nI i = nI (2 * i) := pk_mul 2 i
theorem ml_4 (i : Nat) : (4 : Int32) * nI i = nI (4 * i) := pk_mul 4 i
theorem mul_in {i n B m : Nat} (hi : i < n) (h : n * B ≤ 8 * m) : i * B + B ≤ 8 * m := by
  have : (i + 1) * B ≤ n * B := Nat.mul_le_mul_right _ hi
  rw [Nat.succ_mul] at this
  omega
section PK
variable {fk b2 b3 b4 b5 t2 t3 t4 t5 w2 w3 w4 w5 p2 p3 p4 p5 fc fs fr fu fh fl fw tr tf : Nat → Int32}
theorem zero_r {m : Nat} (hm : m ≤ 1000) (x1 x2 x3 x4 x5 to z e y od ev ta : Int32) (g b v : Nat → Int32) : ∀ (F i : Nat) (f : Nat → Int32), i ≤ m → m < F + i → ∃ f1, fX7_pack_b75 fk b2 b3 b4 b5 t2 t3 t4 t5 w2 w3 w4 w5 p2 p3 p4 p5 fc fs fr fu fh fl fw tf F x1 x2 x3 x4 x5 (nI i) to z e y od ev ta (nI m) g b v f = fX7_pack_b101 fk b2 b3 b4 b5 t2 t3 t4 t5 w2 w3 w4 w5 p2 p3 p4 p5 fc fs fr fu fh fl fw tf 1100 x1 x2 x3 x4 x5 0 to z e y od ev ta (nI m) g b v f1 ∧ (∀ j, j < i → f1 j = f j) ∧ ∀ j, i ≤ j → j < m → f1 j = 0 := by
  intro F
  induction F with
  | zero => intro i r h1 h2; exact absurd h2 (by omega)
  | succ F ih =>
    intro i r h1 h2
    rw [fX7_pack_b75]
    by_cases g : m ≤ i
    · rw [br_t1 (nI_le g (by omega))]
      exact ⟨r, rfl, fun _ _ => rfl, fun j h3 h4 => absurd h4 (by omega)⟩
    · rw [br_f1 (nI_ge (by omega) (by omega)), wr_in (j := i) rfl (by omega) (by omega), nm_eq, nI_1]
      obtain ⟨r1, k1, k2, k3⟩ := ih (i + 1) (upd r i 0) (by omega) (by omega)
      refine ⟨r1, k1, fun j hj => ?_, fun j h3 h4 => ?_⟩
      · rw [k2 j (by omega)]; exact pk_un (by omega)
      · by_cases e : j = i
        · subst e; rw [k2 j (by omega)]; exact pk_us
        · exact k3 j (by omega) h4
set_option maxHeartbeats 1000000 in
theorem packN (hB : mt4 b2 b3 b4 b5 lB2 lB3 lB4 lB5) (hT : mt4 t2 t3 t4 t5 lT2 lT3 lT4 lT5) (hW : mt4 w2 w3 w4 w5 lW2 lW3 lW4 lW5) (hP : mt4 p2 p3 p4 p5 lP2 lP3 lP4 lP5) {k q t n m : Nat} (hk : k < 4) (hq : q < 6) (hfk : fk k = nI q) (hn : n ≤ 500) (ht : t = 2 * n) (hm1 : m ≤ 1000) (hm : n * bt q ≤ 8 * m) {bits : Int32} {lo hi x b v : Nat → Int32} (hT0 : ag t tr tf) (first to od ev : Int32) : ∀ (F i : Nat) (r f nn g : Nat → Int32) (se sz st z e y : Int32), i ≤ n → n < F + i → ag m r f → vR (2 * k) q bits nn lo hi x g b v → ∃ (se1 sz1 st1 z1 e1 y1 : Int32) (n1 g1 r1 f1 : Nat → Int32), fX6_pack_i_b78 tr (nI q) bits F first 1 (nI n) (nI (bt q)) (nI i) (nI t) (nI m) r se sz st nn lo hi x = some (nI n, 0, nI m, r1, se1, sz1, st1, n1, lo, hi, x) ∧ fX7_pack_b101 fk b2 b3 b4 b5 t2 t3 t4 t5 w2 w3 w4 w5 p2 p3 p4 p5 fc fs fr fu fh fl fw tf F (nI k) first 2 (nI n) (nI (bt q)) (nI i) to z e y od ev (nI t) (nI m) g b v f = some (nI n, to, z1, e1, y1, od, ev, 0, nI m, g1, b, v, f1) ∧ vR (2 * k) q bits n1 lo hi x g1 b v ∧ frm (2 * k) g b v g1 b v ∧ ag m r1 f1 := by
  intro F
  induction F with
  | zero => intro i r f nn g se sz st z e y h1 h2; exact absurd h2 (by omega)
  | succ F ih =>
    intro i r f nn g se sz st z e y h1 h2 hr hR
    rw [fX6_pack_i_b78, fX7_pack_b101]
    by_cases g0 : n ≤ i
    · rw [br_t1 (nI_le g0 (by omega)), br_t1 (nI_le g0 (by omega))]
      exact ⟨se, sz, st, z, e, y, nn, g, r, f, rfl, rfl, hR, frm.rf _ _ _ _, hr⟩
    · obtain ⟨s1, s2⟩ := sam_both (j := 2 * i) (t := t) (by omega) (by omega) hT0
      obtain ⟨c, se1, sz1, st1, z1, e1, y1, n1, g1, m1, m2, m3, m4, m5⟩ := enc_n hB hT hW hP hk hq hfk _ 0 (wrap_rng ((tr (2 * i) <<< ((8 : Int32) &&& 31)) ||| tr (2 * i + 1))) hR se sz st z e y
      obtain ⟨r1, f1, q1, q2, q3⟩ := put_both (tf := tf) (bt_le q).1 hm1 (mul_in (i := i) (by omega) hm) (fX7_pack_b101 fk b2 b3 b4 b5 t2 t3 t4 t5 w2 w3 w4 w5 p2 p3 p4 p5 fc fs fr fu fh fl fw tf F) first (nI c) (nI k) 2 (nI n) to z1 e1 y1 od ev (nI t) (nI m) g1 b v 1100 0 r f (by omega) (by have := (bt_le q).1; omega) hr
      obtain ⟨se2, sz2, st2, z2, e2, y2, n2, g2, r2, f2, k1, k2, k3, k4, k5⟩ := ih (i + 1) r1 f1 n1 g1 se1 sz1 st1 z1 e1 y1 (by omega) (by omega) q3 m4
      refine ⟨se2, sz2, st2, z2, e2, y2, n2, g2, r2, f2, ?_, ?_, k3, m5.tr k4, k5⟩
      · rw [br_f1 (nI_ge (by omega) (by omega)), sh_1 (by omega), nm_eq, kd_W q (by omega), if_pos hq, cl_eq, br_t1 rfl, fX6_pack_i_b114, s1, cl_eq, m2, cl_eq, nm_eq, nm_eq, nm_eq, nm_eq, nm_eq, nm_eq, nm_eq, nm_eq, fX2_putCode, show (0 : Int32) = nI 0 from rfl, q1, cl_eq, nm_eq, nI_1]
        exact k1
      · rw [br_f1 (nI_ge (by omega) (by omega)), br_f1 (by decide), ml_2, s2, cl_eq, m3, cl_eq, nm_eq, nm_eq, nm_eq, nm_eq, nm_eq, fX7_pack_b154, show (0 : Int32) = nI 0 from rfl, q2]
        exact k2
set_option maxHeartbeats 1000000 in
theorem packW (hfc : mt fc lCo) (hfs : mt fs lSt) (hfr : mt fr lRoots) (hfu : mt fu lUps) (hfh : mt fh lHig) (hfl : mt fl lLw) (hfw : mt fw lHw) {k q t n m : Nat} (hk : k < 4) (hq : q < 9) (h6 : 6 ≤ q) (hn : n ≤ 500) (ht : t = 4 * n) (ht1 : t ≤ 1000) (hm1 : m ≤ 1000) (hm : n * bt q ≤ 8 * m) {bits se sz st : Int32} {nn g : Nat → Int32} (hT0 : ag t tr tf) (first to z e y : Int32) : ∀ (F i : Nat) (r f lo hi x b v : Nat → Int32) (od ev : Int32), i ≤ n → n < F + i → ag m r f → vR (2 * k) q bits nn lo hi x g b v → ∃ (od1 ev1 : Int32) (lo1 hi1 x1 b1 v1 r1 f1 : Nat → Int32), fX6_pack_i_b78 tr (nI q) bits F first 2 (nI n) (nI (bt q)) (nI i) (nI t) (nI m) r se sz st nn lo hi x = some (nI n, 0, nI m, r1, se, sz, st, nn, lo1, hi1, x1) ∧ fX7_pack_b101 fk b2 b3 b4 b5 t2 t3 t4 t5 w2 w3 w4 w5 p2 p3 p4 p5 fc fs fr fu fh fl fw tf F (nI k) first 4 (nI n) (nI (bt q)) (nI i) to z e y od ev (nI t) (nI m) g b v f = some (nI n, to, z, e, y, od1, ev1, 0, nI m, g, b1, v1, f1) ∧ vR (2 * k) q bits nn lo1 hi1 x1 g b1 v1 ∧ frm (2 * k) g b v g b1 v1 ∧ ag m r1 f1 := by
  intro F
  induction F with
  | zero => intro i r f lo hi x b v od ev h1 h2; exact absurd h2 (by omega)
  | succ F ih =>
    intro i r f lo hi x b v od ev h1 h2 hr hR
    rw [fX6_pack_i_b78, fX7_pack_b101]
    by_cases g0 : n ≤ i
    · rw [br_t1 (nI_le g0 (by omega)), br_t1 (nI_le g0 (by omega))]
      exact ⟨od, ev, lo, hi, x, b, v, r, f, rfl, rfl, hR, frm.rf _ _ _ _, hr⟩
    · obtain ⟨s1, s2⟩ := sam_both (j := 4 * i) (t := t) (by omega) ht1 hT0
      obtain ⟨s3, s4⟩ := sam_both (j := 4 * i + 2) (t := t) (by omega) ht1 hT0
      obtain ⟨c, o1, ev1, lo1, hi1, x1, b1, v1, m1, m2, m3, m4, m5⟩ := enc_w hfc hfs hfr hfu hfh hfl hfw hk hq h6 (tWrap ((tr (4 * i) <<< ((8 : Int32) &&& 31)) ||| tr (4 * i + 1))) (tWrap ((tr (4 * i + 2) <<< ((8 : Int32) &&& 31)) ||| tr (4 * i + 2 + 1))) hR se sz st od ev
      obtain ⟨r1, f1, q1, q2, q3⟩ := put_both (tf := tf) (bt_le q).1 hm1 (mul_in (i := i) (by omega) hm) (fX7_pack_b101 fk b2 b3 b4 b5 t2 t3 t4 t5 w2 w3 w4 w5 p2 p3 p4 p5 fc fs fr fu fh fl fw tf F) first (nI c) (nI k) 4 (nI n) to z e y o1 ev1 (nI t) (nI m) g b1 v1 1100 0 r f (by omega) (by have := (bt_le q).1; omega) hr
      obtain ⟨o2, ev2, lo2, hi2, x2, b2', v2, r2, f2, k1, k2, k3, k4, k5⟩ := ih (i + 1) r1 f1 lo1 hi1 x1 b1 v1 o1 ev1 (by omega) (by omega) q3 m4
      refine ⟨o2, ev2, lo2, hi2, x2, b2', v2, r2, f2, ?_, ?_, k3, m5.tr k4, k5⟩
      · rw [br_f1 (nI_ge (by omega) (by omega)), sh_2 (by omega), nm_eq, kd_W q (by omega), if_neg (by omega), cl_eq, br_f1 (by decide), ix_2, s3, cl_eq, fX6_pack_i_b114, s1, cl_eq, m2, cl_eq, nm_eq, nm_eq, nm_eq, nm_eq, nm_eq, nm_eq, nm_eq, nm_eq, fX2_putCode, show (0 : Int32) = nI 0 from rfl, q1, cl_eq, nm_eq, nI_1]
        exact k1
      · rw [br_f1 (nI_ge (by omega) (by omega)), br_t1 rfl, ml_4, ix_2, s2, cl_eq, s4, cl_eq, m3, cl_eq, nm_eq, nm_eq, nm_eq, nm_eq, nm_eq, fX7_pack_b154, show (0 : Int32) = nI 0 from rfl, q2]
        exact k2
set_option maxHeartbeats 1000000 in
theorem pack_both (hB : mt4 b2 b3 b4 b5 lB2 lB3 lB4 lB5) (hT : mt4 t2 t3 t4 t5 lT2 lT3 lT4 lT5) (hW : mt4 w2 w3 w4 w5 lW2 lW3 lW4 lW5) (hP : mt4 p2 p3 p4 p5 lP2 lP3 lP4 lP5) (hfc : mt fc lCo) (hfs : mt fs lSt) (hfr : mt fr lRoots) (hfu : mt fu lUps) (hfh : mt fh lHig) (hfl : mt fl lLw) (hfw : mt fw lHw) {k q t o : Nat} (hk : k < 4) (hq : q < 9) (hfk : fk k = nI q) (ht : t ≤ 1000) (ho : o ≤ 1000) {bits : Int32} {nn lo hi x g b v r f : Nat → Int32} (hT0 : ag t tr tf) (hO : ag o r f) (hR : vR (2 * k) q bits nn lo hi x g b v) (first se sz st to z e y od ev : Int32) : ∃ (w : Int32) (t1 o1 : Nat) (se1 sz1 st1 z1 e1 y1 od1 ev1 : Int32) (n1 lo1 hi1 x1 g1 b1 v1 r1 f1 : Nat → Int32), t1 ≤ t ∧ o1 ≤ 1000 ∧ fX6_pack_i (nI k) first tr (nI q) bits (nI t) (nI o) r se sz st nn lo hi x = some (w, nI t1, nI o1, r1, se1, sz1, st1, n1, lo1, hi1, x1) ∧ fX7_pack (nI k) first fk b2 b3 b4 b5 t2 t3 t4 t5 w2 w3 w4 w5 p2 p3 p4 p5 fc fs fr fu fh fl fw tf to z e y od ev (nI t) (nI o) g b v f = some (w, 0, z1, e1, y1, od1, ev1, nI t1, nI o1, g1, b1, v1, f1) ∧ vR (2 * k) q bits n1 lo1 hi1 x1 g1 b1 v1 ∧ frm (2 * k) g b v g1 b1 v1 ∧ ag o1 r1 f1 := by
  rw [fX6_pack_i, ol_i hk, if_neg (ne_NONE q hq), cl_eq, br_f1 (by decide), fX7_pack, rk_open hk, hfk, if_neg (ne_NONE q hq), cl_eq, br_f1 (by decide), kd_W q hq, cl_eq, rk_pair hk hq hfk, cl_eq]
  have hb8 := (bt_le q).1
  by_cases h6 : q < 6
  · rw [if_pos h6, br_t1 rfl, br_t1 rfl, fX6_pack_i_b25, hs_1 (by omega), nm_eq, sh_1 (by omega), fX7_pack_b29, nz_2, show nI t - nI t / (2 : Int32) * (2 : Int32) = nI (t % 2) from pk_rem (d := 2) (by omega) (by omega) (by omega)]
    by_cases ge : t % 2 = 0
    · have hn8 : t / 2 * bt q ≤ 500 * 8 := Nat.mul_le_mul (by omega) hb8
      obtain ⟨r0, c1, c2⟩ := clear_n (n := t / 2) hb8 (by omega) (nI o) r
      obtain ⟨f0, d1, -, d2⟩ := zero_r (fk := fk) (tf := tf) (b2 := b2) (b3 := b3) (b4 := b4) (b5 := b5) (t2 := t2) (t3 := t3) (t4 := t4) (t5 := t5) (w2 := w2) (w3 := w3) (w4 := w4) (w5 := w5) (p2 := p2) (p3 := p3) (p4 := p4) (p5 := p5) (fc := fc) (fs := fs) (fr := fr) (fu := fu) (fh := fh) (fl := fl) (fw := fw) (m := (t / 2 * bt q + 7) / 8) (by omega) (nI k) first 2 (nI (t / 2)) (nI (bt q)) 0 z e y od ev (nI t) g b v 1100 0 f (by omega) (by omega)
      obtain ⟨se1, sz1, st1, z1, e1, y1, n1, g1, r1, f1, k1, k2, k3, k4, k5⟩ := packN (fc := fc) (fs := fs) (fr := fr) (fu := fu) (fh := fh) (fl := fl) (fw := fw) hB hT hW hP hk h6 hfk (n := t / 2) (by omega) (t := t) (by omega) (m := (t / 2 * bt q + 7) / 8) (by omega) (by omega) hT0 first 0 od ev 1100 0 r0 f0 nn g se sz st z e y (by omega) (by omega) (fun j hj => by rw [c2 j hj, d2 j (by omega) hj]) hR
      rw [br_t1 (by rw [nI_eq (by omega) (by omega)]; omega), br_t1 (by rw [ge]; rfl), nz_2, show nI t / (2 : Int32) = nI (t / 2) from pk_div (d := 2) (by omega) (by omega) (by omega), nm_eq, rk_bits hk hq hfk, cl_eq, nz_8, pk_mul, ix_7, p_div (by omega), nm_eq, show (0 : Int32) = nI 0 from rfl, kd_B q hq, cl_eq, c1, cl_eq, nm_eq, nm_eq]
      exact ⟨nI (t / 2), 0, (t / 2 * bt q + 7) / 8, se1, sz1, st1, z1, e1, y1, od, ev, n1, lo, hi, x, g1, b, v, r1, f1, by omega, by omega, k1, d1.trans k2, k3, k4, k5⟩
    · rw [br_f1 (by rw [nI_eq (by omega) (by omega)]; omega), br_f1 (nI_ne0 (by omega) (by omega))]
      exact ⟨_, t, o, se, sz, st, z, e, y, od, ev, nn, lo, hi, x, g, b, v, r, f, by omega, ho, rfl, rfl, hR, frm.rf _ _ _ _, hO⟩
  · rw [if_neg h6, br_f1 (by decide), br_f1 (by decide), fX6_pack_i_b25, hs_2 (by omega), nm_eq, sh_2 (by omega), fX7_pack_b29, nz_4, show nI t - nI t / (4 : Int32) * (4 : Int32) = nI (t % 4) from pk_rem (d := 4) (by omega) (by omega) (by omega)]
    by_cases ge : t % 4 = 0
    · have hn8 : t / 4 * bt q ≤ 250 * 8 := Nat.mul_le_mul (by omega) hb8
      obtain ⟨r0, c1, c2⟩ := clear_n (n := t / 4) hb8 (by omega) (nI o) r
      obtain ⟨f0, d1, -, d2⟩ := zero_r (fk := fk) (tf := tf) (b2 := b2) (b3 := b3) (b4 := b4) (b5 := b5) (t2 := t2) (t3 := t3) (t4 := t4) (t5 := t5) (w2 := w2) (w3 := w3) (w4 := w4) (w5 := w5) (p2 := p2) (p3 := p3) (p4 := p4) (p5 := p5) (fc := fc) (fs := fs) (fr := fr) (fu := fu) (fh := fh) (fl := fl) (fw := fw) (m := (t / 4 * bt q + 7) / 8) (by omega) (nI k) first 4 (nI (t / 4)) (nI (bt q)) 0 z e y od ev (nI t) g b v 1100 0 f (by omega) (by omega)
      obtain ⟨od1, ev1, lo1, hi1, x1, b1, v1, r1, f1, k1, k2, k3, k4, k5⟩ := packW (fk := fk) (b2 := b2) (b3 := b3) (b4 := b4) (b5 := b5) (t2 := t2) (t3 := t3) (t4 := t4) (t5 := t5) (w2 := w2) (w3 := w3) (w4 := w4) (w5 := w5) (p2 := p2) (p3 := p3) (p4 := p4) (p5 := p5) (se := se) (sz := sz) (st := st) hfc hfs hfr hfu hfh hfl hfw hk hq (by omega) (n := t / 4) (by omega) (t := t) (by omega) (by omega) (m := (t / 4 * bt q + 7) / 8) (by omega) (by omega) hT0 first 0 z e y 1100 0 r0 f0 lo hi x b v od ev (by omega) (by omega) (fun j hj => by rw [c2 j hj, d2 j (by omega) hj]) hR
      rw [br_t1 (by rw [nI_eq (by omega) (by omega)]; omega), br_t1 (by rw [ge]; rfl), nz_4, show nI t / (4 : Int32) = nI (t / 4) from pk_div (d := 4) (by omega) (by omega) (by omega), nm_eq, rk_bits hk hq hfk, cl_eq, nz_8, pk_mul, ix_7, p_div (by omega), nm_eq, show (0 : Int32) = nI 0 from rfl, kd_B q hq, cl_eq, c1, cl_eq, nm_eq, nm_eq]
      exact ⟨nI (t / 4), 0, (t / 4 * bt q + 7) / 8, se, sz, st, z, e, y, od1, ev1, nn, lo1, hi1, x1, g, b1, v1, r1, f1, by omega, by omega, k1, d1.trans k2, k3, k4, k5⟩
    · rw [br_f1 (by rw [nI_eq (by omega) (by omega)]; omega), br_f1 (nI_ne0 (by omega) (by omega))]
      exact ⟨_, t, o, se, sz, st, z, e, y, od, ev, nn, lo, hi, x, g, b, v, r, f, by omega, ho, rfl, rfl, hR, frm.rf _ _ _ _, hO⟩
end PK
end
section
/-! rows of bytes unpacked, on both sides -/
section UK
variable {fk t2 t3 t4 t5 w2 w3 w4 w5 p2 p3 p4 p5 fc fr fu fh fl fw f56 f64 tr tf : Nat → Int32}
def wd (q : Nat) : Nat := if q < 6 then 2 else 4
set_option maxHeartbeats 2000000 in
theorem unpL (hT : mt4 t2 t3 t4 t5 lT2 lT3 lT4 lT5) (hW : mt4 w2 w3 w4 w5 lW2 lW3 lW4 lW5) (hP : mt4 p2 p3 p4 p5 lP2 lP3 lP4 lP5) (hfc : mt fc lCo) (hfr : mt fr lRoots) (hfu : mt fu lUps) (hfh : mt fh lHig) (hfl : mt fl lLw) (hfw : mt fw lHw) (h56 : mt f56 lH56) (h64 : mt f64 lH64) {k q t n : Nat} (hk : k < 4) (hq : q < 9) (hfk : fk k = nI q) (hn : n ≤ 250) (ht : t ≤ 1000) (hm : n * bt q ≤ 8 * t) {bits : Int32} (hT0 : ag t tr tf) (first to : Int32) : ∀ (F i : Nat) (r f nn lo hi x fse g b v : Nat → Int32) (se sz st sec z e y od ev : Int32), i ≤ n → n < F + i → ag (wd q * i) r f → vR (2 * k + 1) q bits nn lo hi x g b v → (6 ≤ q → fse k = sec) → ∃ (se1 sz1 st1 sec1 z1 e1 y1 od1 ev1 : Int32) (n1 lo1 hi1 x1 fse1 g1 b1 v1 r1 f1 : Nat → Int32), fX6_unpack_i_b64 tr (nI q) bits F first (nI n) (nI (bt q)) (nI i) (nI t) (nI (wd q * i)) r se sz st nn sec lo hi x = some (nI (wd q * n), 0, nI (wd q * n), r1, se1, sz1, st1, n1, sec1, lo1, hi1, x1) ∧ fX7_unpack_b62 fk t2 t3 t4 t5 w2 w3 w4 w5 p2 p3 p4 p5 fc fr fu fh fl fw f56 f64 tf F (nI k) first (nI n) (nI (bt q)) (nI i) to z e y od ev (nI t) (nI (wd q * i)) fse g b v f = some (nI (wd q * n), to, z1, e1, y1, od1, ev1, 0, nI (wd q * n), fse1, g1, b1, v1, f1) ∧ vR (2 * k + 1) q bits n1 lo1 hi1 x1 g1 b1 v1 ∧ frm (2 * k + 1) g b v g1 b1 v1 ∧ (∀ p, p ≠ k → fse1 p = fse p) ∧ (6 ≤ q → fse1 k = sec1) ∧ ag (wd q * n) r1 f1 := by
  intro F
  induction F with
  | zero => intro i r f nn lo hi x fse g b v se sz st sec z e y od ev h1 h2; exact absurd h2 (by omega)
  | succ F ih =>
    intro i r f nn lo hi x fse g b v se sz st sec z e y od ev h1 h2 hr hR hse
    rw [fX6_unpack_i_b64, fX7_unpack_b62]
    by_cases g0 : n ≤ i
    · have e0 : i = n := by omega
      subst e0
      rw [br_t1 (nI_le g0 (by omega)), br_t1 (nI_le g0 (by omega))]
      exact ⟨se, sz, st, sec, z, e, y, od, ev, nn, lo, hi, x, fse, g, b, v, r, f, rfl, rfl, hR, frm.rf _ _ _ _, fun _ _ => rfl, hse, hr⟩
    · obtain ⟨c, c1, c2, c3⟩ := get_all (fk := fk) (t2 := t2) (t3 := t3) (t4 := t4) (t5 := t5) (w2 := w2) (w3 := w3) (w4 := w4) (w5 := w5) (p2 := p2) (p3 := p3) (p4 := p4) (p5 := p5) (fc := fc) (fr := fr) (fu := fu) (fh := fh) (fl := fl) (fw := fw) (f56 := f56) (f64 := f64) (bt_le q).1 ht (mul_in (i := i) (by omega) hm) hT0 (fX7_unpack_b62 fk t2 t3 t4 t5 w2 w3 w4 w5 p2 p3 p4 p5 fc fr fu fh fl fw f56 f64 tf F) first (nI k) (nI n) to z e y od ev (nI t) (nI (wd q * i)) fse g b v f
      obtain ⟨rr, se1, sz1, st1, sec1, z1, e1, y1, od1, ev1, n1, lo1, hi1, x1, fse1, g1, b1, v1, m1, m2, m3, m4, m5, m6, m7⟩ := dec_b hT hW hP hfc hfr hfu hfh hfl hfw h56 h64 hk hq hfk c1 hR se sz st sec z e y od ev fse
      rw [br_f1 (nI_ge (by omega) (by omega)), br_f1 (nI_ge (by omega) (by omega)), c2, cl_eq, c3, m1, cl_eq, nm_eq, nm_eq, nm_eq, nm_eq, nm_eq, nm_eq, nm_eq, nm_eq, nm_eq, fX7_unpack_b74, br_t1 (nI_le (Nat.le_refl _) (by have := (bt_le q).1; omega)), m2, cl_eq, nm_eq, nm_eq, nm_eq, nm_eq, nm_eq, nm_eq, nm_eq, nm_eq, nm_eq, nm_eq, kd_W q hq, rk_pair hk hq hfk]
      by_cases h6 : q < 6
      · have ew : wd q = 2 := if_pos h6
        rw [ew] at hr ih ⊢
        obtain ⟨se2, sz2, st2, sec2, z2, e2, y2, od2, ev2, n2, lo2, hi2, x2, fse2, g2, b2', v2, r2, f2, k1, k2, k3, k4, k5, k6, k7⟩ := ih (i + 1) _ _ n1 lo1 hi1 x1 fse1 g1 b1 v1 se1 sz1 st1 sec1 z1 e1 y1 od1 ev1 (by omega) (by omega) ((hr.up ((rr >>> ((8 : Int32) &&& 31)) &&& 255)).up (rr &&& 255)) m3 (fun h => absurd h (by omega))
        refine ⟨se2, sz2, st2, sec2, z2, e2, y2, od2, ev2, n2, lo2, hi2, x2, fse2, g2, b2', v2, r2, f2, ?_, ?_, k3, m4.tr k4, fun p hp => by rw [k5 p hp, m6 p hp], k6, k7⟩
        · rw [addS_c (by omega), cl_eq, nm_eq, nm_eq, cl_eq, if_pos h6, br_t1 rfl, fX6_unpack_i_b114, nm_eq, nI_1]; exact k1
        · rw [addS_r (by omega), cl_eq, nm_eq, nm_eq, cl_eq, if_pos h6, br_t1 rfl, fX7_unpack_b185, nm_eq, nI_1]; exact k2
      · have ew : wd q = 4 := if_neg h6
        obtain ⟨m8, -⟩ := m7 (by omega)
        rw [ew] at hr ih ⊢
        obtain ⟨se2, sz2, st2, sec2, z2, e2, y2, od2, ev2, n2, lo2, hi2, x2, fse2, g2, b2', v2, r2, f2, k1, k2, k3, k4, k5, k6, k7⟩ := ih (i + 1) _ _ n1 lo1 hi1 x1 fse1 g1 b1 v1 se1 sz1 st1 sec1 z1 e1 y1 od1 ev1 (by omega) (by omega) ((((hr.up ((rr >>> ((8 : Int32) &&& 31)) &&& 255)).up (rr &&& 255)).up ((sec1 >>> ((8 : Int32) &&& 31)) &&& 255)).up (sec1 &&& 255)) m3 (fun _ => m8)
        refine ⟨se2, sz2, st2, sec2, z2, e2, y2, od2, ev2, n2, lo2, hi2, x2, fse2, g2, b2', v2, r2, f2, ?_, ?_, k3, m4.tr k4, fun p hp => by rw [k5 p hp, m6 p hp], k6, k7⟩
        · rw [addS_c (by omega), cl_eq, nm_eq, nm_eq, cl_eq, if_neg h6, br_f1 (by decide), fX4_secondHeard, cl_eq, addS_c (by omega), cl_eq, nm_eq, nm_eq, fX6_unpack_i_b114, nm_eq, nI_1]; exact k1
        · rw [addS_r (by omega), cl_eq, nm_eq, nm_eq, cl_eq, if_neg h6, br_f1 (by decide), rd_in (j := k) rfl hk (by omega)]
          dsimp only
          rw [m8, addS_r (by omega), cl_eq, nm_eq, nm_eq, fX7_unpack_b185, nm_eq, nI_1]; exact k2
set_option maxHeartbeats 2000000 in
theorem unp_both (hT : mt4 t2 t3 t4 t5 lT2 lT3 lT4 lT5) (hW : mt4 w2 w3 w4 w5 lW2 lW3 lW4 lW5) (hP : mt4 p2 p3 p4 p5 lP2 lP3 lP4 lP5) (hfc : mt fc lCo) (hfr : mt fr lRoots) (hfu : mt fu lUps) (hfh : mt fh lHig) (hfl : mt fl lLw) (hfw : mt fw lHw) (h56 : mt f56 lH56) (h64 : mt f64 lH64) {k q t o : Nat} (hk : k < 4) (hq : q < 9) (hfk : fk k = nI q) (ht : t ≤ 1000) (ho : o ≤ 1000) {bits : Int32} {nn lo hi x fse g b v r f : Nat → Int32} (hT0 : ag t tr tf) (hO : ag o r f) (hR : vR (2 * k + 1) q bits nn lo hi x g b v) (first a se sz st sec to z e y od ev : Int32) (hse : 6 ≤ q → fse k = sec) : ∃ (w : Int32) (t1 o1 : Nat) (se1 sz1 st1 sec1 z1 e1 y1 od1 ev1 : Int32) (n1 lo1 hi1 x1 fse1 g1 b1 v1 r1 f1 : Nat → Int32), t1 ≤ t ∧ o1 ≤ 1000 ∧ fX6_unpack_i (nI k) first a tr (nI q) bits (nI t) (nI o) r se sz st nn sec lo hi x = some (w, nI t1, nI o1, r1, se1, sz1, st1, n1, sec1, lo1, hi1, x1) ∧ fX7_unpack (nI k) first a fk t2 t3 t4 t5 w2 w3 w4 w5 p2 p3 p4 p5 fc fr fu fh fl fw f56 f64 tf to z e y od ev (nI t) (nI o) fse g b v f = some (w, 0, z1, e1, y1, od1, ev1, nI t1, nI o1, fse1, g1, b1, v1, f1) ∧ vR (2 * k + 1) q bits n1 lo1 hi1 x1 g1 b1 v1 ∧ frm (2 * k + 1) g b v g1 b1 v1 ∧ (∀ p, p ≠ k → fse1 p = fse p) ∧ (6 ≤ q → fse1 k = sec1) ∧ ag o1 r1 f1 := by
  have no : ∃ (w : Int32) (t1 o1 : Nat) (se1 sz1 st1 sec1 z1 e1 y1 od1 ev1 : Int32) (n1 lo1 hi1 x1 fse1 g1 b1 v1 r1 f1 : Nat → Int32), t1 ≤ t ∧ o1 ≤ 1000 ∧ some ((-100000 : Int32), nI t, nI o, r, se, sz, st, nn, sec, lo, hi, x) = some (w, nI t1, nI o1, r1, se1, sz1, st1, n1, sec1, lo1, hi1, x1) ∧ some ((-100000 : Int32), (0 : Int32), z, e, y, od, ev, nI t, nI o, fse, g, b, v, f) = some (w, 0, z1, e1, y1, od1, ev1, nI t1, nI o1, fse1, g1, b1, v1, f1) ∧ vR (2 * k + 1) q bits n1 lo1 hi1 x1 g1 b1 v1 ∧ frm (2 * k + 1) g b v g1 b1 v1 ∧ (∀ p, p ≠ k → fse1 p = fse p) ∧ (6 ≤ q → fse1 k = sec1) ∧ ag o1 r1 f1 := ⟨_, t, o, se, sz, st, sec, z, e, y, od, ev, nn, lo, hi, x, fse, g, b, v, r, f, by omega, ho, rfl, rfl, hR, frm.rf _ _ _ _, fun _ _ => rfl, hse, hO⟩
  have hb8 := (bt_le q).1
  rw [fX6_unpack_i, ol_i hk, if_neg (ne_NONE q hq), cl_eq, br_f1 (show ¬ (1 : Int32) = 0 from by decide), fX7_unpack, rk_open hk, hfk, if_neg (ne_NONE q hq), cl_eq, br_f1 (show ¬ (1 : Int32) = 0 from by decide)]
  by_cases g0 : a < (0 : Int32)
  · rw [br_t1 g0, br_t1 g0]; exact no
  · rw [br_f1 g0, br_f1 g0]
    by_cases g1 : a ≤ (250 : Int32)
    · obtain ⟨n, hn, rfl⟩ := nI_of2 (n := 250) rfl g0 g1
      have hn8 : n * bt q ≤ 250 * 8 := Nat.mul_le_mul hn hb8
      rw [br_t1 g1, br_f1 (Int32.not_lt.mpr g1), kd_B q hq, cl_eq, needed_c hb8 (by omega), cl_eq, rk_bits hk hq hfk, cl_eq, cl_eq, nz_8, pk_mul, ix_7, p_div (by omega)]
      by_cases g2 : t = (n * bt q + 7) / 8
      · rw [br_t1 (by rw [g2]), br_t1 (by rw [g2])]
        obtain ⟨se1, sz1, st1, sec1, z1, e1, y1, od1, ev1, n1, lo1, hi1, x1, fse1, g1, b1, v1, r1, f1, k1, k2, k3, k4, k5, k6, k7⟩ := unpL hT hW hP hfc hfr hfu hfh hfl hfw h56 h64 hk hq hfk hn ht (by omega) hT0 first 0 1100 0 r f nn lo hi x fse g b v se sz st sec z e y od ev (by omega) (by omega) (fun j hj => absurd hj (by omega)) hR hse
        have hw : wd q * n ≤ 1000 := by unfold wd; split <;> omega
        rw [show wd q * 0 = 0 from rfl] at k1 k2
        exact ⟨nI (wd q * n), 0, wd q * n, se1, sz1, st1, sec1, z1, e1, y1, od1, ev1, n1, lo1, hi1, x1, fse1, g1, b1, v1, r1, f1, by omega, hw, k1, k2, k3, k4, k5, k6, k7⟩
      · have ne : ¬ nI t = nI ((n * bt q + 7) / 8) := fun h => g2 ((nI_eq (by omega) (by omega)).mp h)
        rw [br_f1 ne, br_f1 ne]; exact no
    · rw [br_f1 g1, br_t1 (Int32.not_le.mp g1)]; exact no
end UK
end
section
/-! a line is opened, on both sides -/
def zr (c : Int32) (a i n : Nat) (g g1 : Nat → Int32) : Prop := ∀ p, g1 p = if a + i ≤ p ∧ p < a + n then c else g p
theorem zr.nil {c : Int32} {a i n : Nat} (h : n ≤ i) (g : Nat → Int32) : zr c a i n g g := fun p => by rw [if_neg (by omega)]
theorem zr.cons {c : Int32} {a i n : Nat} {g g1 : Nat → Int32} (h : i < n) (k : zr c a (i + 1) n (upd g (a + i) c) g1) : zr c a i n g g1 := by
  intro p
  rw [k p]
  unfold upd
  by_cases e : p = a + i
  · rw [if_neg (by omega), if_pos e, if_pos (by omega)]
  · rw [if_neg e]
    by_cases e1 : a + (i + 1) ≤ p ∧ p < a + n
    · rw [if_pos e1, if_pos (by omega)]
    · rw [if_neg e1, if_neg (by omega)]
def n0 (j : Nat) : Int32 := if j = 0 then 34816 else if j = 1 then 544 else if 14 ≤ j ∧ j < 22 then 32 else 0
def d0 (c : Int32) (j : Nat) : Int32 := if j = 1 then c else 0
theorem bg0_63 (c : Int32) : ∀ (F i : Nat) (r : Nat → Int32), i ≤ 6 → 6 < F + i → ∃ r1, fX0_begin_b63 F (nI i) c r = some (c, r1) ∧ zr 32 16 i 6 r r1 := by
  intro F
  induction F with
  | zero => intro i r h1 h2; exact absurd h2 (by omega)
  | succ F ih =>
    intro i r h1 h2
    rw [fX0_begin_b63]
    by_cases g : 6 ≤ i
    · rw [br_t1 (show (6 : Int32) ≤ nI i from nI_le (a := 6) g (by omega))]
      exact ⟨r, rfl, zr.nil g r⟩
    · rw [br_f1 (show ¬ (6 : Int32) ≤ nI i from nI_ge (b := 6) (by omega) (by omega)), wr_in (j := 16 + i) (ix_r i 16) (by omega) (by omega), nm_eq, nI_1]
      obtain ⟨r1, k1, k2⟩ := ih (i + 1) (upd r (16 + i) 32) (by omega) (by omega)
      exact ⟨r1, k1, zr.cons (by omega) k2⟩
theorem bg0_7 (c : Int32) : ∀ (F i : Nat) (r : Nat → Int32), i ≤ 24 → 24 < F + i → ∃ r0 r1, zr 0 0 i 24 r r0 ∧ fX0_begin_b7 F (nI i) c r = some (c, r1) ∧ zr 32 16 0 6 (upd (upd (upd (upd r0 0 34816) 1 544) 14 32) 15 32) r1 := by
  intro F
  induction F with
  | zero => intro i r h1 h2; exact absurd h2 (by omega)
  | succ F ih =>
    intro i r h1 h2
    rw [fX0_begin_b7]
    by_cases g : 24 ≤ i
    · obtain ⟨r1, k1, k2⟩ := bg0_63 c 1100 0 (upd (upd (upd (upd r 0 34816) 1 544) 14 32) 15 32) (by omega) (by omega)
      rw [br_t1 (show (24 : Int32) ≤ nI i from nI_le (a := 24) g (by omega)), wr_in (i := (0 : Int32)) (j := 0) rfl (by omega) (by omega), wr_in (i := (1 : Int32)) (j := 1) rfl (by omega) (by omega), wr_in (i := (14 : Int32)) (j := 14) rfl (by omega) (by omega), wr_in (i := (15 : Int32)) (j := 15) rfl (by omega) (by omega)]
      exact ⟨r, r1, zr.nil g r, k1, k2⟩
    · rw [br_f1 (show ¬ (24 : Int32) ≤ nI i from nI_ge (b := 24) (by omega) (by omega)), wr_in (j := i) rfl (by omega) (by omega), nm_eq, nI_1]
      obtain ⟨r0, r1, k1, k2, k3⟩ := ih (i + 1) (upd r i 0) (by omega) (by omega)
      exact ⟨r0, r1, zr.cons (by omega) (by rw [Nat.zero_add]; exact k1), k2, k3⟩
theorem bg0 (a c : Int32) (r : Nat → Int32) : ∃ r1, fX0_begin a c r = some (a, r1) ∧ ∀ j, j < 24 → r1 j = n0 j := by
  obtain ⟨r0, r1, k1, k2, k3⟩ := bg0_7 a 1100 0 r (by omega) (by omega)
  refine ⟨r1, k2, fun j hj => ?_⟩
  rw [k3 j]
  unfold upd n0
  rw [k1 j]
  repeat' split
  all_goals first | rfl | (exfalso; omega)
theorem inv_0 {r : Nat → Int32} (h : ∀ j, j < 24 → r j = n0 j) : inv r := by
  unfold inv
  rw [h 5 (by omega), h 7 (by omega)]
  decide
theorem bg1_2 (c : Int32) : ∀ (F i : Nat) (r : Nat → Int32), i ≤ 23 → 23 < F + i → ∃ r0, zr 0 0 i 23 r r0 ∧ fX1_begin_b2 F c (nI i) r = some (upd r0 1 c) := by
  intro F
  induction F with
  | zero => intro i r h1 h2; exact absurd h2 (by omega)
  | succ F ih =>
    intro i r h1 h2
    rw [fX1_begin_b2]
    by_cases g : 23 ≤ i
    · rw [br_t1 (show (23 : Int32) ≤ nI i from nI_le (a := 23) g (by omega)), wr_in (i := (1 : Int32)) (j := 1) rfl (by omega) (by omega)]
      exact ⟨r, zr.nil g r, rfl⟩
    · rw [br_f1 (show ¬ (23 : Int32) ≤ nI i from nI_ge (b := 23) (by omega) (by omega)), wr_in (j := i) rfl (by omega) (by omega), nm_eq, nI_1]
      obtain ⟨r0, k1, k2⟩ := ih (i + 1) (upd r i 0) (by omega) (by omega)
      exact ⟨r0, zr.cons (by omega) (by rw [Nat.zero_add]; exact k1), k2⟩
theorem bg1 (c : Int32) (r : Nat → Int32) : ∃ r1, fX1_begin c r = some r1 ∧ ∀ j, j < 23 → r1 j = d0 c j := by
  obtain ⟨r0, k1, k2⟩ := bg1_2 c 1100 0 r (by omega) (by omega)
  refine ⟨_, k2, fun j hj => ?_⟩
  unfold upd d0
  rw [k1 j]
  repeat' split
  all_goals first | rfl | (exfalso; omega)
theorem bg5_20 (c : Int32) (lo hi : Nat → Int32) : ∀ (F i : Nat) (r : Nat → Int32), i ≤ 24 → 24 < F + i → ∃ r0, zr 0 0 i 24 r r0 ∧ fX5_begin_b20 F (nI i) c lo hi r = some (0, lo, hi, r0) := by
  intro F
  induction F with
  | zero => intro i r h1 h2; exact absurd h2 (by omega)
  | succ F ih =>
    intro i r h1 h2
    rw [fX5_begin_b20]
    by_cases g : 24 ≤ i
    · rw [br_t1 (show (24 : Int32) ≤ nI i from nI_le (a := 24) g (by omega))]
      exact ⟨r, zr.nil g r, rfl⟩
    · rw [br_f1 (show ¬ (24 : Int32) ≤ nI i from nI_ge (b := 24) (by omega) (by omega)), wr_in (j := i) rfl (by omega) (by omega), nm_eq, nI_1]
      obtain ⟨r0, k1, k2⟩ := ih (i + 1) (upd r i 0) (by omega) (by omega)
      exact ⟨r0, zr.cons (by omega) (by rw [Nat.zero_add]; exact k1), k2⟩
theorem bg5 (c : Int32) (lo hi x : Nat → Int32) : ∃ lo1 hi1 x1, fX5_begin c lo hi x = some (0, lo1, hi1, x1) ∧ (∀ j, j < 23 → lo1 j = d0 32 j) ∧ (∀ j, j < 23 → hi1 j = d0 8 j) ∧ ∀ j, j < 24 → x1 j = 0 := by
  obtain ⟨lo1, k1, k2⟩ := bg1 32 lo
  obtain ⟨hi1, k3, k4⟩ := bg1 8 hi
  obtain ⟨x1, k5, k6⟩ := bg5_20 c lo1 hi1 1100 0 x (by omega) (by omega)
  refine ⟨lo1, hi1, x1, ?_, k2, k4, fun j hj => by rw [k5 j, if_pos (by omega)]⟩
  rw [fX5_begin, k1, cl_eq, k3, cl_eq]
  exact k6
/-! the model's -/
abbrev kO := Int32 → Int32 → Int32 → (Nat → Int32) → (Nat → Int32) → (Nat → Int32) → (Nat → Int32) → (Nat → Int32) → Option (Int32 × Int32 × (Nat → Int32) × (Nat → Int32) × (Nat → Int32) × (Nat → Int32) × (Nat → Int32))
theorem sd_24 : ∀ s, s < 8 → (24 : Int32) * nI s = nI (24 * s) ∧ (46 : Int32) * nI s = nI (46 * s) := fun s _ => ⟨pk_mul 24 s, pk_mul 46 s⟩
theorem op_153 (K : kO) {s : Nat} (hs : s < 8) (x1 to : Int32) (fk fse g v : Nat → Int32) : ∀ (F i : Nat) (b : Nat → Int32), i ≤ 46 → 46 < F + i → ∃ b0, zr 0 (46 * s) i 46 b b0 ∧ fX7_open_b153 K F x1 (nI s) (nI i) to fk fse g b v = K x1 (nI (s + 1)) to fk fse g (upd (upd b0 (46 * s + 1) 32) (46 * s + 24) 8) v := by
  intro F
  induction F with
  | zero => intro i r h1 h2; exact absurd h2 (by omega)
  | succ F ih =>
    intro i r h1 h2
    rw [fX7_open_b153, (sd_24 s hs).2]
    by_cases g0 : 46 ≤ i
    · rw [br_t1 (show (46 : Int32) ≤ nI i from nI_le (a := 46) g0 (by omega)), wr_in (j := 46 * s + 1) (ix_l _ 1) (by omega) (by omega), wr_in (j := 46 * s + 24) (ix_l _ 24) (by omega) (by omega), nm_eq, nI_1]
      exact ⟨r, zr.nil g0 r, rfl⟩
    · rw [br_f1 (show ¬ (46 : Int32) ≤ nI i from nI_ge (b := 46) (by omega) (by omega)), wr_in (j := 46 * s + i) (nI_add _ _) (by omega) (by omega), nm_eq, nI_1]
      obtain ⟨r0, k1, k2⟩ := ih (i + 1) (upd r (46 * s + i) 0) (by omega) (by omega)
      exact ⟨r0, zr.cons (by omega) k1, k2⟩
theorem op_123 (K : kO) {s : Nat} (hs : s < 8) (x1 to : Int32) (fk fse b v : Nat → Int32) : ∀ (F i : Nat) (g : Nat → Int32), i ≤ 22 → 22 < F + i → ∃ g0, zr 32 (24 * s) i 22 g g0 ∧ fX7_open_b123 K F x1 (nI s) (nI i) to fk fse g b v = fX7_open_b153 K 1100 x1 (nI s) 0 to fk fse g0 b v := by
  intro F
  induction F with
  | zero => intro i r h1 h2; exact absurd h2 (by omega)
  | succ F ih =>
    intro i r h1 h2
    rw [fX7_open_b123, (sd_24 s hs).1]
    by_cases g0 : 22 ≤ i
    · rw [br_t1 (show (22 : Int32) ≤ nI i from nI_le (a := 22) g0 (by omega))]
      exact ⟨r, zr.nil g0 r, rfl⟩
    · rw [br_f1 (show ¬ (22 : Int32) ≤ nI i from nI_ge (b := 22) (by omega) (by omega)), wr_in (j := 24 * s + i) (nI_add _ _) (by omega) (by omega), nm_eq, nI_1]
      obtain ⟨r0, k1, k2⟩ := ih (i + 1) (upd r (24 * s + i) 32) (by omega) (by omega)
      exact ⟨r0, zr.cons (by omega) k1, k2⟩
theorem op_55 (K : kO) {s : Nat} (hs : s < 8) (x1 to : Int32) (fk fse b : Nat → Int32) : ∀ (F i : Nat) (g v : Nat → Int32), i ≤ 24 → 24 < F + i → ∃ g0 v0, zr 0 (24 * s) i 24 g g0 ∧ zr 0 (24 * s) i 24 v v0 ∧ fX7_open_b55 K F x1 (nI s) (nI i) to fk fse g b v = fX7_open_b123 K 1100 x1 (nI s) 14 to fk fse (upd (upd g0 (24 * s) 34816) (24 * s + 1) 544) b v0 := by
  intro F
  induction F with
  | zero => intro i r v h1 h2; exact absurd h2 (by omega)
  | succ F ih =>
    intro i r v h1 h2
    rw [fX7_open_b55, (sd_24 s hs).1]
    by_cases g0 : 24 ≤ i
    · rw [br_t1 (show (24 : Int32) ≤ nI i from nI_le (a := 24) g0 (by omega)), wr_in (j := 24 * s) rfl (by omega) (by omega), wr_in (j := 24 * s + 1) (ix_l _ 1) (by omega) (by omega)]
      exact ⟨r, v, zr.nil g0 r, zr.nil g0 v, rfl⟩
    · rw [br_f1 (show ¬ (24 : Int32) ≤ nI i from nI_ge (b := 24) (by omega) (by omega)), wr_in (j := 24 * s + i) (nI_add _ _) (by omega) (by omega), wr_in (j := 24 * s + i) (nI_add _ _) (by omega) (by omega), nm_eq, nI_1]
      obtain ⟨r0, v0, k1, k2, k3⟩ := ih (i + 1) (upd r (24 * s + i) 0) (upd v (24 * s + i) 0) (by omega) (by omega)
      exact ⟨r0, v0, zr.cons (by omega) k1, zr.cons (by omega) k2, k3⟩
/-- side s has begun -/
def bgS (s : Nat) (g b v : Nat → Int32) : Prop := (∀ j, j < 24 → g (24 * s + j) = n0 j) ∧ (∀ j, j < 23 → b (46 * s + j) = d0 32 j) ∧ (∀ j, j < 23 → b (46 * s + 23 + j) = d0 8 j) ∧ ∀ j, j < 24 → v (24 * s + j) = 0
theorem op_side (K : kO) {s : Nat} (hs : s < 8) (x1 to : Int32) (fk fse g b v : Nat → Int32) : ∃ g1 b1 v1, fX7_open_b55 K 1100 x1 (nI s) 0 to fk fse g b v = K x1 (nI (s + 1)) to fk fse g1 b1 v1 ∧ bgS s g1 b1 v1 ∧ frm s g b v g1 b1 v1 := by
  obtain ⟨g0, v0, a1, a2, a3⟩ := op_55 K hs x1 to fk fse b 1100 0 g v (by omega) (by omega)
  obtain ⟨g1, c1, c2⟩ := op_123 K hs x1 to fk fse b v0 1100 14 (upd (upd g0 (24 * s) 34816) (24 * s + 1) 544) (by omega) (by omega)
  obtain ⟨b0, e1, e2⟩ := op_153 K hs x1 to fk fse g1 v0 1100 0 b (by omega) (by omega)
  refine ⟨g1, _, v0, a3.trans (c2.trans e2), ⟨fun j hj => ?_, fun j hj => ?_, fun j hj => ?_, fun j hj => ?_⟩, fun p hp => ?_, fun p hp => ?_, fun p hp => ?_⟩
  · rw [c1]; unfold upd n0; rw [a1]
    repeat' split
    all_goals first | rfl | (exfalso; omega)
  · unfold upd d0; rw [e1]
    repeat' split
    all_goals first | rfl | (exfalso; omega)
  · unfold upd d0; rw [e1]
    repeat' split
    all_goals first | rfl | (exfalso; omega)
  · rw [a2, if_pos (by omega)]
  · rw [c1]; unfold upd; rw [a1, if_neg (by omega), if_neg (by omega), if_neg (by omega), if_neg (by omega)]
  · unfold upd; rw [e1, if_neg (by omega), if_neg (by omega), if_neg (by omega)]
  · rw [a2, if_neg (by omega)]
theorem bgS.other {s s' : Nat} {g b v g1 b1 v1 : Nat → Int32} (h : bgS s g b v) (hne : s ≠ s') (hf : frm s' g b v g1 b1 v1) : bgS s g1 b1 v1 := ⟨fun j hj => by rw [hf.1 _ (by omega)]; exact h.1 j hj, fun j hj => by rw [hf.2.1 _ (by omega)]; exact h.2.1 j hj, fun j hj => by rw [hf.2.1 _ (by omega)]; exact h.2.2.1 j hj, fun j hj => by rw [hf.2.2 _ (by omega)]; exact h.2.2.2 j hj⟩
theorem op_43 {k : Nat} (hk : k < 4) (to : Int32) (fk fse g b v : Nat → Int32) : ∃ g1 b1 v1 g2 b2 v2, fX7_open_b43 1100 (nI k) (nI (2 * k)) to fk fse g b v = some (1, to, fk, fse, g2, b2, v2) ∧ bgS (2 * k) g2 b2 v2 ∧ bgS (2 * k + 1) g2 b2 v2 ∧ frm (2 * k) g b v g1 b1 v1 ∧ frm (2 * k + 1) g1 b1 v1 g2 b2 v2 := by
  obtain ⟨g1, b1, v1, m1, m2, m3⟩ := op_side (fX7_open_b43 (1098 + 1)) (s := 2 * k) (by omega) (nI k) to fk fse g b v
  obtain ⟨g2, b2, v2, k1, k2, k3⟩ := op_side (fX7_open_b43 (1097 + 1)) (s := 2 * k + 1) (by omega) (nI k) to fk fse g1 b1 v1
  refine ⟨g1, b1, v1, g2, b2, v2, ?_, m2.other (by omega) k3, k2, m3, k3⟩
  have e : (2 : Int32) * nI k + (2 : Int32) = nI (2 * k + 2) := by rw [ml_2, ix_2]
  show fX7_open_b43 (1098 + 1 + 1) (nI k) (nI (2 * k)) to fk fse g b v = _
  rw [fX7_open_b43, e, br_f1 (nI_ge (by omega) (by omega)), m1, fX7_open_b43, e, br_f1 (nI_ge (by omega) (by omega)), k1, fX7_open_b43, e, br_t1 (nI_le (by omega) (by omega))]
theorem bgS.vA {s q : Nat} {bits : Int32} {n lo hi x g b v : Nat → Int32} (h : bgS s g b v) (hA : 2 ≤ q → q ≤ 5 → bits = nI q ∧ ∀ j, j < 24 → n j = n0 j) (hW : 6 ≤ q → (∀ j, j < 23 → lo j = d0 32 j) ∧ (∀ j, j < 23 → hi j = d0 8 j) ∧ ∀ j, j < 24 → x j = 0) : vR s q bits n lo hi x g b v := by
  refine ⟨fun h2 h5 => ?_, fun h6 => ?_⟩
  · obtain ⟨e1, e2⟩ := hA h2 h5
    exact ⟨e1, fun j hj => by rw [h.1 j hj, e2 j hj], inv_0 e2⟩
  · obtain ⟨e1, e2, e3⟩ := hW h6
    exact ⟨fun j hj => by rw [h.2.1 j hj, e1 j hj], fun j hj => by rw [h.2.2.1 j hj, e2 j hj], fun j hj => by rw [h.2.2.2 j hj, e3 j hj]⟩
set_option maxHeartbeats 1000000 in
/-- the class's line has begun -/
theorem begin_c {q : Nat} (hq : q < 9) (kd bS bH sS sH : Int32) (nS nH loS hiS xS loH hiH xH : Nat → Int32) : ∃ (bS1 bH1 sS1 sH1 : Int32) (nS1 nH1 loS1 hiS1 xS1 loH1 hiH1 xH1 : Nat → Int32), fX4_begin (nI q) kd bS nS bH nH sS loS hiS xS sH loH hiH xH = some (nI q, bS1, nS1, bH1, nH1, sS1, loS1, hiS1, xS1, sH1, loH1, hiH1, xH1) ∧ (2 ≤ q → q ≤ 5 → (bS1 = nI q ∧ ∀ j, j < 24 → nS1 j = n0 j) ∧ bH1 = nI q ∧ ∀ j, j < 24 → nH1 j = n0 j) ∧ (6 ≤ q → ((∀ j, j < 23 → loS1 j = d0 32 j) ∧ (∀ j, j < 23 → hiS1 j = d0 8 j) ∧ ∀ j, j < 24 → xS1 j = 0) ∧ ((∀ j, j < 23 → loH1 j = d0 32 j) ∧ (∀ j, j < 23 → hiH1 j = d0 8 j) ∧ ∀ j, j < 24 → xH1 j = 0) ∧ sH1 = 0) := by
  rw [fX4_begin, kd_A q hq, cl_eq]
  by_cases h : 2 ≤ q ∧ q ≤ 5
  · obtain ⟨r1, k1, k2⟩ := bg0 (nI q) bS nS
    obtain ⟨r2, k3, k4⟩ := bg0 (nI q) bH nH
    rw [if_pos h, br_f1 (by decide), k1, cl_eq, nm_eq, nm_eq, k3, cl_eq, nm_eq, nm_eq]
    exact ⟨nI q, nI q, sS, sH, r1, r2, loS, hiS, xS, loH, hiH, xH, rfl, fun _ _ => ⟨⟨rfl, k2⟩, rfl, k4⟩, fun h6 => absurd h6 (by omega)⟩
  · rw [if_neg h, br_t1 rfl, kd_W q hq, cl_eq]
    by_cases h6 : q < 6
    · rw [if_pos h6, br_t1 rfl]
      exact ⟨bS, bH, sS, sH, nS, nH, loS, hiS, xS, loH, hiH, xH, rfl, fun h2 h5 => absurd ⟨h2, h5⟩ h, fun h => absurd h (by omega)⟩
    · obtain ⟨l1, i1, y1, k1, k2, k3, k4⟩ := bg5 sS loS hiS xS
      obtain ⟨l2, i2, y2, m1, m2, m3, m4⟩ := bg5 sH loH hiH xH
      rw [if_neg h6, br_f1 (by decide), k1, cl_eq, nm_eq, nm_eq, nm_eq, nm_eq, m1, cl_eq, nm_eq, nm_eq, nm_eq, nm_eq]
      exact ⟨bS, bH, 0, 0, nS, nH, l1, i1, y1, l2, i2, y2, rfl, fun h2 h5 => absurd ⟨h2, h5⟩ h, fun _ => ⟨⟨k2, k3, k4⟩, ⟨m2, m3, m4⟩, rfl⟩⟩
end
section
/-! a line on both sides: closed, or of one kind with two sides alike -/
abbrev lnT : Type := (Nat → Int32) × (Nat → Nat → Int32)
def LR (k : Nat) (L : lnT) (fk fse g b v : Nat → Int32) : Prop := fk k = L.1 0 ∧ (L.1 0 = (-100000 : Int32) ∨ ∃ q, q < 9 ∧ L.1 0 = nI q ∧ vR (2 * k) q (L.1 1) (L.2 0) (L.2 2) (L.2 3) (L.2 4) g b v ∧ vR (2 * k + 1) q (L.1 5) (L.2 1) (L.2 5) (L.2 6) (L.2 7) g b v ∧ (6 ≤ q → fse k = L.1 10))
theorem LR.other {j : Nat} {L : lnT} {fk fse g b v fk1 fse1 g1 b1 v1 : Nat → Int32} (h : LR j L fk fse g b v) (hfk : fk1 j = fk j) (hse : fse1 j = fse j) {s : Nat} (h1 : 2 * j ≠ s) (h2 : 2 * j + 1 ≠ s) (hf : frm s g b v g1 b1 v1) : LR j L fk1 fse1 g1 b1 v1 := ⟨hfk.trans h.1, h.2.imp id fun ⟨q, hq, e, hS, hH, hs⟩ => ⟨q, hq, e, hS.other h1 hf, hH.other h2 hf, fun h6 => hse.trans (hs h6)⟩⟩
theorem one : ¬ (1 : Int32) = 0 := by decide
theorem kind_L {k : Nat} (hk : k < 4) {L : lnT} {fk fse g b v : Nat → Int32} (hL : LR k L fk fse g b v) (to : Int32) : fX6_kind_i (nI k) (L.1 0) = some (L.1 0) ∧ fX7_kind (nI k) fk to = some (L.1 0, 0) := by
  constructor
  · rw [fX6_kind_i, ol_i hk, cl_eq]
    by_cases c : L.1 0 = (-100000 : Int32)
    · rw [if_pos c, br_t1 rfl, c]
    · rw [if_neg c, br_f1 one]
  · rw [fX7_kind, rk_line hk, cl_eq, br_f1 one, rd_in (j := k) rfl hk (by omega), hL.1]
theorem second_L {k : Nat} (hk : k < 4) {L : lnT} {fk fse g b v : Nat → Int32} (hL : LR k L fk fse g b v) (to : Int32) : ∃ r, fX6_second_i (nI k) (L.1 0) (L.1 10) = some r ∧ fX7_second (nI k) fk fse to = some (r, 0) := by
  obtain ⟨e0, c | ⟨q, hq, e, hS, hH, hs⟩⟩ := hL
  · rw [fX6_second_i, ol_i hk, if_pos c, cl_eq, br_t1 rfl, fX7_second, rk_open hk, e0, if_pos c, cl_eq, br_t1 rfl]
    exact ⟨_, rfl, rfl⟩
  · have hfk : fk k = nI q := e0.trans e
    rw [fX6_second_i, e, ol_i hk, if_neg (ne_NONE q hq), cl_eq, br_f1 one, kd_W q hq, cl_eq, fX7_second, rk_open hk, hfk, if_neg (ne_NONE q hq), cl_eq, br_f1 one, rk_pair hk hq hfk, cl_eq]
    by_cases h6 : q < 6
    · rw [if_pos h6, br_t1 rfl, br_t1 rfl]; exact ⟨_, rfl, rfl⟩
    · rw [if_neg h6, br_f1 one, br_f1 one, fX4_secondHeard, cl_eq, rd_in (j := k) rfl hk (by omega), hs (by omega)]; exact ⟨_, rfl, rfl⟩
theorem lit_lt (j c : Nat) (hj : j < 100000) (hc : c < 100000) : (nI j < nI c ↔ j < c) ∧ (nI c ≤ nI j ↔ c ≤ j) := ⟨nI_ltI (by omega) (by omega), nI_leI (by omega) (by omega)⟩
theorem numA {s : Nat} (hs : s < 8) {n g : Nat → Int32} (h : ∀ j, j < 24 → g (24 * s + j) = n j) (a : Int32) : ∃ r, fX0_number a n = some r ∧ pq_br (a < (0 : Int32)) (some ((-100000 : Int32), (0 : Int32))) (pq_br ((24 : Int32) ≤ a) (some ((-100000 : Int32), (0 : Int32))) (pq_rd 192 g (((24 : Int32) * nI s) + a) fun (v23 : Int32) => some (v23, (0 : Int32)))) = some (r, 0) := by
  rw [fX0_number]
  rcases pk_ix a (n := 24) (by omega) with g0 | g0 | ⟨j, hj, rfl⟩
  · rw [br_t1 g0, br_t1 g0]; exact ⟨_, rfl, rfl⟩
  · by_cases g1 : a < (0 : Int32)
    · rw [br_t1 g1, br_t1 g1]; exact ⟨_, rfl, rfl⟩
    · have g2 : (24 : Int32) ≤ a := g0
      rw [br_f1 g1, br_f1 g1, br_f1 (Int32.not_lt.mpr g2), br_t1 g2]; exact ⟨_, rfl, rfl⟩
  · have g1 : nI j < (24 : Int32) := nI_lt (b := 24) hj (by omega)
    have g2 : ¬ nI j < (0 : Int32) := nI_pos (by omega)
    rw [br_f1 g2, br_f1 g2, br_t1 g1, br_f1 (Int32.not_le.mpr g1), rd_in (j := j) rfl hj (by omega), (sd_24 s hs).1, rd_in (j := 24 * s + j) (nI_add _ _) (by omega) (by omega), h j hj]
    exact ⟨_, rfl, rfl⟩
theorem num1_no {a : Int32} (lo : Nat → Int32) (h : a < 0 ∨ nI 23 ≤ a) : fX1_number a lo = some (-100000) := by
  rw [fX1_number]
  by_cases g1 : a < (0 : Int32)
  · rw [br_t1 g1]; rfl
  · rw [br_f1 g1, br_f1 (show ¬ a < (23 : Int32) from Int32.not_lt.mpr (h.resolve_left g1))]; rfl
theorem num1_in {j : Nat} (hj : j < 23) (lo : Nat → Int32) : fX1_number (nI j) lo = some (lo j) := by
  rw [fX1_number, br_f1 (nI_pos (by omega)), br_t1 (show nI j < (23 : Int32) from nI_lt (b := 23) hj (by omega)), rd_in (j := j) rfl hj (by omega)]
theorem numW {s : Nat} (hs : s < 8) {lo hi x b v : Nat → Int32} (h1 : ∀ j, j < 23 → b (46 * s + j) = lo j) (h2 : ∀ j, j < 23 → b (46 * s + 23 + j) = hi j) (h3 : ∀ j, j < 24 → v (24 * s + j) = x j) (fk g : Nat → Int32) (a : Int32) : ∃ r, fX5_number a lo hi x = some r ∧ pq_br (a < (0 : Int32)) (fX7_inner_b101 fk g b v a (nI s) (0 : Int32)) (pq_br ((23 : Int32) ≤ a) (fX7_inner_b101 fk g b v a (nI s) (0 : Int32)) (pq_rd 368 b (((46 : Int32) * nI s) + a) fun (v18 : Int32) => some (v18, (0 : Int32)))) = some (r, 0) := by
  have no30 : a < (30 : Int32) → fX7_inner_b101 fk g b v a (nI s) (0 : Int32) = some ((-100000 : Int32), 0) := fun h => by
    have h60 : a < (60 : Int32) := Int32.lt_trans h (by decide)
    rw [fX7_inner_b101, br_t1 h, fX7_inner_b129, br_t1 h60]
  rw [fX5_number]
  rcases pk_ix a (n := 84) (by omega) with g0 | g0 | ⟨j, hj, rfl⟩
  · have g1 : a < (30 : Int32) := Int32.lt_trans g0 (by decide)
    rw [br_f1 (Int32.not_le.mpr g1), num1_no lo (Or.inl g0), cl_eq, br_t1 g0, no30 g1]; exact ⟨_, rfl, rfl⟩
  · have g84 : (84 : Int32) ≤ a := g0
    have g60 : (60 : Int32) ≤ a := Int32.le_trans (by decide) g84
    have g53 : (53 : Int32) ≤ a := Int32.le_trans (by decide) g84
    have g30 : (30 : Int32) ≤ a := Int32.le_trans (by decide) g84
    have g23 : (23 : Int32) ≤ a := Int32.le_trans (by decide) g84
    have g00 : ¬ a < (0 : Int32) := Int32.not_lt.mpr (Int32.le_trans (by decide) g84)
    rw [br_t1 g30, br_t1 g60, br_t1 g84, br_f1 g00, br_t1 g23, fX7_inner_b101, br_f1 (Int32.not_lt.mpr g30), br_t1 g53, fX7_inner_b129, br_f1 (Int32.not_lt.mpr g60), br_t1 g84]
    exact ⟨_, rfl, rfl⟩
  · have g00 : ¬ nI j < (0 : Int32) := nI_pos (by omega)
    have l23 : (23 : Int32) ≤ nI j ↔ 23 ≤ j := (lit_lt j 23 (by omega) (by omega)).2
    have l30 : (30 : Int32) ≤ nI j ↔ 30 ≤ j := (lit_lt j 30 (by omega) (by omega)).2
    have l53 : (53 : Int32) ≤ nI j ↔ 53 ≤ j := (lit_lt j 53 (by omega) (by omega)).2
    have l60 : (60 : Int32) ≤ nI j ↔ 60 ≤ j := (lit_lt j 60 (by omega) (by omega)).2
    have l84 : (84 : Int32) ≤ nI j ↔ 84 ≤ j := (lit_lt j 84 (by omega) (by omega)).2
    rw [br_f1 g00]
    by_cases c30 : 30 ≤ j
    · rw [br_t1 (l30.mpr c30), br_t1 (l23.mpr (by omega))]
      by_cases c60 : 60 ≤ j
      · rw [br_t1 (l60.mpr c60), br_f1 (fun q => by have := l84.mp q; omega), rd_in (i := nI j - (60 : Int32)) (j := j - 60) (pk_sub (b := 60) c60) (by omega) (by omega), fX7_inner_b101, br_f1 (Int32.not_lt.mpr (l30.mpr c30)), br_t1 (l53.mpr (by omega)), fX7_inner_b129, br_f1 (Int32.not_lt.mpr (l60.mpr c60)), br_f1 (fun q => by have := l84.mp q; omega), (sd_24 s hs).1, nI_add, rd_in (i := nI (24 * s + j) - (60 : Int32)) (j := 24 * s + (j - 60)) (by rw [← Nat.add_sub_assoc c60]; exact pk_sub (b := 60) (by omega)) (by omega) (by omega), h3 (j - 60) (by omega)]
        exact ⟨_, rfl, rfl⟩
      · have e30 : nI j - (30 : Int32) = nI (j - 30) := pk_sub (b := 30) c30
        rw [br_f1 (fun q => c60 (l60.mp q)), e30, fX7_inner_b101, br_f1 (Int32.not_lt.mpr (l30.mpr c30))]
        by_cases c53 : 53 ≤ j
        · rw [num1_no hi (Or.inr (nI_le (by omega) (by omega))), cl_eq, br_t1 (l53.mpr c53), fX7_inner_b129, br_t1 (Int32.not_le.mp (fun q => c60 (l60.mp q)))]
          exact ⟨_, rfl, rfl⟩
        · rw [num1_in (j := j - 30) (by omega), cl_eq, br_f1 (fun q => c53 (l53.mp q)), (sd_24 s hs).2, nI_add, rd_in (i := nI (46 * s + j) - (7 : Int32)) (j := 46 * s + 23 + (j - 30)) (by rw [show 46 * s + 23 + (j - 30) = 46 * s + j - 7 from by omega]; exact pk_sub (b := 7) (by omega)) (by omega) (by omega), h2 (j - 30) (by omega)]
          exact ⟨_, rfl, rfl⟩
    · rw [br_f1 (fun q => c30 (l30.mp q))]
      by_cases c23 : 23 ≤ j
      · rw [num1_no lo (Or.inr (nI_le c23 (by omega))), cl_eq, br_t1 (l23.mpr c23), no30 (Int32.not_le.mp (fun q => c30 (l30.mp q)))]
        exact ⟨_, rfl, rfl⟩
      · rw [num1_in (by omega), cl_eq, br_f1 (fun q => c23 (l23.mp q)), (sd_24 s hs).2, rd_in (j := 46 * s + j) (nI_add _ _) (by omega) (by omega), h1 j (by omega)]
        exact ⟨_, rfl, rfl⟩
/-- one side's number, at s -/
theorem num_s {s q : Nat} (hs : s < 8) (hq : q < 9) {k : Nat} (hk : k < 4) {fk : Nat → Int32} (hfk : fk k = nI q) {bits : Int32} {n lo hi x g b v : Nat → Int32} (hR : vR s q bits n lo hi x g b v) (a : Int32) : ∃ r, pq_cl (fX4_isWide (nI q)) (fun (r1 : Int32) => pq_br (r1 = (0 : Int32)) (pq_cl (fX4_isAdpcm (nI q)) fun (r4 : Int32) => pq_br (r4 = (0 : Int32)) (some ((-100000 : Int32))) (fX0_number a n)) (fX5_number a lo hi x)) = some r ∧ pq_br ((2 : Int32) ≤ nI q) (pq_cl (fX7_isPaired (nI k) fk) fun (r12 : Int32) => pq_br (r12 = (0 : Int32)) (pq_br (a < (0 : Int32)) (some ((-100000 : Int32), (0 : Int32))) (pq_br ((24 : Int32) ≤ a) (some ((-100000 : Int32), (0 : Int32))) (pq_rd 192 g (((24 : Int32) * nI s) + a) fun (v23 : Int32) => some (v23, (0 : Int32))))) (pq_br (a < (0 : Int32)) (fX7_inner_b101 fk g b v a (nI s) (0 : Int32)) (pq_br ((23 : Int32) ≤ a) (fX7_inner_b101 fk g b v a (nI s) (0 : Int32)) (pq_rd 368 b (((46 : Int32) * nI s) + a) fun (v18 : Int32) => some (v18, (0 : Int32)))))) (some ((-100000 : Int32), (0 : Int32))) = some (r, 0) := by
  rw [kd_W q hq, cl_eq, kd_A q hq, cl_eq, rk_pair hk hq hfk, cl_eq]
  have l2 : (2 : Int32) ≤ nI q ↔ 2 ≤ q := (lit_lt q 2 (by omega) (by omega)).2
  by_cases h6 : q < 6
  · rw [if_pos h6, br_t1 rfl, br_t1 rfl]
    by_cases h2 : 2 ≤ q
    · rw [if_pos ⟨h2, by omega⟩, br_f1 one, br_t1 (l2.mpr h2)]
      exact numA hs (hR.1 h2 (by omega)).2.1 a
    · rw [if_neg (by omega), br_t1 rfl, br_f1 (fun z => h2 (l2.mp z))]
      exact ⟨_, rfl, rfl⟩
  · obtain ⟨e1, e2, e3⟩ := hR.2 (by omega)
    rw [if_neg h6, br_f1 one, br_f1 one, br_t1 (l2.mpr (by omega))]
    exact numW hs e1 e2 e3 fk g a
theorem cl_id {α : Type} (o : Option α) : pq_cl o (fun r => some r) = o := by cases o <;> rfl
theorem inner_L {k : Nat} (hk : k < 4) {L : lnT} {fk fse g b v : Nat → Int32} (hL : LR k L fk fse g b v) (a2 a3 to : Int32) : ∃ r, fX6_inner_i (nI k) a2 a3 (L.1 0) (L.2 0) (L.2 1) (L.2 2) (L.2 3) (L.2 4) (L.2 5) (L.2 6) (L.2 7) = some r ∧ fX7_inner (nI k) a2 a3 fk g b v to = some (r, 0) := by
  obtain ⟨e0, c | ⟨q, hq, e, hS, hH, hs⟩⟩ := hL
  · rw [fX6_inner_i, ol_i hk, if_pos c, cl_eq, br_t1 rfl, fX7_inner, rk_open hk, e0, if_pos c, cl_eq, br_t1 rfl]
    exact ⟨_, rfl, rfl⟩
  · have hfk : fk k = nI q := e0.trans e
    rw [fX6_inner_i, e, ol_i hk, if_neg (ne_NONE q hq), cl_eq, br_f1 one, fX7_inner, rk_open hk, hfk, if_neg (ne_NONE q hq), cl_eq, br_f1 one]
    rcases pk_ix a2 (n := 2) (by omega) with g0 | g0 | ⟨j, hj, rfl⟩
    · have n0' : ¬ a2 = (0 : Int32) := fun z => by rw [z] at g0; exact absurd g0 (by decide)
      have n1' : ¬ a2 = (1 : Int32) := fun z => by rw [z] at g0; exact absurd g0 (by decide)
      rw [br_f1 n0', br_f1 n1', br_t1 g0]; exact ⟨_, rfl, rfl⟩
    · have n0' : ¬ a2 = (0 : Int32) := fun z => by rw [z] at g0; exact absurd g0 (by decide)
      have n1' : ¬ a2 = (1 : Int32) := fun z => by rw [z] at g0; exact absurd g0 (by decide)
      have g00 : ¬ a2 < (0 : Int32) := Int32.not_lt.mpr (Int32.le_trans (by decide) g0)
      have g01 : (1 : Int32) < a2 := Int32.lt_of_lt_of_le (by decide) g0
      rw [br_f1 n0', br_f1 n1', br_f1 g00, br_t1 g01]; exact ⟨_, rfl, rfl⟩
    · rcases (show j = 0 ∨ j = 1 by omega) with rfl | rfl
      · obtain ⟨r, k1, k2⟩ := num_s (s := 2 * k) (by omega) hq hk hfk hS a3
        refine ⟨r, ?_, ?_⟩
        · rw [br_t1 z_0, fX6_inner_i_b24, br_t1 z_0, fX6_inner_i_b35, cl_id, fX4_number, br_f1 one, br_f1 one, cl_id, cl_id]
          exact k1
        · rw [br_f1 (by decide), br_f1 (by decide), rd_in (j := k) rfl hk (by omega), hfk, ml_2, nI_add, nm_eq]
          exact k2
      · obtain ⟨r, k1, k2⟩ := num_s (s := 2 * k + 1) (by omega) hq hk hfk hH a3
        refine ⟨r, ?_, ?_⟩
        · rw [br_f1 (by decide), br_t1 z_1, fX6_inner_i_b24, br_f1 (by decide), fX6_inner_i_b35, cl_id, fX4_number, br_t1 rfl, br_t1 rfl, cl_id, cl_id]
          exact k1
        · rw [br_f1 (by decide), br_f1 (by decide), rd_in (j := k) rfl hk (by omega), hfk, ml_2, nI_add, nm_eq]
          exact k2
section LL
variable {b2 b3 b4 b5 t2 t3 t4 t5 w2 w3 w4 w5 p2 p3 p4 p5 fc fs fr fu fh fl fw f56 f64 : Nat → Int32}
theorem say_L (hB : mt4 b2 b3 b4 b5 lB2 lB3 lB4 lB5) (hT : mt4 t2 t3 t4 t5 lT2 lT3 lT4 lT5) (hW : mt4 w2 w3 w4 w5 lW2 lW3 lW4 lW5) (hP : mt4 p2 p3 p4 p5 lP2 lP3 lP4 lP5) {k : Nat} (hk : k < 4) {L : lnT} {fk fse g b v : Nat → Int32} (hL : LR k L fk fse g b v) (a2 to z e y : Int32) : ∃ (r se1 sz1 st1 z1 e1 y1 : Int32) (n1 lo1 hi1 x1 g1 : Nat → Int32), fX6_say_i (nI k) a2 (L.1 0) (L.1 1) (L.1 2) (L.1 3) (L.1 4) (L.2 0) (L.2 2) (L.2 3) (L.2 4) = some (r, se1, sz1, st1, n1, lo1, hi1, x1) ∧ fX7_say (nI k) a2 fk b2 b3 b4 b5 t2 t3 t4 t5 w2 w3 w4 w5 p2 p3 p4 p5 to z e y g = some (r, 0, z1, e1, y1, g1) ∧ frm (2 * k) g b v g1 b v ∧ LR k (va_up (va_up (va_up L.1 2 se1) 3 sz1) 4 st1, va_up (va_up (va_up (va_up L.2 0 n1) 2 lo1) 3 hi1) 4 x1) fk fse g1 b v := by
  obtain ⟨e0, c | ⟨q, hq, eq, hS, hH, hs⟩⟩ := hL
  · rw [fX6_say_i, ol_i hk, if_pos c, cl_eq, br_t1 rfl, fX7_say, rk_open hk, e0, if_pos c, cl_eq, br_t1 rfl]
    exact ⟨_, _, _, _, z, e, y, _, _, _, _, g, rfl, rfl, frm.rf _ _ _ _, e0, Or.inl c⟩
  · have hfk : fk k = nI q := e0.trans eq
    rw [fX6_say_i, eq, ol_i hk, if_neg (ne_NONE q hq), cl_eq, br_f1 one, kd_W q hq, cl_eq, fX7_say, rk_open hk, hfk, if_neg (ne_NONE q hq), cl_eq, br_f1 one, rk_pair hk hq hfk, cl_eq]
    by_cases h6 : q < 6
    · rw [if_pos h6, br_t1 rfl, br_t1 rfl]
      rcases is_sam a2 with ⟨s1, s2⟩ | ⟨s1, s2, s3⟩
      · rw [s1, cl_eq, br_t1 rfl, s2, cl_eq, br_t1 rfl]
        exact ⟨_, _, _, _, z, e, y, _, _, _, _, g, rfl, rfl, frm.rf _ _ _ _, e0, Or.inr ⟨q, hq, eq, hS, hH, hs⟩⟩
      · obtain ⟨c, se1, sz1, st1, z1, e1, y1, n1, g1, m1, m2, m3, m4, m5⟩ := enc_n hB hT hW hP hk h6 hfk a2 0 s3 hS (L.1 2) (L.1 3) (L.1 4) z e y
        rw [s1, cl_eq, br_f1 one, m2, cl_eq, nm_eq, nm_eq, nm_eq, nm_eq, nm_eq, nm_eq, nm_eq, nm_eq, s2, cl_eq, br_f1 one, m3, cl_eq, nm_eq, nm_eq, nm_eq, nm_eq, nm_eq]
        exact ⟨nI c, se1, sz1, st1, z1, e1, y1, n1, _, _, _, g1, rfl, rfl, m5, e0, Or.inr ⟨q, hq, eq, m4, hH.other (by omega) m5, hs⟩⟩
    · rw [if_neg h6, br_f1 one, br_f1 one]
      exact ⟨_, _, _, _, z, e, y, _, _, _, _, g, rfl, rfl, frm.rf _ _ _ _, e0, Or.inr ⟨q, hq, eq, hS, hH, hs⟩⟩
theorem pair_L (hfc : mt fc lCo) (hfs : mt fs lSt) (hfr : mt fr lRoots) (hfu : mt fu lUps) (hfh : mt fh lHig) (hfl : mt fl lLw) (hfw : mt fw lHw) {k : Nat} (hk : k < 4) {L : lnT} {fk fse g b v : Nat → Int32} (hL : LR k L fk fse g b v) (a2 a3 to od ev : Int32) : ∃ (r se1 sz1 st1 od1 ev1 : Int32) (n1 lo1 hi1 x1 b1 v1 : Nat → Int32), fX6_pair_i (nI k) a2 a3 (L.1 0) (L.1 1) (L.1 2) (L.1 3) (L.1 4) (L.2 0) (L.2 2) (L.2 3) (L.2 4) = some (r, se1, sz1, st1, n1, lo1, hi1, x1) ∧ fX7_pair (nI k) a2 a3 fk fc fs fr fu fh fl fw to od ev b v = some (r, 0, od1, ev1, b1, v1) ∧ frm (2 * k) g b v g b1 v1 ∧ LR k (va_up (va_up (va_up L.1 2 se1) 3 sz1) 4 st1, va_up (va_up (va_up (va_up L.2 0 n1) 2 lo1) 3 hi1) 4 x1) fk fse g b1 v1 := by
  obtain ⟨e0, c | ⟨q, hq, eq, hS, hH, hs⟩⟩ := hL
  · rw [fX6_pair_i, ol_i hk, if_pos c, cl_eq, br_t1 rfl, fX7_pair, rk_open hk, e0, if_pos c, cl_eq, br_t1 rfl]
    exact ⟨_, _, _, _, od, ev, _, _, _, _, b, v, rfl, rfl, frm.rf _ _ _ _, e0, Or.inl c⟩
  · have hfk : fk k = nI q := e0.trans eq
    rw [fX6_pair_i, eq, ol_i hk, if_neg (ne_NONE q hq), cl_eq, br_f1 one, kd_W q hq, cl_eq, fX7_pair, rk_open hk, hfk, if_neg (ne_NONE q hq), cl_eq, br_f1 one, rk_pair hk hq hfk, cl_eq]
    by_cases h6 : q < 6
    · rw [if_pos h6, br_t1 rfl, br_t1 rfl]
      exact ⟨_, _, _, _, od, ev, _, _, _, _, b, v, rfl, rfl, frm.rf _ _ _ _, e0, Or.inr ⟨q, hq, eq, hS, hH, hs⟩⟩
    · rw [if_neg h6, br_f1 one, br_f1 one]
      rcases is_sam a2 with ⟨s1, s2⟩ | ⟨s1, s2, s3⟩
      · rw [s1, cl_eq, br_t1 rfl, s2, cl_eq, br_t1 rfl]
        exact ⟨_, _, _, _, od, ev, _, _, _, _, b, v, rfl, rfl, frm.rf _ _ _ _, e0, Or.inr ⟨q, hq, eq, hS, hH, hs⟩⟩
      · rw [s1, cl_eq, br_f1 one, s2, cl_eq, br_f1 one]
        rcases is_sam a3 with ⟨p1, p2⟩ | ⟨p1, p2, p3⟩
        · rw [p1, cl_eq, br_t1 rfl, p2, cl_eq, br_t1 rfl]
          exact ⟨_, _, _, _, od, ev, _, _, _, _, b, v, rfl, rfl, frm.rf _ _ _ _, e0, Or.inr ⟨q, hq, eq, hS, hH, hs⟩⟩
        · obtain ⟨c, o1, ev1, lo1, hi1, x1, b1, v1, m1, m2, m3, m4, m5⟩ := enc_w hfc hfs hfr hfu hfh hfl hfw hk hq (by omega) a2 a3 hS (L.1 2) (L.1 3) (L.1 4) od ev
          rw [p1, cl_eq, br_f1 one, m2, cl_eq, nm_eq, nm_eq, nm_eq, nm_eq, nm_eq, nm_eq, nm_eq, nm_eq, p2, cl_eq, br_f1 one, m3, cl_eq, nm_eq, nm_eq, nm_eq, nm_eq, nm_eq]
          exact ⟨nI c, _, _, _, o1, ev1, _, lo1, hi1, x1, b1, v1, rfl, rfl, m5, e0, Or.inr ⟨q, hq, eq, m4, hH.other (by omega) m5, hs⟩⟩
theorem hear_L (hT : mt4 t2 t3 t4 t5 lT2 lT3 lT4 lT5) (hW : mt4 w2 w3 w4 w5 lW2 lW3 lW4 lW5) (hP : mt4 p2 p3 p4 p5 lP2 lP3 lP4 lP5) (hfc : mt fc lCo) (hfr : mt fr lRoots) (hfu : mt fu lUps) (hfh : mt fh lHig) (hfl : mt fl lLw) (hfw : mt fw lHw) (h56 : mt f56 lH56) (h64 : mt f64 lH64) {k : Nat} (hk : k < 4) {L : lnT} {fk fse g b v : Nat → Int32} (hL : LR k L fk fse g b v) (a2 to z e y od ev : Int32) : ∃ (r se1 sz1 st1 sec1 z1 e1 y1 od1 ev1 : Int32) (n1 lo1 hi1 x1 fse1 g1 b1 v1 : Nat → Int32), fX6_hear_i (nI k) a2 (L.1 0) (L.1 5) (L.1 6) (L.1 7) (L.1 8) (L.2 1) (L.1 10) (L.2 5) (L.2 6) (L.2 7) = some (r, se1, sz1, st1, n1, sec1, lo1, hi1, x1) ∧ fX7_hear (nI k) a2 fk t2 t3 t4 t5 w2 w3 w4 w5 p2 p3 p4 p5 fc fr fu fh fl fw f56 f64 to z e y od ev fse g b v = some (r, 0, z1, e1, y1, od1, ev1, fse1, g1, b1, v1) ∧ frm (2 * k + 1) g b v g1 b1 v1 ∧ (∀ p, p ≠ k → fse1 p = fse p) ∧ LR k (va_up (va_up (va_up (va_up L.1 6 se1) 7 sz1) 8 st1) 10 sec1, va_up (va_up (va_up (va_up L.2 1 n1) 5 lo1) 6 hi1) 7 x1) fk fse1 g1 b1 v1 := by
  obtain ⟨e0, c | ⟨q, hq, eq, hS, hH, hs⟩⟩ := hL
  · rw [fX6_hear_i, ol_i hk, if_pos c, cl_eq, br_t1 rfl, fX7_hear, rk_open hk, e0, if_pos c, cl_eq, br_t1 rfl]
    exact ⟨_, _, _, _, _, z, e, y, od, ev, _, _, _, _, fse, g, b, v, rfl, rfl, frm.rf _ _ _ _, fun _ _ => rfl, e0, Or.inl c⟩
  · have hfk : fk k = nI q := e0.trans eq
    rw [fX6_hear_i, eq, ol_i hk, if_neg (ne_NONE q hq), cl_eq, br_f1 one, fX7_hear, rk_open hk, hfk, if_neg (ne_NONE q hq), cl_eq, br_f1 one]
    rcases has_both hk hq hfk a2 with ⟨s1, s2⟩ | ⟨c, hc, rfl, s1, s2⟩
    · rw [s1, cl_eq, br_t1 rfl, s2, cl_eq, br_t1 rfl]
      exact ⟨_, _, _, _, _, z, e, y, od, ev, _, _, _, _, fse, g, b, v, rfl, rfl, frm.rf _ _ _ _, fun _ _ => rfl, e0, Or.inr ⟨q, hq, eq, hS, hH, hs⟩⟩
    · obtain ⟨r, se1, sz1, st1, sec1, z1, e1, y1, od1, ev1, n1, lo1, hi1, x1, fse1, g1, b1, v1, m1, m2, m3, m4, m5, m6, m7⟩ := dec_b hT hW hP hfc hfr hfu hfh hfl hfw h56 h64 hk hq hfk hc hH (L.1 6) (L.1 7) (L.1 8) (L.1 10) z e y od ev fse
      rw [s1, cl_eq, br_f1 one, m1, cl_eq, nm_eq, nm_eq, nm_eq, nm_eq, nm_eq, nm_eq, nm_eq, nm_eq, nm_eq, s2, cl_eq, br_f1 one, m2, cl_eq, nm_eq, nm_eq, nm_eq, nm_eq, nm_eq, nm_eq, nm_eq, nm_eq, nm_eq, nm_eq]
      exact ⟨r, se1, sz1, st1, sec1, z1, e1, y1, od1, ev1, n1, lo1, hi1, x1, fse1, g1, b1, v1, rfl, rfl, m4, m6, e0, Or.inr ⟨q, hq, eq, hS.other (by omega) m4, m3, fun h6 => (m7 h6).1⟩⟩
theorem pack_L (hB : mt4 b2 b3 b4 b5 lB2 lB3 lB4 lB5) (hT : mt4 t2 t3 t4 t5 lT2 lT3 lT4 lT5) (hW : mt4 w2 w3 w4 w5 lW2 lW3 lW4 lW5) (hP : mt4 p2 p3 p4 p5 lP2 lP3 lP4 lP5) (hfc : mt fc lCo) (hfs : mt fs lSt) (hfr : mt fr lRoots) (hfu : mt fu lUps) (hfh : mt fh lHig) (hfl : mt fl lLw) (hfw : mt fw lHw) {k t o : Nat} (hk : k < 4) (ht : t ≤ 1000) (ho : o ≤ 1000) {L : lnT} {fk fse g b v tr tf r f : Nat → Int32} (hT0 : ag t tr tf) (hO : ag o r f) (hL : LR k L fk fse g b v) (first to z e y od ev : Int32) : ∃ (w : Int32) (t1 o1 : Nat) (se1 sz1 st1 z1 e1 y1 od1 ev1 : Int32) (n1 lo1 hi1 x1 g1 b1 v1 r1 f1 : Nat → Int32), t1 ≤ t ∧ o1 ≤ 1000 ∧ fX6_pack_i (nI k) first tr (L.1 0) (L.1 1) (nI t) (nI o) r (L.1 2) (L.1 3) (L.1 4) (L.2 0) (L.2 2) (L.2 3) (L.2 4) = some (w, nI t1, nI o1, r1, se1, sz1, st1, n1, lo1, hi1, x1) ∧ fX7_pack (nI k) first fk b2 b3 b4 b5 t2 t3 t4 t5 w2 w3 w4 w5 p2 p3 p4 p5 fc fs fr fu fh fl fw tf to z e y od ev (nI t) (nI o) g b v f = some (w, 0, z1, e1, y1, od1, ev1, nI t1, nI o1, g1, b1, v1, f1) ∧ frm (2 * k) g b v g1 b1 v1 ∧ ag o1 r1 f1 ∧ LR k (va_up (va_up (va_up L.1 2 se1) 3 sz1) 4 st1, va_up (va_up (va_up (va_up L.2 0 n1) 2 lo1) 3 hi1) 4 x1) fk fse g1 b1 v1 := by
  obtain ⟨e0, c | ⟨q, hq, eq, hS, hH, hs⟩⟩ := hL
  · rw [fX6_pack_i, ol_i hk, if_pos c, cl_eq, br_t1 rfl, fX7_pack, rk_open hk, e0, if_pos c, cl_eq, br_t1 rfl]
    exact ⟨_, t, o, _, _, _, z, e, y, od, ev, _, _, _, _, g, b, v, r, f, Nat.le_refl _, ho, rfl, rfl, frm.rf _ _ _ _, hO, e0, Or.inl c⟩
  · have hfk : fk k = nI q := e0.trans eq
    obtain ⟨w, t1, o1, se1, sz1, st1, z1, e1, y1, od1, ev1, n1, lo1, hi1, x1, g1, b1, v1, r1, f1, m1, m2, m3, m4, m5, m6, m7⟩ := pack_both hB hT hW hP hfc hfs hfr hfu hfh hfl hfw hk hq hfk ht ho hT0 hO hS first (L.1 2) (L.1 3) (L.1 4) to z e y od ev
    rw [eq]
    exact ⟨w, t1, o1, se1, sz1, st1, z1, e1, y1, od1, ev1, n1, lo1, hi1, x1, g1, b1, v1, r1, f1, m1, m2, m3, m4, m6, m7, e0, Or.inr ⟨q, hq, eq, m5, hH.other (by omega) m6, hs⟩⟩
theorem unpack_L (hT : mt4 t2 t3 t4 t5 lT2 lT3 lT4 lT5) (hW : mt4 w2 w3 w4 w5 lW2 lW3 lW4 lW5) (hP : mt4 p2 p3 p4 p5 lP2 lP3 lP4 lP5) (hfc : mt fc lCo) (hfr : mt fr lRoots) (hfu : mt fu lUps) (hfh : mt fh lHig) (hfl : mt fl lLw) (hfw : mt fw lHw) (h56 : mt f56 lH56) (h64 : mt f64 lH64) {k t o : Nat} (hk : k < 4) (ht : t ≤ 1000) (ho : o ≤ 1000) {L : lnT} {fk fse g b v tr tf r f : Nat → Int32} (hT0 : ag t tr tf) (hO : ag o r f) (hL : LR k L fk fse g b v) (first a to z e y od ev : Int32) : ∃ (w : Int32) (t1 o1 : Nat) (se1 sz1 st1 sec1 z1 e1 y1 od1 ev1 : Int32) (n1 lo1 hi1 x1 fse1 g1 b1 v1 r1 f1 : Nat → Int32), t1 ≤ t ∧ o1 ≤ 1000 ∧ fX6_unpack_i (nI k) first a tr (L.1 0) (L.1 5) (nI t) (nI o) r (L.1 6) (L.1 7) (L.1 8) (L.2 1) (L.1 10) (L.2 5) (L.2 6) (L.2 7) = some (w, nI t1, nI o1, r1, se1, sz1, st1, n1, sec1, lo1, hi1, x1) ∧ fX7_unpack (nI k) first a fk t2 t3 t4 t5 w2 w3 w4 w5 p2 p3 p4 p5 fc fr fu fh fl fw f56 f64 tf to z e y od ev (nI t) (nI o) fse g b v f = some (w, 0, z1, e1, y1, od1, ev1, nI t1, nI o1, fse1, g1, b1, v1, f1) ∧ frm (2 * k + 1) g b v g1 b1 v1 ∧ (∀ p, p ≠ k → fse1 p = fse p) ∧ ag o1 r1 f1 ∧ LR k (va_up (va_up (va_up (va_up L.1 6 se1) 7 sz1) 8 st1) 10 sec1, va_up (va_up (va_up (va_up L.2 1 n1) 5 lo1) 6 hi1) 7 x1) fk fse1 g1 b1 v1 := by
  obtain ⟨e0, c | ⟨q, hq, eq, hS, hH, hs⟩⟩ := hL
  · rw [fX6_unpack_i, ol_i hk, if_pos c, cl_eq, br_t1 rfl, fX7_unpack, rk_open hk, e0, if_pos c, cl_eq, br_t1 rfl]
    exact ⟨_, t, o, _, _, _, _, z, e, y, od, ev, _, _, _, _, fse, g, b, v, r, f, Nat.le_refl _, ho, rfl, rfl, frm.rf _ _ _ _, fun _ _ => rfl, hO, e0, Or.inl c⟩
  · have hfk : fk k = nI q := e0.trans eq
    obtain ⟨w, t1, o1, se1, sz1, st1, sec1, z1, e1, y1, od1, ev1, n1, lo1, hi1, x1, fse1, g1, b1, v1, r1, f1, m1, m2, m3, m4, m5, m6, m7, m8, m9⟩ := unp_both hT hW hP hfc hfr hfu hfh hfl hfw h56 h64 hk hq hfk ht ho hT0 hO hH first a (L.1 6) (L.1 7) (L.1 8) (L.1 10) to z e y od ev hs
    rw [eq]
    exact ⟨w, t1, o1, se1, sz1, st1, sec1, z1, e1, y1, od1, ev1, n1, lo1, hi1, x1, fse1, g1, b1, v1, r1, f1, m1, m2, m3, m4, m6, m7, m9, e0, Or.inr ⟨q, hq, eq, hS.other (by omega) m6, m5, m8⟩⟩
end LL
end
section
/-! a line opened; a code passed from one line to another; the laws' edges -/
theorem br_s {β : Type} {c : Prop} [Decidable c] (a : Option β) : pq_br c a a = a := by unfold pq_br; split <;> rfl
theorem br_q {β : Type} {x y : Int32} (h : x = y) (a b : Option β) : pq_br (x = y) a b = a := if_pos h
set_option maxHeartbeats 1000000 in
theorem open_L {k : Nat} (hk : k < 4) {L : lnT} {fk fse g b v : Nat → Int32} (hL : LR k L fk fse g b v) (a2 to : Int32) : ∃ (r kd bS bH sS sH : Int32) (nS nH loS hiS xS loH hiH xH fk1 fse1 g1 b1 v1 g2 b2 v2 : Nat → Int32), fX6_open_i (nI k) a2 (L.1 0) (L.1 1) (L.2 0) (L.1 5) (L.2 1) (L.1 9) (L.2 2) (L.2 3) (L.2 4) (L.1 10) (L.2 5) (L.2 6) (L.2 7) = some (r, kd, bS, nS, bH, nH, sS, loS, hiS, xS, sH, loH, hiH, xH) ∧ fX7_open (nI k) a2 to fk fse g b v = some (r, 0, fk1, fse1, g2, b2, v2) ∧ (∀ p, p ≠ k → fk1 p = fk p) ∧ (∀ p, p ≠ k → fse1 p = fse p) ∧ frm (2 * k) g b v g1 b1 v1 ∧ frm (2 * k + 1) g1 b1 v1 g2 b2 v2 ∧ LR k (va_up (va_up (va_up (va_up (va_up L.1 0 kd) 1 bS) 5 bH) 9 sS) 10 sH, va_up (va_up (va_up (va_up (va_up (va_up (va_up (va_up L.2 0 nS) 1 nH) 2 loS) 3 hiS) 4 xS) 5 loH) 6 hiH) 7 xH) fk1 fse1 g2 b2 v2 := by
  rw [fX6_open_i, br_f1 (nI_pos (by omega)), br_f1 (show ¬ (4 : Int32) ≤ nI k from nI_ge (b := 4) hk (by omega)), fX7_open, rk_line hk, cl_eq, br_f1 one]
  by_cases g0 : a2 < (0 : Int32)
  · rw [br_t1 g0, br_t1 g0]
    exact ⟨_, _, _, _, _, _, _, _, _, _, _, _, _, _, fk, fse, g, b, v, g, b, v, rfl, rfl, fun _ _ => rfl, fun _ _ => rfl, frm.rf _ _ _ _, frm.rf _ _ _ _, hL.1, hL.2⟩
  · rw [br_f1 g0, br_f1 g0]
    by_cases g1 : a2 ≤ (8 : Int32)
    · obtain ⟨q, hq, rfl⟩ := nI_of2 (n := 8) rfl g0 g1
      obtain ⟨bS, bH, sS, sH, nS, nH, loS, hiS, xS, loH, hiH, xH, k1, k2, k3⟩ := begin_c (q := q) (by omega) (L.1 0) (L.1 1) (L.1 5) (L.1 9) (L.1 10) (L.2 0) (L.2 1) (L.2 2) (L.2 3) (L.2 4) (L.2 5) (L.2 6) (L.2 7)
      obtain ⟨ga, ba, va, gc, bc, vc, o1, o2, o3, o4, o5⟩ := op_43 hk 0 (upd fk k (nI q)) (upd fse k 0) g b v
      rw [br_t1 g1, br_t1 g1, ix_in hk (by omega), k1, cl_eq, nm_eq, nm_eq, nm_eq, nm_eq, nm_eq, nm_eq, nm_eq, nm_eq, nm_eq, nm_eq, nm_eq, nm_eq, nm_eq, wr_in (j := k) rfl hk (by omega), wr_in (j := k) rfl hk (by omega), ml_2, nm_eq, o1]
      exact ⟨1, nI q, bS, bH, sS, sH, nS, nH, loS, hiS, xS, loH, hiH, xH, _, _, ga, ba, va, gc, bc, vc, rfl, rfl, fun p hp => pk_un hp, fun p hp => pk_un hp, o4, o5, pk_us, Or.inr ⟨q, by omega, rfl, o2.vA (fun h2 h5 => (k2 h2 h5).1) (fun h6 => (k3 h6).1), o3.vA (fun h2 h5 => (k2 h2 h5).2) (fun h6 => (k3 h6).2.1), fun h6 => pk_us.trans (k3 h6).2.2.symm⟩⟩
    · rw [br_f1 g1, br_f1 g1]
      exact ⟨_, _, _, _, _, _, _, _, _, _, _, _, _, _, fk, fse, g, b, v, g, b, v, rfl, rfl, fun _ _ => rfl, fun _ _ => rfl, frm.rf _ _ _ _, frm.rf _ _ _ _, hL.1, hL.2⟩
section PS
variable {b2 b3 b4 b5 t2 t3 t4 t5 w2 w3 w4 w5 p2 p3 p4 p5 fc fs fr fu fh fl fw f56 f64 : Nat → Int32}
set_option maxHeartbeats 2000000 in
theorem pass_core (hB : mt4 b2 b3 b4 b5 lB2 lB3 lB4 lB5) (hT : mt4 t2 t3 t4 t5 lT2 lT3 lT4 lT5) (hW : mt4 w2 w3 w4 w5 lW2 lW3 lW4 lW5) (hP : mt4 p2 p3 p4 p5 lP2 lP3 lP4 lP5) (hfc : mt fc lCo) (hfs : mt fs lSt) (hfr : mt fr lRoots) (hfu : mt fu lUps) (hfh : mt fh lHig) (hfl : mt fl lLw) (hfw : mt fw lHw) (h56 : mt f56 lH56) (h64 : mt f64 lH64) {k1 k2 q1 q2 c : Nat} (hk1 : k1 < 4) (hk2 : k2 < 4) (hq1 : q1 < 9) (hq2 : q2 < 9) {fk fse : Nat → Int32} (hf1 : fk k1 = nI q1) (hf2 : fk k2 = nI q2) (hc : c < 2 ^ bt q1) (hcd : fX7_isCode (nI k1) (nI c) fk = some 1) (hw : q1 < 6 ↔ q2 < 6) {bH bS : Int32} {nH loH hiH xH nS loS hiS xS g b v : Nat → Int32} (hH : vR (2 * k1 + 1) q1 bH nH loH hiH xH g b v) (hS : vR (2 * k2) q2 bS nS loS hiS xS g b v) (seH szH stH sec seS szS stS to z e y od ev : Int32) : ∃ (rr r se1 sz1 st1 sec1 se2 sz2 st2 z1 e1 y1 od1 ev1 : Int32) (n1 lo1 hi1 x1 n2 lo2 hi2 x2 fse1 g1 bb1 v1 g2 bb2 v2 : Nat → Int32), fX4_decode (nI c) (nI q1) bH seH szH stH nH sec loH hiH xH = some (rr, se1, sz1, st1, n1, sec1, lo1, hi1, x1) ∧ fX4_encode rr sec1 (nI q2) bS seS szS stS nS loS hiS xS = some (r, se2, sz2, st2, n2, lo2, hi2, x2) ∧ fX7_pass (nI k1) (nI k2) (nI c) fk b2 b3 b4 b5 t2 t3 t4 t5 w2 w3 w4 w5 p2 p3 p4 p5 fc fs fr fu fh fl fw f56 f64 to z e y od ev fse g b v = some (r, 0, z1, e1, y1, od1, ev1, fse1, g2, bb2, v2) ∧ vR (2 * k1 + 1) q1 bH n1 lo1 hi1 x1 g2 bb2 v2 ∧ vR (2 * k2) q2 bS n2 lo2 hi2 x2 g2 bb2 v2 ∧ frm (2 * k1 + 1) g b v g1 bb1 v1 ∧ frm (2 * k2) g1 bb1 v1 g2 bb2 v2 ∧ (∀ p, p ≠ k1 → fse1 p = fse p) ∧  (6 ≤ q1 → fse1 k1 = sec1) := by
  obtain ⟨rr, se1, sz1, st1, sec1, z1, e1, y1, od1, ev1, n1, lo1, hi1, x1, fse1, g1, bb1, v1, m1, m2, m3, m4, m5, m6, m7⟩ := dec_b hT hW hP hfc hfr hfu hfh hfl hfw h56 h64 hk1 hq1 hf1 hc hH seH szH stH sec z e y od ev fse
  have hS' := hS.other (s' := 2 * k1 + 1) (by omega) m4
  have ew : (if q1 < 6 then (0 : Int32) else 1) = (if q2 < 6 then (0 : Int32) else 1) := by
    by_cases h6 : q1 < 6
    · rw [if_pos h6, if_pos (hw.mp h6)]
    · rw [if_neg h6, if_neg (fun q => h6 (hw.mpr q))]
  rw [fX7_pass, rk_open hk1, hf1, if_neg (ne_NONE q1 hq1), cl_eq, br_f1 one, hcd, cl_eq, br_f1 one, rk_open hk2, hf2, if_neg (ne_NONE q2 hq2), cl_eq, br_f1 one, rk_pair hk1 hq1 hf1, cl_eq, rk_pair hk2 hq2 hf2, cl_eq, br_q ew, m2, cl_eq, nm_eq, nm_eq, nm_eq, nm_eq, nm_eq, nm_eq, nm_eq, nm_eq, nm_eq, nm_eq, cl_eq]
  by_cases h6 : q1 < 6
  · obtain ⟨c1, se2, sz2, st2, z2, e2, y2, n2, g2, p1, p2, p3, p4, p5⟩ := enc_n hB hT hW hP hk2 (hw.mp h6) hf2 rr sec1 m5 hS' seS szS stS z1 e1 y1
    rw [if_pos h6, br_t1 rfl]
    dsimp only
    rw [p3, cl_eq, nm_eq, nm_eq, nm_eq, nm_eq, nm_eq]
    exact ⟨rr, nI c1, se1, sz1, st1, sec1, se2, sz2, st2, z2, e2, y2, od1, ev1, n1, lo1, hi1, x1, n2, _, _, _, fse1, g1, bb1, v1, g2, bb1, v1, m1, p2, rfl, m3.other (by omega) p5, p4, m4, p5, m6, fun h => (m7 h).1⟩
  · have h6' : 6 ≤ q2 := by
      rcases Nat.lt_or_ge q2 6 with h | h
      · exact absurd (hw.mpr h) h6
      · exact h
    obtain ⟨c1, o2, ev2, lo2, hi2, x2, bb2, v2, p1, p2, p3, p4, p5⟩ := enc_w hfc hfs hfr hfu hfh hfl hfw hk2 hq2 h6' rr sec1 hS' seS szS stS od1 ev1
    rw [if_neg h6, br_f1 one]
    dsimp only
    rw [rd_in (j := k1) rfl hk1 (by omega), (m7 (by omega)).1, p3, cl_eq, nm_eq, nm_eq, nm_eq, nm_eq, nm_eq]
    exact ⟨rr, nI c1, se1, sz1, st1, sec1, seS, szS, stS, z1, e1, y1, o2, ev2, n1, lo1, hi1, x1, nS, lo2, hi2, x2, fse1, g1, bb1, v1, g1, bb2, v2, m1, p2, rfl, m3.other (by omega) p5, p4, m4, p5, m6, fun h => (m7 h).1⟩
theorem pass_nr {k1 k2 : Nat} (hk1 : k1 < 4) (hk2 : k2 < 4) {fk fse g b v : Nat → Int32} (a3 to z e y od ev : Int32) (h : fk k1 = -100000 ∨ (∃ q, q < 9 ∧ fk k1 = nI q ∧ (fX7_isCode (nI k1) a3 fk = some 0 ∨ fX7_isCode (nI k1) a3 fk = some 1 ∧ (fk k2 = -100000 ∨ ∃ q2, q2 < 9 ∧ fk k2 = nI q2 ∧ ¬ (q < 6 ↔ q2 < 6))))) : fX7_pass (nI k1) (nI k2) a3 fk b2 b3 b4 b5 t2 t3 t4 t5 w2 w3 w4 w5 p2 p3 p4 p5 fc fs fr fu fh fl fw f56 f64 to z e y od ev fse g b v = some ((-100000 : Int32), (0 : Int32), z, e, y, od, ev, fse, g, b, v) := by
  rw [fX7_pass, rk_open hk1]
  rcases h with h | ⟨q, hq, hf, h | ⟨h, h2⟩⟩
  · rw [if_pos h, cl_eq, br_t1 rfl]
  · rw [if_neg (by rw [hf]; exact ne_NONE q hq), cl_eq, br_f1 one, h, cl_eq, br_t1 rfl]
  · rw [if_neg (by rw [hf]; exact ne_NONE q hq), cl_eq, br_f1 one, h, cl_eq, br_f1 one, rk_open hk2]
    rcases h2 with h2 | ⟨q2, hq2, hf2, hw⟩
    · rw [if_pos h2, cl_eq, br_t1 rfl]
    · rw [if_neg (by rw [hf2]; exact ne_NONE q2 hq2), cl_eq, br_f1 one, rk_pair hk1 hq hf, cl_eq, rk_pair hk2 hq2 hf2, cl_eq, br_f1]
      intro ew
      apply hw
      constructor
      · intro h6
        rw [if_pos h6] at ew
        rcases Nat.lt_or_ge q2 6 with h | h
        · exact h
        · rw [if_neg (by omega)] at ew; exact absurd ew (by decide)
      · intro h6
        rw [if_pos h6] at ew
        rcases Nat.lt_or_ge q 6 with h | h
        · exact h
        · rw [if_neg (by omega)] at ew; exact absurd ew (by decide)
set_option maxHeartbeats 2000000 in
theorem pass_ii_L (hB : mt4 b2 b3 b4 b5 lB2 lB3 lB4 lB5) (hT : mt4 t2 t3 t4 t5 lT2 lT3 lT4 lT5) (hW : mt4 w2 w3 w4 w5 lW2 lW3 lW4 lW5) (hP : mt4 p2 p3 p4 p5 lP2 lP3 lP4 lP5) (hfc : mt fc lCo) (hfs : mt fs lSt) (hfr : mt fr lRoots) (hfu : mt fu lUps) (hfh : mt fh lHig) (hfl : mt fl lLw) (hfw : mt fw lHw) (h56 : mt f56 lH56) (h64 : mt f64 lH64) {k1 k2 : Nat} (hk1 : k1 < 4) (hk2 : k2 < 4) (hne : k1 ≠ k2) {L L2 : lnT} {fk fse g b v : Nat → Int32} (hL : LR k1 L fk fse g b v) (hL2 : LR k2 L2 fk fse g b v) (a3 to z e y od ev : Int32) : ∃ (r se1 sz1 st1 sec1 se2 sz2 st2 z1 e1 y1 od1 ev1 : Int32) (n1 lo1 hi1 x1 n2 lo2 hi2 x2 fse1 g1 bb1 v1 g2 bb2 v2 : Nat → Int32), fX6_pass_ii (nI k1) (nI k2) a3 (L.1 0) (L.1 5) (L2.1 0) (L2.1 1) (L.1 6) (L.1 7) (L.1 8) (L.2 1) (L.1 10) (L.2 5) (L.2 6) (L.2 7) (L2.1 2) (L2.1 3) (L2.1 4) (L2.2 0) (L2.2 2) (L2.2 3) (L2.2 4) = some (r, se1, sz1, st1, n1, sec1, lo1, hi1, x1, se2, sz2, st2, n2, lo2, hi2, x2) ∧ fX7_pass (nI k1) (nI k2) a3 fk b2 b3 b4 b5 t2 t3 t4 t5 w2 w3 w4 w5 p2 p3 p4 p5 fc fs fr fu fh fl fw f56 f64 to z e y od ev fse g b v = some (r, 0, z1, e1, y1, od1, ev1, fse1, g2, bb2, v2) ∧ frm (2 * k1 + 1) g b v g1 bb1 v1 ∧ frm (2 * k2) g1 bb1 v1 g2 bb2 v2 ∧ (∀ p, p ≠ k1 → fse1 p = fse p) ∧ LR k1 (va_up (va_up (va_up (va_up L.1 6 se1) 7 sz1) 8 st1) 10 sec1, va_up (va_up (va_up (va_up L.2 1 n1) 5 lo1) 6 hi1) 7 x1) fk fse1 g2 bb2 v2 ∧ LR k2 (va_up (va_up (va_up L2.1 2 se2) 3 sz2) 4 st2, va_up (va_up (va_up (va_up L2.2 0 n2) 2 lo2) 3 hi2) 4 x2) fk fse1 g2 bb2 v2 := by
  have no : some ((-100000 : Int32), L.1 6, L.1 7, L.1 8, L.2 1, L.1 10, L.2 5, L.2 6, L.2 7, L2.1 2, L2.1 3, L2.1 4, L2.2 0, L2.2 2, L2.2 3, L2.2 4) = some ((-100000 : Int32), L.1 6, L.1 7, L.1 8, L.2 1, L.1 10, L.2 5, L.2 6, L.2 7, L2.1 2, L2.1 3, L2.1 4, L2.2 0, L2.2 2, L2.2 3, L2.2 4) ∧ fX7_pass (nI k1) (nI k2) a3 fk b2 b3 b4 b5 t2 t3 t4 t5 w2 w3 w4 w5 p2 p3 p4 p5 fc fs fr fu fh fl fw f56 f64 to z e y od ev fse g b v = some ((-100000 : Int32), (0 : Int32), z, e, y, od, ev, fse, g, b, v) → ∃ (r se1 sz1 st1 sec1 se2 sz2 st2 z1 e1 y1 od1 ev1 : Int32) (n1 lo1 hi1 x1 n2 lo2 hi2 x2 fse1 g1 bb1 v1 g2 bb2 v2 : Nat → Int32), some ((-100000 : Int32), L.1 6, L.1 7, L.1 8, L.2 1, L.1 10, L.2 5, L.2 6, L.2 7, L2.1 2, L2.1 3, L2.1 4, L2.2 0, L2.2 2, L2.2 3, L2.2 4) = some (r, se1, sz1, st1, n1, sec1, lo1, hi1, x1, se2, sz2, st2, n2, lo2, hi2, x2) ∧ fX7_pass (nI k1) (nI k2) a3 fk b2 b3 b4 b5 t2 t3 t4 t5 w2 w3 w4 w5 p2 p3 p4 p5 fc fs fr fu fh fl fw f56 f64 to z e y od ev fse g b v = some (r, 0, z1, e1, y1, od1, ev1, fse1, g2, bb2, v2) ∧ frm (2 * k1 + 1) g b v g1 bb1 v1 ∧ frm (2 * k2) g1 bb1 v1 g2 bb2 v2 ∧ (∀ p, p ≠ k1 → fse1 p = fse p) ∧ LR k1 (va_up (va_up (va_up (va_up L.1 6 se1) 7 sz1) 8 st1) 10 sec1, va_up (va_up (va_up (va_up L.2 1 n1) 5 lo1) 6 hi1) 7 x1) fk fse1 g2 bb2 v2 ∧ LR k2 (va_up (va_up (va_up L2.1 2 se2) 3 sz2) 4 st2, va_up (va_up (va_up (va_up L2.2 0 n2) 2 lo2) 3 hi2) 4 x2) fk fse1 g2 bb2 v2 := fun h => ⟨_, _, _, _, _, _, _, _, z, e, y, od, ev, _, _, _, _, _, _, _, _, fse, g, b, v, g, b, v, rfl, h.2, frm.rf _ _ _ _, frm.rf _ _ _ _, fun _ _ => rfl, ⟨hL.1, hL.2⟩, hL2.1, hL2.2⟩
  obtain ⟨e0, c | ⟨q, hq, eq, hS, hH, hs⟩⟩ := id hL
  · rw [fX6_pass_ii, ol_i hk1, if_pos c, cl_eq, br_t1 rfl, ol_i hk2, cl_eq, br_s]
    exact no ⟨rfl, pass_nr hk1 hk2 a3 to z e y od ev (Or.inl (e0.trans c))⟩
  · rw [fX6_pass_ii, eq, ol_i hk1, if_neg (ne_NONE q hq), cl_eq, br_f1 one, ol_i hk2]
    have hf1 : fk k1 = nI q := e0.trans eq
    obtain ⟨e2, c2 | ⟨q2, hq2, eq2, hS2, hH2, hs2⟩⟩ := id hL2
    · rw [if_pos c2, cl_eq, br_t1 rfl]
      refine no ⟨rfl, pass_nr hk1 hk2 a3 to z e y od ev (Or.inr ⟨q, hq, hf1, ?_⟩)⟩
      rcases has_both hk1 hq hf1 a3 with ⟨s1, s2⟩ | ⟨c, hc, -, s1, s2⟩
      · exact Or.inl s2
      · exact Or.inr ⟨s2, Or.inl (e2.trans c2)⟩
    · have hf2 : fk k2 = nI q2 := e2.trans eq2
      rw [if_neg (by rw [eq2]; exact ne_NONE q2 hq2), cl_eq, br_f1 one]
      rcases has_both hk1 hq hf1 a3 with ⟨s1, s2⟩ | ⟨c, hc, rfl, s1, s2⟩
      · rw [s1, cl_eq, br_t1 rfl]
        exact no ⟨rfl, pass_nr hk1 hk2 a3 to z e y od ev (Or.inr ⟨q, hq, hf1, Or.inl s2⟩)⟩
      · rw [s1, cl_eq, br_f1 one, kd_W q hq, cl_eq, eq2, kd_W q2 hq2, cl_eq]
        by_cases hw : (q < 6 ↔ q2 < 6)
        · obtain ⟨rr, r, se1, sz1, st1, sec1, se2, sz2, st2, z1, e1, y1, od1, ev1, n1, lo1, hi1, x1, n2, lo2, hi2, x2, fse1, g1, bb1, v1, g2, bb2, v2, m1, m2, m3, m4, m5, m6, m7, m8, m9⟩ := pass_core (fse := fse) hB hT hW hP hfc hfs hfr hfu hfh hfl hfw h56 h64 hk1 hk2 hq hq2 hf1 hf2 hc s2 hw hH hS2 (L.1 6) (L.1 7) (L.1 8) (L.1 10) (L2.1 2) (L2.1 3) (L2.1 4) to z e y od ev
          have ew : (if q < 6 then (0 : Int32) else 1) = (if q2 < 6 then (0 : Int32) else 1) := by
            by_cases h6 : q < 6
            · rw [if_pos h6, if_pos (hw.mp h6)]
            · rw [if_neg h6, if_neg (fun q => h6 (hw.mpr q))]
          rw [br_q ew, m1, cl_eq, nm_eq, nm_eq, nm_eq, nm_eq, nm_eq, nm_eq, nm_eq, nm_eq, nm_eq, fX4_secondHeard, cl_eq]
          dsimp only
          rw [m2, cl_eq, nm_eq, nm_eq, nm_eq, nm_eq, nm_eq, nm_eq, nm_eq, nm_eq]
          exact ⟨r, se1, sz1, st1, sec1, se2, sz2, st2, z1, e1, y1, od1, ev1, n1, lo1, hi1, x1, n2, lo2, hi2, x2, fse1, g1, bb1, v1, g2, bb2, v2, rfl, m3, m6, m7, m8, ⟨e0, Or.inr ⟨q, hq, eq, (hS.other (by omega) m6).other (by omega) m7, m4, m9⟩⟩, e2, Or.inr ⟨q2, hq2, eq2, m5, (hH2.other (by omega) m6).other (by omega) m7, fun h6 => (m8 k2 (Ne.symm hne)).trans (hs2 h6)⟩⟩
        · rw [br_f1 (fun ew => hw (by
            constructor
            · intro h6
              rw [if_pos h6] at ew
              rcases Nat.lt_or_ge q2 6 with h | h
              · exact h
              · rw [if_neg (by omega)] at ew; exact absurd ew (by decide)
            · intro h6
              rw [if_pos h6] at ew
              rcases Nat.lt_or_ge q 6 with h | h
              · exact h
              · rw [if_neg (by omega)] at ew; exact absurd ew (by decide)))]
          exact no ⟨rfl, pass_nr hk1 hk2 (nI c) to z e y od ev (Or.inr ⟨q, hq, hf1, Or.inr ⟨s2, Or.inr ⟨q2, hq2, hf2, hw⟩⟩⟩)⟩
set_option maxHeartbeats 2000000 in
theorem pass_is_L (hB : mt4 b2 b3 b4 b5 lB2 lB3 lB4 lB5) (hT : mt4 t2 t3 t4 t5 lT2 lT3 lT4 lT5) (hW : mt4 w2 w3 w4 w5 lW2 lW3 lW4 lW5) (hP : mt4 p2 p3 p4 p5 lP2 lP3 lP4 lP5) (hfc : mt fc lCo) (hfs : mt fs lSt) (hfr : mt fr lRoots) (hfu : mt fu lUps) (hfh : mt fh lHig) (hfl : mt fl lLw) (hfw : mt fw lHw) (h56 : mt f56 lH56) (h64 : mt f64 lH64) {k : Nat} (hk : k < 4) {L : lnT} {fk fse g b v : Nat → Int32} (hL : LR k L fk fse g b v) (a3 to z e y od ev : Int32) : ∃ (r se1 sz1 st1 sec1 se2 sz2 st2 z1 e1 y1 od1 ev1 : Int32) (n1 lo1 hi1 x1 n2 lo2 hi2 x2 fse1 g1 bb1 v1 g2 bb2 v2 : Nat → Int32), fX6_pass_is (nI k) (nI k) a3 (L.1 0) (L.1 1) (L.1 5) (L.1 2) (L.1 3) (L.1 4) (L.2 0) (L.1 6) (L.1 7) (L.1 8) (L.2 1) (L.2 2) (L.2 3) (L.2 4) (L.1 10) (L.2 5) (L.2 6) (L.2 7) = some (r, se2, sz2, st2, n2, se1, sz1, st1, n1, lo2, hi2, x2, sec1, lo1, hi1, x1) ∧ fX7_pass (nI k) (nI k) a3 fk b2 b3 b4 b5 t2 t3 t4 t5 w2 w3 w4 w5 p2 p3 p4 p5 fc fs fr fu fh fl fw f56 f64 to z e y od ev fse g b v = some (r, 0, z1, e1, y1, od1, ev1, fse1, g2, bb2, v2) ∧ frm (2 * k + 1) g b v g1 bb1 v1 ∧ frm (2 * k) g1 bb1 v1 g2 bb2 v2 ∧ (∀ p, p ≠ k → fse1 p = fse p) ∧ LR k (va_up (va_up (va_up (va_up (va_up (va_up (va_up L.1 2 se2) 3 sz2) 4 st2) 6 se1) 7 sz1) 8 st1) 10 sec1, va_up (va_up (va_up (va_up (va_up (va_up (va_up (va_up L.2 0 n2) 1 n1) 2 lo2) 3 hi2) 4 x2) 5 lo1) 6 hi1) 7 x1) fk fse1 g2 bb2 v2 := by
  have no : fX7_pass (nI k) (nI k) a3 fk b2 b3 b4 b5 t2 t3 t4 t5 w2 w3 w4 w5 p2 p3 p4 p5 fc fs fr fu fh fl fw f56 f64 to z e y od ev fse g b v = some ((-100000 : Int32), (0 : Int32), z, e, y, od, ev, fse, g, b, v) → ∃ (r se1 sz1 st1 sec1 se2 sz2 st2 z1 e1 y1 od1 ev1 : Int32) (n1 lo1 hi1 x1 n2 lo2 hi2 x2 fse1 g1 bb1 v1 g2 bb2 v2 : Nat → Int32), some ((-100000 : Int32), L.1 2, L.1 3, L.1 4, L.2 0, L.1 6, L.1 7, L.1 8, L.2 1, L.2 2, L.2 3, L.2 4, L.1 10, L.2 5, L.2 6, L.2 7) = some (r, se2, sz2, st2, n2, se1, sz1, st1, n1, lo2, hi2, x2, sec1, lo1, hi1, x1) ∧ fX7_pass (nI k) (nI k) a3 fk b2 b3 b4 b5 t2 t3 t4 t5 w2 w3 w4 w5 p2 p3 p4 p5 fc fs fr fu fh fl fw f56 f64 to z e y od ev fse g b v = some (r, 0, z1, e1, y1, od1, ev1, fse1, g2, bb2, v2) ∧ frm (2 * k + 1) g b v g1 bb1 v1 ∧ frm (2 * k) g1 bb1 v1 g2 bb2 v2 ∧ (∀ p, p ≠ k → fse1 p = fse p) ∧ LR k (va_up (va_up (va_up (va_up (va_up (va_up (va_up L.1 2 se2) 3 sz2) 4 st2) 6 se1) 7 sz1) 8 st1) 10 sec1, va_up (va_up (va_up (va_up (va_up (va_up (va_up (va_up L.2 0 n2) 1 n1) 2 lo2) 3 hi2) 4 x2) 5 lo1) 6 hi1) 7 x1) fk fse1 g2 bb2 v2 := fun h => ⟨_, _, _, _, _, _, _, _, z, e, y, od, ev, _, _, _, _, _, _, _, _, fse, g, b, v, g, b, v, rfl, h, frm.rf _ _ _ _, frm.rf _ _ _ _, fun _ _ => rfl, hL.1, hL.2⟩
  obtain ⟨e0, c | ⟨q, hq, eq, hS, hH, hs⟩⟩ := id hL
  · rw [fX6_pass_is, ol_i hk, if_pos c, cl_eq, br_t1 rfl, cl_eq, br_s]
    exact no (pass_nr hk hk a3 to z e y od ev (Or.inl (e0.trans c)))
  · rw [fX6_pass_is, eq, ol_i hk, if_neg (ne_NONE q hq), cl_eq, br_f1 one, cl_eq, br_f1 one]
    have hf1 : fk k = nI q := e0.trans eq
    rcases has_both hk hq hf1 a3 with ⟨s1, s2⟩ | ⟨c, hc, rfl, s1, s2⟩
    · rw [s1, cl_eq, br_t1 rfl]
      exact no (pass_nr hk hk a3 to z e y od ev (Or.inr ⟨q, hq, hf1, Or.inl s2⟩))
    · obtain ⟨rr, r, se1, sz1, st1, sec1, se2, sz2, st2, z1, e1, y1, od1, ev1, n1, lo1, hi1, x1, n2, lo2, hi2, x2, fse1, g1, bb1, v1, g2, bb2, v2, m1, m2, m3, m4, m5, m6, m7, m8, m9⟩ := pass_core (fse := fse) hB hT hW hP hfc hfs hfr hfu hfh hfl hfw h56 h64 hk hk hq hq hf1 hf1 hc s2 Iff.rfl hH hS (L.1 6) (L.1 7) (L.1 8) (L.1 10) (L.1 2) (L.1 3) (L.1 4) to z e y od ev
      rw [s1, cl_eq, br_f1 one, kd_W q hq, cl_eq, cl_eq, br_q rfl, m1, cl_eq, nm_eq, nm_eq, nm_eq, nm_eq, nm_eq, nm_eq, nm_eq, nm_eq, nm_eq, fX4_secondHeard, cl_eq]
      dsimp only
      rw [m2, cl_eq, nm_eq, nm_eq, nm_eq, nm_eq, nm_eq, nm_eq, nm_eq, nm_eq]
      exact ⟨r, se1, sz1, st1, sec1, se2, sz2, st2, z1, e1, y1, od1, ev1, n1, lo1, hi1, x1, n2, lo2, hi2, x2, fse1, g1, bb1, v1, g2, bb2, v2, rfl, m3, m6, m7, m8, e0, Or.inr ⟨q, hq, eq, m5, m4, m9⟩⟩
end PS
def RF (found : Int32) (l g : Nat → Int32) : Prop := found = 0 ∨ (found = 1 ∧ ivF l g)
theorem finds_any {found : Int32} {l g : Nat → Int32} (h : RF found l g) : ∃ l1 g1, fX7_finds found l g = some (1, l1, g1) ∧ ivF l1 g1 := by
  rcases h with rfl | ⟨rfl, h⟩
  · exact finds_eq l g
  · exact ⟨l, g, by rw [fX7_finds, br_f1 one], h⟩
theorem ne_lt {a c : Int32} (h : a < c) : ¬ a = c := fun z => by rw [z] at h; exact Int32.lt_irrefl h
theorem ne_gt {a c : Int32} (h : c < a) : ¬ a = c := fun z => by rw [z] at h; exact Int32.lt_irrefl h
set_option maxHeartbeats 1000000 in
theorem law_both {found : Int32} {l g : Nat → Int32} (h : RF found l g) (a1 a2 a3 to : Int32) : ∃ (r f1 : Int32) (l1 g1 : Nat → Int32), fX6_law a1 a2 a3 = some r ∧ fX7_law a1 a2 a3 to found l g = some (r, 0, f1, l1, g1) ∧ RF f1 l1 g1 := by
  rw [fX6_law, fX7_law]
  rcases pk_ix a1 (n := 2) (by omega) with g0 | g0 | ⟨j, hj, rfl⟩
  · rw [br_f1 (ne_lt g0), br_f1 (ne_lt (Int32.lt_trans g0 (by decide))), br_t1 g0]
    exact ⟨_, found, l, g, rfl, rfl, h⟩
  · have g1 : (1 : Int32) < a1 := Int32.lt_of_lt_of_le (by decide) g0
    have g2 : (0 : Int32) < a1 := Int32.lt_of_lt_of_le (by decide) g0
    rw [br_f1 (ne_gt g2), br_f1 (ne_gt g1), br_f1 (Int32.not_lt.mpr (Int32.le_of_lt g2)), br_t1 g1]
    exact ⟨_, found, l, g, rfl, rfl, h⟩
  · have ec : pq_br (nI j = (0 : Int32)) (fX6_law_b9 (nI j) a2 a3) (pq_br (nI j = (1 : Int32)) (fX6_law_b9 (nI j) a2 a3) (some ((-100000 : Int32)))) = fX6_law_b9 (nI j) a2 a3 := by
      rcases (show j = 0 ∨ j = 1 by omega) with rfl | rfl
      · rw [br_t1 z_0]
      · rw [br_f1 (by decide), br_t1 z_1]
    have ej := (by decide +kernel : ∀ j, j < 2 → ¬ nI j < (0 : Int32) ∧ ¬ (1 : Int32) < nI j) j hj
    rw [ec, br_f1 ej.1, br_f1 ej.2, fX6_law_b9]
    rcases pk_ix a2 (n := 256) (by omega) with g0 | g0 | ⟨c, hc, rfl⟩
    · rw [br_t1 g0, br_t1 g0]
      exact ⟨_, found, l, g, rfl, rfl, h⟩
    · have g1 : (255 : Int32) < a2 := Int32.lt_of_lt_of_le (by decide) g0
      have g2 : ¬ a2 < (0 : Int32) := Int32.not_lt.mpr (Int32.le_trans (by decide) g0)
      rw [br_f1 g2, br_f1 (Int32.not_le.mpr g1), br_f1 g2, br_t1 g1]
      exact ⟨_, found, l, g, rfl, rfl, h⟩
    · have c0 : ¬ nI c < (0 : Int32) := nI_pos (by omega)
      have c1 : nI c ≤ (255 : Int32) := nI_le (b := 255) (by omega) (by omega)
      rw [br_f1 c0, br_t1 c1, br_f1 c0, br_f1 (Int32.not_lt.mpr c1)]
      obtain ⟨l1, g1, f1, f2⟩ := finds_any h
      have ix : (256 : Int32) * nI j + nI c = nI (256 * j + c) := by rw [show (256 : Int32) * nI j = nI (256 * j) from pk_mul 256 j, nI_add]
      have hI := f2 j hj c hc
      rcases pk_ix a3 (n := 3) (by omega) with g0 | g0 | ⟨i, hi, rfl⟩
      · rw [br_f1 (ne_lt g0), br_f1 (ne_lt (Int32.lt_trans g0 (by decide))), br_f1 (ne_lt (Int32.lt_trans g0 (by decide))), br_t1 g0]
        exact ⟨_, found, l, g, rfl, rfl, h⟩
      · have q2 : (2 : Int32) < a3 := Int32.lt_of_lt_of_le (by decide) g0
        have q1 : (1 : Int32) < a3 := Int32.lt_of_lt_of_le (by decide) g0
        have q0 : (0 : Int32) < a3 := Int32.lt_of_lt_of_le (by decide) g0
        rw [br_f1 (ne_gt q0), br_f1 (ne_gt q1), br_f1 (ne_gt q2), br_f1 (Int32.not_lt.mpr (Int32.le_of_lt q0)), br_f1 (Int32.not_le.mpr q2)]
        exact ⟨_, found, l, g, rfl, rfl, h⟩
      · have ei := (by decide +kernel : ∀ i, i < 3 → ¬ nI i < (0 : Int32) ∧ nI i ≤ (2 : Int32)) i hi
        rw [br_f1 ei.1, br_t1 ei.2]
        rcases (show i = 0 ∨ i = 1 ∨ i = 2 by omega) with rfl | rfl | rfl
        · rw [br_t1 z_0, br_f1 (show ¬ nI 0 = (2 : Int32) from by decide), f1, cl_eq, nm_eq, nm_eq, nm_eq, br_t1 z_0, ix, rd_in (j := 256 * j + c) rfl (by omega) (by omega)]
          have es := edg_some j hj 0 (by omega) c hc
          rcases (show j = 0 ∨ j = 1 by omega) with rfl | rfl
          · rw [if_pos rfl] at es
            rw [br_t1 z_0, show (0 : Int32) = nI 0 from rfl, es, cl_eq]
            exact ⟨_, _, _, _, rfl, by rw [← hI.1], Or.inr ⟨rfl, f2⟩⟩
          · rw [if_neg (by decide)] at es
            rw [br_f1 (by decide), show (0 : Int32) = nI 0 from rfl, es, cl_eq]
            exact ⟨_, _, _, _, rfl, by rw [← hI.1], Or.inr ⟨rfl, f2⟩⟩
        · rw [br_f1 (show ¬ nI 1 = (0 : Int32) from by decide), br_t1 z_1, br_f1 (show ¬ nI 1 = (2 : Int32) from by decide), f1, cl_eq, nm_eq, nm_eq, nm_eq, br_f1 (show ¬ nI 1 = (0 : Int32) from by decide), ix, rd_in (j := 256 * j + c) rfl (by omega) (by omega)]
          have es := edg_some j hj 1 (by omega) c hc
          rcases (show j = 0 ∨ j = 1 by omega) with rfl | rfl
          · rw [if_pos rfl] at es
            rw [br_t1 z_0, show (1 : Int32) = nI 1 from rfl, es, cl_eq]
            exact ⟨_, _, _, _, rfl, by rw [← hI.2]; rfl, Or.inr ⟨rfl, f2⟩⟩
          · rw [if_neg (by decide)] at es
            rw [br_f1 (show ¬ nI 1 = (0 : Int32) from by decide), show (1 : Int32) = nI 1 from rfl, es, cl_eq]
            exact ⟨_, _, _, _, rfl, by rw [← hI.2]; rfl, Or.inr ⟨rfl, f2⟩⟩
        · rw [br_f1 (show ¬ nI 2 = (0 : Int32) from by decide), br_f1 (show ¬ nI 2 = (1 : Int32) from by decide), br_t1 (show nI 2 = (2 : Int32) from rfl), br_t1 (show nI 2 = (2 : Int32) from rfl)]
          rcases (show j = 0 ∨ j = 1 by omega) with rfl | rfl
          · obtain ⟨w, w1, w2, w3⟩ := mu_hears hc
            obtain ⟨a0, q0, r, t, -, -, -, -, -, -, u1, u2⟩ := mu_both w
            rw [br_t1 z_0, br_t1 z_0, w1, cl_eq, u1, cl_eq, w2, cl_eq, u2, cl_eq]
            exact ⟨_, found, l, g, rfl, rfl, h⟩
          · obtain ⟨w, w1, w2, w3⟩ := a_hears hc
            obtain ⟨q0, r, t, -, -, -, -, -, u1, u2⟩ := a_both w3
            rw [br_f1 (show ¬ nI 1 = (0 : Int32) from by decide), br_f1 (show ¬ nI 1 = (0 : Int32) from by decide), w1, cl_eq, u1, cl_eq, w2, cl_eq, u2, cl_eq]
            exact ⟨_, found, l, g, rfl, rfl, h⟩
end
section
def aiX7_init_6_0 : Nat → Int32 := upd (fun _ => 0) (0 : Int32).toNatClampNeg (-100000 : Int32)
def aiX7_init_6_1 : Nat → Int32 := upd aiX7_init_6_0 (1 : Int32).toNatClampNeg (-100000 : Int32)
def aiX7_init_6_2 : Nat → Int32 := upd aiX7_init_6_1 (2 : Int32).toNatClampNeg (-100000 : Int32)
def aiX7_init_6_3 : Nat → Int32 := upd aiX7_init_6_2 (3 : Int32).toNatClampNeg (-100000 : Int32)
def aiX7_init_49_0 : Nat → Int32 := upd (fun _ => 0) (0 : Int32).toNatClampNeg (261 : Int32)
def aiX7_init_62_0 : Nat → Int32 := upd (fun _ => 0) (0 : Int32).toNatClampNeg (8 : Int32)
def aiX7_init_62_1 : Nat → Int32 := upd aiX7_init_62_0 (1 : Int32).toNatClampNeg (218 : Int32)
def aiX7_init_62_2 : Nat → Int32 := upd aiX7_init_62_1 (2 : Int32).toNatClampNeg (331 : Int32)
def aiX7_init_87_0 : Nat → Int32 := upd (fun _ => 0) (0 : Int32).toNatClampNeg (-124 : Int32)
def aiX7_init_87_1 : Nat → Int32 := upd aiX7_init_87_0 (1 : Int32).toNatClampNeg (80 : Int32)
def aiX7_init_87_2 : Nat → Int32 := upd aiX7_init_87_1 (2 : Int32).toNatClampNeg (178 : Int32)
def aiX7_init_87_3 : Nat → Int32 := upd aiX7_init_87_2 (3 : Int32).toNatClampNeg (246 : Int32)
def aiX7_init_87_4 : Nat → Int32 := upd aiX7_init_87_3 (4 : Int32).toNatClampNeg (300 : Int32)
def aiX7_init_87_5 : Nat → Int32 := upd aiX7_init_87_4 (5 : Int32).toNatClampNeg (349 : Int32)
def aiX7_init_87_6 : Nat → Int32 := upd aiX7_init_87_5 (6 : Int32).toNatClampNeg (400 : Int32)
def aiX7_init_136_0 : Nat → Int32 := upd (fun _ => 0) (0 : Int32).toNatClampNeg (-122 : Int32)
def aiX7_init_136_1 : Nat → Int32 := upd aiX7_init_136_0 (1 : Int32).toNatClampNeg (-16 : Int32)
def aiX7_init_136_2 : Nat → Int32 := upd aiX7_init_136_1 (2 : Int32).toNatClampNeg (68 : Int32)
def aiX7_init_136_3 : Nat → Int32 := upd aiX7_init_136_2 (3 : Int32).toNatClampNeg (139 : Int32)
def aiX7_init_136_4 : Nat → Int32 := upd aiX7_init_136_3 (4 : Int32).toNatClampNeg (198 : Int32)
def aiX7_init_136_5 : Nat → Int32 := upd aiX7_init_136_4 (5 : Int32).toNatClampNeg (250 : Int32)
def aiX7_init_136_6 : Nat → Int32 := upd aiX7_init_136_5 (6 : Int32).toNatClampNeg (298 : Int32)
def aiX7_init_136_7 : Nat → Int32 := upd aiX7_init_136_6 (7 : Int32).toNatClampNeg (339 : Int32)
def aiX7_init_136_8 : Nat → Int32 := upd aiX7_init_136_7 (8 : Int32).toNatClampNeg (378 : Int32)
def aiX7_init_136_9 : Nat → Int32 := upd aiX7_init_136_8 (9 : Int32).toNatClampNeg (413 : Int32)
def aiX7_init_136_10 : Nat → Int32 := upd aiX7_init_136_9 (10 : Int32).toNatClampNeg (445 : Int32)
def aiX7_init_136_11 : Nat → Int32 := upd aiX7_init_136_10 (11 : Int32).toNatClampNeg (475 : Int32)
def aiX7_init_136_12 : Nat → Int32 := upd aiX7_init_136_11 (12 : Int32).toNatClampNeg (502 : Int32)
def aiX7_init_136_13 : Nat → Int32 := upd aiX7_init_136_12 (13 : Int32).toNatClampNeg (528 : Int32)
def aiX7_init_136_14 : Nat → Int32 := upd aiX7_init_136_13 (14 : Int32).toNatClampNeg (553 : Int32)
def aiX7_init_239_0 : Nat → Int32 := upd (fun _ => 0) (0 : Int32).toNatClampNeg (116 : Int32)
def aiX7_init_239_1 : Nat → Int32 := upd aiX7_init_239_0 (1 : Int32).toNatClampNeg (365 : Int32)
def aiX7_init_257_0 : Nat → Int32 := upd (fun _ => 0) (0 : Int32).toNatClampNeg (-2048 : Int32)
def aiX7_init_257_1 : Nat → Int32 := upd aiX7_init_257_0 (1 : Int32).toNatClampNeg (135 : Int32)
def aiX7_init_257_2 : Nat → Int32 := upd aiX7_init_257_1 (2 : Int32).toNatClampNeg (273 : Int32)
def aiX7_init_257_3 : Nat → Int32 := upd aiX7_init_257_2 (3 : Int32).toNatClampNeg (373 : Int32)
def aiX7_init_289_0 : Nat → Int32 := upd (fun _ => 0) (0 : Int32).toNatClampNeg (-2048 : Int32)
def aiX7_init_289_1 : Nat → Int32 := upd aiX7_init_289_0 (1 : Int32).toNatClampNeg (4 : Int32)
def aiX7_init_289_2 : Nat → Int32 := upd aiX7_init_289_1 (2 : Int32).toNatClampNeg (135 : Int32)
def aiX7_init_289_3 : Nat → Int32 := upd aiX7_init_289_2 (3 : Int32).toNatClampNeg (213 : Int32)
def aiX7_init_289_4 : Nat → Int32 := upd aiX7_init_289_3 (4 : Int32).toNatClampNeg (273 : Int32)
def aiX7_init_289_5 : Nat → Int32 := upd aiX7_init_289_4 (5 : Int32).toNatClampNeg (323 : Int32)
def aiX7_init_289_6 : Nat → Int32 := upd aiX7_init_289_5 (6 : Int32).toNatClampNeg (373 : Int32)
def aiX7_init_289_7 : Nat → Int32 := upd aiX7_init_289_6 (7 : Int32).toNatClampNeg (425 : Int32)
def aiX7_init_345_0 : Nat → Int32 := upd (fun _ => 0) (0 : Int32).toNatClampNeg (-2048 : Int32)
def aiX7_init_345_1 : Nat → Int32 := upd aiX7_init_345_0 (1 : Int32).toNatClampNeg (-66 : Int32)
def aiX7_init_345_2 : Nat → Int32 := upd aiX7_init_345_1 (2 : Int32).toNatClampNeg (28 : Int32)
def aiX7_init_345_3 : Nat → Int32 := upd aiX7_init_345_2 (3 : Int32).toNatClampNeg (104 : Int32)
def aiX7_init_345_4 : Nat → Int32 := upd aiX7_init_345_3 (4 : Int32).toNatClampNeg (169 : Int32)
def aiX7_init_345_5 : Nat → Int32 := upd aiX7_init_345_4 (5 : Int32).toNatClampNeg (224 : Int32)
def aiX7_init_345_6 : Nat → Int32 := upd aiX7_init_345_5 (6 : Int32).toNatClampNeg (274 : Int32)
def aiX7_init_345_7 : Nat → Int32 := upd aiX7_init_345_6 (7 : Int32).toNatClampNeg (318 : Int32)
def aiX7_init_345_8 : Nat → Int32 := upd aiX7_init_345_7 (8 : Int32).toNatClampNeg (358 : Int32)
def aiX7_init_345_9 : Nat → Int32 := upd aiX7_init_345_8 (9 : Int32).toNatClampNeg (395 : Int32)
def aiX7_init_345_10 : Nat → Int32 := upd aiX7_init_345_9 (10 : Int32).toNatClampNeg (429 : Int32)
def aiX7_init_345_11 : Nat → Int32 := upd aiX7_init_345_10 (11 : Int32).toNatClampNeg (459 : Int32)
def aiX7_init_345_12 : Nat → Int32 := upd aiX7_init_345_11 (12 : Int32).toNatClampNeg (488 : Int32)
def aiX7_init_345_13 : Nat → Int32 := upd aiX7_init_345_12 (13 : Int32).toNatClampNeg (514 : Int32)
def aiX7_init_345_14 : Nat → Int32 := upd aiX7_init_345_13 (14 : Int32).toNatClampNeg (539 : Int32)
def aiX7_init_345_15 : Nat → Int32 := upd aiX7_init_345_14 (15 : Int32).toNatClampNeg (566 : Int32)
def aiX7_init_455_0 : Nat → Int32 := upd (fun _ => 0) (0 : Int32).toNatClampNeg (-704 : Int32)
def aiX7_init_455_1 : Nat → Int32 := upd aiX7_init_455_0 (1 : Int32).toNatClampNeg (14048 : Int32)
def aiX7_init_474_0 : Nat → Int32 := upd (fun _ => 0) (0 : Int32).toNatClampNeg (-128 : Int32)
def aiX7_init_474_1 : Nat → Int32 := upd aiX7_init_474_0 (1 : Int32).toNatClampNeg (960 : Int32)
def aiX7_init_474_2 : Nat → Int32 := upd aiX7_init_474_1 (2 : Int32).toNatClampNeg (4384 : Int32)
def aiX7_init_474_3 : Nat → Int32 := upd aiX7_init_474_2 (3 : Int32).toNatClampNeg (18624 : Int32)
def aiX7_init_505_0 : Nat → Int32 := upd (fun _ => 0) (0 : Int32).toNatClampNeg (-384 : Int32)
def aiX7_init_505_1 : Nat → Int32 := upd aiX7_init_505_0 (1 : Int32).toNatClampNeg (576 : Int32)
def aiX7_init_505_2 : Nat → Int32 := upd aiX7_init_505_1 (2 : Int32).toNatClampNeg (1312 : Int32)
def aiX7_init_505_3 : Nat → Int32 := upd aiX7_init_505_2 (3 : Int32).toNatClampNeg (2048 : Int32)
def aiX7_init_505_4 : Nat → Int32 := upd aiX7_init_505_3 (4 : Int32).toNatClampNeg (3584 : Int32)
def aiX7_init_505_5 : Nat → Int32 := upd aiX7_init_505_4 (5 : Int32).toNatClampNeg (6336 : Int32)
def aiX7_init_505_6 : Nat → Int32 := upd aiX7_init_505_5 (6 : Int32).toNatClampNeg (11360 : Int32)
def aiX7_init_505_7 : Nat → Int32 := upd aiX7_init_505_6 (7 : Int32).toNatClampNeg (35904 : Int32)
def aiX7_init_562_0 : Nat → Int32 := upd (fun _ => 0) (0 : Int32).toNatClampNeg (448 : Int32)
def aiX7_init_562_1 : Nat → Int32 := upd aiX7_init_562_0 (1 : Int32).toNatClampNeg (448 : Int32)
def aiX7_init_562_2 : Nat → Int32 := upd aiX7_init_562_1 (2 : Int32).toNatClampNeg (768 : Int32)
def aiX7_init_562_3 : Nat → Int32 := upd aiX7_init_562_2 (3 : Int32).toNatClampNeg (1248 : Int32)
def aiX7_init_562_4 : Nat → Int32 := upd aiX7_init_562_3 (4 : Int32).toNatClampNeg (1280 : Int32)
def aiX7_init_562_5 : Nat → Int32 := upd aiX7_init_562_4 (5 : Int32).toNatClampNeg (1312 : Int32)
def aiX7_init_562_6 : Nat → Int32 := upd aiX7_init_562_5 (6 : Int32).toNatClampNeg (1856 : Int32)
def aiX7_init_562_7 : Nat → Int32 := upd aiX7_init_562_6 (7 : Int32).toNatClampNeg (3200 : Int32)
def aiX7_init_562_8 : Nat → Int32 := upd aiX7_init_562_7 (8 : Int32).toNatClampNeg (4512 : Int32)
def aiX7_init_562_9 : Nat → Int32 := upd aiX7_init_562_8 (9 : Int32).toNatClampNeg (5728 : Int32)
def aiX7_init_562_10 : Nat → Int32 := upd aiX7_init_562_9 (10 : Int32).toNatClampNeg (7008 : Int32)
def aiX7_init_562_11 : Nat → Int32 := upd aiX7_init_562_10 (11 : Int32).toNatClampNeg (8960 : Int32)
def aiX7_init_562_12 : Nat → Int32 := upd aiX7_init_562_11 (12 : Int32).toNatClampNeg (11456 : Int32)
def aiX7_init_562_13 : Nat → Int32 := upd aiX7_init_562_12 (13 : Int32).toNatClampNeg (14080 : Int32)
def aiX7_init_562_14 : Nat → Int32 := upd aiX7_init_562_13 (14 : Int32).toNatClampNeg (16928 : Int32)
def aiX7_init_562_15 : Nat → Int32 := upd aiX7_init_562_14 (15 : Int32).toNatClampNeg (22272 : Int32)
def aiX7_init_675_0 : Nat → Int32 := upd (fun _ => 0) (0 : Int32).toNatClampNeg (0 : Int32)
def aiX7_init_675_1 : Nat → Int32 := upd aiX7_init_675_0 (1 : Int32).toNatClampNeg (3584 : Int32)
def aiX7_init_692_0 : Nat → Int32 := upd (fun _ => 0) (0 : Int32).toNatClampNeg (0 : Int32)
def aiX7_init_692_1 : Nat → Int32 := upd aiX7_init_692_0 (1 : Int32).toNatClampNeg (512 : Int32)
def aiX7_init_692_2 : Nat → Int32 := upd aiX7_init_692_1 (2 : Int32).toNatClampNeg (1024 : Int32)
def aiX7_init_692_3 : Nat → Int32 := upd aiX7_init_692_2 (3 : Int32).toNatClampNeg (3584 : Int32)
def aiX7_init_722_0 : Nat → Int32 := upd (fun _ => 0) (0 : Int32).toNatClampNeg (0 : Int32)
def aiX7_init_722_1 : Nat → Int32 := upd aiX7_init_722_0 (1 : Int32).toNatClampNeg (0 : Int32)
def aiX7_init_722_2 : Nat → Int32 := upd aiX7_init_722_1 (2 : Int32).toNatClampNeg (0 : Int32)
def aiX7_init_722_3 : Nat → Int32 := upd aiX7_init_722_2 (3 : Int32).toNatClampNeg (512 : Int32)
def aiX7_init_722_4 : Nat → Int32 := upd aiX7_init_722_3 (4 : Int32).toNatClampNeg (512 : Int32)
def aiX7_init_722_5 : Nat → Int32 := upd aiX7_init_722_4 (5 : Int32).toNatClampNeg (512 : Int32)
def aiX7_init_722_6 : Nat → Int32 := upd aiX7_init_722_5 (6 : Int32).toNatClampNeg (1536 : Int32)
def aiX7_init_722_7 : Nat → Int32 := upd aiX7_init_722_6 (7 : Int32).toNatClampNeg (3584 : Int32)
def aiX7_init_774_0 : Nat → Int32 := upd (fun _ => 0) (0 : Int32).toNatClampNeg (0 : Int32)
def aiX7_init_774_1 : Nat → Int32 := upd aiX7_init_774_0 (1 : Int32).toNatClampNeg (0 : Int32)
def aiX7_init_774_2 : Nat → Int32 := upd aiX7_init_774_1 (2 : Int32).toNatClampNeg (0 : Int32)
def aiX7_init_774_3 : Nat → Int32 := upd aiX7_init_774_2 (3 : Int32).toNatClampNeg (0 : Int32)
def aiX7_init_774_4 : Nat → Int32 := upd aiX7_init_774_3 (4 : Int32).toNatClampNeg (0 : Int32)
def aiX7_init_774_5 : Nat → Int32 := upd aiX7_init_774_4 (5 : Int32).toNatClampNeg (512 : Int32)
def aiX7_init_774_6 : Nat → Int32 := upd aiX7_init_774_5 (6 : Int32).toNatClampNeg (512 : Int32)
def aiX7_init_774_7 : Nat → Int32 := upd aiX7_init_774_6 (7 : Int32).toNatClampNeg (512 : Int32)
def aiX7_init_774_8 : Nat → Int32 := upd aiX7_init_774_7 (8 : Int32).toNatClampNeg (512 : Int32)
def aiX7_init_774_9 : Nat → Int32 := upd aiX7_init_774_8 (9 : Int32).toNatClampNeg (512 : Int32)
def aiX7_init_774_10 : Nat → Int32 := upd aiX7_init_774_9 (10 : Int32).toNatClampNeg (1024 : Int32)
def aiX7_init_774_11 : Nat → Int32 := upd aiX7_init_774_10 (11 : Int32).toNatClampNeg (1536 : Int32)
def aiX7_init_774_12 : Nat → Int32 := upd aiX7_init_774_11 (12 : Int32).toNatClampNeg (2048 : Int32)
def aiX7_init_774_13 : Nat → Int32 := upd aiX7_init_774_12 (13 : Int32).toNatClampNeg (2560 : Int32)
def aiX7_init_774_14 : Nat → Int32 := upd aiX7_init_774_13 (14 : Int32).toNatClampNeg (3072 : Int32)
def aiX7_init_774_15 : Nat → Int32 := upd aiX7_init_774_14 (15 : Int32).toNatClampNeg (3072 : Int32)
def aiX7_init_896_0 : Nat → Int32 := upd (fun _ => 0) (0 : Int32).toNatClampNeg (3 : Int32)
def aiX7_init_896_1 : Nat → Int32 := upd aiX7_init_896_0 (1 : Int32).toNatClampNeg (-11 : Int32)
def aiX7_init_896_2 : Nat → Int32 := upd aiX7_init_896_1 (2 : Int32).toNatClampNeg (12 : Int32)
def aiX7_init_896_3 : Nat → Int32 := upd aiX7_init_896_2 (3 : Int32).toNatClampNeg (32 : Int32)
def aiX7_init_896_4 : Nat → Int32 := upd aiX7_init_896_3 (4 : Int32).toNatClampNeg (-210 : Int32)
def aiX7_init_896_5 : Nat → Int32 := upd aiX7_init_896_4 (5 : Int32).toNatClampNeg (951 : Int32)
def aiX7_init_896_6 : Nat → Int32 := upd aiX7_init_896_5 (6 : Int32).toNatClampNeg (3876 : Int32)
def aiX7_init_896_7 : Nat → Int32 := upd aiX7_init_896_6 (7 : Int32).toNatClampNeg (-805 : Int32)
def aiX7_init_896_8 : Nat → Int32 := upd aiX7_init_896_7 (8 : Int32).toNatClampNeg (362 : Int32)
def aiX7_init_896_9 : Nat → Int32 := upd aiX7_init_896_8 (9 : Int32).toNatClampNeg (-156 : Int32)
def aiX7_init_896_10 : Nat → Int32 := upd aiX7_init_896_9 (10 : Int32).toNatClampNeg (53 : Int32)
def aiX7_init_896_11 : Nat → Int32 := upd aiX7_init_896_10 (11 : Int32).toNatClampNeg (-11 : Int32)
def aiX7_init_975_0 : Nat → Int32 := upd (fun _ => 0) (0 : Int32).toNatClampNeg (35 : Int32)
def aiX7_init_975_1 : Nat → Int32 := upd aiX7_init_975_0 (1 : Int32).toNatClampNeg (72 : Int32)
def aiX7_init_975_2 : Nat → Int32 := upd aiX7_init_975_1 (2 : Int32).toNatClampNeg (110 : Int32)
def aiX7_init_975_3 : Nat → Int32 := upd aiX7_init_975_2 (3 : Int32).toNatClampNeg (150 : Int32)
def aiX7_init_975_4 : Nat → Int32 := upd aiX7_init_975_3 (4 : Int32).toNatClampNeg (190 : Int32)
def aiX7_init_975_5 : Nat → Int32 := upd aiX7_init_975_4 (5 : Int32).toNatClampNeg (233 : Int32)
def aiX7_init_975_6 : Nat → Int32 := upd aiX7_init_975_5 (6 : Int32).toNatClampNeg (276 : Int32)
def aiX7_init_975_7 : Nat → Int32 := upd aiX7_init_975_6 (7 : Int32).toNatClampNeg (323 : Int32)
def aiX7_init_975_8 : Nat → Int32 := upd aiX7_init_975_7 (8 : Int32).toNatClampNeg (370 : Int32)
def aiX7_init_975_9 : Nat → Int32 := upd aiX7_init_975_8 (9 : Int32).toNatClampNeg (422 : Int32)
def aiX7_init_975_10 : Nat → Int32 := upd aiX7_init_975_9 (10 : Int32).toNatClampNeg (473 : Int32)
def aiX7_init_975_11 : Nat → Int32 := upd aiX7_init_975_10 (11 : Int32).toNatClampNeg (530 : Int32)
def aiX7_init_975_12 : Nat → Int32 := upd aiX7_init_975_11 (12 : Int32).toNatClampNeg (587 : Int32)
def aiX7_init_975_13 : Nat → Int32 := upd aiX7_init_975_12 (13 : Int32).toNatClampNeg (650 : Int32)
def aiX7_init_975_14 : Nat → Int32 := upd aiX7_init_975_13 (14 : Int32).toNatClampNeg (714 : Int32)
def aiX7_init_975_15 : Nat → Int32 := upd aiX7_init_975_14 (15 : Int32).toNatClampNeg (786 : Int32)
def aiX7_init_975_16 : Nat → Int32 := upd aiX7_init_975_15 (16 : Int32).toNatClampNeg (858 : Int32)
def aiX7_init_975_17 : Nat → Int32 := upd aiX7_init_975_16 (17 : Int32).toNatClampNeg (940 : Int32)
def aiX7_init_975_18 : Nat → Int32 := upd aiX7_init_975_17 (18 : Int32).toNatClampNeg (1023 : Int32)
def aiX7_init_975_19 : Nat → Int32 := upd aiX7_init_975_18 (19 : Int32).toNatClampNeg (1121 : Int32)
def aiX7_init_975_20 : Nat → Int32 := upd aiX7_init_975_19 (20 : Int32).toNatClampNeg (1219 : Int32)
def aiX7_init_975_21 : Nat → Int32 := upd aiX7_init_975_20 (21 : Int32).toNatClampNeg (1339 : Int32)
def aiX7_init_975_22 : Nat → Int32 := upd aiX7_init_975_21 (22 : Int32).toNatClampNeg (1458 : Int32)
def aiX7_init_975_23 : Nat → Int32 := upd aiX7_init_975_22 (23 : Int32).toNatClampNeg (1612 : Int32)
def aiX7_init_975_24 : Nat → Int32 := upd aiX7_init_975_23 (24 : Int32).toNatClampNeg (1765 : Int32)
def aiX7_init_975_25 : Nat → Int32 := upd aiX7_init_975_24 (25 : Int32).toNatClampNeg (1980 : Int32)
def aiX7_init_975_26 : Nat → Int32 := upd aiX7_init_975_25 (26 : Int32).toNatClampNeg (2195 : Int32)
def aiX7_init_975_27 : Nat → Int32 := upd aiX7_init_975_26 (27 : Int32).toNatClampNeg (2557 : Int32)
def aiX7_init_975_28 : Nat → Int32 := upd aiX7_init_975_27 (28 : Int32).toNatClampNeg (2919 : Int32)
def aiX7_init_1177_0 : Nat → Int32 := upd (fun _ => 0) (0 : Int32).toNatClampNeg (2048 : Int32)
def aiX7_init_1177_1 : Nat → Int32 := upd aiX7_init_1177_0 (1 : Int32).toNatClampNeg (2093 : Int32)
def aiX7_init_1177_2 : Nat → Int32 := upd aiX7_init_1177_1 (2 : Int32).toNatClampNeg (2139 : Int32)
def aiX7_init_1177_3 : Nat → Int32 := upd aiX7_init_1177_2 (3 : Int32).toNatClampNeg (2186 : Int32)
def aiX7_init_1177_4 : Nat → Int32 := upd aiX7_init_1177_3 (4 : Int32).toNatClampNeg (2233 : Int32)
def aiX7_init_1177_5 : Nat → Int32 := upd aiX7_init_1177_4 (5 : Int32).toNatClampNeg (2282 : Int32)
def aiX7_init_1177_6 : Nat → Int32 := upd aiX7_init_1177_5 (6 : Int32).toNatClampNeg (2332 : Int32)
def aiX7_init_1177_7 : Nat → Int32 := upd aiX7_init_1177_6 (7 : Int32).toNatClampNeg (2383 : Int32)
def aiX7_init_1177_8 : Nat → Int32 := upd aiX7_init_1177_7 (8 : Int32).toNatClampNeg (2435 : Int32)
def aiX7_init_1177_9 : Nat → Int32 := upd aiX7_init_1177_8 (9 : Int32).toNatClampNeg (2489 : Int32)
def aiX7_init_1177_10 : Nat → Int32 := upd aiX7_init_1177_9 (10 : Int32).toNatClampNeg (2543 : Int32)
def aiX7_init_1177_11 : Nat → Int32 := upd aiX7_init_1177_10 (11 : Int32).toNatClampNeg (2599 : Int32)
def aiX7_init_1177_12 : Nat → Int32 := upd aiX7_init_1177_11 (12 : Int32).toNatClampNeg (2656 : Int32)
def aiX7_init_1177_13 : Nat → Int32 := upd aiX7_init_1177_12 (13 : Int32).toNatClampNeg (2714 : Int32)
def aiX7_init_1177_14 : Nat → Int32 := upd aiX7_init_1177_13 (14 : Int32).toNatClampNeg (2774 : Int32)
def aiX7_init_1177_15 : Nat → Int32 := upd aiX7_init_1177_14 (15 : Int32).toNatClampNeg (2834 : Int32)
def aiX7_init_1177_16 : Nat → Int32 := upd aiX7_init_1177_15 (16 : Int32).toNatClampNeg (2896 : Int32)
def aiX7_init_1177_17 : Nat → Int32 := upd aiX7_init_1177_16 (17 : Int32).toNatClampNeg (2960 : Int32)
def aiX7_init_1177_18 : Nat → Int32 := upd aiX7_init_1177_17 (18 : Int32).toNatClampNeg (3025 : Int32)
def aiX7_init_1177_19 : Nat → Int32 := upd aiX7_init_1177_18 (19 : Int32).toNatClampNeg (3091 : Int32)
def aiX7_init_1177_20 : Nat → Int32 := upd aiX7_init_1177_19 (20 : Int32).toNatClampNeg (3158 : Int32)
def aiX7_init_1177_21 : Nat → Int32 := upd aiX7_init_1177_20 (21 : Int32).toNatClampNeg (3228 : Int32)
def aiX7_init_1177_22 : Nat → Int32 := upd aiX7_init_1177_21 (22 : Int32).toNatClampNeg (3298 : Int32)
def aiX7_init_1177_23 : Nat → Int32 := upd aiX7_init_1177_22 (23 : Int32).toNatClampNeg (3371 : Int32)
def aiX7_init_1177_24 : Nat → Int32 := upd aiX7_init_1177_23 (24 : Int32).toNatClampNeg (3444 : Int32)
def aiX7_init_1177_25 : Nat → Int32 := upd aiX7_init_1177_24 (25 : Int32).toNatClampNeg (3520 : Int32)
def aiX7_init_1177_26 : Nat → Int32 := upd aiX7_init_1177_25 (26 : Int32).toNatClampNeg (3597 : Int32)
def aiX7_init_1177_27 : Nat → Int32 := upd aiX7_init_1177_26 (27 : Int32).toNatClampNeg (3676 : Int32)
def aiX7_init_1177_28 : Nat → Int32 := upd aiX7_init_1177_27 (28 : Int32).toNatClampNeg (3756 : Int32)
def aiX7_init_1177_29 : Nat → Int32 := upd aiX7_init_1177_28 (29 : Int32).toNatClampNeg (3838 : Int32)
def aiX7_init_1177_30 : Nat → Int32 := upd aiX7_init_1177_29 (30 : Int32).toNatClampNeg (3922 : Int32)
def aiX7_init_1177_31 : Nat → Int32 := upd aiX7_init_1177_30 (31 : Int32).toNatClampNeg (4008 : Int32)
def aiX7_init_1403_0 : Nat → Int32 := upd (fun _ => 0) (0 : Int32).toNatClampNeg (0 : Int32)
def aiX7_init_1403_1 : Nat → Int32 := upd aiX7_init_1403_0 (1 : Int32).toNatClampNeg (-20456 : Int32)
def aiX7_init_1403_2 : Nat → Int32 := upd aiX7_init_1403_1 (2 : Int32).toNatClampNeg (-12896 : Int32)
def aiX7_init_1403_3 : Nat → Int32 := upd aiX7_init_1403_2 (3 : Int32).toNatClampNeg (-8968 : Int32)
def aiX7_init_1403_4 : Nat → Int32 := upd aiX7_init_1403_3 (4 : Int32).toNatClampNeg (-6288 : Int32)
def aiX7_init_1403_5 : Nat → Int32 := upd aiX7_init_1403_4 (5 : Int32).toNatClampNeg (-4240 : Int32)
def aiX7_init_1403_6 : Nat → Int32 := upd aiX7_init_1403_5 (6 : Int32).toNatClampNeg (-2584 : Int32)
def aiX7_init_1403_7 : Nat → Int32 := upd aiX7_init_1403_6 (7 : Int32).toNatClampNeg (-1200 : Int32)
def aiX7_init_1403_8 : Nat → Int32 := upd aiX7_init_1403_7 (8 : Int32).toNatClampNeg (20456 : Int32)
def aiX7_init_1403_9 : Nat → Int32 := upd aiX7_init_1403_8 (9 : Int32).toNatClampNeg (12896 : Int32)
def aiX7_init_1403_10 : Nat → Int32 := upd aiX7_init_1403_9 (10 : Int32).toNatClampNeg (8968 : Int32)
def aiX7_init_1403_11 : Nat → Int32 := upd aiX7_init_1403_10 (11 : Int32).toNatClampNeg (6288 : Int32)
def aiX7_init_1403_12 : Nat → Int32 := upd aiX7_init_1403_11 (12 : Int32).toNatClampNeg (4240 : Int32)
def aiX7_init_1403_13 : Nat → Int32 := upd aiX7_init_1403_12 (13 : Int32).toNatClampNeg (2584 : Int32)
def aiX7_init_1403_14 : Nat → Int32 := upd aiX7_init_1403_13 (14 : Int32).toNatClampNeg (1200 : Int32)
def aiX7_init_1403_15 : Nat → Int32 := upd aiX7_init_1403_14 (15 : Int32).toNatClampNeg (0 : Int32)
def aiX7_init_1512_0 : Nat → Int32 := upd (fun _ => 0) (0 : Int32).toNatClampNeg (-7408 : Int32)
def aiX7_init_1512_1 : Nat → Int32 := upd aiX7_init_1512_0 (1 : Int32).toNatClampNeg (-1616 : Int32)
def aiX7_init_1512_2 : Nat → Int32 := upd aiX7_init_1512_1 (2 : Int32).toNatClampNeg (7408 : Int32)
def aiX7_init_1512_3 : Nat → Int32 := upd aiX7_init_1512_2 (3 : Int32).toNatClampNeg (1616 : Int32)
def aiX7_init_1544_0 : Nat → Int32 := upd (fun _ => 0) (0 : Int32).toNatClampNeg (-60 : Int32)
def aiX7_init_1544_1 : Nat → Int32 := upd aiX7_init_1544_0 (1 : Int32).toNatClampNeg (3042 : Int32)
def aiX7_init_1544_2 : Nat → Int32 := upd aiX7_init_1544_1 (2 : Int32).toNatClampNeg (1198 : Int32)
def aiX7_init_1544_3 : Nat → Int32 := upd aiX7_init_1544_2 (3 : Int32).toNatClampNeg (538 : Int32)
def aiX7_init_1544_4 : Nat → Int32 := upd aiX7_init_1544_3 (4 : Int32).toNatClampNeg (334 : Int32)
def aiX7_init_1544_5 : Nat → Int32 := upd aiX7_init_1544_4 (5 : Int32).toNatClampNeg (172 : Int32)
def aiX7_init_1544_6 : Nat → Int32 := upd aiX7_init_1544_5 (6 : Int32).toNatClampNeg (58 : Int32)
def aiX7_init_1544_7 : Nat → Int32 := upd aiX7_init_1544_6 (7 : Int32).toNatClampNeg (-30 : Int32)
def aiX7_init_1544_8 : Nat → Int32 := upd aiX7_init_1544_7 (8 : Int32).toNatClampNeg (3042 : Int32)
def aiX7_init_1544_9 : Nat → Int32 := upd aiX7_init_1544_8 (9 : Int32).toNatClampNeg (1198 : Int32)
def aiX7_init_1544_10 : Nat → Int32 := upd aiX7_init_1544_9 (10 : Int32).toNatClampNeg (538 : Int32)
def aiX7_init_1544_11 : Nat → Int32 := upd aiX7_init_1544_10 (11 : Int32).toNatClampNeg (334 : Int32)
def aiX7_init_1544_12 : Nat → Int32 := upd aiX7_init_1544_11 (12 : Int32).toNatClampNeg (172 : Int32)
def aiX7_init_1544_13 : Nat → Int32 := upd aiX7_init_1544_12 (13 : Int32).toNatClampNeg (58 : Int32)
def aiX7_init_1544_14 : Nat → Int32 := upd aiX7_init_1544_13 (14 : Int32).toNatClampNeg (-30 : Int32)
def aiX7_init_1544_15 : Nat → Int32 := upd aiX7_init_1544_14 (15 : Int32).toNatClampNeg (-60 : Int32)
def aiX7_init_1651_0 : Nat → Int32 := upd (fun _ => 0) (0 : Int32).toNatClampNeg (798 : Int32)
def aiX7_init_1651_1 : Nat → Int32 := upd aiX7_init_1651_0 (1 : Int32).toNatClampNeg (-214 : Int32)
def aiX7_init_1651_2 : Nat → Int32 := upd aiX7_init_1651_1 (2 : Int32).toNatClampNeg (798 : Int32)
def aiX7_init_1651_3 : Nat → Int32 := upd aiX7_init_1651_2 (3 : Int32).toNatClampNeg (-214 : Int32)
def aiX7_init_1683_0 : Nat → Int32 := upd (fun _ => 0) (0 : Int32).toNatClampNeg (-280 : Int32)
def aiX7_init_1683_1 : Nat → Int32 := upd aiX7_init_1683_0 (1 : Int32).toNatClampNeg (-280 : Int32)
def aiX7_init_1683_2 : Nat → Int32 := upd aiX7_init_1683_1 (2 : Int32).toNatClampNeg (-23352 : Int32)
def aiX7_init_1683_3 : Nat → Int32 := upd aiX7_init_1683_2 (3 : Int32).toNatClampNeg (-17560 : Int32)
def aiX7_init_1683_4 : Nat → Int32 := upd aiX7_init_1683_3 (4 : Int32).toNatClampNeg (-14120 : Int32)
def aiX7_init_1683_5 : Nat → Int32 := upd aiX7_init_1683_4 (5 : Int32).toNatClampNeg (-11664 : Int32)
def aiX7_init_1683_6 : Nat → Int32 := upd aiX7_init_1683_5 (6 : Int32).toNatClampNeg (-9752 : Int32)
def aiX7_init_1683_7 : Nat → Int32 := upd aiX7_init_1683_6 (7 : Int32).toNatClampNeg (-8184 : Int32)
def aiX7_init_1683_8 : Nat → Int32 := upd aiX7_init_1683_7 (8 : Int32).toNatClampNeg (-6864 : Int32)
def aiX7_init_1683_9 : Nat → Int32 := upd aiX7_init_1683_8 (9 : Int32).toNatClampNeg (-5712 : Int32)
def aiX7_init_1683_10 : Nat → Int32 := upd aiX7_init_1683_9 (10 : Int32).toNatClampNeg (-4696 : Int32)
def aiX7_init_1683_11 : Nat → Int32 := upd aiX7_init_1683_10 (11 : Int32).toNatClampNeg (-3784 : Int32)
def aiX7_init_1683_12 : Nat → Int32 := upd aiX7_init_1683_11 (12 : Int32).toNatClampNeg (-2960 : Int32)
def aiX7_init_1683_13 : Nat → Int32 := upd aiX7_init_1683_12 (13 : Int32).toNatClampNeg (-2208 : Int32)
def aiX7_init_1683_14 : Nat → Int32 := upd aiX7_init_1683_13 (14 : Int32).toNatClampNeg (-1520 : Int32)
def aiX7_init_1683_15 : Nat → Int32 := upd aiX7_init_1683_14 (15 : Int32).toNatClampNeg (-880 : Int32)
def aiX7_init_1797_0 : Nat → Int32 := upd (fun _ => 0) (0 : Int32).toNatClampNeg (-136 : Int32)
def aiX7_init_1797_1 : Nat → Int32 := upd aiX7_init_1797_0 (1 : Int32).toNatClampNeg (-136 : Int32)
def aiX7_init_1797_2 : Nat → Int32 := upd aiX7_init_1797_1 (2 : Int32).toNatClampNeg (-136 : Int32)
def aiX7_init_1797_3 : Nat → Int32 := upd aiX7_init_1797_2 (3 : Int32).toNatClampNeg (-136 : Int32)
def aiX7_init_1797_4 : Nat → Int32 := upd aiX7_init_1797_3 (4 : Int32).toNatClampNeg (-24808 : Int32)
def aiX7_init_1797_5 : Nat → Int32 := upd aiX7_init_1797_4 (5 : Int32).toNatClampNeg (-21904 : Int32)
def aiX7_init_1797_6 : Nat → Int32 := upd aiX7_init_1797_5 (6 : Int32).toNatClampNeg (-19008 : Int32)
def aiX7_init_1797_7 : Nat → Int32 := upd aiX7_init_1797_6 (7 : Int32).toNatClampNeg (-16704 : Int32)
def aiX7_init_1797_8 : Nat → Int32 := upd aiX7_init_1797_7 (8 : Int32).toNatClampNeg (-14984 : Int32)
def aiX7_init_1797_9 : Nat → Int32 := upd aiX7_init_1797_8 (9 : Int32).toNatClampNeg (-13512 : Int32)
def aiX7_init_1797_10 : Nat → Int32 := upd aiX7_init_1797_9 (10 : Int32).toNatClampNeg (-12280 : Int32)
def aiX7_init_1797_11 : Nat → Int32 := upd aiX7_init_1797_10 (11 : Int32).toNatClampNeg (-11192 : Int32)
def aiX7_init_1797_12 : Nat → Int32 := upd aiX7_init_1797_11 (12 : Int32).toNatClampNeg (-10232 : Int32)
def aiX7_init_1797_13 : Nat → Int32 := upd aiX7_init_1797_12 (13 : Int32).toNatClampNeg (-9360 : Int32)
def aiX7_init_1797_14 : Nat → Int32 := upd aiX7_init_1797_13 (14 : Int32).toNatClampNeg (-8576 : Int32)
def aiX7_init_1797_15 : Nat → Int32 := upd aiX7_init_1797_14 (15 : Int32).toNatClampNeg (-7856 : Int32)
def aiX7_init_1797_16 : Nat → Int32 := upd aiX7_init_1797_15 (16 : Int32).toNatClampNeg (-7192 : Int32)
def aiX7_init_1797_17 : Nat → Int32 := upd aiX7_init_1797_16 (17 : Int32).toNatClampNeg (-6576 : Int32)
def aiX7_init_1797_18 : Nat → Int32 := upd aiX7_init_1797_17 (18 : Int32).toNatClampNeg (-6000 : Int32)
def aiX7_init_1797_19 : Nat → Int32 := upd aiX7_init_1797_18 (19 : Int32).toNatClampNeg (-5456 : Int32)
def aiX7_init_1797_20 : Nat → Int32 := upd aiX7_init_1797_19 (20 : Int32).toNatClampNeg (-4944 : Int32)
def aiX7_init_1797_21 : Nat → Int32 := upd aiX7_init_1797_20 (21 : Int32).toNatClampNeg (-4464 : Int32)
def aiX7_init_1797_22 : Nat → Int32 := upd aiX7_init_1797_21 (22 : Int32).toNatClampNeg (-4008 : Int32)
def aiX7_init_1797_23 : Nat → Int32 := upd aiX7_init_1797_22 (23 : Int32).toNatClampNeg (-3576 : Int32)
def aiX7_init_1797_24 : Nat → Int32 := upd aiX7_init_1797_23 (24 : Int32).toNatClampNeg (-3168 : Int32)
def aiX7_init_1797_25 : Nat → Int32 := upd aiX7_init_1797_24 (25 : Int32).toNatClampNeg (-2776 : Int32)
def aiX7_init_1797_26 : Nat → Int32 := upd aiX7_init_1797_25 (26 : Int32).toNatClampNeg (-2400 : Int32)
def aiX7_init_1797_27 : Nat → Int32 := upd aiX7_init_1797_26 (27 : Int32).toNatClampNeg (-2032 : Int32)
def aiX7_init_1797_28 : Nat → Int32 := upd aiX7_init_1797_27 (28 : Int32).toNatClampNeg (-1688 : Int32)
def aiX7_init_1797_29 : Nat → Int32 := upd aiX7_init_1797_28 (29 : Int32).toNatClampNeg (-1360 : Int32)
def aiX7_init_1797_30 : Nat → Int32 := upd aiX7_init_1797_29 (30 : Int32).toNatClampNeg (-1040 : Int32)
def aiX7_init_1797_31 : Nat → Int32 := upd aiX7_init_1797_30 (31 : Int32).toNatClampNeg (-728 : Int32)

abbrev dk_Ln : Type := (Nat → Int32) × (Nat → Nat → Int32)
abbrev dk_By : Type := (Nat → Int32) × Int32
abbrev dk_T : Type := dk_By × dk_By
abbrev dk_S : Type := (Nat → dk_Ln) × dk_T
def EX6_open_o (a1 : Int32) (a2 : Int32) (T : dk_T) : Option (Int32 × dk_T) := pq_cl (fX6_open_o a1 a2) fun (u : Int32) => some (u, T)
def EX6_open_i (a1 : Int32) (a2 : Int32) (L : dk_Ln) (T : dk_T) : Option (Int32 × dk_Ln × dk_T) := pq_cl (fX6_open_i a1 a2 (L.1 0) (L.1 1) (L.2 0) (L.1 5) (L.2 1) (L.1 9) (L.2 2) (L.2 3) (L.2 4) (L.1 10) (L.2 5) (L.2 6) (L.2 7)) fun (u : Int32 × Int32 × Int32 × (Nat → Int32) × Int32 × (Nat → Int32) × Int32 × (Nat → Int32) × (Nat → Int32) × (Nat → Int32) × Int32 × (Nat → Int32) × (Nat → Int32) × (Nat → Int32)) => some (u.1, (va_up (va_up (va_up (va_up (va_up (L.1) 0 u.2.1) 1 u.2.2.1) 5 u.2.2.2.2.1) 9 u.2.2.2.2.2.2.1) 10 u.2.2.2.2.2.2.2.2.2.2.1, va_up (va_up (va_up (va_up (va_up (va_up (va_up (va_up (L.2) 0 u.2.2.2.1) 1 u.2.2.2.2.2.1) 2 u.2.2.2.2.2.2.2.1) 3 u.2.2.2.2.2.2.2.2.1) 4 u.2.2.2.2.2.2.2.2.2.1) 5 u.2.2.2.2.2.2.2.2.2.2.2.1) 6 u.2.2.2.2.2.2.2.2.2.2.2.2.1) 7 u.2.2.2.2.2.2.2.2.2.2.2.2.2), T)
def DX6_open (a1 : Int32) (a2 : Int32) (S : dk_S) : Option (Int32 × dk_S) := if a1 < 0 ∨ nI 4 ≤ a1 then pq_cl (EX6_open_o a1 a2 S.2) fun (u : Int32 × dk_T) => some (u.1, (S.1, u.2)) else pq_cl (EX6_open_i a1 a2 (S.1 a1.toNatClampNeg) S.2) fun (u : Int32 × dk_Ln × dk_T) => some (u.1, (va_up S.1 a1.toNatClampNeg u.2.1, u.2.2))
def EX6_kind_o (a1 : Int32) (T : dk_T) : Option (Int32 × dk_T) := pq_cl (fX6_kind_o a1) fun (u : Int32) => some (u, T)
def EX6_kind_i (a1 : Int32) (L : dk_Ln) (T : dk_T) : Option (Int32 × dk_Ln × dk_T) := pq_cl (fX6_kind_i a1 (L.1 0)) fun (u : Int32) => some (u, L, T)
def DX6_kind (a1 : Int32) (S : dk_S) : Option (Int32 × dk_S) := if a1 < 0 ∨ nI 4 ≤ a1 then pq_cl (EX6_kind_o a1 S.2) fun (u : Int32 × dk_T) => some (u.1, (S.1, u.2)) else pq_cl (EX6_kind_i a1 (S.1 a1.toNatClampNeg) S.2) fun (u : Int32 × dk_Ln × dk_T) => some (u.1, (va_up S.1 a1.toNatClampNeg u.2.1, u.2.2))
def EX6_say_o (a1 : Int32) (a2 : Int32) (T : dk_T) : Option (Int32 × dk_T) := pq_cl (fX6_say_o a1 a2) fun (u : Int32) => some (u, T)
def EX6_say_i (a1 : Int32) (a2 : Int32) (L : dk_Ln) (T : dk_T) : Option (Int32 × dk_Ln × dk_T) := pq_cl (fX6_say_i a1 a2 (L.1 0) (L.1 1) (L.1 2) (L.1 3) (L.1 4) (L.2 0) (L.2 2) (L.2 3) (L.2 4)) fun (u : Int32 × Int32 × Int32 × Int32 × (Nat → Int32) × (Nat → Int32) × (Nat → Int32) × (Nat → Int32)) => some (u.1, (va_up (va_up (va_up (L.1) 2 u.2.1) 3 u.2.2.1) 4 u.2.2.2.1, va_up (va_up (va_up (va_up (L.2) 0 u.2.2.2.2.1) 2 u.2.2.2.2.2.1) 3 u.2.2.2.2.2.2.1) 4 u.2.2.2.2.2.2.2), T)
def DX6_say (a1 : Int32) (a2 : Int32) (S : dk_S) : Option (Int32 × dk_S) := if a1 < 0 ∨ nI 4 ≤ a1 then pq_cl (EX6_say_o a1 a2 S.2) fun (u : Int32 × dk_T) => some (u.1, (S.1, u.2)) else pq_cl (EX6_say_i a1 a2 (S.1 a1.toNatClampNeg) S.2) fun (u : Int32 × dk_Ln × dk_T) => some (u.1, (va_up S.1 a1.toNatClampNeg u.2.1, u.2.2))
def EX6_pair_o (a1 : Int32) (a2 : Int32) (a3 : Int32) (T : dk_T) : Option (Int32 × dk_T) := pq_cl (fX6_pair_o a1 a2 a3) fun (u : Int32) => some (u, T)
def EX6_pair_i (a1 : Int32) (a2 : Int32) (a3 : Int32) (L : dk_Ln) (T : dk_T) : Option (Int32 × dk_Ln × dk_T) := pq_cl (fX6_pair_i a1 a2 a3 (L.1 0) (L.1 1) (L.1 2) (L.1 3) (L.1 4) (L.2 0) (L.2 2) (L.2 3) (L.2 4)) fun (u : Int32 × Int32 × Int32 × Int32 × (Nat → Int32) × (Nat → Int32) × (Nat → Int32) × (Nat → Int32)) => some (u.1, (va_up (va_up (va_up (L.1) 2 u.2.1) 3 u.2.2.1) 4 u.2.2.2.1, va_up (va_up (va_up (va_up (L.2) 0 u.2.2.2.2.1) 2 u.2.2.2.2.2.1) 3 u.2.2.2.2.2.2.1) 4 u.2.2.2.2.2.2.2), T)
def DX6_pair (a1 : Int32) (a2 : Int32) (a3 : Int32) (S : dk_S) : Option (Int32 × dk_S) := if a1 < 0 ∨ nI 4 ≤ a1 then pq_cl (EX6_pair_o a1 a2 a3 S.2) fun (u : Int32 × dk_T) => some (u.1, (S.1, u.2)) else pq_cl (EX6_pair_i a1 a2 a3 (S.1 a1.toNatClampNeg) S.2) fun (u : Int32 × dk_Ln × dk_T) => some (u.1, (va_up S.1 a1.toNatClampNeg u.2.1, u.2.2))
def EX6_hear_o (a1 : Int32) (a2 : Int32) (T : dk_T) : Option (Int32 × dk_T) := pq_cl (fX6_hear_o a1 a2) fun (u : Int32) => some (u, T)
def EX6_hear_i (a1 : Int32) (a2 : Int32) (L : dk_Ln) (T : dk_T) : Option (Int32 × dk_Ln × dk_T) := pq_cl (fX6_hear_i a1 a2 (L.1 0) (L.1 5) (L.1 6) (L.1 7) (L.1 8) (L.2 1) (L.1 10) (L.2 5) (L.2 6) (L.2 7)) fun (u : Int32 × Int32 × Int32 × Int32 × (Nat → Int32) × Int32 × (Nat → Int32) × (Nat → Int32) × (Nat → Int32)) => some (u.1, (va_up (va_up (va_up (va_up (L.1) 6 u.2.1) 7 u.2.2.1) 8 u.2.2.2.1) 10 u.2.2.2.2.2.1, va_up (va_up (va_up (va_up (L.2) 1 u.2.2.2.2.1) 5 u.2.2.2.2.2.2.1) 6 u.2.2.2.2.2.2.2.1) 7 u.2.2.2.2.2.2.2.2), T)
def DX6_hear (a1 : Int32) (a2 : Int32) (S : dk_S) : Option (Int32 × dk_S) := if a1 < 0 ∨ nI 4 ≤ a1 then pq_cl (EX6_hear_o a1 a2 S.2) fun (u : Int32 × dk_T) => some (u.1, (S.1, u.2)) else pq_cl (EX6_hear_i a1 a2 (S.1 a1.toNatClampNeg) S.2) fun (u : Int32 × dk_Ln × dk_T) => some (u.1, (va_up S.1 a1.toNatClampNeg u.2.1, u.2.2))
def EX6_second_o (a1 : Int32) (T : dk_T) : Option (Int32 × dk_T) := pq_cl (fX6_second_o a1) fun (u : Int32) => some (u, T)
def EX6_second_i (a1 : Int32) (L : dk_Ln) (T : dk_T) : Option (Int32 × dk_Ln × dk_T) := pq_cl (fX6_second_i a1 (L.1 0) (L.1 10)) fun (u : Int32) => some (u, L, T)
def DX6_second (a1 : Int32) (S : dk_S) : Option (Int32 × dk_S) := if a1 < 0 ∨ nI 4 ≤ a1 then pq_cl (EX6_second_o a1 S.2) fun (u : Int32 × dk_T) => some (u.1, (S.1, u.2)) else pq_cl (EX6_second_i a1 (S.1 a1.toNatClampNeg) S.2) fun (u : Int32 × dk_Ln × dk_T) => some (u.1, (va_up S.1 a1.toNatClampNeg u.2.1, u.2.2))
def EX6_inner_o (a1 : Int32) (a2 : Int32) (a3 : Int32) (T : dk_T) : Option (Int32 × dk_T) := pq_cl (fX6_inner_o a1 a2 a3) fun (u : Int32) => some (u, T)
def EX6_inner_i (a1 : Int32) (a2 : Int32) (a3 : Int32) (L : dk_Ln) (T : dk_T) : Option (Int32 × dk_Ln × dk_T) := pq_cl (fX6_inner_i a1 a2 a3 (L.1 0) (L.2 0) (L.2 1) (L.2 2) (L.2 3) (L.2 4) (L.2 5) (L.2 6) (L.2 7)) fun (u : Int32) => some (u, L, T)
def DX6_inner (a1 : Int32) (a2 : Int32) (a3 : Int32) (S : dk_S) : Option (Int32 × dk_S) := if a1 < 0 ∨ nI 4 ≤ a1 then pq_cl (EX6_inner_o a1 a2 a3 S.2) fun (u : Int32 × dk_T) => some (u.1, (S.1, u.2)) else pq_cl (EX6_inner_i a1 a2 a3 (S.1 a1.toNatClampNeg) S.2) fun (u : Int32 × dk_Ln × dk_T) => some (u.1, (va_up S.1 a1.toNatClampNeg u.2.1, u.2.2))
def EX6_feed (a1 : Int32) (a2 : Int32) (a3 : Int32) (a4 : Int32) (a5 : Int32) (T : dk_T) : Option (Int32 × dk_T) := pq_cl (fX6_feed a1 a2 a3 a4 a5 T.1.2 T.1.1) fun (u : Int32 × Int32 × (Nat → Int32)) => some (u.1, ((u.2.2, u.2.1), (T.2.1, T.2.2)))
def DX6_feed (a1 : Int32) (a2 : Int32) (a3 : Int32) (a4 : Int32) (a5 : Int32) (S : dk_S) : Option (Int32 × dk_S) := pq_cl (EX6_feed a1 a2 a3 a4 a5 S.2) fun (u : Int32 × dk_T) => some (u.1, (S.1, u.2))
def EX6_end (a1 : Int32) (T : dk_T) : Option (Int32 × dk_T) := pq_cl (fX6_end a1 T.1.2) fun (u : Int32 × Int32) => some (u.1, ((T.1.1, u.2), (T.2.1, T.2.2)))
def DX6_end (a1 : Int32) (S : dk_S) : Option (Int32 × dk_S) := pq_cl (EX6_end a1 S.2) fun (u : Int32 × dk_T) => some (u.1, (S.1, u.2))
def EX6_take (T : dk_T) : Option (Int32 × dk_T) := pq_cl (fX6_take T.2.2 T.2.1 T.1.2 T.1.1) fun (u : Int32 × Int32 × (Nat → Int32)) => some (u.1, ((u.2.2, u.2.1), (T.2.1, T.2.2)))
def DX6_take (S : dk_S) : Option (Int32 × dk_S) := pq_cl (EX6_take  S.2) fun (u : Int32 × dk_T) => some (u.1, (S.1, u.2))
def EX6_out (a1 : Int32) (T : dk_T) : Option (Int32 × dk_T) := pq_cl (fX6_out a1 T.2.2 T.2.1) fun (u : Int32) => some (u, T)
def DX6_out (a1 : Int32) (S : dk_S) : Option (Int32 × dk_S) := pq_cl (EX6_out a1 S.2) fun (u : Int32 × dk_T) => some (u.1, (S.1, u.2))
def EX6_pack_o (a1 : Int32) (a2 : Int32) (T : dk_T) : Option (Int32 × dk_T) := pq_cl (fX6_pack_o a1 a2) fun (u : Int32) => some (u, T)
def EX6_pack_i (a1 : Int32) (a2 : Int32) (L : dk_Ln) (T : dk_T) : Option (Int32 × dk_Ln × dk_T) := pq_cl (fX6_pack_i a1 a2 T.1.1 (L.1 0) (L.1 1) T.1.2 T.2.2 T.2.1 (L.1 2) (L.1 3) (L.1 4) (L.2 0) (L.2 2) (L.2 3) (L.2 4)) fun (u : Int32 × Int32 × Int32 × (Nat → Int32) × Int32 × Int32 × Int32 × (Nat → Int32) × (Nat → Int32) × (Nat → Int32) × (Nat → Int32)) => some (u.1, (va_up (va_up (va_up (L.1) 2 u.2.2.2.2.1) 3 u.2.2.2.2.2.1) 4 u.2.2.2.2.2.2.1, va_up (va_up (va_up (va_up (L.2) 0 u.2.2.2.2.2.2.2.1) 2 u.2.2.2.2.2.2.2.2.1) 3 u.2.2.2.2.2.2.2.2.2.1) 4 u.2.2.2.2.2.2.2.2.2.2), ((T.1.1, u.2.1), (u.2.2.2.1, u.2.2.1)))
def DX6_pack (a1 : Int32) (a2 : Int32) (S : dk_S) : Option (Int32 × dk_S) := if a1 < 0 ∨ nI 4 ≤ a1 then pq_cl (EX6_pack_o a1 a2 S.2) fun (u : Int32 × dk_T) => some (u.1, (S.1, u.2)) else pq_cl (EX6_pack_i a1 a2 (S.1 a1.toNatClampNeg) S.2) fun (u : Int32 × dk_Ln × dk_T) => some (u.1, (va_up S.1 a1.toNatClampNeg u.2.1, u.2.2))
def EX6_unpack_o (a1 : Int32) (a2 : Int32) (a3 : Int32) (T : dk_T) : Option (Int32 × dk_T) := pq_cl (fX6_unpack_o a1 a2 a3) fun (u : Int32) => some (u, T)
def EX6_unpack_i (a1 : Int32) (a2 : Int32) (a3 : Int32) (L : dk_Ln) (T : dk_T) : Option (Int32 × dk_Ln × dk_T) := pq_cl (fX6_unpack_i a1 a2 a3 T.1.1 (L.1 0) (L.1 5) T.1.2 T.2.2 T.2.1 (L.1 6) (L.1 7) (L.1 8) (L.2 1) (L.1 10) (L.2 5) (L.2 6) (L.2 7)) fun (u : Int32 × Int32 × Int32 × (Nat → Int32) × Int32 × Int32 × Int32 × (Nat → Int32) × Int32 × (Nat → Int32) × (Nat → Int32) × (Nat → Int32)) => some (u.1, (va_up (va_up (va_up (va_up (L.1) 6 u.2.2.2.2.1) 7 u.2.2.2.2.2.1) 8 u.2.2.2.2.2.2.1) 10 u.2.2.2.2.2.2.2.2.1, va_up (va_up (va_up (va_up (L.2) 1 u.2.2.2.2.2.2.2.1) 5 u.2.2.2.2.2.2.2.2.2.1) 6 u.2.2.2.2.2.2.2.2.2.2.1) 7 u.2.2.2.2.2.2.2.2.2.2.2), ((T.1.1, u.2.1), (u.2.2.2.1, u.2.2.1)))
def DX6_unpack (a1 : Int32) (a2 : Int32) (a3 : Int32) (S : dk_S) : Option (Int32 × dk_S) := if a1 < 0 ∨ nI 4 ≤ a1 then pq_cl (EX6_unpack_o a1 a2 a3 S.2) fun (u : Int32 × dk_T) => some (u.1, (S.1, u.2)) else pq_cl (EX6_unpack_i a1 a2 a3 (S.1 a1.toNatClampNeg) S.2) fun (u : Int32 × dk_Ln × dk_T) => some (u.1, (va_up S.1 a1.toNatClampNeg u.2.1, u.2.2))
def EX6_pass_oo (a1 : Int32) (a2 : Int32) (a3 : Int32) (T : dk_T) : Option (Int32 × dk_T) := pq_cl (fX6_pass_oo a1 a2 a3) fun (u : Int32) => some (u, T)
def EX6_pass_oi (a1 : Int32) (a2 : Int32) (a3 : Int32) (L : dk_Ln) (T : dk_T) : Option (Int32 × dk_Ln × dk_T) := pq_cl (fX6_pass_oi a1 a2 a3 (L.1 0)) fun (u : Int32) => some (u, L, T)
def EX6_pass_io (a1 : Int32) (a2 : Int32) (a3 : Int32) (L : dk_Ln) (T : dk_T) : Option (Int32 × dk_Ln × dk_T) := pq_cl (fX6_pass_io a1 a2 a3 (L.1 0)) fun (u : Int32) => some (u, L, T)
def EX6_pass_ii (a1 : Int32) (a2 : Int32) (a3 : Int32) (L : dk_Ln) (L2 : dk_Ln) (T : dk_T) : Option (Int32 × dk_Ln × dk_Ln × dk_T) := pq_cl (fX6_pass_ii a1 a2 a3 (L.1 0) (L.1 5) (L2.1 0) (L2.1 1) (L.1 6) (L.1 7) (L.1 8) (L.2 1) (L.1 10) (L.2 5) (L.2 6) (L.2 7) (L2.1 2) (L2.1 3) (L2.1 4) (L2.2 0) (L2.2 2) (L2.2 3) (L2.2 4)) fun (u : Int32 × Int32 × Int32 × Int32 × (Nat → Int32) × Int32 × (Nat → Int32) × (Nat → Int32) × (Nat → Int32) × Int32 × Int32 × Int32 × (Nat → Int32) × (Nat → Int32) × (Nat → Int32) × (Nat → Int32)) => some (u.1, (va_up (va_up (va_up (va_up (L.1) 6 u.2.1) 7 u.2.2.1) 8 u.2.2.2.1) 10 u.2.2.2.2.2.1, va_up (va_up (va_up (va_up (L.2) 1 u.2.2.2.2.1) 5 u.2.2.2.2.2.2.1) 6 u.2.2.2.2.2.2.2.1) 7 u.2.2.2.2.2.2.2.2.1), (va_up (va_up (va_up (L2.1) 2 u.2.2.2.2.2.2.2.2.2.1) 3 u.2.2.2.2.2.2.2.2.2.2.1) 4 u.2.2.2.2.2.2.2.2.2.2.2.1, va_up (va_up (va_up (va_up (L2.2) 0 u.2.2.2.2.2.2.2.2.2.2.2.2.1) 2 u.2.2.2.2.2.2.2.2.2.2.2.2.2.1) 3 u.2.2.2.2.2.2.2.2.2.2.2.2.2.2.1) 4 u.2.2.2.2.2.2.2.2.2.2.2.2.2.2.2), T)
def EX6_pass_is (a1 : Int32) (a2 : Int32) (a3 : Int32) (L : dk_Ln) (T : dk_T) : Option (Int32 × dk_Ln × dk_T) := pq_cl (fX6_pass_is a1 a2 a3 (L.1 0) (L.1 1) (L.1 5) (L.1 2) (L.1 3) (L.1 4) (L.2 0) (L.1 6) (L.1 7) (L.1 8) (L.2 1) (L.2 2) (L.2 3) (L.2 4) (L.1 10) (L.2 5) (L.2 6) (L.2 7)) fun (u : Int32 × Int32 × Int32 × Int32 × (Nat → Int32) × Int32 × Int32 × Int32 × (Nat → Int32) × (Nat → Int32) × (Nat → Int32) × (Nat → Int32) × Int32 × (Nat → Int32) × (Nat → Int32) × (Nat → Int32)) => some (u.1, (va_up (va_up (va_up (va_up (va_up (va_up (va_up (L.1) 2 u.2.1) 3 u.2.2.1) 4 u.2.2.2.1) 6 u.2.2.2.2.2.1) 7 u.2.2.2.2.2.2.1) 8 u.2.2.2.2.2.2.2.1) 10 u.2.2.2.2.2.2.2.2.2.2.2.2.1, va_up (va_up (va_up (va_up (va_up (va_up (va_up (va_up (L.2) 0 u.2.2.2.2.1) 1 u.2.2.2.2.2.2.2.2.1) 2 u.2.2.2.2.2.2.2.2.2.1) 3 u.2.2.2.2.2.2.2.2.2.2.1) 4 u.2.2.2.2.2.2.2.2.2.2.2.1) 5 u.2.2.2.2.2.2.2.2.2.2.2.2.2.1) 6 u.2.2.2.2.2.2.2.2.2.2.2.2.2.2.1) 7 u.2.2.2.2.2.2.2.2.2.2.2.2.2.2.2), T)
def DX6_pass (a1 : Int32) (a2 : Int32) (a3 : Int32) (S : dk_S) : Option (Int32 × dk_S) := if a1 < 0 ∨ nI 4 ≤ a1 then (if a2 < 0 ∨ nI 4 ≤ a2 then pq_cl (EX6_pass_oo a1 a2 a3 S.2) fun (u : Int32 × dk_T) => some (u.1, (S.1, u.2)) else pq_cl (EX6_pass_oi a1 a2 a3 (S.1 a2.toNatClampNeg) S.2) fun (u : Int32 × dk_Ln × dk_T) => some (u.1, (va_up S.1 a2.toNatClampNeg u.2.1, u.2.2))) else (if a2 < 0 ∨ nI 4 ≤ a2 then pq_cl (EX6_pass_io a1 a2 a3 (S.1 a1.toNatClampNeg) S.2) fun (u : Int32 × dk_Ln × dk_T) => some (u.1, (va_up S.1 a1.toNatClampNeg u.2.1, u.2.2)) else if a1 = a2 then pq_cl (EX6_pass_is a1 a2 a3 (S.1 a1.toNatClampNeg) S.2) fun (u : Int32 × dk_Ln × dk_T) => some (u.1, (va_up S.1 a1.toNatClampNeg u.2.1, u.2.2)) else pq_cl (EX6_pass_ii a1 a2 a3 (S.1 a1.toNatClampNeg) (S.1 a2.toNatClampNeg) S.2) fun (u : Int32 × dk_Ln × dk_Ln × dk_T) => some (u.1, (va_up (va_up S.1 a1.toNatClampNeg u.2.1) a2.toNatClampNeg u.2.2.1, u.2.2.2)))
def EX6_law (a1 : Int32) (a2 : Int32) (a3 : Int32) (T : dk_T) : Option (Int32 × dk_T) := pq_cl (fX6_law a1 a2 a3) fun (u : Int32) => some (u, T)
def DX6_law (a1 : Int32) (a2 : Int32) (a3 : Int32) (S : dk_S) : Option (Int32 × dk_S) := pq_cl (EX6_law a1 a2 a3 S.2) fun (u : Int32 × dk_T) => some (u.1, (S.1, u.2))
abbrev md_S : Type := (Nat → Int32) × (Nat → Nat → Int32)
def MX7_open (a1 : Int32) (a2 : Int32) (M : md_S) : Option (Int32 × md_S) := pq_cl (fX7_open a1 a2 (M.1 0) (M.2 0) (M.2 1) (M.2 2) (M.2 3) (M.2 4)) fun (u : Int32 × Int32 × (Nat → Int32) × (Nat → Int32) × (Nat → Int32) × (Nat → Int32) × (Nat → Int32)) => some (u.1, (va_up (M.1) 0 u.2.1, va_up (va_up (va_up (va_up (va_up (M.2) 0 u.2.2.1) 1 u.2.2.2.1) 2 u.2.2.2.2.1) 3 u.2.2.2.2.2.1) 4 u.2.2.2.2.2.2))
def MX7_kind (a1 : Int32) (M : md_S) : Option (Int32 × md_S) := pq_cl (fX7_kind a1 (M.2 0) (M.1 0)) fun (u : Int32 × Int32) => some (u.1, (va_up (M.1) 0 u.2, M.2))
def MX7_say (a1 : Int32) (a2 : Int32) (M : md_S) : Option (Int32 × md_S) := pq_cl (fX7_say a1 a2 (M.2 0) aiX7_init_49_0 aiX7_init_62_2 aiX7_init_87_6 aiX7_init_136_14 aiX7_init_239_1 aiX7_init_257_3 aiX7_init_289_7 aiX7_init_345_15 aiX7_init_455_1 aiX7_init_474_3 aiX7_init_505_7 aiX7_init_562_15 aiX7_init_675_1 aiX7_init_692_3 aiX7_init_722_7 aiX7_init_774_15 (M.1 0) (M.1 1) (M.1 2) (M.1 3) (M.2 2)) fun (u : Int32 × Int32 × Int32 × Int32 × Int32 × (Nat → Int32)) => some (u.1, (va_up (va_up (va_up (va_up (M.1) 0 u.2.1) 1 u.2.2.1) 2 u.2.2.2.1) 3 u.2.2.2.2.1, va_up (M.2) 2 u.2.2.2.2.2))
def MX7_pair (a1 : Int32) (a2 : Int32) (a3 : Int32) (M : md_S) : Option (Int32 × md_S) := pq_cl (fX7_pair a1 a2 a3 (M.2 0) aiX7_init_896_11 aiX7_init_975_28 aiX7_init_1177_31 aiX7_init_1403_15 aiX7_init_1512_3 aiX7_init_1544_15 aiX7_init_1651_3 (M.1 0) (M.1 4) (M.1 5) (M.2 3) (M.2 4)) fun (u : Int32 × Int32 × Int32 × Int32 × (Nat → Int32) × (Nat → Int32)) => some (u.1, (va_up (va_up (va_up (M.1) 0 u.2.1) 4 u.2.2.1) 5 u.2.2.2.1, va_up (va_up (M.2) 3 u.2.2.2.2.1) 4 u.2.2.2.2.2))
def MX7_hear (a1 : Int32) (a2 : Int32) (M : md_S) : Option (Int32 × md_S) := pq_cl (fX7_hear a1 a2 (M.2 0) aiX7_init_239_1 aiX7_init_257_3 aiX7_init_289_7 aiX7_init_345_15 aiX7_init_455_1 aiX7_init_474_3 aiX7_init_505_7 aiX7_init_562_15 aiX7_init_675_1 aiX7_init_692_3 aiX7_init_722_7 aiX7_init_774_15 aiX7_init_896_11 aiX7_init_1177_31 aiX7_init_1403_15 aiX7_init_1512_3 aiX7_init_1544_15 aiX7_init_1651_3 aiX7_init_1683_15 aiX7_init_1797_31 (M.1 0) (M.1 1) (M.1 2) (M.1 3) (M.1 4) (M.1 5) (M.2 1) (M.2 2) (M.2 3) (M.2 4)) fun (u : Int32 × Int32 × Int32 × Int32 × Int32 × Int32 × Int32 × (Nat → Int32) × (Nat → Int32) × (Nat → Int32) × (Nat → Int32)) => some (u.1, (va_up (va_up (va_up (va_up (va_up (va_up (M.1) 0 u.2.1) 1 u.2.2.1) 2 u.2.2.2.1) 3 u.2.2.2.2.1) 4 u.2.2.2.2.2.1) 5 u.2.2.2.2.2.2.1, va_up (va_up (va_up (va_up (M.2) 1 u.2.2.2.2.2.2.2.1) 2 u.2.2.2.2.2.2.2.2.1) 3 u.2.2.2.2.2.2.2.2.2.1) 4 u.2.2.2.2.2.2.2.2.2.2))
def MX7_second (a1 : Int32) (M : md_S) : Option (Int32 × md_S) := pq_cl (fX7_second a1 (M.2 0) (M.2 1) (M.1 0)) fun (u : Int32 × Int32) => some (u.1, (va_up (M.1) 0 u.2, M.2))
def MX7_inner (a1 : Int32) (a2 : Int32) (a3 : Int32) (M : md_S) : Option (Int32 × md_S) := pq_cl (fX7_inner a1 a2 a3 (M.2 0) (M.2 2) (M.2 3) (M.2 4) (M.1 0)) fun (u : Int32 × Int32) => some (u.1, (va_up (M.1) 0 u.2, M.2))
def MX7_feed (a1 : Int32) (a2 : Int32) (a3 : Int32) (a4 : Int32) (a5 : Int32) (M : md_S) : Option (Int32 × md_S) := pq_cl (fX7_feed a1 a2 a3 a4 a5 (M.1 0) (M.1 6) (M.2 5)) fun (u : Int32 × Int32 × Int32 × (Nat → Int32)) => some (u.1, (va_up (va_up (M.1) 0 u.2.1) 6 u.2.2.1, va_up (M.2) 5 u.2.2.2))
def MX7_end (a1 : Int32) (M : md_S) : Option (Int32 × md_S) := pq_cl (fX7_end a1 (M.1 0) (M.1 6)) fun (u : Int32 × Int32 × Int32) => some (u.1, (va_up (va_up (M.1) 0 u.2.1) 6 u.2.2, M.2))
def MX7_take (M : md_S) : Option (Int32 × md_S) := pq_cl (fX7_take (M.1 7) (M.2 6) (M.1 0) (M.1 6) (M.2 5)) fun (u : Int32 × Int32 × Int32 × (Nat → Int32)) => some (u.1, (va_up (va_up (M.1) 0 u.2.1) 6 u.2.2.1, va_up (M.2) 5 u.2.2.2))
def MX7_out (a1 : Int32) (M : md_S) : Option (Int32 × md_S) := pq_cl (fX7_out a1 (M.1 7) (M.2 6) (M.1 0)) fun (u : Int32 × Int32) => some (u.1, (va_up (M.1) 0 u.2, M.2))
def MX7_pack (a1 : Int32) (a2 : Int32) (M : md_S) : Option (Int32 × md_S) := pq_cl (fX7_pack a1 a2 (M.2 0) aiX7_init_49_0 aiX7_init_62_2 aiX7_init_87_6 aiX7_init_136_14 aiX7_init_239_1 aiX7_init_257_3 aiX7_init_289_7 aiX7_init_345_15 aiX7_init_455_1 aiX7_init_474_3 aiX7_init_505_7 aiX7_init_562_15 aiX7_init_675_1 aiX7_init_692_3 aiX7_init_722_7 aiX7_init_774_15 aiX7_init_896_11 aiX7_init_975_28 aiX7_init_1177_31 aiX7_init_1403_15 aiX7_init_1512_3 aiX7_init_1544_15 aiX7_init_1651_3 (M.2 5) (M.1 0) (M.1 1) (M.1 2) (M.1 3) (M.1 4) (M.1 5) (M.1 6) (M.1 7) (M.2 2) (M.2 3) (M.2 4) (M.2 6)) fun (u : Int32 × Int32 × Int32 × Int32 × Int32 × Int32 × Int32 × Int32 × Int32 × (Nat → Int32) × (Nat → Int32) × (Nat → Int32) × (Nat → Int32)) => some (u.1, (va_up (va_up (va_up (va_up (va_up (va_up (va_up (va_up (M.1) 0 u.2.1) 1 u.2.2.1) 2 u.2.2.2.1) 3 u.2.2.2.2.1) 4 u.2.2.2.2.2.1) 5 u.2.2.2.2.2.2.1) 6 u.2.2.2.2.2.2.2.1) 7 u.2.2.2.2.2.2.2.2.1, va_up (va_up (va_up (va_up (M.2) 2 u.2.2.2.2.2.2.2.2.2.1) 3 u.2.2.2.2.2.2.2.2.2.2.1) 4 u.2.2.2.2.2.2.2.2.2.2.2.1) 6 u.2.2.2.2.2.2.2.2.2.2.2.2))
def MX7_unpack (a1 : Int32) (a2 : Int32) (a3 : Int32) (M : md_S) : Option (Int32 × md_S) := pq_cl (fX7_unpack a1 a2 a3 (M.2 0) aiX7_init_239_1 aiX7_init_257_3 aiX7_init_289_7 aiX7_init_345_15 aiX7_init_455_1 aiX7_init_474_3 aiX7_init_505_7 aiX7_init_562_15 aiX7_init_675_1 aiX7_init_692_3 aiX7_init_722_7 aiX7_init_774_15 aiX7_init_896_11 aiX7_init_1177_31 aiX7_init_1403_15 aiX7_init_1512_3 aiX7_init_1544_15 aiX7_init_1651_3 aiX7_init_1683_15 aiX7_init_1797_31 (M.2 5) (M.1 0) (M.1 1) (M.1 2) (M.1 3) (M.1 4) (M.1 5) (M.1 6) (M.1 7) (M.2 1) (M.2 2) (M.2 3) (M.2 4) (M.2 6)) fun (u : Int32 × Int32 × Int32 × Int32 × Int32 × Int32 × Int32 × Int32 × Int32 × (Nat → Int32) × (Nat → Int32) × (Nat → Int32) × (Nat → Int32) × (Nat → Int32)) => some (u.1, (va_up (va_up (va_up (va_up (va_up (va_up (va_up (va_up (M.1) 0 u.2.1) 1 u.2.2.1) 2 u.2.2.2.1) 3 u.2.2.2.2.1) 4 u.2.2.2.2.2.1) 5 u.2.2.2.2.2.2.1) 6 u.2.2.2.2.2.2.2.1) 7 u.2.2.2.2.2.2.2.2.1, va_up (va_up (va_up (va_up (va_up (M.2) 1 u.2.2.2.2.2.2.2.2.2.1) 2 u.2.2.2.2.2.2.2.2.2.2.1) 3 u.2.2.2.2.2.2.2.2.2.2.2.1) 4 u.2.2.2.2.2.2.2.2.2.2.2.2.1) 6 u.2.2.2.2.2.2.2.2.2.2.2.2.2))
def MX7_pass (a1 : Int32) (a2 : Int32) (a3 : Int32) (M : md_S) : Option (Int32 × md_S) := pq_cl (fX7_pass a1 a2 a3 (M.2 0) aiX7_init_49_0 aiX7_init_62_2 aiX7_init_87_6 aiX7_init_136_14 aiX7_init_239_1 aiX7_init_257_3 aiX7_init_289_7 aiX7_init_345_15 aiX7_init_455_1 aiX7_init_474_3 aiX7_init_505_7 aiX7_init_562_15 aiX7_init_675_1 aiX7_init_692_3 aiX7_init_722_7 aiX7_init_774_15 aiX7_init_896_11 aiX7_init_975_28 aiX7_init_1177_31 aiX7_init_1403_15 aiX7_init_1512_3 aiX7_init_1544_15 aiX7_init_1651_3 aiX7_init_1683_15 aiX7_init_1797_31 (M.1 0) (M.1 1) (M.1 2) (M.1 3) (M.1 4) (M.1 5) (M.2 1) (M.2 2) (M.2 3) (M.2 4)) fun (u : Int32 × Int32 × Int32 × Int32 × Int32 × Int32 × Int32 × (Nat → Int32) × (Nat → Int32) × (Nat → Int32) × (Nat → Int32)) => some (u.1, (va_up (va_up (va_up (va_up (va_up (va_up (M.1) 0 u.2.1) 1 u.2.2.1) 2 u.2.2.2.1) 3 u.2.2.2.2.1) 4 u.2.2.2.2.2.1) 5 u.2.2.2.2.2.2.1, va_up (va_up (va_up (va_up (M.2) 1 u.2.2.2.2.2.2.2.1) 2 u.2.2.2.2.2.2.2.2.1) 3 u.2.2.2.2.2.2.2.2.2.1) 4 u.2.2.2.2.2.2.2.2.2.2))
def MX7_law (a1 : Int32) (a2 : Int32) (a3 : Int32) (M : md_S) : Option (Int32 × md_S) := pq_cl (fX7_law a1 a2 a3 (M.1 0) (M.1 8) (M.2 7) (M.2 8)) fun (u : Int32 × Int32 × Int32 × (Nat → Int32) × (Nat → Int32)) => some (u.1, (va_up (va_up (M.1) 0 u.2.1) 8 u.2.2.1, va_up (va_up (M.2) 7 u.2.2.2.1) 8 u.2.2.2.2))
def st_open (Rel : dk_S → md_S → Prop) : Prop := ∀ (S : dk_S) (M : md_S) (a1 a2 : Int32), Rel S M → ∃ (r : Int32) (S1 : dk_S) (M1 : md_S), DX6_open a1 a2 S = some (r, S1) ∧ MX7_open a1 a2 M = some (r, M1) ∧ Rel S1 M1
def st_kind (Rel : dk_S → md_S → Prop) : Prop := ∀ (S : dk_S) (M : md_S) (a1 : Int32), Rel S M → ∃ (r : Int32) (S1 : dk_S) (M1 : md_S), DX6_kind a1 S = some (r, S1) ∧ MX7_kind a1 M = some (r, M1) ∧ Rel S1 M1
def st_say (Rel : dk_S → md_S → Prop) : Prop := ∀ (S : dk_S) (M : md_S) (a1 a2 : Int32), Rel S M → ∃ (r : Int32) (S1 : dk_S) (M1 : md_S), DX6_say a1 a2 S = some (r, S1) ∧ MX7_say a1 a2 M = some (r, M1) ∧ Rel S1 M1
def st_pair (Rel : dk_S → md_S → Prop) : Prop := ∀ (S : dk_S) (M : md_S) (a1 a2 a3 : Int32), Rel S M → ∃ (r : Int32) (S1 : dk_S) (M1 : md_S), DX6_pair a1 a2 a3 S = some (r, S1) ∧ MX7_pair a1 a2 a3 M = some (r, M1) ∧ Rel S1 M1
def st_hear (Rel : dk_S → md_S → Prop) : Prop := ∀ (S : dk_S) (M : md_S) (a1 a2 : Int32), Rel S M → ∃ (r : Int32) (S1 : dk_S) (M1 : md_S), DX6_hear a1 a2 S = some (r, S1) ∧ MX7_hear a1 a2 M = some (r, M1) ∧ Rel S1 M1
def st_second (Rel : dk_S → md_S → Prop) : Prop := ∀ (S : dk_S) (M : md_S) (a1 : Int32), Rel S M → ∃ (r : Int32) (S1 : dk_S) (M1 : md_S), DX6_second a1 S = some (r, S1) ∧ MX7_second a1 M = some (r, M1) ∧ Rel S1 M1
def st_inner (Rel : dk_S → md_S → Prop) : Prop := ∀ (S : dk_S) (M : md_S) (a1 a2 a3 : Int32), Rel S M → ∃ (r : Int32) (S1 : dk_S) (M1 : md_S), DX6_inner a1 a2 a3 S = some (r, S1) ∧ MX7_inner a1 a2 a3 M = some (r, M1) ∧ Rel S1 M1
def st_feed (Rel : dk_S → md_S → Prop) : Prop := ∀ (S : dk_S) (M : md_S) (a1 a2 a3 a4 a5 : Int32), Rel S M → ∃ (r : Int32) (S1 : dk_S) (M1 : md_S), DX6_feed a1 a2 a3 a4 a5 S = some (r, S1) ∧ MX7_feed a1 a2 a3 a4 a5 M = some (r, M1) ∧ Rel S1 M1
def st_end (Rel : dk_S → md_S → Prop) : Prop := ∀ (S : dk_S) (M : md_S) (a1 : Int32), Rel S M → ∃ (r : Int32) (S1 : dk_S) (M1 : md_S), DX6_end a1 S = some (r, S1) ∧ MX7_end a1 M = some (r, M1) ∧ Rel S1 M1
def st_take (Rel : dk_S → md_S → Prop) : Prop := ∀ (S : dk_S) (M : md_S), Rel S M → ∃ (r : Int32) (S1 : dk_S) (M1 : md_S), DX6_take  S = some (r, S1) ∧ MX7_take  M = some (r, M1) ∧ Rel S1 M1
def st_out (Rel : dk_S → md_S → Prop) : Prop := ∀ (S : dk_S) (M : md_S) (a1 : Int32), Rel S M → ∃ (r : Int32) (S1 : dk_S) (M1 : md_S), DX6_out a1 S = some (r, S1) ∧ MX7_out a1 M = some (r, M1) ∧ Rel S1 M1
def st_pack (Rel : dk_S → md_S → Prop) : Prop := ∀ (S : dk_S) (M : md_S) (a1 a2 : Int32), Rel S M → ∃ (r : Int32) (S1 : dk_S) (M1 : md_S), DX6_pack a1 a2 S = some (r, S1) ∧ MX7_pack a1 a2 M = some (r, M1) ∧ Rel S1 M1
def st_unpack (Rel : dk_S → md_S → Prop) : Prop := ∀ (S : dk_S) (M : md_S) (a1 a2 a3 : Int32), Rel S M → ∃ (r : Int32) (S1 : dk_S) (M1 : md_S), DX6_unpack a1 a2 a3 S = some (r, S1) ∧ MX7_unpack a1 a2 a3 M = some (r, M1) ∧ Rel S1 M1
def st_pass (Rel : dk_S → md_S → Prop) : Prop := ∀ (S : dk_S) (M : md_S) (a1 a2 a3 : Int32), Rel S M → ∃ (r : Int32) (S1 : dk_S) (M1 : md_S), DX6_pass a1 a2 a3 S = some (r, S1) ∧ MX7_pass a1 a2 a3 M = some (r, M1) ∧ Rel S1 M1
def st_law (Rel : dk_S → md_S → Prop) : Prop := ∀ (S : dk_S) (M : md_S) (a1 a2 a3 : Int32), Rel S M → ∃ (r : Int32) (S1 : dk_S) (M1 : md_S), DX6_law a1 a2 a3 S = some (r, S1) ∧ MX7_law a1 a2 a3 M = some (r, M1) ∧ Rel S1 M1
def st_all (Rel : dk_S → md_S → Prop) : Prop := st_open Rel ∧ st_kind Rel ∧ st_say Rel ∧ st_pair Rel ∧ st_hear Rel ∧ st_second Rel ∧ st_inner Rel ∧ st_feed Rel ∧ st_end Rel ∧ st_take Rel ∧ st_out Rel ∧ st_pack Rel ∧ st_unpack Rel ∧ st_pass Rel ∧ st_law Rel
def dk_L0 : dk_Ln := (fun j => ([-100000, 2, 0, 0, 0, 2, 0, 0, 0, 0, 0] : List Int32).getD j 0, fun _ _ => 0)
def dk_S0 : dk_S := (fun _ => dk_L0, ((fun _ => 0), 0), ((fun _ => 0), 0))
def md_M0 : md_S := (fun _ => 0, fun j => if j = 0 then aiX7_init_6_3 else fun _ => 0)
end
section
/-! the two states side by side, and every call between them -/
theorem tB : mt4 aiX7_init_49_0 aiX7_init_62_2 aiX7_init_87_6 aiX7_init_136_14 lB2 lB3 lB4 lB5 := ⟨by unfold mt; decide +kernel, by unfold mt; decide +kernel, by unfold mt; decide +kernel, by unfold mt; decide +kernel⟩
theorem tT : mt4 aiX7_init_239_1 aiX7_init_257_3 aiX7_init_289_7 aiX7_init_345_15 lT2 lT3 lT4 lT5 := ⟨by unfold mt; decide +kernel, by unfold mt; decide +kernel, by unfold mt; decide +kernel, by unfold mt; decide +kernel⟩
theorem tW : mt4 aiX7_init_455_1 aiX7_init_474_3 aiX7_init_505_7 aiX7_init_562_15 lW2 lW3 lW4 lW5 := ⟨by unfold mt; decide +kernel, by unfold mt; decide +kernel, by unfold mt; decide +kernel, by unfold mt; decide +kernel⟩
theorem tP : mt4 aiX7_init_675_1 aiX7_init_692_3 aiX7_init_722_7 aiX7_init_774_15 lP2 lP3 lP4 lP5 := ⟨by unfold mt; decide +kernel, by unfold mt; decide +kernel, by unfold mt; decide +kernel, by unfold mt; decide +kernel⟩
theorem tfc : mt aiX7_init_896_11 lCo := by unfold mt; decide +kernel
theorem tfs : mt aiX7_init_975_28 lSt := by unfold mt; decide +kernel
theorem tfr : mt aiX7_init_1177_31 lRoots := by unfold mt; decide +kernel
theorem tfu : mt aiX7_init_1403_15 lUps := by unfold mt; decide +kernel
theorem tfh : mt aiX7_init_1512_3 lHig := by unfold mt; decide +kernel
theorem tfl : mt aiX7_init_1544_15 lLw := by unfold mt; decide +kernel
theorem tfw : mt aiX7_init_1651_3 lHw := by unfold mt; decide +kernel
theorem t56 : mt aiX7_init_1683_15 lH56 := by unfold mt; decide +kernel
theorem t64 : mt aiX7_init_1797_31 lH64 := by unfold mt; decide +kernel
def RB (T : dk_T) (taped outs : Int32) (tape out : Nat → Int32) : Prop := ∃ t o : Nat, t ≤ 1000 ∧ o ≤ 1000 ∧ T.1.2 = nI t ∧ taped = nI t ∧ ag t T.1.1 tape ∧ T.2.2 = nI o ∧ outs = nI o ∧ ag o T.2.1 out
def Rel (S : dk_S) (M : md_S) : Prop := (∀ k, k < 4 → LR k (S.1 k) (M.2 0) (M.2 1) (M.2 2) (M.2 3) (M.2 4)) ∧ RB S.2 (M.1 6) (M.1 7) (M.2 5) (M.2 6) ∧ RF (M.1 8) (M.2 7) (M.2 8)
theorem ix4 (a : Int32) : (a < 0 ∨ nI 4 ≤ a) ∨ ∃ k, k < 4 ∧ a = nI k := by
  rcases pk_ix a (n := 4) (by omega) with g | g | g
  · exact Or.inl (Or.inl g)
  · exact Or.inl (Or.inr g)
  · exact Or.inr g
theorem in4 {k : Nat} (hk : k < 4) : ¬ (nI k < 0 ∨ nI 4 ≤ nI k) := fun h => h.elim (nI_pos (by omega)) (nI_ge hk (by omega))
theorem lines0 {k : Nat} {Sl : Nat → dk_Ln} {fk fse g b v : Nat → Int32} (h : ∀ j, j < 4 → LR j (Sl j) fk fse g b v) : ∀ j, j < 4 → LR j (va_up Sl k (Sl k) j) fk fse g b v := by
  intro j hj
  unfold va_up
  by_cases e : j = k
  · rw [if_pos e, ← e]; exact h j hj
  · rw [if_neg e]; exact h j hj
theorem lines2 {k s1 s2 : Nat} {Sl : Nat → dk_Ln} {L1 : dk_Ln} {fk fse g b v fk1 fse1 g1 b1 v1 g2 b2 v2 : Nat → Int32} (hk : LR k L1 fk1 fse1 g2 b2 v2) (h : ∀ j, j < 4 → LR j (Sl j) fk fse g b v) (hfk : ∀ p, p ≠ k → fk1 p = fk p) (hse : ∀ p, p ≠ k → fse1 p = fse p) (f1 : frm s1 g b v g1 b1 v1) (f2 : frm s2 g1 b1 v1 g2 b2 v2) (h1 : s1 = 2 * k ∨ s1 = 2 * k + 1) (h2 : s2 = 2 * k ∨ s2 = 2 * k + 1) : ∀ j, j < 4 → LR j (va_up Sl k L1 j) fk1 fse1 g2 b2 v2 := by
  intro j hj
  unfold va_up
  by_cases e : j = k
  · subst e; rw [if_pos rfl]; exact hk
  · rw [if_neg e]; exact ((h j hj).other (hfk j e) (hse j e) (by omega) (by omega) f1).other rfl rfl (by omega) (by omega) f2
theorem lines3 {k1 k2 : Nat} (hne : k1 ≠ k2) {Sl : Nat → dk_Ln} {L1 L2 : dk_Ln} {fk fse g b v fse1 g1 b1 v1 g2 b2 v2 : Nat → Int32} (hk : LR k1 L1 fk fse1 g2 b2 v2) (hk2 : LR k2 L2 fk fse1 g2 b2 v2) (h : ∀ j, j < 4 → LR j (Sl j) fk fse g b v) (hse : ∀ p, p ≠ k1 → fse1 p = fse p) (f1 : frm (2 * k1 + 1) g b v g1 b1 v1) (f2 : frm (2 * k2) g1 b1 v1 g2 b2 v2) : ∀ j, j < 4 → LR j (va_up (va_up Sl k1 L1) k2 L2 j) fk fse1 g2 b2 v2 := by
  intro j hj
  unfold va_up
  by_cases e : j = k2
  · subst e; rw [if_pos rfl]; exact hk2
  · rw [if_neg e]
    by_cases e1 : j = k1
    · subst e1; rw [if_pos rfl]; exact hk
    · rw [if_neg e1]; exact ((h j hj).other rfl (hse j e1) (by omega) (by omega) f1).other rfl rfl (by omega) (by omega) f2
theorem ok_kind : st_kind Rel := by
  intro S M a1 h
  rcases ix4 a1 with g | ⟨k, hk, rfl⟩
  · rw [DX6_kind, if_pos g, EX6_kind_o, fX6_kind_o, ol_o g, cl_eq, cl_eq, cl_eq, MX7_kind, fX7_kind, rk_line_o g, cl_eq, br_t1 rfl, cl_eq]
    exact ⟨_, _, _, rfl, rfl, h.1, h.2.1, h.2.2⟩
  · obtain ⟨k1, k2⟩ := kind_L hk (h.1 k hk) (M.1 0)
    rw [DX6_kind, if_neg (in4 hk), nI_clamp (by omega), EX6_kind_i, k1, cl_eq, cl_eq, MX7_kind, k2, cl_eq]
    exact ⟨_, _, _, rfl, rfl, lines0 h.1, h.2.1, h.2.2⟩
theorem ok_second : st_second Rel := by
  intro S M a1 h
  rcases ix4 a1 with g | ⟨k, hk, rfl⟩
  · rw [DX6_second, if_pos g, EX6_second_o, fX6_second_o, ol_o g, cl_eq, cl_eq, cl_eq, MX7_second, fX7_second, rk_open_o g, cl_eq, br_t1 rfl, cl_eq]
    exact ⟨_, _, _, rfl, rfl, h.1, h.2.1, h.2.2⟩
  · obtain ⟨r, k1, k2⟩ := second_L hk (h.1 k hk) (M.1 0)
    rw [DX6_second, if_neg (in4 hk), nI_clamp (by omega), EX6_second_i, k1, cl_eq, cl_eq, MX7_second, k2, cl_eq]
    exact ⟨_, _, _, rfl, rfl, lines0 h.1, h.2.1, h.2.2⟩
theorem ok_inner : st_inner Rel := by
  intro S M a1 a2 a3 h
  rcases ix4 a1 with g | ⟨k, hk, rfl⟩
  · rw [DX6_inner, if_pos g, EX6_inner_o, fX6_inner_o, ol_o g, cl_eq, cl_eq, cl_eq, MX7_inner, fX7_inner, rk_open_o g, cl_eq, br_t1 rfl, cl_eq]
    exact ⟨_, _, _, rfl, rfl, h.1, h.2.1, h.2.2⟩
  · obtain ⟨r, k1, k2⟩ := inner_L hk (h.1 k hk) a2 a3 (M.1 0)
    rw [DX6_inner, if_neg (in4 hk), nI_clamp (by omega), EX6_inner_i, k1, cl_eq, cl_eq, MX7_inner, k2, cl_eq]
    exact ⟨_, _, _, rfl, rfl, lines0 h.1, h.2.1, h.2.2⟩
theorem ok_say : st_say Rel := by
  intro S M a1 a2 h
  rcases ix4 a1 with g | ⟨k, hk, rfl⟩
  · rw [DX6_say, if_pos g, EX6_say_o, fX6_say_o, ol_o g, cl_eq, cl_eq, cl_eq, MX7_say, fX7_say, rk_open_o g, cl_eq, br_t1 rfl, cl_eq]
    exact ⟨_, _, _, rfl, rfl, h.1, h.2.1, h.2.2⟩
  · obtain ⟨r, se1, sz1, st1, z1, e1, y1, n1, lo1, hi1, x1, g1, k1, k2, k3, k4⟩ := say_L tB tT tW tP hk (h.1 k hk) a2 (M.1 0) (M.1 1) (M.1 2) (M.1 3)
    rw [DX6_say, if_neg (in4 hk), nI_clamp (by omega), EX6_say_i, k1, cl_eq, cl_eq, MX7_say, k2, cl_eq]
    exact ⟨_, _, _, rfl, rfl, lines2 k4 h.1 (fun _ _ => rfl) (fun _ _ => rfl) k3 (frm.rf _ _ _ _) (Or.inl rfl) (Or.inl rfl), h.2.1, h.2.2⟩
theorem ok_pair : st_pair Rel := by
  intro S M a1 a2 a3 h
  rcases ix4 a1 with g | ⟨k, hk, rfl⟩
  · rw [DX6_pair, if_pos g, EX6_pair_o, fX6_pair_o, ol_o g, cl_eq, cl_eq, cl_eq, MX7_pair, fX7_pair, rk_open_o g, cl_eq, br_t1 rfl, cl_eq]
    exact ⟨_, _, _, rfl, rfl, h.1, h.2.1, h.2.2⟩
  · obtain ⟨r, se1, sz1, st1, od1, ev1, n1, lo1, hi1, x1, b1, v1, k1, k2, k3, k4⟩ := pair_L tfc tfs tfr tfu tfh tfl tfw hk (h.1 k hk) a2 a3 (M.1 0) (M.1 4) (M.1 5)
    rw [DX6_pair, if_neg (in4 hk), nI_clamp (by omega), EX6_pair_i, k1, cl_eq, cl_eq, MX7_pair, k2, cl_eq]
    exact ⟨_, _, _, rfl, rfl, lines2 k4 h.1 (fun _ _ => rfl) (fun _ _ => rfl) k3 (frm.rf _ _ _ _) (Or.inl rfl) (Or.inl rfl), h.2.1, h.2.2⟩
theorem ok_hear : st_hear Rel := by
  intro S M a1 a2 h
  rcases ix4 a1 with g | ⟨k, hk, rfl⟩
  · rw [DX6_hear, if_pos g, EX6_hear_o, fX6_hear_o, ol_o g, cl_eq, cl_eq, cl_eq, MX7_hear, fX7_hear, rk_open_o g, cl_eq, br_t1 rfl, cl_eq]
    exact ⟨_, _, _, rfl, rfl, h.1, h.2.1, h.2.2⟩
  · obtain ⟨r, se1, sz1, st1, sec1, z1, e1, y1, od1, ev1, n1, lo1, hi1, x1, fse1, g1, b1, v1, k1, k2, k3, k4, k5⟩ := hear_L tT tW tP tfc tfr tfu tfh tfl tfw t56 t64 hk (h.1 k hk) a2 (M.1 0) (M.1 1) (M.1 2) (M.1 3) (M.1 4) (M.1 5)
    rw [DX6_hear, if_neg (in4 hk), nI_clamp (by omega), EX6_hear_i, k1, cl_eq, cl_eq, MX7_hear, k2, cl_eq]
    exact ⟨_, _, _, rfl, rfl, lines2 k5 h.1 (fun _ _ => rfl) k4 k3 (frm.rf _ _ _ _) (Or.inr rfl) (Or.inr rfl), h.2.1, h.2.2⟩
theorem ok_open : st_open Rel := by
  intro S M a1 a2 h
  rcases ix4 a1 with g | ⟨k, hk, rfl⟩
  · have e : fX6_open_o a1 a2 = some 0 := by
      rw [fX6_open_o]
      by_cases g0 : a1 < (0 : Int32)
      · rw [br_t1 g0]
      · rw [br_f1 g0, br_t1 (show (4 : Int32) ≤ a1 from g.resolve_left g0)]
    rw [DX6_open, if_pos g, EX6_open_o, e, cl_eq, cl_eq, MX7_open, fX7_open, rk_line_o g, cl_eq, br_t1 rfl, cl_eq]
    exact ⟨_, _, _, rfl, rfl, h.1, h.2.1, h.2.2⟩
  · obtain ⟨r, kd, bS, bH, sS, sH, nS, nH, loS, hiS, xS, loH, hiH, xH, fk1, fse1, g1, b1, v1, g2, b2, v2, k1, k2, k3, k4, k5, k6, k7⟩ := open_L hk (h.1 k hk) a2 (M.1 0)
    rw [DX6_open, if_neg (in4 hk), nI_clamp (by omega), EX6_open_i, k1, cl_eq, cl_eq, MX7_open, k2, cl_eq]
    exact ⟨_, _, _, rfl, rfl, lines2 k7 h.1 k3 k4 k5 k6 (Or.inl rfl) (Or.inr rfl), h.2.1, h.2.2⟩
theorem ok_feed : st_feed Rel := by
  intro S M a1 a2 a3 a4 a5 h
  obtain ⟨t, o, ht, ho, e1, e2, hT, e3, e4, hO⟩ := h.2.1
  obtain ⟨t1, y, r1, f1, k0, k1, k2, k3⟩ := feed_both ht a1 a2 a3 a4 a5 (M.1 0) hT
  rw [DX6_feed, EX6_feed, e1, k1, cl_eq, cl_eq, MX7_feed, e2, k2, cl_eq]
  exact ⟨_, _, _, rfl, rfl, h.1, ⟨t1, o, k0, ho, rfl, rfl, k3, e3, e4, hO⟩, h.2.2⟩
theorem ok_end : st_end Rel := by
  intro S M a1 h
  obtain ⟨t, o, ht, ho, e1, e2, hT, e3, e4, hO⟩ := h.2.1
  obtain ⟨t1, y, k0, k1, k2⟩ := end_both ht a1 (M.1 0)
  rw [DX6_end, EX6_end, e1, k1, cl_eq, cl_eq, MX7_end, e2, k2, cl_eq]
  exact ⟨_, _, _, rfl, rfl, h.1, ⟨t1, o, Nat.le_trans k0 ht, ho, rfl, rfl, hT.le k0, e3, e4, hO⟩, h.2.2⟩
theorem ok_take : st_take Rel := by
  intro S M h
  obtain ⟨t, o, ht, ho, e1, e2, hT, e3, e4, hO⟩ := h.2.1
  obtain ⟨r1, f1, k1, k2, k3⟩ := take_both ho (M.1 6) S.2.1.2 (M.1 0) S.2.1.1 (M.2 5) hO
  rw [DX6_take, EX6_take, e3, k1, cl_eq, cl_eq, MX7_take, e4, k2, cl_eq]
  exact ⟨_, _, _, rfl, rfl, h.1, ⟨o, o, ho, ho, rfl, rfl, k3, rfl, e4, hO⟩, h.2.2⟩
theorem ok_out : st_out Rel := by
  intro S M a1 h
  obtain ⟨t, o, ht, ho, e1, e2, hT, e3, e4, hO⟩ := id h.2.1
  obtain ⟨y, k1, k2⟩ := out_both ho a1 (M.1 0) hO
  rw [DX6_out, EX6_out, e3, k1, cl_eq, cl_eq, MX7_out, e4, k2, cl_eq]
  exact ⟨_, _, _, rfl, rfl, h.1, h.2.1, h.2.2⟩
theorem ok_pack : st_pack Rel := by
  intro S M a1 a2 h
  rcases ix4 a1 with g | ⟨k, hk, rfl⟩
  · rw [DX6_pack, if_pos g, EX6_pack_o, fX6_pack_o, ol_o g, cl_eq, cl_eq, cl_eq, MX7_pack, fX7_pack, rk_open_o g, cl_eq, br_t1 rfl, cl_eq]
    exact ⟨_, _, _, rfl, rfl, h.1, h.2.1, h.2.2⟩
  · obtain ⟨t, o, ht, ho, e1, e2, hT, e3, e4, hO⟩ := h.2.1
    obtain ⟨w, t1, o1, se1, sz1, st1, z1, e1', y1, od1, ev1, n1, lo1, hi1, x1, g1, b1, v1, r1, f1, k0, k0', k1, k2, k3, k4, k5⟩ := pack_L tB tT tW tP tfc tfs tfr tfu tfh tfl tfw hk ht ho hT hO (h.1 k hk) a2 (M.1 0) (M.1 1) (M.1 2) (M.1 3) (M.1 4) (M.1 5)
    rw [DX6_pack, if_neg (in4 hk), nI_clamp (by omega), EX6_pack_i, e1, e3, k1, cl_eq, cl_eq, MX7_pack, e2, e4, k2, cl_eq]
    exact ⟨_, _, _, rfl, rfl, lines2 k5 h.1 (fun _ _ => rfl) (fun _ _ => rfl) k3 (frm.rf _ _ _ _) (Or.inl rfl) (Or.inl rfl), ⟨t1, o1, Nat.le_trans k0 ht, k0', rfl, rfl, hT.le k0, rfl, rfl, k4⟩, h.2.2⟩
theorem ok_unpack : st_unpack Rel := by
  intro S M a1 a2 a3 h
  rcases ix4 a1 with g | ⟨k, hk, rfl⟩
  · rw [DX6_unpack, if_pos g, EX6_unpack_o, fX6_unpack_o, ol_o g, cl_eq, cl_eq, cl_eq, MX7_unpack, fX7_unpack, rk_open_o g, cl_eq, br_t1 rfl, cl_eq]
    exact ⟨_, _, _, rfl, rfl, h.1, h.2.1, h.2.2⟩
  · obtain ⟨t, o, ht, ho, e1, e2, hT, e3, e4, hO⟩ := h.2.1
    obtain ⟨w, t1, o1, se1, sz1, st1, sec1, z1, e1', y1, od1, ev1, n1, lo1, hi1, x1, fse1, g1, b1, v1, r1, f1, k0, k0', k1, k2, k3, k4, k5, k6⟩ := unpack_L tT tW tP tfc tfr tfu tfh tfl tfw t56 t64 hk ht ho hT hO (h.1 k hk) a2 a3 (M.1 0) (M.1 1) (M.1 2) (M.1 3) (M.1 4) (M.1 5)
    rw [DX6_unpack, if_neg (in4 hk), nI_clamp (by omega), EX6_unpack_i, e1, e3, k1, cl_eq, cl_eq, MX7_unpack, e2, e4, k2, cl_eq]
    exact ⟨_, _, _, rfl, rfl, lines2 k6 h.1 (fun _ _ => rfl) k4 k3 (frm.rf _ _ _ _) (Or.inr rfl) (Or.inr rfl), ⟨t1, o1, Nat.le_trans k0 ht, k0', rfl, rfl, hT.le k0, rfl, rfl, k5⟩, h.2.2⟩
theorem ok_law : st_law Rel := by
  intro S M a1 a2 a3 h
  obtain ⟨r, f1, l1, g1, k1, k2, k3⟩ := law_both h.2.2 a1 a2 a3 (M.1 0)
  rw [DX6_law, EX6_law, k1, cl_eq, cl_eq, MX7_law, k2, cl_eq]
  exact ⟨_, _, _, rfl, rfl, h.1, h.2.1, k3⟩
theorem pass_ro {a1 a2 : Int32} (a3 : Int32) (M : md_S) (h : (a1 < 0 ∨ nI 4 ≤ a1) ∨ ((∃ k, k < 4 ∧ a1 = nI k ∧ (M.2 0 k = -100000 ∨ ∃ q, q < 9 ∧ M.2 0 k = nI q)) ∧ (a2 < 0 ∨ nI 4 ≤ a2))) : MX7_pass a1 a2 a3 M = some (-100000, (va_up (va_up (va_up (va_up (va_up (va_up (M.1) 0 0) 1 (M.1 1)) 2 (M.1 2)) 3 (M.1 3)) 4 (M.1 4)) 5 (M.1 5), va_up (va_up (va_up (va_up (M.2) 1 (M.2 1)) 2 (M.2 2)) 3 (M.2 3)) 4 (M.2 4))) := by
  rcases h with g | ⟨⟨k, hk, rfl, hq⟩, g2⟩
  · rw [MX7_pass, fX7_pass, rk_open_o g, cl_eq, br_t1 rfl, cl_eq]
  · rw [MX7_pass, fX7_pass, rk_open hk]
    rcases hq with c | ⟨q, hq, hf⟩
    · rw [if_pos c, cl_eq, br_t1 rfl, cl_eq]
    · rw [if_neg (by rw [hf]; exact ne_NONE q hq), cl_eq, br_f1 one]
      rcases has_both hk hq hf a3 with ⟨s1, s2⟩ | ⟨c, hc, -, s1, s2⟩
      · rw [s2, cl_eq, br_t1 rfl, cl_eq]
      · rw [s2, cl_eq, br_f1 one, rk_open_o g2, cl_eq, br_t1 rfl, cl_eq]
theorem ok_pass : st_pass Rel := by
  intro S M a1 a2 a3 h
  rcases ix4 a1 with g1 | ⟨k1, hk1, rfl⟩
  · rcases ix4 a2 with g2 | ⟨k2, hk2, rfl⟩
    · rw [DX6_pass, if_pos g1, if_pos g2, EX6_pass_oo, fX6_pass_oo, ol_o g1, cl_eq, ol_o g2, cl_eq, cl_eq, cl_eq, pass_ro a3 M (Or.inl g1)]
      exact ⟨_, _, _, rfl, rfl, h.1, h.2.1, h.2.2⟩
    · rw [DX6_pass, if_pos g1, if_neg (in4 hk2), nI_clamp (by omega), EX6_pass_oi, fX6_pass_oi, ol_o g1, cl_eq, ol_i hk2, cl_eq, br_s, cl_eq, cl_eq, pass_ro a3 M (Or.inl g1)]
      exact ⟨_, _, _, rfl, rfl, lines0 h.1, h.2.1, h.2.2⟩
  · rcases ix4 a2 with g2 | ⟨k2, hk2, rfl⟩
    · have hq : M.2 0 k1 = -100000 ∨ ∃ q, q < 9 ∧ M.2 0 k1 = nI q := by
        obtain ⟨e0, c | ⟨q, hq, eq, -⟩⟩ := h.1 k1 hk1
        · exact Or.inl (e0.trans c)
        · exact Or.inr ⟨q, hq, e0.trans eq⟩
      rw [DX6_pass, if_neg (in4 hk1), if_pos g2, nI_clamp (by omega), EX6_pass_io, fX6_pass_io, ol_i hk1, cl_eq, ol_o g2, br_s, cl_eq, cl_eq, cl_eq, pass_ro a3 M (Or.inr ⟨⟨k1, hk1, rfl, hq⟩, g2⟩)]
      exact ⟨_, _, _, rfl, rfl, lines0 h.1, h.2.1, h.2.2⟩
    · by_cases e : k1 = k2
      · subst e
        obtain ⟨r, se1, sz1, st1, sec1, se2, sz2, st2, z1, e1, y1, od1, ev1, n1, lo1, hi1, x1, n2, lo2, hi2, x2, fse1, g1, bb1, v1, g2, bb2, v2, m1, m2, m3, m4, m5, m6⟩ := pass_is_L tB tT tW tP tfc tfs tfr tfu tfh tfl tfw t56 t64 hk1 (h.1 k1 hk1) a3 (M.1 0) (M.1 1) (M.1 2) (M.1 3) (M.1 4) (M.1 5)
        rw [DX6_pass, if_neg (in4 hk1), if_neg (in4 hk1), if_pos rfl, nI_clamp (by omega), EX6_pass_is, m1, cl_eq, cl_eq, MX7_pass, m2, cl_eq]
        exact ⟨_, _, _, rfl, rfl, lines2 m6 h.1 (fun _ _ => rfl) m5 m3 m4 (Or.inr rfl) (Or.inl rfl), h.2.1, h.2.2⟩
      · obtain ⟨r, se1, sz1, st1, sec1, se2, sz2, st2, z1, e1, y1, od1, ev1, n1, lo1, hi1, x1, n2, lo2, hi2, x2, fse1, g1, bb1, v1, g2, bb2, v2, m1, m2, m3, m4, m5, m6, m7⟩ := pass_ii_L tB tT tW tP tfc tfs tfr tfu tfh tfl tfw t56 t64 hk1 hk2 e (h.1 k1 hk1) (h.1 k2 hk2) a3 (M.1 0) (M.1 1) (M.1 2) (M.1 3) (M.1 4) (M.1 5)
        rw [DX6_pass, if_neg (in4 hk1), if_neg (in4 hk2), if_neg (fun z => e ((nI_eq (by omega) (by omega)).mp z)), nI_clamp (n := k1) (by omega), nI_clamp (n := k2) (by omega), EX6_pass_ii, m1, cl_eq, cl_eq, MX7_pass, m2, cl_eq]
        exact ⟨_, _, _, rfl, rfl, lines3 e m6 m7 h.1 m5 m3 m4, h.2.1, h.2.2⟩
theorem st_ok : st_all Rel := ⟨ok_open, ok_kind, ok_say, ok_pair, ok_hear, ok_second, ok_inner, ok_feed, ok_end, ok_take, ok_out, ok_pack, ok_unpack, ok_pass, ok_law⟩
theorem rel_0 : Rel dk_S0 md_M0 := ⟨fun k hk => ⟨(by decide +kernel : ∀ k, k < 4 → md_M0.2 0 k = (-100000 : Int32)) k hk, Or.inl rfl⟩, ⟨0, 0, by omega, by omega, rfl, rfl, fun j hj => absurd hj (by omega), rfl, rfl, fun j hj => absurd hj (by omega)⟩, Or.inl rfl⟩
end
