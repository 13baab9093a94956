section
-- ===== PART A: goes FIRST, ahead of the names: the tables' words, and 'selects' of the private methods out of them =====
/-- a private method of a class that the tables say can be made, by its rows of tables_1 -/
def lw_okq (q : MethodName × Nat) : Prop := (q.1.cls ≠ "java/lang/invoke/MethodHandle" ∧ q.1.cls ≠ "java/lang/invoke/VarHandle") ∧ Cond.instantiable q.1.cls q.2 ∈ tables_1 ∧ Cond.privateMethod q.1 ∈ tables_1 ∧ Cond.instanceMethod q.1 ∈ tables_1
theorem lw_p0 : lw_okq (⟨"VoiceDesk", "openLine", "(I)LVoiceDesk$Line;"⟩, 3) := ⟨⟨by decide +kernel, by decide +kernel⟩, List.mem_of_getElem? (i := 11) (by decide +kernel), List.mem_of_getElem? (i := 154) (by decide +kernel), List.mem_of_getElem? (i := 155) (by decide +kernel)⟩
theorem lw_p1 : lw_okq (⟨"VoiceDesk$Wideband", "push", "(II)V"⟩, 4) := ⟨⟨by decide +kernel, by decide +kernel⟩, List.mem_of_getElem? (i := 49) (by decide +kernel), List.mem_of_getElem? (i := 175) (by decide +kernel), List.mem_of_getElem? (i := 176) (by decide +kernel)⟩
theorem lw_p2 : lw_okq (⟨"VoiceDesk$Wideband", "evenSum", "()I"⟩, 4) := ⟨⟨by decide +kernel, by decide +kernel⟩, List.mem_of_getElem? (i := 49) (by decide +kernel), List.mem_of_getElem? (i := 179) (by decide +kernel), List.mem_of_getElem? (i := 180) (by decide +kernel)⟩
theorem lw_p3 : lw_okq (⟨"VoiceDesk$Wideband", "oddSum", "()I"⟩, 4) := ⟨⟨by decide +kernel, by decide +kernel⟩, List.mem_of_getElem? (i := 49) (by decide +kernel), List.mem_of_getElem? (i := 185) (by decide +kernel), List.mem_of_getElem? (i := 186) (by decide +kernel)⟩
theorem lw_p4 : lw_okq (⟨"VoiceDesk$Wideband", "lowCode", "(I)I"⟩, 4) := ⟨⟨by decide +kernel, by decide +kernel⟩, List.mem_of_getElem? (i := 49) (by decide +kernel), List.mem_of_getElem? (i := 196) (by decide +kernel), List.mem_of_getElem? (i := 197) (by decide +kernel)⟩
theorem lw_p5 : lw_okq (⟨"VoiceDesk$Wideband", "highCode", "(I)I"⟩, 4) := ⟨⟨by decide +kernel, by decide +kernel⟩, List.mem_of_getElem? (i := 49) (by decide +kernel), List.mem_of_getElem? (i := 206) (by decide +kernel), List.mem_of_getElem? (i := 207) (by decide +kernel)⟩
theorem lw_p6 : lw_okq (⟨"VoiceDesk$Wideband", "settle", "(II)V"⟩, 4) := ⟨⟨by decide +kernel, by decide +kernel⟩, List.mem_of_getElem? (i := 49) (by decide +kernel), List.mem_of_getElem? (i := 210) (by decide +kernel), List.mem_of_getElem? (i := 211) (by decide +kernel)⟩
theorem lw_p7 : lw_okq (⟨"VoiceDesk$Band", "difference", "(I)I"⟩, 1) := ⟨⟨by decide +kernel, by decide +kernel⟩, List.mem_of_getElem? (i := 55) (by decide +kernel), List.mem_of_getElem? (i := 222) (by decide +kernel), List.mem_of_getElem? (i := 223) (by decide +kernel)⟩
theorem lw_p8 : lw_okq (⟨"VoiceDesk$Band", "adaptScale", "(III)V"⟩, 1) := ⟨⟨by decide +kernel, by decide +kernel⟩, List.mem_of_getElem? (i := 55) (by decide +kernel), List.mem_of_getElem? (i := 226) (by decide +kernel), List.mem_of_getElem? (i := 227) (by decide +kernel)⟩
theorem lw_p9 : lw_okq (⟨"VoiceDesk$Band", "adaptPoles", "(I)V"⟩, 1) := ⟨⟨by decide +kernel, by decide +kernel⟩, List.mem_of_getElem? (i := 55) (by decide +kernel), List.mem_of_getElem? (i := 235) (by decide +kernel), List.mem_of_getElem? (i := 236) (by decide +kernel)⟩
theorem lw_p10 : lw_okq (⟨"VoiceDesk$Band", "adaptZeros", "(I)V"⟩, 1) := ⟨⟨by decide +kernel, by decide +kernel⟩, List.mem_of_getElem? (i := 55) (by decide +kernel), List.mem_of_getElem? (i := 245) (by decide +kernel), List.mem_of_getElem? (i := 246) (by decide +kernel)⟩
theorem lw_p11 : lw_okq (⟨"VoiceDesk$Band", "remember", "(III)V"⟩, 1) := ⟨⟨by decide +kernel, by decide +kernel⟩, List.mem_of_getElem? (i := 55) (by decide +kernel), List.mem_of_getElem? (i := 249) (by decide +kernel), List.mem_of_getElem? (i := 250) (by decide +kernel)⟩
theorem lw_p12 : lw_okq (⟨"VoiceDesk$Band", "product", "(II)I"⟩, 1) := ⟨⟨by decide +kernel, by decide +kernel⟩, List.mem_of_getElem? (i := 55) (by decide +kernel), List.mem_of_getElem? (i := 253) (by decide +kernel), List.mem_of_getElem? (i := 254) (by decide +kernel)⟩
theorem lw_p13 : lw_okq (⟨"VoiceDesk$Adpcm", "foresee", "()V"⟩, 5) := ⟨⟨by decide +kernel, by decide +kernel⟩, List.mem_of_getElem? (i := 26) (by decide +kernel), List.mem_of_getElem? (i := 265) (by decide +kernel), List.mem_of_getElem? (i := 266) (by decide +kernel)⟩
theorem lw_p14 : lw_okq (⟨"VoiceDesk$Adpcm", "stepNow", "()I"⟩, 5) := ⟨⟨by decide +kernel, by decide +kernel⟩, List.mem_of_getElem? (i := 26) (by decide +kernel), List.mem_of_getElem? (i := 284) (by decide +kernel), List.mem_of_getElem? (i := 285) (by decide +kernel)⟩
theorem lw_p15 : lw_okq (⟨"VoiceDesk$Adpcm", "codeOf", "(I)I"⟩, 5) := ⟨⟨by decide +kernel, by decide +kernel⟩, List.mem_of_getElem? (i := 26) (by decide +kernel), List.mem_of_getElem? (i := 288) (by decide +kernel), List.mem_of_getElem? (i := 289) (by decide +kernel)⟩
def lw_privs_1 : List (MethodName × Nat) := [(⟨"VoiceDesk", "openLine", "(I)LVoiceDesk$Line;"⟩, 3), (⟨"VoiceDesk$Wideband", "push", "(II)V"⟩, 4), (⟨"VoiceDesk$Wideband", "evenSum", "()I"⟩, 4), (⟨"VoiceDesk$Wideband", "oddSum", "()I"⟩, 4), (⟨"VoiceDesk$Wideband", "lowCode", "(I)I"⟩, 4), (⟨"VoiceDesk$Wideband", "highCode", "(I)I"⟩, 4), (⟨"VoiceDesk$Wideband", "settle", "(II)V"⟩, 4), (⟨"VoiceDesk$Band", "difference", "(I)I"⟩, 1), (⟨"VoiceDesk$Band", "adaptScale", "(III)V"⟩, 1), (⟨"VoiceDesk$Band", "adaptPoles", "(I)V"⟩, 1), (⟨"VoiceDesk$Band", "adaptZeros", "(I)V"⟩, 1), (⟨"VoiceDesk$Band", "remember", "(III)V"⟩, 1), (⟨"VoiceDesk$Band", "product", "(II)I"⟩, 1), (⟨"VoiceDesk$Adpcm", "foresee", "()V"⟩, 5), (⟨"VoiceDesk$Adpcm", "stepNow", "()I"⟩, 5), (⟨"VoiceDesk$Adpcm", "codeOf", "(I)I"⟩, 5)]
theorem lw_r1 : ∀ q ∈ lw_privs_1, lw_okq q := List.forall_mem_cons.mpr ⟨lw_p0, List.forall_mem_cons.mpr ⟨lw_p1, List.forall_mem_cons.mpr ⟨lw_p2, List.forall_mem_cons.mpr ⟨lw_p3, List.forall_mem_cons.mpr ⟨lw_p4, List.forall_mem_cons.mpr ⟨lw_p5, List.forall_mem_cons.mpr ⟨lw_p6, List.forall_mem_cons.mpr ⟨lw_p7, List.forall_mem_cons.mpr ⟨lw_p8, List.forall_mem_cons.mpr ⟨lw_p9, List.forall_mem_cons.mpr ⟨lw_p10, List.forall_mem_cons.mpr ⟨lw_p11, List.forall_mem_cons.mpr ⟨lw_p12, List.forall_mem_cons.mpr ⟨lw_p13, List.forall_mem_cons.mpr ⟨lw_p14, List.forall_mem_cons.mpr ⟨lw_p15, fun _ h => absurd h List.not_mem_nil⟩⟩⟩⟩⟩⟩⟩⟩⟩⟩⟩⟩⟩⟩⟩⟩
theorem lw_p16 : lw_okq (⟨"VoiceDesk$Adpcm", "settle", "(I)I"⟩, 5) := ⟨⟨by decide +kernel, by decide +kernel⟩, List.mem_of_getElem? (i := 26) (by decide +kernel), List.mem_of_getElem? (i := 294) (by decide +kernel), List.mem_of_getElem? (i := 295) (by decide +kernel)⟩
theorem lw_p17 : lw_okq (⟨"VoiceDesk$Adpcm", "tablePlace", "(I)I"⟩, 5) := ⟨⟨by decide +kernel, by decide +kernel⟩, List.mem_of_getElem? (i := 26) (by decide +kernel), List.mem_of_getElem? (i := 298) (by decide +kernel), List.mem_of_getElem? (i := 299) (by decide +kernel)⟩
theorem lw_p18 : lw_okq (⟨"VoiceDesk$Adpcm", "isTransition", "(I)Z"⟩, 5) := ⟨⟨by decide +kernel, by decide +kernel⟩, List.mem_of_getElem? (i := 26) (by decide +kernel), List.mem_of_getElem? (i := 308) (by decide +kernel), List.mem_of_getElem? (i := 309) (by decide +kernel)⟩
theorem lw_p19 : lw_okq (⟨"VoiceDesk$Adpcm", "adaptStep", "(I)V"⟩, 5) := ⟨⟨by decide +kernel, by decide +kernel⟩, List.mem_of_getElem? (i := 26) (by decide +kernel), List.mem_of_getElem? (i := 314) (by decide +kernel), List.mem_of_getElem? (i := 315) (by decide +kernel)⟩
theorem lw_p20 : lw_okq (⟨"VoiceDesk$Adpcm", "forgetFilters", "()V"⟩, 5) := ⟨⟨by decide +kernel, by decide +kernel⟩, List.mem_of_getElem? (i := 26) (by decide +kernel), List.mem_of_getElem? (i := 318) (by decide +kernel), List.mem_of_getElem? (i := 319) (by decide +kernel)⟩
theorem lw_p21 : lw_okq (⟨"VoiceDesk$Adpcm", "adaptA2", "(I)V"⟩, 5) := ⟨⟨by decide +kernel, by decide +kernel⟩, List.mem_of_getElem? (i := 26) (by decide +kernel), List.mem_of_getElem? (i := 322) (by decide +kernel), List.mem_of_getElem? (i := 323) (by decide +kernel)⟩
theorem lw_p22 : lw_okq (⟨"VoiceDesk$Adpcm", "adaptA1", "(I)V"⟩, 5) := ⟨⟨by decide +kernel, by decide +kernel⟩, List.mem_of_getElem? (i := 26) (by decide +kernel), List.mem_of_getElem? (i := 330) (by decide +kernel), List.mem_of_getElem? (i := 331) (by decide +kernel)⟩
theorem lw_p23 : lw_okq (⟨"VoiceDesk$Adpcm", "adaptZeros", "(IZ)V"⟩, 5) := ⟨⟨by decide +kernel, by decide +kernel⟩, List.mem_of_getElem? (i := 26) (by decide +kernel), List.mem_of_getElem? (i := 334) (by decide +kernel), List.mem_of_getElem? (i := 335) (by decide +kernel)⟩
theorem lw_p24 : lw_okq (⟨"VoiceDesk$Adpcm", "remember", "(III)V"⟩, 5) := ⟨⟨by decide +kernel, by decide +kernel⟩, List.mem_of_getElem? (i := 26) (by decide +kernel), List.mem_of_getElem? (i := 342) (by decide +kernel), List.mem_of_getElem? (i := 343) (by decide +kernel)⟩
theorem lw_p25 : lw_okq (⟨"VoiceDesk$Adpcm", "adaptPace", "(IZ)V"⟩, 5) := ⟨⟨by decide +kernel, by decide +kernel⟩, List.mem_of_getElem? (i := 26) (by decide +kernel), List.mem_of_getElem? (i := 348) (by decide +kernel), List.mem_of_getElem? (i := 349) (by decide +kernel)⟩
theorem lw_p26 : lw_okq (⟨"VoiceDeskModel", "isLine", "(I)Z"⟩, 43) := ⟨⟨by decide +kernel, by decide +kernel⟩, List.mem_of_getElem? (i := 538) (by decide +kernel), List.mem_of_getElem? (i := 680) (by decide +kernel), List.mem_of_getElem? (i := 681) (by decide +kernel)⟩
theorem lw_p27 : lw_okq (⟨"VoiceDeskModel", "isOpen", "(I)Z"⟩, 43) := ⟨⟨by decide +kernel, by decide +kernel⟩, List.mem_of_getElem? (i := 538) (by decide +kernel), List.mem_of_getElem? (i := 693) (by decide +kernel), List.mem_of_getElem? (i := 694) (by decide +kernel)⟩
theorem lw_p28 : lw_okq (⟨"VoiceDeskModel", "isPaired", "(I)Z"⟩, 43) := ⟨⟨by decide +kernel, by decide +kernel⟩, List.mem_of_getElem? (i := 538) (by decide +kernel), List.mem_of_getElem? (i := 697) (by decide +kernel), List.mem_of_getElem? (i := 698) (by decide +kernel)⟩
theorem lw_p29 : lw_okq (⟨"VoiceDeskModel", "isSample", "(I)Z"⟩, 43) := ⟨⟨by decide +kernel, by decide +kernel⟩, List.mem_of_getElem? (i := 538) (by decide +kernel), List.mem_of_getElem? (i := 701) (by decide +kernel), List.mem_of_getElem? (i := 702) (by decide +kernel)⟩
theorem lw_p30 : lw_okq (⟨"VoiceDeskModel", "says", "(II)I"⟩, 43) := ⟨⟨by decide +kernel, by decide +kernel⟩, List.mem_of_getElem? (i := 538) (by decide +kernel), List.mem_of_getElem? (i := 705) (by decide +kernel), List.mem_of_getElem? (i := 706) (by decide +kernel)⟩
theorem lw_p31 : lw_okq (⟨"VoiceDeskModel", "muSays", "(I)I"⟩, 43) := ⟨⟨by decide +kernel, by decide +kernel⟩, List.mem_of_getElem? (i := 538) (by decide +kernel), List.mem_of_getElem? (i := 709) (by decide +kernel), List.mem_of_getElem? (i := 710) (by decide +kernel)⟩
def lw_privs_2 : List (MethodName × Nat) := [(⟨"VoiceDesk$Adpcm", "settle", "(I)I"⟩, 5), (⟨"VoiceDesk$Adpcm", "tablePlace", "(I)I"⟩, 5), (⟨"VoiceDesk$Adpcm", "isTransition", "(I)Z"⟩, 5), (⟨"VoiceDesk$Adpcm", "adaptStep", "(I)V"⟩, 5), (⟨"VoiceDesk$Adpcm", "forgetFilters", "()V"⟩, 5), (⟨"VoiceDesk$Adpcm", "adaptA2", "(I)V"⟩, 5), (⟨"VoiceDesk$Adpcm", "adaptA1", "(I)V"⟩, 5), (⟨"VoiceDesk$Adpcm", "adaptZeros", "(IZ)V"⟩, 5), (⟨"VoiceDesk$Adpcm", "remember", "(III)V"⟩, 5), (⟨"VoiceDesk$Adpcm", "adaptPace", "(IZ)V"⟩, 5), (⟨"VoiceDeskModel", "isLine", "(I)Z"⟩, 43), (⟨"VoiceDeskModel", "isOpen", "(I)Z"⟩, 43), (⟨"VoiceDeskModel", "isPaired", "(I)Z"⟩, 43), (⟨"VoiceDeskModel", "isSample", "(I)Z"⟩, 43), (⟨"VoiceDeskModel", "says", "(II)I"⟩, 43), (⟨"VoiceDeskModel", "muSays", "(I)I"⟩, 43)]
theorem lw_r2 : ∀ q ∈ lw_privs_2, lw_okq q := List.forall_mem_cons.mpr ⟨lw_p16, List.forall_mem_cons.mpr ⟨lw_p17, List.forall_mem_cons.mpr ⟨lw_p18, List.forall_mem_cons.mpr ⟨lw_p19, List.forall_mem_cons.mpr ⟨lw_p20, List.forall_mem_cons.mpr ⟨lw_p21, List.forall_mem_cons.mpr ⟨lw_p22, List.forall_mem_cons.mpr ⟨lw_p23, List.forall_mem_cons.mpr ⟨lw_p24, List.forall_mem_cons.mpr ⟨lw_p25, List.forall_mem_cons.mpr ⟨lw_p26, List.forall_mem_cons.mpr ⟨lw_p27, List.forall_mem_cons.mpr ⟨lw_p28, List.forall_mem_cons.mpr ⟨lw_p29, List.forall_mem_cons.mpr ⟨lw_p30, List.forall_mem_cons.mpr ⟨lw_p31, fun _ h => absurd h List.not_mem_nil⟩⟩⟩⟩⟩⟩⟩⟩⟩⟩⟩⟩⟩⟩⟩⟩
theorem lw_p32 : lw_okq (⟨"VoiceDeskModel", "sign", "(I)I"⟩, 43) := ⟨⟨by decide +kernel, by decide +kernel⟩, List.mem_of_getElem? (i := 538) (by decide +kernel), List.mem_of_getElem? (i := 713) (by decide +kernel), List.mem_of_getElem? (i := 714) (by decide +kernel)⟩
theorem lw_p33 : lw_okq (⟨"VoiceDeskModel", "amount", "(I)I"⟩, 43) := ⟨⟨by decide +kernel, by decide +kernel⟩, List.mem_of_getElem? (i := 538) (by decide +kernel), List.mem_of_getElem? (i := 717) (by decide +kernel), List.mem_of_getElem? (i := 718) (by decide +kernel)⟩
theorem lw_p34 : lw_okq (⟨"VoiceDeskModel", "aSays", "(I)I"⟩, 43) := ⟨⟨by decide +kernel, by decide +kernel⟩, List.mem_of_getElem? (i := 538) (by decide +kernel), List.mem_of_getElem? (i := 721) (by decide +kernel), List.mem_of_getElem? (i := 722) (by decide +kernel)⟩
theorem lw_p35 : lw_okq (⟨"VoiceDeskModel", "says726", "(III)I"⟩, 43) := ⟨⟨by decide +kernel, by decide +kernel⟩, List.mem_of_getElem? (i := 538) (by decide +kernel), List.mem_of_getElem? (i := 725) (by decide +kernel), List.mem_of_getElem? (i := 726) (by decide +kernel)⟩
theorem lw_p36 : lw_okq (⟨"VoiceDeskModel", "forehand", "(I)V"⟩, 43) := ⟨⟨by decide +kernel, by decide +kernel⟩, List.mem_of_getElem? (i := 538) (by decide +kernel), List.mem_of_getElem? (i := 729) (by decide +kernel), List.mem_of_getElem? (i := 730) (by decide +kernel)⟩
theorem lw_p37 : lw_okq (⟨"VoiceDeskModel", "times", "(II)I"⟩, 43) := ⟨⟨by decide +kernel, by decide +kernel⟩, List.mem_of_getElem? (i := 538) (by decide +kernel), List.mem_of_getElem? (i := 733) (by decide +kernel), List.mem_of_getElem? (i := 734) (by decide +kernel)⟩
theorem lw_p38 : lw_okq (⟨"VoiceDeskModel", "size", "(I)I"⟩, 43) := ⟨⟨by decide +kernel, by decide +kernel⟩, List.mem_of_getElem? (i := 538) (by decide +kernel), List.mem_of_getElem? (i := 737) (by decide +kernel), List.mem_of_getElem? (i := 738) (by decide +kernel)⟩
theorem lw_p39 : lw_okq (⟨"VoiceDeskModel", "wrapped", "(I)I"⟩, 43) := ⟨⟨by decide +kernel, by decide +kernel⟩, List.mem_of_getElem? (i := 538) (by decide +kernel), List.mem_of_getElem? (i := 741) (by decide +kernel), List.mem_of_getElem? (i := 742) (by decide +kernel)⟩
theorem lw_p40 : lw_okq (⟨"VoiceDeskModel", "bound", "(II)I"⟩, 43) := ⟨⟨by decide +kernel, by decide +kernel⟩, List.mem_of_getElem? (i := 538) (by decide +kernel), List.mem_of_getElem? (i := 745) (by decide +kernel), List.mem_of_getElem? (i := 746) (by decide +kernel)⟩
theorem lw_p41 : lw_okq (⟨"VoiceDeskModel", "comes", "(III)I"⟩, 43) := ⟨⟨by decide +kernel, by decide +kernel⟩, List.mem_of_getElem? (i := 538) (by decide +kernel), List.mem_of_getElem? (i := 749) (by decide +kernel), List.mem_of_getElem? (i := 750) (by decide +kernel)⟩
theorem lw_p42 : lw_okq (⟨"VoiceDeskModel", "table", "(II)I"⟩, 43) := ⟨⟨by decide +kernel, by decide +kernel⟩, List.mem_of_getElem? (i := 538) (by decide +kernel), List.mem_of_getElem? (i := 753) (by decide +kernel), List.mem_of_getElem? (i := 754) (by decide +kernel)⟩
theorem lw_p43 : lw_okq (⟨"VoiceDeskModel", "half", "(II)I"⟩, 43) := ⟨⟨by decide +kernel, by decide +kernel⟩, List.mem_of_getElem? (i := 538) (by decide +kernel), List.mem_of_getElem? (i := 757) (by decide +kernel), List.mem_of_getElem? (i := 758) (by decide +kernel)⟩
theorem lw_p44 : lw_okq (⟨"VoiceDeskModel", "weight", "(II)I"⟩, 43) := ⟨⟨by decide +kernel, by decide +kernel⟩, List.mem_of_getElem? (i := 538) (by decide +kernel), List.mem_of_getElem? (i := 761) (by decide +kernel), List.mem_of_getElem? (i := 762) (by decide +kernel)⟩
theorem lw_p45 : lw_okq (⟨"VoiceDeskModel", "cut", "(III)I"⟩, 43) := ⟨⟨by decide +kernel, by decide +kernel⟩, List.mem_of_getElem? (i := 538) (by decide +kernel), List.mem_of_getElem? (i := 765) (by decide +kernel), List.mem_of_getElem? (i := 766) (by decide +kernel)⟩
theorem lw_p46 : lw_okq (⟨"VoiceDeskModel", "adapts", "(III)I"⟩, 43) := ⟨⟨by decide +kernel, by decide +kernel⟩, List.mem_of_getElem? (i := 538) (by decide +kernel), List.mem_of_getElem? (i := 769) (by decide +kernel), List.mem_of_getElem? (i := 770) (by decide +kernel)⟩
theorem lw_p47 : lw_okq (⟨"VoiceDeskModel", "floated", "(IZ)I"⟩, 43) := ⟨⟨by decide +kernel, by decide +kernel⟩, List.mem_of_getElem? (i := 538) (by decide +kernel), List.mem_of_getElem? (i := 773) (by decide +kernel), List.mem_of_getElem? (i := 774) (by decide +kernel)⟩
def lw_privs_3 : List (MethodName × Nat) := [(⟨"VoiceDeskModel", "sign", "(I)I"⟩, 43), (⟨"VoiceDeskModel", "amount", "(I)I"⟩, 43), (⟨"VoiceDeskModel", "aSays", "(I)I"⟩, 43), (⟨"VoiceDeskModel", "says726", "(III)I"⟩, 43), (⟨"VoiceDeskModel", "forehand", "(I)V"⟩, 43), (⟨"VoiceDeskModel", "times", "(II)I"⟩, 43), (⟨"VoiceDeskModel", "size", "(I)I"⟩, 43), (⟨"VoiceDeskModel", "wrapped", "(I)I"⟩, 43), (⟨"VoiceDeskModel", "bound", "(II)I"⟩, 43), (⟨"VoiceDeskModel", "comes", "(III)I"⟩, 43), (⟨"VoiceDeskModel", "table", "(II)I"⟩, 43), (⟨"VoiceDeskModel", "half", "(II)I"⟩, 43), (⟨"VoiceDeskModel", "weight", "(II)I"⟩, 43), (⟨"VoiceDeskModel", "cut", "(III)I"⟩, 43), (⟨"VoiceDeskModel", "adapts", "(III)I"⟩, 43), (⟨"VoiceDeskModel", "floated", "(IZ)I"⟩, 43)]
theorem lw_r3 : ∀ q ∈ lw_privs_3, lw_okq q := List.forall_mem_cons.mpr ⟨lw_p32, List.forall_mem_cons.mpr ⟨lw_p33, List.forall_mem_cons.mpr ⟨lw_p34, List.forall_mem_cons.mpr ⟨lw_p35, List.forall_mem_cons.mpr ⟨lw_p36, List.forall_mem_cons.mpr ⟨lw_p37, List.forall_mem_cons.mpr ⟨lw_p38, List.forall_mem_cons.mpr ⟨lw_p39, List.forall_mem_cons.mpr ⟨lw_p40, List.forall_mem_cons.mpr ⟨lw_p41, List.forall_mem_cons.mpr ⟨lw_p42, List.forall_mem_cons.mpr ⟨lw_p43, List.forall_mem_cons.mpr ⟨lw_p44, List.forall_mem_cons.mpr ⟨lw_p45, List.forall_mem_cons.mpr ⟨lw_p46, List.forall_mem_cons.mpr ⟨lw_p47, fun _ h => absurd h List.not_mem_nil⟩⟩⟩⟩⟩⟩⟩⟩⟩⟩⟩⟩⟩⟩⟩⟩
theorem lw_p48 : lw_okq (⟨"VoiceDeskModel", "pace", "(II)I"⟩, 43) := ⟨⟨by decide +kernel, by decide +kernel⟩, List.mem_of_getElem? (i := 538) (by decide +kernel), List.mem_of_getElem? (i := 777) (by decide +kernel), List.mem_of_getElem? (i := 778) (by decide +kernel)⟩
theorem lw_p49 : lw_okq (⟨"VoiceDeskModel", "limited", "(I)I"⟩, 43) := ⟨⟨by decide +kernel, by decide +kernel⟩, List.mem_of_getElem? (i := 538) (by decide +kernel), List.mem_of_getElem? (i := 781) (by decide +kernel), List.mem_of_getElem? (i := 782) (by decide +kernel)⟩
theorem lw_p50 : lw_okq (⟨"VoiceDeskModel", "says722", "(III)I"⟩, 43) := ⟨⟨by decide +kernel, by decide +kernel⟩, List.mem_of_getElem? (i := 538) (by decide +kernel), List.mem_of_getElem? (i := 789) (by decide +kernel), List.mem_of_getElem? (i := 790) (by decide +kernel)⟩
theorem lw_p51 : lw_okq (⟨"VoiceDeskModel", "sieves", "(III)V"⟩, 43) := ⟨⟨by decide +kernel, by decide +kernel⟩, List.mem_of_getElem? (i := 538) (by decide +kernel), List.mem_of_getElem? (i := 793) (by decide +kernel), List.mem_of_getElem? (i := 794) (by decide +kernel)⟩
theorem lw_p52 : lw_okq (⟨"VoiceDeskModel", "both", "(III)V"⟩, 43) := ⟨⟨by decide +kernel, by decide +kernel⟩, List.mem_of_getElem? (i := 538) (by decide +kernel), List.mem_of_getElem? (i := 797) (by decide +kernel), List.mem_of_getElem? (i := 798) (by decide +kernel)⟩
theorem lw_p53 : lw_okq (⟨"VoiceDeskModel", "root", "(II)I"⟩, 43) := ⟨⟨by decide +kernel, by decide +kernel⟩, List.mem_of_getElem? (i := 538) (by decide +kernel), List.mem_of_getElem? (i := 801) (by decide +kernel), List.mem_of_getElem? (i := 802) (by decide +kernel)⟩
theorem lw_p54 : lw_okq (⟨"VoiceDeskModel", "goesOn", "(II)V"⟩, 43) := ⟨⟨by decide +kernel, by decide +kernel⟩, List.mem_of_getElem? (i := 538) (by decide +kernel), List.mem_of_getElem? (i := 805) (by decide +kernel), List.mem_of_getElem? (i := 806) (by decide +kernel)⟩
theorem lw_p55 : lw_okq (⟨"VoiceDeskModel", "isCode", "(II)Z"⟩, 43) := ⟨⟨by decide +kernel, by decide +kernel⟩, List.mem_of_getElem? (i := 538) (by decide +kernel), List.mem_of_getElem? (i := 813) (by decide +kernel), List.mem_of_getElem? (i := 814) (by decide +kernel)⟩
theorem lw_p56 : lw_okq (⟨"VoiceDeskModel", "bitsOf", "(I)I"⟩, 43) := ⟨⟨by decide +kernel, by decide +kernel⟩, List.mem_of_getElem? (i := 538) (by decide +kernel), List.mem_of_getElem? (i := 817) (by decide +kernel), List.mem_of_getElem? (i := 818) (by decide +kernel)⟩
theorem lw_p57 : lw_okq (⟨"VoiceDeskModel", "hears", "(II)I"⟩, 43) := ⟨⟨by decide +kernel, by decide +kernel⟩, List.mem_of_getElem? (i := 538) (by decide +kernel), List.mem_of_getElem? (i := 821) (by decide +kernel), List.mem_of_getElem? (i := 822) (by decide +kernel)⟩
theorem lw_p58 : lw_okq (⟨"VoiceDeskModel", "muHears", "(I)I"⟩, 43) := ⟨⟨by decide +kernel, by decide +kernel⟩, List.mem_of_getElem? (i := 538) (by decide +kernel), List.mem_of_getElem? (i := 825) (by decide +kernel), List.mem_of_getElem? (i := 826) (by decide +kernel)⟩
theorem lw_p59 : lw_okq (⟨"VoiceDeskModel", "aHears", "(I)I"⟩, 43) := ⟨⟨by decide +kernel, by decide +kernel⟩, List.mem_of_getElem? (i := 538) (by decide +kernel), List.mem_of_getElem? (i := 829) (by decide +kernel), List.mem_of_getElem? (i := 830) (by decide +kernel)⟩
theorem lw_p60 : lw_okq (⟨"VoiceDeskModel", "hears726", "(III)I"⟩, 43) := ⟨⟨by decide +kernel, by decide +kernel⟩, List.mem_of_getElem? (i := 538) (by decide +kernel), List.mem_of_getElem? (i := 833) (by decide +kernel), List.mem_of_getElem? (i := 834) (by decide +kernel)⟩
theorem lw_p61 : lw_okq (⟨"VoiceDeskModel", "hears722", "(II)I"⟩, 43) := ⟨⟨by decide +kernel, by decide +kernel⟩, List.mem_of_getElem? (i := 538) (by decide +kernel), List.mem_of_getElem? (i := 837) (by decide +kernel), List.mem_of_getElem? (i := 838) (by decide +kernel)⟩
theorem lw_p62 : lw_okq (⟨"VoiceDeskModel", "heardBy", "(II)I"⟩, 43) := ⟨⟨by decide +kernel, by decide +kernel⟩, List.mem_of_getElem? (i := 538) (by decide +kernel), List.mem_of_getElem? (i := 841) (by decide +kernel), List.mem_of_getElem? (i := 842) (by decide +kernel)⟩
theorem lw_p63 : lw_okq (⟨"VoiceDeskModel", "puts", "(I)V"⟩, 43) := ⟨⟨by decide +kernel, by decide +kernel⟩, List.mem_of_getElem? (i := 538) (by decide +kernel), List.mem_of_getElem? (i := 857) (by decide +kernel), List.mem_of_getElem? (i := 858) (by decide +kernel)⟩
def lw_privs_4 : List (MethodName × Nat) := [(⟨"VoiceDeskModel", "pace", "(II)I"⟩, 43), (⟨"VoiceDeskModel", "limited", "(I)I"⟩, 43), (⟨"VoiceDeskModel", "says722", "(III)I"⟩, 43), (⟨"VoiceDeskModel", "sieves", "(III)V"⟩, 43), (⟨"VoiceDeskModel", "both", "(III)V"⟩, 43), (⟨"VoiceDeskModel", "root", "(II)I"⟩, 43), (⟨"VoiceDeskModel", "goesOn", "(II)V"⟩, 43), (⟨"VoiceDeskModel", "isCode", "(II)Z"⟩, 43), (⟨"VoiceDeskModel", "bitsOf", "(I)I"⟩, 43), (⟨"VoiceDeskModel", "hears", "(II)I"⟩, 43), (⟨"VoiceDeskModel", "muHears", "(I)I"⟩, 43), (⟨"VoiceDeskModel", "aHears", "(I)I"⟩, 43), (⟨"VoiceDeskModel", "hears726", "(III)I"⟩, 43), (⟨"VoiceDeskModel", "hears722", "(II)I"⟩, 43), (⟨"VoiceDeskModel", "heardBy", "(II)I"⟩, 43), (⟨"VoiceDeskModel", "puts", "(I)V"⟩, 43)]
theorem lw_r4 : ∀ q ∈ lw_privs_4, lw_okq q := List.forall_mem_cons.mpr ⟨lw_p48, List.forall_mem_cons.mpr ⟨lw_p49, List.forall_mem_cons.mpr ⟨lw_p50, List.forall_mem_cons.mpr ⟨lw_p51, List.forall_mem_cons.mpr ⟨lw_p52, List.forall_mem_cons.mpr ⟨lw_p53, List.forall_mem_cons.mpr ⟨lw_p54, List.forall_mem_cons.mpr ⟨lw_p55, List.forall_mem_cons.mpr ⟨lw_p56, List.forall_mem_cons.mpr ⟨lw_p57, List.forall_mem_cons.mpr ⟨lw_p58, List.forall_mem_cons.mpr ⟨lw_p59, List.forall_mem_cons.mpr ⟨lw_p60, List.forall_mem_cons.mpr ⟨lw_p61, List.forall_mem_cons.mpr ⟨lw_p62, List.forall_mem_cons.mpr ⟨lw_p63, fun _ h => absurd h List.not_mem_nil⟩⟩⟩⟩⟩⟩⟩⟩⟩⟩⟩⟩⟩⟩⟩⟩
theorem lw_p64 : lw_okq (⟨"VoiceDeskModel", "sampleAt", "(I)I"⟩, 43) := ⟨⟨by decide +kernel, by decide +kernel⟩, List.mem_of_getElem? (i := 538) (by decide +kernel), List.mem_of_getElem? (i := 877) (by decide +kernel), List.mem_of_getElem? (i := 878) (by decide +kernel)⟩
theorem lw_p65 : lw_okq (⟨"VoiceDeskModel", "bit", "(IIZ)V"⟩, 43) := ⟨⟨by decide +kernel, by decide +kernel⟩, List.mem_of_getElem? (i := 538) (by decide +kernel), List.mem_of_getElem? (i := 881) (by decide +kernel), List.mem_of_getElem? (i := 882) (by decide +kernel)⟩
theorem lw_p66 : lw_okq (⟨"VoiceDeskModel", "sample", "(I)V"⟩, 43) := ⟨⟨by decide +kernel, by decide +kernel⟩, List.mem_of_getElem? (i := 538) (by decide +kernel), List.mem_of_getElem? (i := 889) (by decide +kernel), List.mem_of_getElem? (i := 890) (by decide +kernel)⟩
theorem lw_p67 : lw_okq (⟨"VoiceDeskModel", "finds", "()V"⟩, 43) := ⟨⟨by decide +kernel, by decide +kernel⟩, List.mem_of_getElem? (i := 538) (by decide +kernel), List.mem_of_getElem? (i := 901) (by decide +kernel), List.mem_of_getElem? (i := 902) (by decide +kernel)⟩
def lw_privs_5 : List (MethodName × Nat) := [(⟨"VoiceDeskModel", "sampleAt", "(I)I"⟩, 43), (⟨"VoiceDeskModel", "bit", "(IIZ)V"⟩, 43), (⟨"VoiceDeskModel", "sample", "(I)V"⟩, 43), (⟨"VoiceDeskModel", "finds", "()V"⟩, 43)]
theorem lw_r5 : ∀ q ∈ lw_privs_5, lw_okq q := List.forall_mem_cons.mpr ⟨lw_p64, List.forall_mem_cons.mpr ⟨lw_p65, List.forall_mem_cons.mpr ⟨lw_p66, List.forall_mem_cons.mpr ⟨lw_p67, fun _ h => absurd h List.not_mem_nil⟩⟩⟩⟩
def lw_privs : List (MethodName × Nat) := lw_privs_1 ++ (lw_privs_2 ++ (lw_privs_3 ++ (lw_privs_4 ++ (lw_privs_5))))
def lw_tbl : List Cond := k2_sels lw_privs ++ tables_1
theorem lw_privs_ok : ∀ q ∈ lw_privs, lw_okq q := by
  show ∀ q ∈ lw_privs_1 ++ (lw_privs_2 ++ (lw_privs_3 ++ (lw_privs_4 ++ (lw_privs_5)))), lw_okq q
  exact List.forall_mem_append.mpr ⟨lw_r1, List.forall_mem_append.mpr ⟨lw_r2, List.forall_mem_append.mpr ⟨lw_r3, List.forall_mem_append.mpr ⟨lw_r4, lw_r5⟩⟩⟩⟩
end
section
/-! ===== BEGIN words of one list among another's, by their places ===== -/
theorem goodIn_r {big : List Cond} (ws : List Cond) (ps : List Nat) (hp : ws = ps.filterMap (fun i => big[i]?)) (h : ws.all goodWord = true) : GoodIn big ws := by
  intro w hw
  have h1 := List.all_eq_true.mp h w hw
  rw [hp] at hw
  obtain ⟨i, -, hi⟩ := List.mem_filterMap.mp hw
  have hm : w ∈ big := by first | exact List.mem_of_getElem? hi | exact List.getElem?_mem hi
  exact ⟨hm, good_of_word h1⟩
theorem goodIn_app {big a b : List Cond} (ha : GoodIn big a) (hb : GoodIn big b) : GoodIn big (a ++ b) := fun w h => (List.mem_append.mp h).elim (ha w) (hb w)
theorem goodIn_ca {big a b : List Cond} {c : Cond} (ha : GoodIn big (c :: a)) (hb : GoodIn big b) : GoodIn big (c :: (a ++ b)) := fun w h => (List.mem_cons.mp h).elim (fun e => ha w (List.mem_cons.mpr (Or.inl e))) (fun h => (List.mem_append.mp h).elim (fun h => ha w (List.mem_cons.mpr (Or.inr h))) (hb w))
theorem goodIn_sub {big ws : List Cond} (hm : ∀ w ∈ ws, w ∈ big) (h : ws.all goodWord = true) : GoodIn big ws := fun w hw => ⟨hm w hw, good_of_word (List.all_eq_true.mp h w hw)⟩
/-! ===== END ===== -/

/-! ===== BEGIN printed: names, fields, word lists, decode rows ===== -/
def RX0 : String := "VoiceDesk$Adpcm"
def TX0 : u_T := fun k => match k with
  | 0 => ("VoiceDesk$Adpcm", "numbers", "[I", true)
  | 1 => ("VoiceDesk$Adpcm", "bits", "I", false)
  | 2 => ("VoiceDesk$Adpcm", "se", "I", false)
  | 3 => ("VoiceDesk$Adpcm", "sz", "I", false)
  | _ => ("VoiceDesk$Adpcm", "step", "I", false)
def tyX0 : Nat → FieldType := fun k => match k with
  | 0 => .array .int
  | 1 => .int
  | 2 => .int
  | 3 => .int
  | _ => .int
abbrev wsX00 : List Cond := u_ws RX0 TX0 5
theorem nmX0 : ∀ a, a < 5 → ∀ b, b < 5 → a ≠ b → (TX0 a).2.1 ≠ (TX0 b).2.1 := by decide +kernel
theorem tyX0_ok : ∀ k, k < 5 → parseFieldDescriptor (TX0 k).2.2.1 = some (tyX0 k) := by decide +kernel
abbrev cX0_init : ByteArray := prog_2_method_1_code
def yX0_init : MethodName := ⟨RX0, "<init>", "()V"⟩
abbrev cX0_begin : ByteArray := prog_2_method_2_code
def yX0_begin : MethodName := ⟨RX0, "begin", "(I)V"⟩
abbrev cX0_number : ByteArray := prog_2_method_3_code
def yX0_number : MethodName := ⟨RX0, "number", "(I)I"⟩
abbrev cX0_encode : ByteArray := prog_2_method_4_code
def yX0_encode : MethodName := ⟨RX0, "encode", "(I)I"⟩
abbrev cX0_decode : ByteArray := prog_2_method_5_code
def yX0_decode : MethodName := ⟨RX0, "decode", "(I)I"⟩
abbrev cX0_foresee : ByteArray := prog_2_method_6_code
def yX0_foresee : MethodName := ⟨RX0, "foresee", "()V"⟩
abbrev cX0_stepNow : ByteArray := prog_2_method_7_code
def yX0_stepNow : MethodName := ⟨RX0, "stepNow", "()I"⟩
abbrev cX0_codeOf : ByteArray := prog_2_method_8_code
def yX0_codeOf : MethodName := ⟨RX0, "codeOf", "(I)I"⟩
abbrev cX0_settle : ByteArray := prog_2_method_9_code
def yX0_settle : MethodName := ⟨RX0, "settle", "(I)I"⟩
abbrev cX0_tablePlace : ByteArray := prog_2_method_10_code
def yX0_tablePlace : MethodName := ⟨RX0, "tablePlace", "(I)I"⟩
abbrev cX0_amount : ByteArray := prog_2_method_11_code
def yX0_amount : MethodName := ⟨RX0, "amount", "(I)I"⟩
abbrev cX0_isTransition : ByteArray := prog_2_method_12_code
def yX0_isTransition : MethodName := ⟨RX0, "isTransition", "(I)Z"⟩
abbrev cX0_adaptStep : ByteArray := prog_2_method_13_code
def yX0_adaptStep : MethodName := ⟨RX0, "adaptStep", "(I)V"⟩
abbrev cX0_forgetFilters : ByteArray := prog_2_method_14_code
def yX0_forgetFilters : MethodName := ⟨RX0, "forgetFilters", "()V"⟩
abbrev cX0_adaptA2 : ByteArray := prog_2_method_15_code
def yX0_adaptA2 : MethodName := ⟨RX0, "adaptA2", "(I)V"⟩
abbrev cX0_nudgedA2 : ByteArray := prog_2_method_16_code
def yX0_nudgedA2 : MethodName := ⟨RX0, "nudgedA2", "(II)I"⟩
abbrev cX0_adaptA1 : ByteArray := prog_2_method_17_code
def yX0_adaptA1 : MethodName := ⟨RX0, "adaptA1", "(I)V"⟩
abbrev cX0_adaptZeros : ByteArray := prog_2_method_18_code
def yX0_adaptZeros : MethodName := ⟨RX0, "adaptZeros", "(IZ)V"⟩
abbrev cX0_remember : ByteArray := prog_2_method_19_code
def yX0_remember : MethodName := ⟨RX0, "remember", "(III)V"⟩
abbrev cX0_adaptPace : ByteArray := prog_2_method_20_code
def yX0_adaptPace : MethodName := ⟨RX0, "adaptPace", "(IZ)V"⟩
abbrev cX0_size : ByteArray := prog_2_method_21_code
def yX0_size : MethodName := ⟨RX0, "size", "(I)I"⟩
abbrev cX0_times : ByteArray := prog_2_method_22_code
def yX0_times : MethodName := ⟨RX0, "times", "(II)I"⟩
abbrev cX0_shifted : ByteArray := prog_2_method_23_code
def yX0_shifted : MethodName := ⟨RX0, "shifted", "(II)I"⟩
abbrev cX0_floatOf : ByteArray := prog_2_method_24_code
def yX0_floatOf : MethodName := ⟨RX0, "floatOf", "(IZ)I"⟩
def RX1 : String := "VoiceDesk$Band"
def TX1 : u_T := fun k => match k with
  | _ => ("VoiceDesk$Band", "numbers", "[I", true)
def tyX1 : Nat → FieldType := fun k => match k with
  | _ => .array .int
abbrev wsX10 : List Cond := u_ws RX1 TX1 1
theorem nmX1 : ∀ a, a < 1 → ∀ b, b < 1 → a ≠ b → (TX1 a).2.1 ≠ (TX1 b).2.1 := by decide +kernel
theorem tyX1_ok : ∀ k, k < 1 → parseFieldDescriptor (TX1 k).2.2.1 = some (tyX1 k) := by decide +kernel
abbrev cX1_init : ByteArray := prog_3_method_1_code
def yX1_init : MethodName := ⟨RX1, "<init>", "()V"⟩
abbrev cX1_begin : ByteArray := prog_3_method_2_code
def yX1_begin : MethodName := ⟨RX1, "begin", "(I)V"⟩
abbrev cX1_number : ByteArray := prog_3_method_3_code
def yX1_number : MethodName := ⟨RX1, "number", "(I)I"⟩
abbrev cX1_error : ByteArray := prog_3_method_4_code
def yX1_error : MethodName := ⟨RX1, "error", "(I)I"⟩
abbrev cX1_scaled : ByteArray := prog_3_method_5_code
def yX1_scaled : MethodName := ⟨RX1, "scaled", "(I)I"⟩
abbrev cX1_heard : ByteArray := prog_3_method_6_code
def yX1_heard : MethodName := ⟨RX1, "heard", "(I)I"⟩
abbrev cX1_difference : ByteArray := prog_3_method_7_code
def yX1_difference : MethodName := ⟨RX1, "difference", "(I)I"⟩
abbrev cX1_settle : ByteArray := prog_3_method_8_code
def yX1_settle : MethodName := ⟨RX1, "settle", "(IIII)V"⟩
abbrev cX1_adaptScale : ByteArray := prog_3_method_9_code
def yX1_adaptScale : MethodName := ⟨RX1, "adaptScale", "(III)V"⟩
abbrev cX1_product : ByteArray := prog_3_method_10_code
def yX1_product : MethodName := ⟨RX1, "product", "(II)I"⟩
abbrev cX1_adaptPoles : ByteArray := prog_3_method_11_code
def yX1_adaptPoles : MethodName := ⟨RX1, "adaptPoles", "(I)V"⟩
abbrev cX1_adaptZeros : ByteArray := prog_3_method_12_code
def yX1_adaptZeros : MethodName := ⟨RX1, "adaptZeros", "(I)V"⟩
abbrev cX1_remember : ByteArray := prog_3_method_13_code
def yX1_remember : MethodName := ⟨RX1, "remember", "(III)V"⟩
def RX2 : String := "VoiceDesk$Bytes"
def TX2 : u_T := fun k => match k with
  | 0 => ("VoiceDesk$Bytes", "row", "[I", true)
  | _ => ("VoiceDesk$Bytes", "length", "I", false)
def tyX2 : Nat → FieldType := fun k => match k with
  | 0 => .array .int
  | _ => .int
abbrev wsX20 : List Cond := u_ws RX2 TX2 2
theorem nmX2 : ∀ a, a < 2 → ∀ b, b < 2 → a ≠ b → (TX2 a).2.1 ≠ (TX2 b).2.1 := by decide +kernel
theorem tyX2_ok : ∀ k, k < 2 → parseFieldDescriptor (TX2 k).2.2.1 = some (tyX2 k) := by decide +kernel
abbrev cX2_init : ByteArray := prog_4_method_1_code
def yX2_init : MethodName := ⟨RX2, "<init>", "()V"⟩
abbrev cX2_needed : ByteArray := prog_4_method_2_code
def yX2_needed : MethodName := ⟨RX2, "needed", "(I)I"⟩
abbrev cX2_byteAt : ByteArray := prog_4_method_3_code
def yX2_byteAt : MethodName := ⟨RX2, "byteAt", "(I)I"⟩
abbrev cX2_add : ByteArray := prog_4_method_4_code
def yX2_add : MethodName := ⟨RX2, "add", "(I)V"⟩
abbrev cX2_addInt : ByteArray := prog_4_method_5_code
def yX2_addInt : MethodName := ⟨RX2, "addInt", "(I)V"⟩
abbrev cX2_addSample : ByteArray := prog_4_method_6_code
def yX2_addSample : MethodName := ⟨RX2, "addSample", "(I)V"⟩
abbrev cX2_sampleAt : ByteArray := prog_4_method_7_code
def yX2_sampleAt : MethodName := ⟨RX2, "sampleAt", "(I)I"⟩
abbrev cX2_copyFrom : ByteArray := prog_4_method_8_code
def yX2_copyFrom : MethodName := ⟨RX2, "copyFrom", "(LVoiceDesk$Bytes;)V"⟩
abbrev cX2_clearFor : ByteArray := prog_4_method_9_code
def yX2_clearFor : MethodName := ⟨RX2, "clearFor", "(I)V"⟩
abbrev cX2_putCode : ByteArray := prog_4_method_10_code
def yX2_putCode : MethodName := ⟨RX2, "putCode", "(IIZI)V"⟩
abbrev cX2_codeAt : ByteArray := prog_4_method_11_code
def yX2_codeAt : MethodName := ⟨RX2, "codeAt", "(IIZ)I"⟩
abbrev cX2_codeBit : ByteArray := prog_4_method_12_code
def yX2_codeBit : MethodName := ⟨RX2, "codeBit", "(IIZ)I"⟩
abbrev cX2_byteBit : ByteArray := prog_4_method_13_code
def yX2_byteBit : MethodName := ⟨RX2, "byteBit", "(IZ)I"⟩
def RX3 : String := "VoiceDesk$Law"
def TX3 : u_T := fun k => match k with
  | _ => ("", "", "", false)
def tyX3 : Nat → FieldType := fun k => match k with
  | _ => .int
abbrev wsX30 : List Cond := u_ws RX3 TX3 0
theorem nmX3 : ∀ a, a < 0 → ∀ b, b < 0 → a ≠ b → (TX3 a).2.1 ≠ (TX3 b).2.1 := by decide +kernel
theorem tyX3_ok : ∀ k, k < 0 → parseFieldDescriptor (TX3 k).2.2.1 = some (tyX3 k) := by decide +kernel
abbrev cX3_muCode : ByteArray := prog_5_method_2_code
def yX3_muCode : MethodName := ⟨RX3, "muCode", "(I)I"⟩
abbrev cX3_muSample : ByteArray := prog_5_method_3_code
def yX3_muSample : MethodName := ⟨RX3, "muSample", "(I)I"⟩
abbrev cX3_aCode : ByteArray := prog_5_method_4_code
def yX3_aCode : MethodName := ⟨RX3, "aCode", "(I)I"⟩
abbrev cX3_aSample : ByteArray := prog_5_method_5_code
def yX3_aSample : MethodName := ⟨RX3, "aSample", "(I)I"⟩
abbrev cX3_segment : ByteArray := prog_5_method_6_code
def yX3_segment : MethodName := ⟨RX3, "segment", "(II)I"⟩
abbrev cX3_muEdge : ByteArray := prog_5_method_7_code
def yX3_muEdge : MethodName := ⟨RX3, "muEdge", "(IZ)I"⟩
abbrev cX3_aEdge : ByteArray := prog_5_method_8_code
def yX3_aEdge : MethodName := ⟨RX3, "aEdge", "(IZ)I"⟩
def RX4 : String := "VoiceDesk$Line"
def TX4 : u_T := fun k => match k with
  | 0 => ("VoiceDesk$Line", "adpcmSpeaker", "LVoiceDesk$Adpcm;", true)
  | 1 => ("VoiceDesk$Line", "adpcmHearer", "LVoiceDesk$Adpcm;", true)
  | 2 => ("VoiceDesk$Line", "wideSpeaker", "LVoiceDesk$Wideband;", true)
  | 3 => ("VoiceDesk$Line", "wideHearer", "LVoiceDesk$Wideband;", true)
  | _ => ("VoiceDesk$Line", "kind", "I", false)
def tyX4 : Nat → FieldType := fun k => match k with
  | 0 => .object "VoiceDesk$Adpcm"
  | 1 => .object "VoiceDesk$Adpcm"
  | 2 => .object "VoiceDesk$Wideband"
  | 3 => .object "VoiceDesk$Wideband"
  | _ => .int
abbrev wsX40 : List Cond := u_ws RX4 TX4 5
theorem nmX4 : ∀ a, a < 5 → ∀ b, b < 5 → a ≠ b → (TX4 a).2.1 ≠ (TX4 b).2.1 := by decide +kernel
theorem tyX4_ok : ∀ k, k < 5 → parseFieldDescriptor (TX4 k).2.2.1 = some (tyX4 k) := by decide +kernel
abbrev cX4_init : ByteArray := prog_6_method_1_code
def yX4_init : MethodName := ⟨RX4, "<init>", "()V"⟩
abbrev cX4_begin : ByteArray := prog_6_method_2_code
def yX4_begin : MethodName := ⟨RX4, "begin", "(I)V"⟩
abbrev cX4_isAdpcm : ByteArray := prog_6_method_3_code
def yX4_isAdpcm : MethodName := ⟨RX4, "isAdpcm", "()Z"⟩
abbrev cX4_isWide : ByteArray := prog_6_method_4_code
def yX4_isWide : MethodName := ⟨RX4, "isWide", "()Z"⟩
abbrev cX4_codeBits : ByteArray := prog_6_method_5_code
def yX4_codeBits : MethodName := ⟨RX4, "codeBits", "()I"⟩
abbrev cX4_hasCode : ByteArray := prog_6_method_6_code
def yX4_hasCode : MethodName := ⟨RX4, "hasCode", "(I)Z"⟩
abbrev cX4_encode : ByteArray := prog_6_method_7_code
def yX4_encode : MethodName := ⟨RX4, "encode", "(II)I"⟩
abbrev cX4_decode : ByteArray := prog_6_method_8_code
def yX4_decode : MethodName := ⟨RX4, "decode", "(I)I"⟩
abbrev cX4_secondHeard : ByteArray := prog_6_method_9_code
def yX4_secondHeard : MethodName := ⟨RX4, "secondHeard", "()I"⟩
abbrev cX4_number : ByteArray := prog_6_method_10_code
def yX4_number : MethodName := ⟨RX4, "number", "(ZI)I"⟩
def RX5 : String := "VoiceDesk$Wideband"
def TX5 : u_T := fun k => match k with
  | 0 => ("VoiceDesk$Wideband", "low", "LVoiceDesk$Band;", true)
  | 1 => ("VoiceDesk$Wideband", "high", "LVoiceDesk$Band;", true)
  | 2 => ("VoiceDesk$Wideband", "x", "[I", true)
  | _ => ("VoiceDesk$Wideband", "secondHeard", "I", false)
def tyX5 : Nat → FieldType := fun k => match k with
  | 0 => .object "VoiceDesk$Band"
  | 1 => .object "VoiceDesk$Band"
  | 2 => .array .int
  | _ => .int
abbrev wsX50 : List Cond := u_ws RX5 TX5 4
theorem nmX5 : ∀ a, a < 4 → ∀ b, b < 4 → a ≠ b → (TX5 a).2.1 ≠ (TX5 b).2.1 := by decide +kernel
theorem tyX5_ok : ∀ k, k < 4 → parseFieldDescriptor (TX5 k).2.2.1 = some (tyX5 k) := by decide +kernel
abbrev cX5_init : ByteArray := prog_7_method_1_code
def yX5_init : MethodName := ⟨RX5, "<init>", "()V"⟩
abbrev cX5_begin : ByteArray := prog_7_method_2_code
def yX5_begin : MethodName := ⟨RX5, "begin", "()V"⟩
abbrev cX5_number : ByteArray := prog_7_method_3_code
def yX5_number : MethodName := ⟨RX5, "number", "(I)I"⟩
abbrev cX5_encode : ByteArray := prog_7_method_4_code
def yX5_encode : MethodName := ⟨RX5, "encode", "(II)I"⟩
abbrev cX5_decode : ByteArray := prog_7_method_5_code
def yX5_decode : MethodName := ⟨RX5, "decode", "(II)I"⟩
abbrev cX5_push : ByteArray := prog_7_method_6_code
def yX5_push : MethodName := ⟨RX5, "push", "(II)V"⟩
abbrev cX5_evenSum : ByteArray := prog_7_method_7_code
def yX5_evenSum : MethodName := ⟨RX5, "evenSum", "()I"⟩
abbrev cX5_oddSum : ByteArray := prog_7_method_8_code
def yX5_oddSum : MethodName := ⟨RX5, "oddSum", "()I"⟩
abbrev cX5_lowCode : ByteArray := prog_7_method_9_code
def yX5_lowCode : MethodName := ⟨RX5, "lowCode", "(I)I"⟩
abbrev cX5_highCode : ByteArray := prog_7_method_10_code
def yX5_highCode : MethodName := ⟨RX5, "highCode", "(I)I"⟩
abbrev cX5_lowFactor : ByteArray := prog_7_method_11_code
def yX5_lowFactor : MethodName := ⟨RX5, "lowFactor", "(II)I"⟩
abbrev cX5_settle : ByteArray := prog_7_method_12_code
def yX5_settle : MethodName := ⟨RX5, "settle", "(II)V"⟩
def RX6 : String := "VoiceDesk"
def TX6 : u_T := fun k => match k with
  | 0 => ("VoiceDesk", "lines", "[LVoiceDesk$Line;", true)
  | 1 => ("VoiceDesk", "tape", "LVoiceDesk$Bytes;", true)
  | _ => ("VoiceDesk", "result", "LVoiceDesk$Bytes;", true)
def tyX6 : Nat → FieldType := fun k => match k with
  | 0 => .array (.object "VoiceDesk$Line")
  | 1 => .object "VoiceDesk$Bytes"
  | _ => .object "VoiceDesk$Bytes"
abbrev wsX60 : List Cond := u_ws RX6 TX6 3
theorem nmX6 : ∀ a, a < 3 → ∀ b, b < 3 → a ≠ b → (TX6 a).2.1 ≠ (TX6 b).2.1 := by decide +kernel
theorem tyX6_ok : ∀ k, k < 3 → parseFieldDescriptor (TX6 k).2.2.1 = some (tyX6 k) := by decide +kernel
abbrev cX6_init : ByteArray := prog_1_method_1_code
def yX6_init : MethodName := ⟨RX6, "<init>", "()V"⟩
abbrev cX6_open : ByteArray := prog_1_method_2_code
def yX6_open : MethodName := ⟨RX6, "open", "(II)Z"⟩
abbrev cX6_kind : ByteArray := prog_1_method_3_code
def yX6_kind : MethodName := ⟨RX6, "kind", "(I)I"⟩
abbrev cX6_say : ByteArray := prog_1_method_4_code
def yX6_say : MethodName := ⟨RX6, "say", "(II)I"⟩
abbrev cX6_pair : ByteArray := prog_1_method_5_code
def yX6_pair : MethodName := ⟨RX6, "pair", "(III)I"⟩
abbrev cX6_hear : ByteArray := prog_1_method_6_code
def yX6_hear : MethodName := ⟨RX6, "hear", "(II)I"⟩
abbrev cX6_second : ByteArray := prog_1_method_7_code
def yX6_second : MethodName := ⟨RX6, "second", "(I)I"⟩
abbrev cX6_inner : ByteArray := prog_1_method_8_code
def yX6_inner : MethodName := ⟨RX6, "inner", "(III)I"⟩
abbrev cX6_feed : ByteArray := prog_1_method_9_code
def yX6_feed : MethodName := ⟨RX6, "feed", "(IIIII)I"⟩
abbrev cX6_end : ByteArray := prog_1_method_10_code
def yX6_end : MethodName := ⟨RX6, "end", "(I)I"⟩
abbrev cX6_take : ByteArray := prog_1_method_11_code
def yX6_take : MethodName := ⟨RX6, "take", "()I"⟩
abbrev cX6_out : ByteArray := prog_1_method_12_code
def yX6_out : MethodName := ⟨RX6, "out", "(I)I"⟩
abbrev cX6_pack : ByteArray := prog_1_method_13_code
def yX6_pack : MethodName := ⟨RX6, "pack", "(IZ)I"⟩
abbrev cX6_unpack : ByteArray := prog_1_method_14_code
def yX6_unpack : MethodName := ⟨RX6, "unpack", "(IZI)I"⟩
abbrev cX6_pass : ByteArray := prog_1_method_15_code
def yX6_pass : MethodName := ⟨RX6, "pass", "(III)I"⟩
abbrev cX6_law : ByteArray := prog_1_method_16_code
def yX6_law : MethodName := ⟨RX6, "law", "(III)I"⟩
abbrev cX6_openLine : ByteArray := prog_1_method_17_code
def yX6_openLine : MethodName := ⟨RX6, "openLine", "(I)LVoiceDesk$Line;"⟩
abbrev cX6_isSample : ByteArray := prog_1_method_18_code
def yX6_isSample : MethodName := ⟨RX6, "isSample", "(I)Z"⟩
abbrev cX6_cut : ByteArray := prog_1_method_19_code
def yX6_cut : MethodName := ⟨RX6, "cut", "(III)I"⟩
abbrev cX6_limited : ByteArray := prog_1_method_20_code
def yX6_limited : MethodName := ⟨RX6, "limited", "(I)I"⟩
abbrev cX6_wrapped : ByteArray := prog_1_method_21_code
def yX6_wrapped : MethodName := ⟨RX6, "wrapped", "(I)I"⟩
abbrev cX6_sign : ByteArray := prog_1_method_22_code
def yX6_sign : MethodName := ⟨RX6, "sign", "(I)I"⟩
def RX7 : String := "VoiceDeskModel"
def TX7 : u_T := fun k => match k with
  | 0 => ("VoiceDeskModel", "told", "I", false)
  | 1 => ("VoiceDeskModel", "kinds", "[I", true)
  | 2 => ("VoiceDeskModel", "seconds", "[I", true)
  | 3 => ("VoiceDeskModel", "g", "[I", true)
  | 4 => ("VoiceDeskModel", "bounds2", "[I", true)
  | 5 => ("VoiceDeskModel", "bounds3", "[I", true)
  | 6 => ("VoiceDeskModel", "bounds4", "[I", true)
  | 7 => ("VoiceDeskModel", "bounds5", "[I", true)
  | 8 => ("VoiceDeskModel", "table2", "[I", true)
  | 9 => ("VoiceDeskModel", "table3", "[I", true)
  | 10 => ("VoiceDeskModel", "table4", "[I", true)
  | 11 => ("VoiceDeskModel", "table5", "[I", true)
  | 12 => ("VoiceDeskModel", "weight2", "[I", true)
  | 13 => ("VoiceDeskModel", "weight3", "[I", true)
  | 14 => ("VoiceDeskModel", "weight4", "[I", true)
  | 15 => ("VoiceDeskModel", "weight5", "[I", true)
  | 16 => ("VoiceDeskModel", "pace2", "[I", true)
  | 17 => ("VoiceDeskModel", "pace3", "[I", true)
  | 18 => ("VoiceDeskModel", "pace4", "[I", true)
  | 19 => ("VoiceDeskModel", "pace5", "[I", true)
  | 20 => ("VoiceDeskModel", "sumZ", "I", false)
  | 21 => ("VoiceDeskModel", "sumE", "I", false)
  | 22 => ("VoiceDeskModel", "stepY", "I", false)
  | 23 => ("VoiceDeskModel", "bands", "[I", true)
  | 24 => ("VoiceDeskModel", "sieve", "[I", true)
  | 25 => ("VoiceDeskModel", "coefficients", "[I", true)
  | 26 => ("VoiceDeskModel", "steps", "[I", true)
  | 27 => ("VoiceDeskModel", "roots", "[I", true)
  | 28 => ("VoiceDeskModel", "ups", "[I", true)
  | 29 => ("VoiceDeskModel", "highs", "[I", true)
  | 30 => ("VoiceDeskModel", "lowWeights", "[I", true)
  | 31 => ("VoiceDeskModel", "highWeights", "[I", true)
  | 32 => ("VoiceDeskModel", "heard56", "[I", true)
  | 33 => ("VoiceDeskModel", "heard64", "[I", true)
  | 34 => ("VoiceDeskModel", "odd", "I", false)
  | 35 => ("VoiceDeskModel", "even", "I", false)
  | 36 => ("VoiceDeskModel", "tape", "[I", true)
  | 37 => ("VoiceDeskModel", "taped", "I", false)
  | 38 => ("VoiceDeskModel", "out", "[I", true)
  | 39 => ("VoiceDeskModel", "outs", "I", false)
  | 40 => ("VoiceDeskModel", "isFound", "Z", false)
  | 41 => ("VoiceDeskModel", "least", "[I", true)
  | _ => ("VoiceDeskModel", "greatest", "[I", true)
def tyX7 : Nat → FieldType := fun k => match k with
  | 0 => .int
  | 1 => .array .int
  | 2 => .array .int
  | 3 => .array .int
  | 4 => .array .int
  | 5 => .array .int
  | 6 => .array .int
  | 7 => .array .int
  | 8 => .array .int
  | 9 => .array .int
  | 10 => .array .int
  | 11 => .array .int
  | 12 => .array .int
  | 13 => .array .int
  | 14 => .array .int
  | 15 => .array .int
  | 16 => .array .int
  | 17 => .array .int
  | 18 => .array .int
  | 19 => .array .int
  | 20 => .int
  | 21 => .int
  | 22 => .int
  | 23 => .array .int
  | 24 => .array .int
  | 25 => .array .int
  | 26 => .array .int
  | 27 => .array .int
  | 28 => .array .int
  | 29 => .array .int
  | 30 => .array .int
  | 31 => .array .int
  | 32 => .array .int
  | 33 => .array .int
  | 34 => .int
  | 35 => .int
  | 36 => .array .int
  | 37 => .int
  | 38 => .array .int
  | 39 => .int
  | 40 => .boolean
  | 41 => .array .int
  | _ => .array .int
abbrev wsX70 : List Cond := u_ws RX7 TX7 43
theorem nmX7 : ∀ a, a < 43 → ∀ b, b < 43 → a ≠ b → (TX7 a).2.1 ≠ (TX7 b).2.1 := by decide +kernel
theorem tyX7_ok : ∀ k, k < 43 → parseFieldDescriptor (TX7 k).2.2.1 = some (tyX7 k) := by decide +kernel
abbrev cX7_init : ByteArray := prog_9_method_1_code
def yX7_init : MethodName := ⟨RX7, "<init>", "()V"⟩
abbrev cX7_isLine : ByteArray := prog_9_method_3_code
def yX7_isLine : MethodName := ⟨RX7, "isLine", "(I)Z"⟩
abbrev cX7_isOpen : ByteArray := prog_9_method_4_code
def yX7_isOpen : MethodName := ⟨RX7, "isOpen", "(I)Z"⟩
abbrev cX7_isPaired : ByteArray := prog_9_method_5_code
def yX7_isPaired : MethodName := ⟨RX7, "isPaired", "(I)Z"⟩
abbrev cX7_limited : ByteArray := prog_9_method_6_code
def yX7_limited : MethodName := ⟨RX7, "limited", "(I)I"⟩
abbrev cX7_wrapped : ByteArray := prog_9_method_7_code
def yX7_wrapped : MethodName := ⟨RX7, "wrapped", "(I)I"⟩
abbrev cX7_cut : ByteArray := prog_9_method_8_code
def yX7_cut : MethodName := ⟨RX7, "cut", "(III)I"⟩
abbrev cX7_amount : ByteArray := prog_9_method_9_code
def yX7_amount : MethodName := ⟨RX7, "amount", "(I)I"⟩
abbrev cX7_sign : ByteArray := prog_9_method_10_code
def yX7_sign : MethodName := ⟨RX7, "sign", "(I)I"⟩
abbrev cX7_size : ByteArray := prog_9_method_11_code
def yX7_size : MethodName := ⟨RX7, "size", "(I)I"⟩
abbrev cX7_open : ByteArray := prog_9_method_12_code
def yX7_open : MethodName := ⟨RX7, "open", "(II)Z"⟩
abbrev cX7_kind : ByteArray := prog_9_method_13_code
def yX7_kind : MethodName := ⟨RX7, "kind", "(I)I"⟩
abbrev cX7_muSays : ByteArray := prog_9_method_14_code
def yX7_muSays : MethodName := ⟨RX7, "muSays", "(I)I"⟩
abbrev cX7_muHears : ByteArray := prog_9_method_15_code
def yX7_muHears : MethodName := ⟨RX7, "muHears", "(I)I"⟩
abbrev cX7_aSays : ByteArray := prog_9_method_16_code
def yX7_aSays : MethodName := ⟨RX7, "aSays", "(I)I"⟩
abbrev cX7_aHears : ByteArray := prog_9_method_17_code
def yX7_aHears : MethodName := ⟨RX7, "aHears", "(I)I"⟩
abbrev cX7_bound : ByteArray := prog_9_method_18_code
def yX7_bound : MethodName := ⟨RX7, "bound", "(II)I"⟩
abbrev cX7_half : ByteArray := prog_9_method_19_code
def yX7_half : MethodName := ⟨RX7, "half", "(II)I"⟩
abbrev cX7_table : ByteArray := prog_9_method_20_code
def yX7_table : MethodName := ⟨RX7, "table", "(II)I"⟩
abbrev cX7_weight : ByteArray := prog_9_method_21_code
def yX7_weight : MethodName := ⟨RX7, "weight", "(II)I"⟩
abbrev cX7_pace : ByteArray := prog_9_method_22_code
def yX7_pace : MethodName := ⟨RX7, "pace", "(II)I"⟩
abbrev cX7_times : ByteArray := prog_9_method_23_code
def yX7_times : MethodName := ⟨RX7, "times", "(II)I"⟩
abbrev cX7_forehand : ByteArray := prog_9_method_24_code
def yX7_forehand : MethodName := ⟨RX7, "forehand", "(I)V"⟩
abbrev cX7_says726 : ByteArray := prog_9_method_25_code
def yX7_says726 : MethodName := ⟨RX7, "says726", "(III)I"⟩
abbrev cX7_hears726 : ByteArray := prog_9_method_26_code
def yX7_hears726 : MethodName := ⟨RX7, "hears726", "(III)I"⟩
abbrev cX7_floated : ByteArray := prog_9_method_27_code
def yX7_floated : MethodName := ⟨RX7, "floated", "(IZ)I"⟩
abbrev cX7_comes : ByteArray := prog_9_method_28_code
def yX7_comes : MethodName := ⟨RX7, "comes", "(III)I"⟩
abbrev cX7_adapts : ByteArray := prog_9_method_29_code
def yX7_adapts : MethodName := ⟨RX7, "adapts", "(III)I"⟩
abbrev cX7_heardBy : ByteArray := prog_9_method_30_code
def yX7_heardBy : MethodName := ⟨RX7, "heardBy", "(II)I"⟩
abbrev cX7_sieves : ByteArray := prog_9_method_31_code
def yX7_sieves : MethodName := ⟨RX7, "sieves", "(III)V"⟩
abbrev cX7_says722 : ByteArray := prog_9_method_32_code
def yX7_says722 : MethodName := ⟨RX7, "says722", "(III)I"⟩
abbrev cX7_root : ByteArray := prog_9_method_33_code
def yX7_root : MethodName := ⟨RX7, "root", "(II)I"⟩
abbrev cX7_both : ByteArray := prog_9_method_34_code
def yX7_both : MethodName := ⟨RX7, "both", "(III)V"⟩
abbrev cX7_goesOn : ByteArray := prog_9_method_35_code
def yX7_goesOn : MethodName := ⟨RX7, "goesOn", "(II)V"⟩
abbrev cX7_hears722 : ByteArray := prog_9_method_36_code
def yX7_hears722 : MethodName := ⟨RX7, "hears722", "(II)I"⟩
abbrev cX7_isSample : ByteArray := prog_9_method_37_code
def yX7_isSample : MethodName := ⟨RX7, "isSample", "(I)Z"⟩
abbrev cX7_bitsOf : ByteArray := prog_9_method_38_code
def yX7_bitsOf : MethodName := ⟨RX7, "bitsOf", "(I)I"⟩
abbrev cX7_says : ByteArray := prog_9_method_39_code
def yX7_says : MethodName := ⟨RX7, "says", "(II)I"⟩
abbrev cX7_hears : ByteArray := prog_9_method_40_code
def yX7_hears : MethodName := ⟨RX7, "hears", "(II)I"⟩
abbrev cX7_say : ByteArray := prog_9_method_41_code
def yX7_say : MethodName := ⟨RX7, "say", "(II)I"⟩
abbrev cX7_pair : ByteArray := prog_9_method_42_code
def yX7_pair : MethodName := ⟨RX7, "pair", "(III)I"⟩
abbrev cX7_isCode : ByteArray := prog_9_method_43_code
def yX7_isCode : MethodName := ⟨RX7, "isCode", "(II)Z"⟩
abbrev cX7_hear : ByteArray := prog_9_method_44_code
def yX7_hear : MethodName := ⟨RX7, "hear", "(II)I"⟩
abbrev cX7_second : ByteArray := prog_9_method_45_code
def yX7_second : MethodName := ⟨RX7, "second", "(I)I"⟩
abbrev cX7_inner : ByteArray := prog_9_method_46_code
def yX7_inner : MethodName := ⟨RX7, "inner", "(III)I"⟩
abbrev cX7_puts : ByteArray := prog_9_method_47_code
def yX7_puts : MethodName := ⟨RX7, "puts", "(I)V"⟩
abbrev cX7_feed : ByteArray := prog_9_method_48_code
def yX7_feed : MethodName := ⟨RX7, "feed", "(IIIII)I"⟩
abbrev cX7_end : ByteArray := prog_9_method_49_code
def yX7_end : MethodName := ⟨RX7, "end", "(I)I"⟩
abbrev cX7_take : ByteArray := prog_9_method_50_code
def yX7_take : MethodName := ⟨RX7, "take", "()I"⟩
abbrev cX7_out : ByteArray := prog_9_method_51_code
def yX7_out : MethodName := ⟨RX7, "out", "(I)I"⟩
abbrev cX7_sampleAt : ByteArray := prog_9_method_52_code
def yX7_sampleAt : MethodName := ⟨RX7, "sampleAt", "(I)I"⟩
abbrev cX7_bit : ByteArray := prog_9_method_53_code
def yX7_bit : MethodName := ⟨RX7, "bit", "(IIZ)V"⟩
abbrev cX7_pack : ByteArray := prog_9_method_54_code
def yX7_pack : MethodName := ⟨RX7, "pack", "(IZ)I"⟩
abbrev cX7_sample : ByteArray := prog_9_method_55_code
def yX7_sample : MethodName := ⟨RX7, "sample", "(I)V"⟩
abbrev cX7_unpack : ByteArray := prog_9_method_56_code
def yX7_unpack : MethodName := ⟨RX7, "unpack", "(IZI)I"⟩
abbrev cX7_pass : ByteArray := prog_9_method_57_code
def yX7_pass : MethodName := ⟨RX7, "pass", "(III)I"⟩
abbrev cX7_finds : ByteArray := prog_9_method_58_code
def yX7_finds : MethodName := ⟨RX7, "finds", "()V"⟩
abbrev cX7_law : ByteArray := prog_9_method_59_code
def yX7_law : MethodName := ⟨RX7, "law", "(III)I"⟩
def RJ9 : String := "java/lang/Math"
def TJ9 : u_T := fun k => match k with
  | _ => ("", "", "", false)
def tyJ9 : Nat → FieldType := fun k => match k with
  | _ => .int
abbrev wsJ90 : List Cond := u_ws RJ9 TJ9 0
theorem nmJ9 : ∀ a, a < 0 → ∀ b, b < 0 → a ≠ b → (TJ9 a).2.1 ≠ (TJ9 b).2.1 := by decide +kernel
theorem tyJ9_ok : ∀ k, k < 0 → parseFieldDescriptor (TJ9 k).2.2.1 = some (tyJ9 k) := by decide +kernel
abbrev cJ9_abs_0f7a4 : ByteArray := prog_10_method_59_code
def yJ9_abs_0f7a4 : MethodName := ⟨RJ9, "abs", "(I)I"⟩
abbrev cJ9_max_7cf53 : ByteArray := prog_10_method_65_code
def yJ9_max_7cf53 : MethodName := ⟨RJ9, "max", "(II)I"⟩
abbrev cJ9_min_7cf53 : ByteArray := prog_10_method_69_code
def yJ9_min_7cf53 : MethodName := ⟨RJ9, "min", "(II)I"⟩
def RL : String := "VoiceDeskLaw"
abbrev cL_law : ByteArray := code
def yL_law : MethodName := ⟨RL, "law", "([I)Z"⟩
def wsL_law_r1 : List Cond := [Cond.classLink RL 7 RX6, Cond.instantiable RX6 3, Cond.initialized RX6, Cond.classLink RL 10 RX7, Cond.instantiable RX7 43, Cond.initialized RX7, Cond.methodLink RL 9 yX6_init, Cond.instanceMethod yX6_init, Cond.code yX6_init cX6_init 2 none, Cond.methodLink RX6 1 objectInit, Cond.instanceMethod objectInit, Cond.code objectInit ⟨#[0xb1]⟩ 1 none, Cond.classLink RX6 9 RX4, Cond.fieldLink RX6 11 "VoiceDesk" "lines" "[LVoiceDesk$Line;", Cond.instantiable RX4 5, Cond.initialized RX4, Cond.classLink RX6 16 RX2, Cond.instantiable RX2 2, Cond.initialized RX2, Cond.fieldLink RX6 19 "VoiceDesk" "tape" "LVoiceDesk$Bytes;", Cond.fieldLink RX6 23 "VoiceDesk" "result" "LVoiceDesk$Bytes;", Cond.instanceMethod yX4_init, Cond.code yX4_init cX4_init 1 none, Cond.methodLink RX4 3 objectInit]
def wsL_law_r2 : List Cond := [Cond.classLink RX4 9 RX0, Cond.instantiable RX0 5, Cond.initialized RX0, Cond.fieldLink RX4 12 "VoiceDesk$Line" "adpcmSpeaker" "LVoiceDesk$Adpcm;", Cond.fieldLink RX4 18 "VoiceDesk$Line" "adpcmHearer" "LVoiceDesk$Adpcm;", Cond.classLink RX4 21 RX5, Cond.instantiable RX5 4, Cond.initialized RX5, Cond.fieldLink RX4 24 "VoiceDesk$Line" "wideSpeaker" "LVoiceDesk$Wideband;", Cond.fieldLink RX4 28 "VoiceDesk$Line" "wideHearer" "LVoiceDesk$Wideband;", Cond.constant RX4 31 (-100000), Cond.fieldLink RX4 32 "VoiceDesk$Line" "kind" "I", Cond.instanceMethod yX0_init, Cond.code yX0_init cX0_init 1 none, Cond.methodLink RX0 3 objectInit, Cond.arrayClass .int, Cond.fieldLink RX0 11 "VoiceDesk$Adpcm" "numbers" "[I", Cond.fieldLink RX0 15 "VoiceDesk$Adpcm" "bits" "I", Cond.fieldLink RX0 19 "VoiceDesk$Adpcm" "se" "I", Cond.fieldLink RX0 22 "VoiceDesk$Adpcm" "sz" "I", Cond.fieldLink RX0 25 "VoiceDesk$Adpcm" "step" "I", Cond.instanceMethod yX5_init, Cond.code yX5_init cX5_init 1 none, Cond.methodLink RX5 3 objectInit]
def wsL_law_r3 : List Cond := [Cond.classLink RX5 9 RX1, Cond.instantiable RX1 1, Cond.initialized RX1, Cond.fieldLink RX5 12 "VoiceDesk$Wideband" "low" "LVoiceDesk$Band;", Cond.fieldLink RX5 18 "VoiceDesk$Wideband" "high" "LVoiceDesk$Band;", Cond.fieldLink RX5 21 "VoiceDesk$Wideband" "x" "[I", Cond.fieldLink RX5 25 "VoiceDesk$Wideband" "secondHeard" "I", Cond.instanceMethod yX1_init, Cond.code yX1_init cX1_init 1 none, Cond.methodLink RX1 3 objectInit, Cond.fieldLink RX1 11 "VoiceDesk$Band" "numbers" "[I", Cond.instanceMethod yX2_init, Cond.code yX2_init cX2_init 1 none, Cond.methodLink RX2 3 objectInit, Cond.fieldLink RX2 11 "VoiceDesk$Bytes" "row" "[I", Cond.fieldLink RX2 15 "VoiceDesk$Bytes" "length" "I", Cond.methodLink RL 12 yX7_init, Cond.instanceMethod yX7_init, Cond.code yX7_init cX7_init 1 none, Cond.methodLink RX7 1 objectInit, Cond.constant RX7 9 (-100000), Cond.fieldLink RX7 10 "VoiceDeskModel" "kinds" "[I", Cond.fieldLink RX7 14 "VoiceDeskModel" "seconds" "[I", Cond.fieldLink RX7 17 "VoiceDeskModel" "g" "[I"]
def wsL_law_r4 : List Cond := [Cond.fieldLink RX7 20 "VoiceDeskModel" "bounds2" "[I", Cond.fieldLink RX7 23 "VoiceDeskModel" "bounds3" "[I", Cond.fieldLink RX7 26 "VoiceDeskModel" "bounds4" "[I", Cond.fieldLink RX7 29 "VoiceDeskModel" "bounds5" "[I", Cond.fieldLink RX7 32 "VoiceDeskModel" "table2" "[I", Cond.fieldLink RX7 35 "VoiceDeskModel" "table3" "[I", Cond.fieldLink RX7 38 "VoiceDeskModel" "table4" "[I", Cond.fieldLink RX7 41 "VoiceDeskModel" "table5" "[I", Cond.fieldLink RX7 44 "VoiceDeskModel" "weight2" "[I", Cond.fieldLink RX7 47 "VoiceDeskModel" "weight3" "[I", Cond.constant RX7 50 (35904), Cond.fieldLink RX7 51 "VoiceDeskModel" "weight4" "[I", Cond.fieldLink RX7 54 "VoiceDeskModel" "weight5" "[I", Cond.fieldLink RX7 57 "VoiceDeskModel" "pace2" "[I", Cond.fieldLink RX7 60 "VoiceDeskModel" "pace3" "[I", Cond.fieldLink RX7 63 "VoiceDeskModel" "pace4" "[I", Cond.fieldLink RX7 66 "VoiceDeskModel" "pace5" "[I", Cond.fieldLink RX7 69 "VoiceDeskModel" "bands" "[I", Cond.fieldLink RX7 72 "VoiceDeskModel" "sieve" "[I", Cond.fieldLink RX7 75 "VoiceDeskModel" "coefficients" "[I", Cond.fieldLink RX7 78 "VoiceDeskModel" "steps" "[I", Cond.fieldLink RX7 81 "VoiceDeskModel" "roots" "[I", Cond.fieldLink RX7 84 "VoiceDeskModel" "ups" "[I", Cond.fieldLink RX7 87 "VoiceDeskModel" "highs" "[I"]
def wsL_law_r5 : List Cond := [Cond.fieldLink RX7 90 "VoiceDeskModel" "lowWeights" "[I", Cond.fieldLink RX7 93 "VoiceDeskModel" "highWeights" "[I", Cond.fieldLink RX7 96 "VoiceDeskModel" "heard56" "[I", Cond.fieldLink RX7 99 "VoiceDeskModel" "heard64" "[I", Cond.fieldLink RX7 102 "VoiceDeskModel" "tape" "[I", Cond.fieldLink RX7 105 "VoiceDeskModel" "out" "[I", Cond.fieldLink RX7 108 "VoiceDeskModel" "least" "[I", Cond.fieldLink RX7 111 "VoiceDeskModel" "greatest" "[I", Cond.methodLink RL 13 yX6_open, Cond.instanceMethod yX6_open, Cond.selects RX6 yX6_open yX6_open, Cond.code yX6_open cX6_open 3 (some .boolean), Cond.methodLink RX6 26 yX4_begin, Cond.instanceMethod yX4_begin, Cond.selects RX4 yX4_begin yX4_begin, Cond.code yX4_begin cX4_begin 2 none, Cond.methodLink RX4 36 yX4_isAdpcm, Cond.instanceMethod yX4_isAdpcm, Cond.selects RX4 yX4_isAdpcm yX4_isAdpcm, Cond.code yX4_isAdpcm cX4_isAdpcm 1 (some .boolean), Cond.methodLink RX4 40 yX0_begin, Cond.instanceMethod yX0_begin, Cond.selects RX0 yX0_begin yX0_begin, Cond.code yX0_begin cX0_begin 3 none]
def wsL_law_r6 : List Cond := [Cond.constant RX0 28 (34816), Cond.methodLink RX4 44 yX4_isWide, Cond.instanceMethod yX4_isWide, Cond.selects RX4 yX4_isWide yX4_isWide, Cond.code yX4_isWide cX4_isWide 1 (some .boolean), Cond.methodLink RX4 47 yX5_begin, Cond.instanceMethod yX5_begin, Cond.selects RX5 yX5_begin yX5_begin, Cond.code yX5_begin cX5_begin 2 none, Cond.methodLink RX5 29 yX1_begin, Cond.instanceMethod yX1_begin, Cond.selects RX1 yX1_begin yX1_begin, Cond.code yX1_begin cX1_begin 3 none, Cond.methodLink RL 17 yX7_open, Cond.instanceMethod yX7_open, Cond.selects RX7 yX7_open yX7_open, Cond.code yX7_open cX7_open 5 (some .boolean), Cond.fieldLink RX7 114 "VoiceDeskModel" "told" "I", Cond.constant RX7 122 (34816), Cond.methodLink RX7 118 yX7_isLine, Cond.instanceMethod yX7_isLine, Cond.selects RX7 yX7_isLine yX7_isLine, Cond.code yX7_isLine cX7_isLine 2 (some .boolean), Cond.methodLink RL 18 yX6_kind]
def wsL_law_r7 : List Cond := [Cond.instanceMethod yX6_kind, Cond.selects RX6 yX6_kind yX6_kind, Cond.code yX6_kind cX6_kind 3 (some .int), Cond.constant RX6 34 (-100000), Cond.methodLink RX6 30 yX6_openLine, Cond.instanceMethod yX6_openLine, Cond.selects RX6 yX6_openLine yX6_openLine, Cond.code yX6_openLine cX6_openLine 3 (some (.object "VoiceDesk$Line")), Cond.methodLink RL 22 yX7_kind, Cond.instanceMethod yX7_kind, Cond.selects RX7 yX7_kind yX7_kind, Cond.code yX7_kind cX7_kind 2 (some .int), Cond.methodLink RL 23 yX6_say, Cond.instanceMethod yX6_say, Cond.selects RX6 yX6_say yX6_say, Cond.code yX6_say cX6_say 4 (some .int), Cond.methodLink RX6 39 yX4_isWide, Cond.methodLink RX6 43 yX6_isSample, Cond.static yX6_isSample, Cond.code yX6_isSample cX6_isSample 1 (some .boolean), Cond.methodLink RX6 47 yX4_encode, Cond.instanceMethod yX4_encode, Cond.selects RX4 yX4_encode yX4_encode, Cond.code yX4_encode cX4_encode 3 (some .int)]
def wsL_law_r8 : List Cond := [Cond.methodLink RX4 53 yX5_encode, Cond.instanceMethod yX5_encode, Cond.selects RX5 yX5_encode yX5_encode, Cond.code yX5_encode cX5_encode 7 (some .int), Cond.methodLink RX5 38 yX5_push, Cond.instanceMethod yX5_push, Cond.selects RX5 yX5_push yX5_push, Cond.code yX5_push cX5_push 4 none, Cond.methodLink RX5 42 yX5_evenSum, Cond.instanceMethod yX5_evenSum, Cond.selects RX5 yX5_evenSum yX5_evenSum, Cond.code yX5_evenSum cX5_evenSum 3 (some .int), Cond.fieldLink RX5 74 "VoiceDesk$Wideband" "COEFFICIENTS" "[I", Cond.methodLink RX5 46 yX5_oddSum, Cond.instanceMethod yX5_oddSum, Cond.selects RX5 yX5_oddSum yX5_oddSum, Cond.code yX5_oddSum cX5_oddSum 3 (some .int), Cond.methodLink RX5 49 yX1_error, Cond.instanceMethod yX1_error, Cond.selects RX1 yX1_error yX1_error, Cond.code yX1_error cX1_error 2 (some .int), Cond.static yX6_limited, Cond.code yX6_limited cX6_limited 1 (some .int), Cond.methodLink RX5 52 yX5_lowCode]
def wsL_law_r9 : List Cond := [Cond.instanceMethod yX5_lowCode, Cond.selects RX5 yX5_lowCode yX5_lowCode, Cond.code yX5_lowCode cX5_lowCode 4 (some .int), Cond.fieldLink RX5 77 "VoiceDesk$Wideband" "Q" "[I", Cond.methodLink RX5 80 yX1_scaled, Cond.instanceMethod yX1_scaled, Cond.selects RX1 yX1_scaled yX1_scaled, Cond.code yX1_scaled cX1_scaled 2 (some .int), Cond.methodLink RX5 55 yX5_highCode, Cond.instanceMethod yX5_highCode, Cond.selects RX5 yX5_highCode yX5_highCode, Cond.code yX5_highCode cX5_highCode 4 (some .int), Cond.methodLink RX5 58 yX5_settle, Cond.instanceMethod yX5_settle, Cond.selects RX5 yX5_settle yX5_settle, Cond.code yX5_settle cX5_settle 4 none, Cond.fieldLink RX5 89 "VoiceDesk$Wideband" "U" "[I", Cond.fieldLink RX5 92 "VoiceDesk$Wideband" "WL" "[I", Cond.fieldLink RX5 68 "VoiceDesk$Wideband" "V" "[I", Cond.fieldLink RX5 98 "VoiceDesk$Wideband" "WH" "[I", Cond.methodLink RX5 95 yX1_settle, Cond.instanceMethod yX1_settle, Cond.selects RX1 yX1_settle yX1_settle, Cond.code yX1_settle cX1_settle 10 none]
def wsL_law_r10 : List Cond := [Cond.methodLink RX1 20 yX1_difference, Cond.instanceMethod yX1_difference, Cond.selects RX1 yX1_difference yX1_difference, Cond.code yX1_difference cX1_difference 2 (some .int), Cond.methodLink RX1 27 yX1_adaptScale, Cond.instanceMethod yX1_adaptScale, Cond.selects RX1 yX1_adaptScale yX1_adaptScale, Cond.code yX1_adaptScale cX1_adaptScale 7 none, Cond.fieldLink RX1 45 "VoiceDesk$Band" "ROOTS" "[I", Cond.static yX6_cut, Cond.code yX6_cut cX6_cut 3 (some .int), Cond.methodLink RX1 31 yX1_adaptPoles, Cond.instanceMethod yX1_adaptPoles, Cond.selects RX1 yX1_adaptPoles yX1_adaptPoles, Cond.code yX1_adaptPoles cX1_adaptPoles 8 none, Cond.methodLink RX1 51 Lib.Math.min.name, Cond.static Lib.Math.min.name, Cond.initialized "java/lang/Math", Cond.code Lib.Math.min.name Lib.Math.min.code 2 (some .int), Cond.static yX6_sign, Cond.code yX6_sign cX6_sign 1 (some .int), Cond.methodLink RX1 35 yX1_adaptZeros, Cond.instanceMethod yX1_adaptZeros, Cond.selects RX1 yX1_adaptZeros yX1_adaptZeros]
def wsL_law_r11 : List Cond := [Cond.code yX1_adaptZeros cX1_adaptZeros 4 none, Cond.methodLink RX1 38 yX1_remember, Cond.instanceMethod yX1_remember, Cond.selects RX1 yX1_remember yX1_remember, Cond.code yX1_remember cX1_remember 5 none, Cond.methodLink RX1 41 yX1_product, Cond.instanceMethod yX1_product, Cond.selects RX1 yX1_product yX1_product, Cond.code yX1_product cX1_product 3 (some .int), Cond.methodLink RX4 57 yX0_encode, Cond.instanceMethod yX0_encode, Cond.selects RX0 yX0_encode yX0_encode, Cond.code yX0_encode cX0_encode 3 (some .int), Cond.methodLink RX0 30 yX0_foresee, Cond.instanceMethod yX0_foresee, Cond.selects RX0 yX0_foresee yX0_foresee, Cond.code yX0_foresee cX0_foresee 3 none, Cond.methodLink RX0 43 yX0_times, Cond.static yX0_times, Cond.code yX0_times cX0_times 8 (some .int), Cond.methodLink RX0 54 Lib.Math.abs.name, Cond.static Lib.Math.abs.name, Cond.code Lib.Math.abs.name Lib.Math.abs.code 1 (some .int), Cond.methodLink RX0 59 yX0_size]
def wsL_law_r12 : List Cond := [Cond.static yX0_size, Cond.code yX0_size cX0_size 2 (some .int), Cond.methodLink RX0 122 yX0_shifted, Cond.static yX0_shifted, Cond.code yX0_shifted cX0_shifted 2 (some .int), Cond.static yX6_wrapped, Cond.code yX6_wrapped cX6_wrapped 1 (some .int), Cond.methodLink RX0 50 yX0_stepNow, Cond.instanceMethod yX0_stepNow, Cond.selects RX0 yX0_stepNow yX0_stepNow, Cond.code yX0_stepNow cX0_stepNow 4 (some .int), Cond.methodLink RX0 33 yX0_codeOf, Cond.instanceMethod yX0_codeOf, Cond.selects RX0 yX0_codeOf yX0_codeOf, Cond.code yX0_codeOf cX0_codeOf 8 (some .int), Cond.fieldLink RX0 62 "VoiceDesk$Adpcm" "BOUNDS" "[I", Cond.methodLink RX0 37 yX0_settle, Cond.instanceMethod yX0_settle, Cond.selects RX0 yX0_settle yX0_settle, Cond.code yX0_settle cX0_settle 8 (some .int), Cond.fieldLink RX0 68 "VoiceDesk$Adpcm" "TABLE" "[I", Cond.fieldLink RX0 78 "VoiceDesk$Adpcm" "WEIGHT" "[I", Cond.fieldLink RX0 109 "VoiceDesk$Adpcm" "PACE" "[I", Cond.methodLink RX0 65 yX0_tablePlace]
def wsL_law_r13 : List Cond := [Cond.instanceMethod yX0_tablePlace, Cond.selects RX0 yX0_tablePlace yX0_tablePlace, Cond.code yX0_tablePlace cX0_tablePlace 5 (some .int), Cond.methodLink RX0 71 yX0_amount, Cond.static yX0_amount, Cond.code yX0_amount cX0_amount 1 (some .int), Cond.methodLink RX0 74 yX0_isTransition, Cond.instanceMethod yX0_isTransition, Cond.selects RX0 yX0_isTransition yX0_isTransition, Cond.code yX0_isTransition cX0_isTransition 4 (some .boolean), Cond.methodLink RX0 81 yX0_adaptStep, Cond.instanceMethod yX0_adaptStep, Cond.selects RX0 yX0_adaptStep yX0_adaptStep, Cond.code yX0_adaptStep cX0_adaptStep 2 none, Cond.methodLink RX0 85 yX0_forgetFilters, Cond.instanceMethod yX0_forgetFilters, Cond.selects RX0 yX0_forgetFilters yX0_forgetFilters, Cond.code yX0_forgetFilters cX0_forgetFilters 2 none, Cond.methodLink RX0 88 yX0_adaptA2, Cond.instanceMethod yX0_adaptA2, Cond.selects RX0 yX0_adaptA2 yX0_adaptA2, Cond.code yX0_adaptA2 cX0_adaptA2 5 none, Cond.methodLink RX0 119 yX0_nudgedA2, Cond.static yX0_nudgedA2]
def wsL_law_r14 : List Cond := [Cond.code yX0_nudgedA2 cX0_nudgedA2 2 (some .int), Cond.methodLink RX0 91 yX0_adaptA1, Cond.instanceMethod yX0_adaptA1, Cond.selects RX0 yX0_adaptA1 yX0_adaptA1, Cond.code yX0_adaptA1 cX0_adaptA1 4 none, Cond.methodLink RX0 94 yX0_adaptZeros, Cond.instanceMethod yX0_adaptZeros, Cond.selects RX0 yX0_adaptZeros yX0_adaptZeros, Cond.code yX0_adaptZeros cX0_adaptZeros 6 none, Cond.methodLink RX0 98 yX0_floatOf, Cond.static yX0_floatOf, Cond.code yX0_floatOf cX0_floatOf 4 (some .int), Cond.constant RX0 125 (32768), Cond.methodLink RX0 105 yX0_remember, Cond.instanceMethod yX0_remember, Cond.selects RX0 yX0_remember yX0_remember, Cond.code yX0_remember cX0_remember 5 none, Cond.methodLink RX0 112 yX0_adaptPace, Cond.instanceMethod yX0_adaptPace, Cond.selects RX0 yX0_adaptPace yX0_adaptPace, Cond.code yX0_adaptPace cX0_adaptPace 4 none, Cond.methodLink RX4 60 yX3_muCode, Cond.static yX3_muCode, Cond.initialized RX3]
def wsL_law_r15 : List Cond := [Cond.code yX3_muCode cX3_muCode 5 (some .int), Cond.methodLink RX3 9 Lib.Math.abs.name, Cond.methodLink RX3 17 Lib.Math.min.name, Cond.methodLink RX3 21 yX3_segment, Cond.static yX3_segment, Cond.code yX3_segment cX3_segment 3 (some .int), Cond.methodLink RX4 65 yX3_aCode, Cond.static yX3_aCode, Cond.code yX3_aCode cX3_aCode 5 (some .int), Cond.methodLink RX3 24 Lib.Math.max.name, Cond.static Lib.Math.max.name, Cond.code Lib.Math.max.name Lib.Math.max.code 2 (some .int), Cond.methodLink RL 27 yX7_say, Cond.instanceMethod yX7_say, Cond.selects RX7 yX7_say yX7_say, Cond.code yX7_say cX7_say 3 (some .int), Cond.methodLink RX7 229 yX7_isOpen, Cond.instanceMethod yX7_isOpen, Cond.selects RX7 yX7_isOpen yX7_isOpen, Cond.code yX7_isOpen cX7_isOpen 2 (some .boolean), Cond.methodLink RX7 232 yX7_isPaired, Cond.instanceMethod yX7_isPaired, Cond.selects RX7 yX7_isPaired yX7_isPaired, Cond.code yX7_isPaired cX7_isPaired 2 (some .boolean)]
def wsL_law_r16 : List Cond := [Cond.methodLink RX7 235 yX7_isSample, Cond.instanceMethod yX7_isSample, Cond.selects RX7 yX7_isSample yX7_isSample, Cond.code yX7_isSample cX7_isSample 2 (some .boolean), Cond.methodLink RX7 238 yX7_says, Cond.instanceMethod yX7_says, Cond.selects RX7 yX7_says yX7_says, Cond.code yX7_says cX7_says 3 (some .int), Cond.methodLink RX7 208 yX7_muSays, Cond.instanceMethod yX7_muSays, Cond.selects RX7 yX7_muSays yX7_muSays, Cond.code yX7_muSays cX7_muSays 5 (some .int), Cond.methodLink RX7 123 yX7_sign, Cond.instanceMethod yX7_sign, Cond.selects RX7 yX7_sign yX7_sign, Cond.code yX7_sign cX7_sign 2 (some .int), Cond.methodLink RX7 127 yX7_amount, Cond.instanceMethod yX7_amount, Cond.selects RX7 yX7_amount yX7_amount, Cond.code yX7_amount cX7_amount 2 (some .int), Cond.methodLink RX7 211 yX7_aSays, Cond.instanceMethod yX7_aSays, Cond.selects RX7 yX7_aSays yX7_aSays, Cond.code yX7_aSays cX7_aSays 5 (some .int)]
def wsL_law_r17 : List Cond := [Cond.methodLink RX7 214 yX7_says726, Cond.instanceMethod yX7_says726, Cond.selects RX7 yX7_says726 yX7_says726, Cond.code yX7_says726 cX7_says726 11 (some .int), Cond.fieldLink RX7 146 "VoiceDeskModel" "sumE" "I", Cond.fieldLink RX7 149 "VoiceDeskModel" "stepY" "I", Cond.methodLink RX7 152 yX7_forehand, Cond.instanceMethod yX7_forehand, Cond.selects RX7 yX7_forehand yX7_forehand, Cond.code yX7_forehand cX7_forehand 7 none, Cond.fieldLink RX7 143 "VoiceDeskModel" "sumZ" "I", Cond.methodLink RX7 137 yX7_times, Cond.instanceMethod yX7_times, Cond.selects RX7 yX7_times yX7_times, Cond.code yX7_times cX7_times 9 (some .int), Cond.methodLink RX7 134 yX7_size, Cond.instanceMethod yX7_size, Cond.selects RX7 yX7_size yX7_size, Cond.code yX7_size cX7_size 3 (some .int), Cond.methodLink RX7 140 yX7_wrapped, Cond.instanceMethod yX7_wrapped, Cond.selects RX7 yX7_wrapped yX7_wrapped, Cond.code yX7_wrapped cX7_wrapped 2 (some .int), Cond.methodLink RX7 156 yX7_bound]
def wsL_law_r18 : List Cond := [Cond.instanceMethod yX7_bound, Cond.selects RX7 yX7_bound yX7_bound, Cond.code yX7_bound cX7_bound 3 (some .int), Cond.methodLink RX7 159 yX7_comes, Cond.instanceMethod yX7_comes, Cond.selects RX7 yX7_comes yX7_comes, Cond.code yX7_comes cX7_comes 16 (some .int), Cond.methodLink RX7 163 yX7_table, Cond.instanceMethod yX7_table, Cond.selects RX7 yX7_table yX7_table, Cond.code yX7_table cX7_table 4 (some .int), Cond.methodLink RX7 130 yX7_half, Cond.instanceMethod yX7_half, Cond.selects RX7 yX7_half yX7_half, Cond.code yX7_half cX7_half 3 (some .int), Cond.methodLink RX7 166 yX7_weight, Cond.instanceMethod yX7_weight, Cond.selects RX7 yX7_weight yX7_weight, Cond.code yX7_weight cX7_weight 4 (some .int), Cond.methodLink RX7 169 yX7_cut, Cond.instanceMethod yX7_cut, Cond.selects RX7 yX7_cut yX7_cut, Cond.code yX7_cut cX7_cut 4 (some .int), Cond.methodLink RX7 172 yX7_adapts]
def wsL_law_r19 : List Cond := [Cond.instanceMethod yX7_adapts, Cond.selects RX7 yX7_adapts yX7_adapts, Cond.code yX7_adapts cX7_adapts 10 (some .int), Cond.methodLink RX7 175 yX7_floated, Cond.instanceMethod yX7_floated, Cond.selects RX7 yX7_floated yX7_floated, Cond.code yX7_floated cX7_floated 5 (some .int), Cond.methodLink RX7 179 yX7_pace, Cond.instanceMethod yX7_pace, Cond.selects RX7 yX7_pace yX7_pace, Cond.code yX7_pace cX7_pace 4 (some .int), Cond.methodLink RX7 182 yX7_limited, Cond.instanceMethod yX7_limited, Cond.selects RX7 yX7_limited yX7_limited, Cond.code yX7_limited cX7_limited 2 (some .int), Cond.methodLink RL 28 yX6_pair, Cond.instanceMethod yX6_pair, Cond.selects RX6 yX6_pair yX6_pair, Cond.code yX6_pair cX6_pair 5 (some .int), Cond.methodLink RL 32 yX7_pair, Cond.instanceMethod yX7_pair, Cond.selects RX7 yX7_pair yX7_pair, Cond.code yX7_pair cX7_pair 4 (some .int), Cond.methodLink RX7 241 yX7_says722]
def wsL_law_r20 : List Cond := [Cond.instanceMethod yX7_says722, Cond.selects RX7 yX7_says722 yX7_says722, Cond.code yX7_says722 cX7_says722 13 (some .int), Cond.fieldLink RX7 188 "VoiceDeskModel" "even" "I", Cond.fieldLink RX7 185 "VoiceDeskModel" "odd" "I", Cond.methodLink RX7 191 yX7_sieves, Cond.instanceMethod yX7_sieves, Cond.selects RX7 yX7_sieves yX7_sieves, Cond.code yX7_sieves cX7_sieves 6 none, Cond.methodLink RX7 195 yX7_both, Cond.instanceMethod yX7_both, Cond.selects RX7 yX7_both yX7_both, Cond.code yX7_both cX7_both 8 none, Cond.methodLink RX7 198 yX7_root, Cond.instanceMethod yX7_root, Cond.selects RX7 yX7_root yX7_root, Cond.code yX7_root cX7_root 5 (some .int), Cond.methodLink RX7 201 yX7_goesOn, Cond.instanceMethod yX7_goesOn, Cond.selects RX7 yX7_goesOn yX7_goesOn, Cond.code yX7_goesOn cX7_goesOn 14 none, Cond.methodLink RL 33 yX6_hear, Cond.instanceMethod yX6_hear, Cond.selects RX6 yX6_hear yX6_hear]
def wsL_law_r21 : List Cond := [Cond.code yX6_hear cX6_hear 4 (some .int), Cond.methodLink RX6 51 yX4_hasCode, Cond.instanceMethod yX4_hasCode, Cond.selects RX4 yX4_hasCode yX4_hasCode, Cond.code yX4_hasCode cX4_hasCode 2 (some .boolean), Cond.methodLink RX4 49 yX4_codeBits, Cond.instanceMethod yX4_codeBits, Cond.selects RX4 yX4_codeBits yX4_codeBits, Cond.code yX4_codeBits cX4_codeBits 1 (some .int), Cond.methodLink RX6 54 yX4_decode, Cond.instanceMethod yX4_decode, Cond.selects RX4 yX4_decode yX4_decode, Cond.code yX4_decode cX4_decode 2 (some .int), Cond.methodLink RX4 68 yX5_decode, Cond.instanceMethod yX5_decode, Cond.selects RX5 yX5_decode yX5_decode, Cond.code yX5_decode cX5_decode 7 (some .int), Cond.methodLink RX5 61 yX5_lowFactor, Cond.static yX5_lowFactor, Cond.code yX5_lowFactor cX5_lowFactor 2 (some .int), Cond.fieldLink RX5 83 "VoiceDesk$Wideband" "X_64" "[I", Cond.fieldLink RX5 86 "VoiceDesk$Wideband" "X_56" "[I", Cond.methodLink RX5 65 yX1_heard, Cond.instanceMethod yX1_heard]
def wsL_law_r22 : List Cond := [Cond.selects RX1 yX1_heard yX1_heard, Cond.code yX1_heard cX1_heard 2 (some .int), Cond.methodLink RX4 71 yX0_decode, Cond.instanceMethod yX0_decode, Cond.selects RX0 yX0_decode yX0_decode, Cond.code yX0_decode cX0_decode 2 (some .int), Cond.methodLink RX4 73 yX3_muSample, Cond.static yX3_muSample, Cond.code yX3_muSample cX3_muSample 3 (some .int), Cond.methodLink RX4 76 yX3_aSample, Cond.static yX3_aSample, Cond.code yX3_aSample cX3_aSample 4 (some .int), Cond.methodLink RL 36 yX7_hear, Cond.instanceMethod yX7_hear, Cond.selects RX7 yX7_hear yX7_hear, Cond.code yX7_hear cX7_hear 3 (some .int), Cond.methodLink RX7 247 yX7_isCode, Cond.instanceMethod yX7_isCode, Cond.selects RX7 yX7_isCode yX7_isCode, Cond.code yX7_isCode cX7_isCode 3 (some .boolean), Cond.methodLink RX7 244 yX7_bitsOf, Cond.instanceMethod yX7_bitsOf, Cond.selects RX7 yX7_bitsOf yX7_bitsOf, Cond.code yX7_bitsOf cX7_bitsOf 2 (some .int)]
def wsL_law_r23 : List Cond := [Cond.methodLink RX7 251 yX7_hears, Cond.instanceMethod yX7_hears, Cond.selects RX7 yX7_hears yX7_hears, Cond.code yX7_hears cX7_hears 3 (some .int), Cond.methodLink RX7 217 yX7_muHears, Cond.instanceMethod yX7_muHears, Cond.selects RX7 yX7_muHears yX7_muHears, Cond.code yX7_muHears cX7_muHears 4 (some .int), Cond.methodLink RX7 220 yX7_aHears, Cond.instanceMethod yX7_aHears, Cond.selects RX7 yX7_aHears yX7_aHears, Cond.code yX7_aHears cX7_aHears 5 (some .int), Cond.methodLink RX7 223 yX7_hears726, Cond.instanceMethod yX7_hears726, Cond.selects RX7 yX7_hears726 yX7_hears726, Cond.code yX7_hears726 cX7_hears726 4 (some .int), Cond.methodLink RX7 226 yX7_hears722, Cond.instanceMethod yX7_hears722, Cond.selects RX7 yX7_hears722 yX7_hears722, Cond.code yX7_hears722 cX7_hears722 9 (some .int), Cond.methodLink RX7 205 yX7_heardBy, Cond.instanceMethod yX7_heardBy, Cond.selects RX7 yX7_heardBy yX7_heardBy, Cond.code yX7_heardBy cX7_heardBy 4 (some .int)]
def wsL_law_r24 : List Cond := [Cond.methodLink RL 37 yX6_second, Cond.instanceMethod yX6_second, Cond.selects RX6 yX6_second yX6_second, Cond.code yX6_second cX6_second 3 (some .int), Cond.methodLink RX6 58 yX4_secondHeard, Cond.instanceMethod yX4_secondHeard, Cond.selects RX4 yX4_secondHeard yX4_secondHeard, Cond.code yX4_secondHeard cX4_secondHeard 1 (some .int), Cond.methodLink RL 40 yX7_second, Cond.instanceMethod yX7_second, Cond.selects RX7 yX7_second yX7_second, Cond.code yX7_second cX7_second 2 (some .int), Cond.methodLink RL 41 yX6_inner, Cond.instanceMethod yX6_inner, Cond.selects RX6 yX6_inner yX6_inner, Cond.code yX6_inner cX6_inner 5 (some .int), Cond.methodLink RX6 62 yX4_number, Cond.instanceMethod yX4_number, Cond.selects RX4 yX4_number yX4_number, Cond.code yX4_number cX4_number 3 (some .int), Cond.methodLink RX4 82 yX5_number, Cond.instanceMethod yX5_number, Cond.selects RX5 yX5_number yX5_number, Cond.code yX5_number cX5_number 2 (some .int)]
def wsL_law_r25 : List Cond := [Cond.constant RX5 37 (-100000), Cond.methodLink RX5 33 yX1_number, Cond.instanceMethod yX1_number, Cond.selects RX1 yX1_number yX1_number, Cond.code yX1_number cX1_number 2 (some .int), Cond.constant RX1 15 (-100000), Cond.methodLink RX4 85 yX0_number, Cond.instanceMethod yX0_number, Cond.selects RX0 yX0_number yX0_number, Cond.code yX0_number cX0_number 2 (some .int), Cond.constant RX0 29 (-100000), Cond.methodLink RL 44 yX7_inner, Cond.instanceMethod yX7_inner, Cond.selects RX7 yX7_inner yX7_inner, Cond.code yX7_inner cX7_inner 5 (some .int), Cond.methodLink RL 45 yX6_feed, Cond.instanceMethod yX6_feed, Cond.selects RX6 yX6_feed yX6_feed, Cond.code yX6_feed cX6_feed 6 (some .int), Cond.methodLink RX6 69 yX2_addInt, Cond.instanceMethod yX2_addInt, Cond.selects RX2 yX2_addInt yX2_addInt, Cond.code yX2_addInt cX2_addInt 2 none, Cond.methodLink RX2 20 yX2_add]
def wsL_law_r26 : List Cond := [Cond.instanceMethod yX2_add, Cond.selects RX2 yX2_add yX2_add, Cond.code yX2_add cX2_add 2 none, Cond.methodLink RL 49 yX7_feed, Cond.instanceMethod yX7_feed, Cond.selects RX7 yX7_feed yX7_feed, Cond.code yX7_feed cX7_feed 6 (some .int), Cond.fieldLink RX7 254 "VoiceDeskModel" "taped" "I", Cond.methodLink RX7 257 yX7_puts, Cond.instanceMethod yX7_puts, Cond.selects RX7 yX7_puts yX7_puts, Cond.code yX7_puts cX7_puts 3 none, Cond.methodLink RL 50 yX6_end, Cond.instanceMethod yX6_end, Cond.selects RX6 yX6_end yX6_end, Cond.code yX6_end cX6_end 2 (some .int), Cond.methodLink RL 53 yX7_end, Cond.instanceMethod yX7_end, Cond.selects RX7 yX7_end yX7_end, Cond.code yX7_end cX7_end 2 (some .int), Cond.methodLink RL 54 yX6_take, Cond.instanceMethod yX6_take, Cond.selects RX6 yX6_take yX6_take, Cond.code yX6_take cX6_take 1 (some .int)]
def wsL_law_r27 : List Cond := [Cond.methodLink RX6 72 yX2_copyFrom, Cond.instanceMethod yX2_copyFrom, Cond.selects RX2 yX2_copyFrom yX2_copyFrom, Cond.code yX2_copyFrom cX2_copyFrom 3 none, Cond.methodLink RL 58 yX7_take, Cond.instanceMethod yX7_take, Cond.selects RX7 yX7_take yX7_take, Cond.code yX7_take cX7_take 2 (some .int), Cond.fieldLink RX7 260 "VoiceDeskModel" "outs" "I", Cond.methodLink RL 59 yX6_out, Cond.instanceMethod yX6_out, Cond.selects RX6 yX6_out yX6_out, Cond.code yX6_out cX6_out 2 (some .int), Cond.methodLink RX6 76 yX2_byteAt, Cond.instanceMethod yX2_byteAt, Cond.selects RX2 yX2_byteAt yX2_byteAt, Cond.code yX2_byteAt cX2_byteAt 2 (some .int), Cond.constant RX2 19 (-100000), Cond.methodLink RL 62 yX7_out, Cond.instanceMethod yX7_out, Cond.selects RX7 yX7_out yX7_out, Cond.code yX7_out cX7_out 2 (some .int), Cond.methodLink RL 63 yX6_pack, Cond.instanceMethod yX6_pack]
def wsL_law_r28 : List Cond := [Cond.selects RX6 yX6_pack yX6_pack, Cond.code yX6_pack cX6_pack 11 (some .int), Cond.methodLink RX6 79 yX4_codeBits, Cond.methodLink RX6 82 yX2_clearFor, Cond.instanceMethod yX2_clearFor, Cond.selects RX2 yX2_clearFor yX2_clearFor, Cond.code yX2_clearFor cX2_clearFor 3 none, Cond.methodLink RX2 34 Lib.Math.min.name, Cond.methodLink RX2 31 yX2_needed, Cond.static yX2_needed, Cond.code yX2_needed cX2_needed 1 (some .int), Cond.methodLink RX6 85 yX2_sampleAt, Cond.instanceMethod yX2_sampleAt, Cond.selects RX2 yX2_sampleAt yX2_sampleAt, Cond.code yX2_sampleAt cX2_sampleAt 2 (some .int), Cond.methodLink RX2 24 yX2_byteAt, Cond.methodLink RX6 88 yX2_putCode, Cond.instanceMethod yX2_putCode, Cond.selects RX2 yX2_putCode yX2_putCode, Cond.code yX2_putCode cX2_putCode 9 none, Cond.methodLink RX2 40 yX2_codeBit, Cond.static yX2_codeBit, Cond.code yX2_codeBit cX2_codeBit 3 (some .int), Cond.methodLink RX2 44 yX2_byteBit]
def wsL_law_r29 : List Cond := [Cond.static yX2_byteBit, Cond.code yX2_byteBit cX2_byteBit 2 (some .int), Cond.methodLink RL 67 yX7_pack, Cond.instanceMethod yX7_pack, Cond.selects RX7 yX7_pack yX7_pack, Cond.code yX7_pack cX7_pack 9 (some .int), Cond.methodLink RX7 263 yX7_sampleAt, Cond.instanceMethod yX7_sampleAt, Cond.selects RX7 yX7_sampleAt yX7_sampleAt, Cond.code yX7_sampleAt cX7_sampleAt 2 (some .int), Cond.methodLink RX7 266 yX7_bit, Cond.instanceMethod yX7_bit, Cond.selects RX7 yX7_bit yX7_bit, Cond.code yX7_bit cX7_bit 4 none, Cond.methodLink RL 68 yX6_unpack, Cond.instanceMethod yX6_unpack, Cond.selects RX6 yX6_unpack yX6_unpack, Cond.code yX6_unpack cX6_unpack 7 (some .int), Cond.methodLink RX6 92 yX2_needed, Cond.methodLink RX6 95 yX2_codeAt, Cond.instanceMethod yX2_codeAt, Cond.selects RX2 yX2_codeAt yX2_codeAt, Cond.code yX2_codeAt cX2_codeAt 8 (some .int), Cond.methodLink RX6 99 yX2_addSample]
def wsL_law_r30 : List Cond := [Cond.instanceMethod yX2_addSample, Cond.selects RX2 yX2_addSample yX2_addSample, Cond.code yX2_addSample cX2_addSample 2 none, Cond.methodLink RL 72 yX7_unpack, Cond.instanceMethod yX7_unpack, Cond.selects RX7 yX7_unpack yX7_unpack, Cond.code yX7_unpack cX7_unpack 10 (some .int), Cond.methodLink RX7 270 yX7_sample, Cond.instanceMethod yX7_sample, Cond.selects RX7 yX7_sample yX7_sample, Cond.code yX7_sample cX7_sample 2 none, Cond.methodLink RL 73 yX6_pass, Cond.instanceMethod yX6_pass, Cond.selects RX6 yX6_pass yX6_pass, Cond.code yX6_pass cX6_pass 7 (some .int), Cond.methodLink RL 76 yX7_pass, Cond.instanceMethod yX7_pass, Cond.selects RX7 yX7_pass yX7_pass, Cond.code yX7_pass cX7_pass 5 (some .int), Cond.methodLink RL 77 yX6_law, Cond.instanceMethod yX6_law, Cond.selects RX6 yX6_law yX6_law, Cond.code yX6_law cX6_law 4 (some .int), Cond.methodLink RX6 102 yX3_muEdge]
def wsL_law_r31 : List Cond := [Cond.static yX3_muEdge, Cond.code yX3_muEdge cX3_muEdge 8 (some .int), Cond.constant RX3 27 (-100000), Cond.methodLink RX6 108 yX3_aEdge, Cond.static yX3_aEdge, Cond.code yX3_aEdge cX3_aEdge 8 (some .int), Cond.methodLink RX6 111 yX3_muSample, Cond.methodLink RX6 114 yX3_muCode, Cond.methodLink RX6 117 yX3_aSample, Cond.methodLink RX6 120 yX3_aCode, Cond.methodLink RL 80 yX7_law, Cond.instanceMethod yX7_law, Cond.selects RX7 yX7_law yX7_law, Cond.code yX7_law cX7_law 4 (some .int), Cond.methodLink RX7 277 yX7_finds, Cond.instanceMethod yX7_finds, Cond.selects RX7 yX7_finds yX7_finds, Cond.code yX7_finds cX7_finds 3 none, Cond.fieldLink RX7 273 "VoiceDeskModel" "isFound" "Z"]
def wsL_law : List Cond := (wsL_law_r1 ++ (wsL_law_r2 ++ (wsL_law_r3 ++ (wsL_law_r4 ++ (wsL_law_r5 ++ (wsL_law_r6 ++ (wsL_law_r7 ++ (wsL_law_r8 ++ (wsL_law_r9 ++ (wsL_law_r10 ++ (wsL_law_r11 ++ (wsL_law_r12 ++ (wsL_law_r13 ++ (wsL_law_r14 ++ (wsL_law_r15 ++ (wsL_law_r16 ++ (wsL_law_r17 ++ (wsL_law_r18 ++ (wsL_law_r19 ++ (wsL_law_r20 ++ (wsL_law_r21 ++ (wsL_law_r22 ++ (wsL_law_r23 ++ (wsL_law_r24 ++ (wsL_law_r25 ++ (wsL_law_r26 ++ (wsL_law_r27 ++ (wsL_law_r28 ++ (wsL_law_r29 ++ (wsL_law_r30 ++ wsL_law_r31)))))))))))))))))))))))))))))) ++ wsX60 ++ wsX70 ++ wsX40 ++ wsX20 ++ wsX00 ++ wsX50 ++ wsX10 ++ ([] : List Cond)
theorem inlX0 : ∀ w ∈ wsX00, w ∈ wsL_law := fun _ h => List.mem_append_left _ (List.mem_append_left _ (List.mem_append_left _ (List.mem_append_right _ h)))
theorem inlX1 : ∀ w ∈ wsX10, w ∈ wsL_law := fun _ h => List.mem_append_left _ (List.mem_append_right _ h)
theorem inlX2 : ∀ w ∈ wsX20, w ∈ wsL_law := fun _ h => List.mem_append_left _ (List.mem_append_left _ (List.mem_append_left _ (List.mem_append_left _ (List.mem_append_right _ h))))
theorem inlX4 : ∀ w ∈ wsX40, w ∈ wsL_law := fun _ h => List.mem_append_left _ (List.mem_append_left _ (List.mem_append_left _ (List.mem_append_left _ (List.mem_append_left _ (List.mem_append_right _ h)))))
theorem inlX5 : ∀ w ∈ wsX50, w ∈ wsL_law := fun _ h => List.mem_append_left _ (List.mem_append_left _ (List.mem_append_right _ h))
theorem inlX6 : ∀ w ∈ wsX60, w ∈ wsL_law := fun _ h => List.mem_append_left _ (List.mem_append_left _ (List.mem_append_left _ (List.mem_append_left _ (List.mem_append_left _ (List.mem_append_left _ (List.mem_append_left _ (List.mem_append_right _ h)))))))
theorem inlX7 : ∀ w ∈ wsX70, w ∈ wsL_law := fun _ h => List.mem_append_left _ (List.mem_append_left _ (List.mem_append_left _ (List.mem_append_left _ (List.mem_append_left _ (List.mem_append_left _ (List.mem_append_right _ h))))))
abbrev vwCl : List vw_C := [(RX0, TX0, 5), (RX1, TX1, 1), (RX2, TX2, 2), (RX4, TX4, 5), (RX5, TX5, 4), (RX6, TX6, 3), (RX7, TX7, 43)]
end
section
set_option maxRecDepth 20000 in
theorem pq_in1 : GoodIn lw_tbl wsL_law_r1 := goodIn_p _ [82, 85, 91] rfl (by decide +kernel)
set_option maxRecDepth 20000 in
theorem pq_in2 : GoodIn lw_tbl wsL_law_r2 := goodIn_p _ [97, 120] rfl (by decide +kernel)
set_option maxRecDepth 20000 in
theorem pq_in3 : GoodIn lw_tbl wsL_law_r3 := goodIn_p _ [126, 168, 609] rfl (by decide +kernel)
set_option maxRecDepth 20000 in
theorem pq_in4 : GoodIn lw_tbl wsL_law_r4 := goodIn_p _ [] rfl (by decide +kernel)
set_option maxRecDepth 20000 in
theorem pq_in5 : GoodIn lw_tbl wsL_law_r5 := goodIn_p _ [191, 195, 199, 203] rfl (by decide +kernel)
set_option maxRecDepth 20000 in
theorem pq_in6 : GoodIn lw_tbl wsL_law_r6 := goodIn_p _ [208, 212, 216, 746, 750] rfl (by decide +kernel)
set_option maxRecDepth 20000 in
theorem pq_in7 : GoodIn lw_tbl wsL_law_r7 := goodIn_p _ [220, 224, 755, 229, 233, 237] rfl (by decide +kernel)
set_option maxRecDepth 20000 in
theorem pq_in8 : GoodIn lw_tbl wsL_law_r8 := goodIn_p _ [241, 245, 249, 255, 259, 262] rfl (by decide +kernel)
set_option maxRecDepth 20000 in
theorem pq_in9 : GoodIn lw_tbl wsL_law_r9 := goodIn_p _ [266, 272, 276, 280, 288] rfl (by decide +kernel)
set_option maxRecDepth 20000 in
theorem pq_in10 : GoodIn lw_tbl wsL_law_r10 := goodIn_p _ [292, 296, 299, 305, 311, 308] rfl (by decide +kernel)
set_option maxRecDepth 20000 in
theorem pq_in11 : GoodIn lw_tbl wsL_law_r11 := goodIn_p _ [315, 319, 323, 331, 335, 338, 341] rfl (by decide +kernel)
set_option maxRecDepth 20000 in
theorem pq_in12 : GoodIn lw_tbl wsL_law_r12 := goodIn_p _ [344, 347, 350, 354, 358, 364] rfl (by decide +kernel)
set_option maxRecDepth 20000 in
theorem pq_in13 : GoodIn lw_tbl wsL_law_r13 := goodIn_p _ [368, 374, 378, 384, 388, 392] rfl (by decide +kernel)
set_option maxRecDepth 20000 in
theorem pq_in14 : GoodIn lw_tbl wsL_law_r14 := goodIn_p _ [396, 400, 404, 407, 412, 418] rfl (by decide +kernel)
set_option maxRecDepth 20000 in
theorem pq_in15 : GoodIn lw_tbl wsL_law_r15 := goodIn_p _ [421, 426, 429, 432, 759, 763, 767] rfl (by decide +kernel)
set_option maxRecDepth 20000 in
theorem pq_in16 : GoodIn lw_tbl wsL_law_r16 := goodIn_p _ [771, 775, 779, 783, 787, 791] rfl (by decide +kernel)
set_option maxRecDepth 20000 in
theorem pq_in17 : GoodIn lw_tbl wsL_law_r17 := goodIn_p _ [795, 799, 803, 807, 811] rfl (by decide +kernel)
set_option maxRecDepth 20000 in
theorem pq_in18 : GoodIn lw_tbl wsL_law_r18 := goodIn_p _ [815, 819, 823, 827, 831, 835] rfl (by decide +kernel)
set_option maxRecDepth 20000 in
theorem pq_in19 : GoodIn lw_tbl wsL_law_r19 := goodIn_p _ [839, 843, 847, 851, 436, 855] rfl (by decide +kernel)
set_option maxRecDepth 20000 in
theorem pq_in20 : GoodIn lw_tbl wsL_law_r20 := goodIn_p _ [859, 863, 867, 871, 875] rfl (by decide +kernel)
set_option maxRecDepth 20000 in
theorem pq_in21 : GoodIn lw_tbl wsL_law_r21 := goodIn_p _ [440, 444, 448, 452, 456, 459] rfl (by decide +kernel)
set_option maxRecDepth 20000 in
theorem pq_in22 : GoodIn lw_tbl wsL_law_r22 := goodIn_p _ [467, 472, 476, 479, 879, 883, 887] rfl (by decide +kernel)
set_option maxRecDepth 20000 in
theorem pq_in23 : GoodIn lw_tbl wsL_law_r23 := goodIn_p _ [891, 895, 899, 903, 907, 911] rfl (by decide +kernel)
set_option maxRecDepth 20000 in
theorem pq_in24 : GoodIn lw_tbl wsL_law_r24 := goodIn_p _ [483, 487, 915, 491, 495, 499] rfl (by decide +kernel)
set_option maxRecDepth 20000 in
theorem pq_in25 : GoodIn lw_tbl wsL_law_r25 := goodIn_p _ [503, 509, 919, 514, 518] rfl (by decide +kernel)
set_option maxRecDepth 20000 in
theorem pq_in26 : GoodIn lw_tbl wsL_law_r26 := goodIn_p _ [522, 923, 927, 526, 931, 530] rfl (by decide +kernel)
set_option maxRecDepth 20000 in
theorem pq_in27 : GoodIn lw_tbl wsL_law_r27 := goodIn_p _ [534, 935, 538, 542, 939] rfl (by decide +kernel)
set_option maxRecDepth 20000 in
theorem pq_in28 : GoodIn lw_tbl wsL_law_r28 := goodIn_p _ [547, 552, 555, 560, 566, 569] rfl (by decide +kernel)
set_option maxRecDepth 20000 in
theorem pq_in29 : GoodIn lw_tbl wsL_law_r29 := goodIn_p _ [572, 943, 947, 951, 576, 581] rfl (by decide +kernel)
set_option maxRecDepth 20000 in
theorem pq_in30 : GoodIn lw_tbl wsL_law_r30 := goodIn_p _ [585, 955, 959, 589, 963, 593] rfl (by decide +kernel)
set_option maxRecDepth 20000 in
theorem pq_in31 : GoodIn lw_tbl wsL_law_r31 := goodIn_p _ [596, 600, 967, 971] rfl (by decide +kernel)
theorem pq_in_wsX60 : GoodIn lw_tbl wsX60 := goodIn_of _ (by decide +kernel)
theorem pq_in_wsX70 : GoodIn lw_tbl wsX70 := goodIn_of _ (by decide +kernel)
theorem pq_in_wsX40 : GoodIn lw_tbl wsX40 := goodIn_of _ (by decide +kernel)
theorem pq_in_wsX20 : GoodIn lw_tbl wsX20 := goodIn_of _ (by decide +kernel)
theorem pq_in_wsX00 : GoodIn lw_tbl wsX00 := goodIn_of _ (by decide +kernel)
theorem pq_in_wsX50 : GoodIn lw_tbl wsX50 := goodIn_of _ (by decide +kernel)
theorem pq_in_wsX10 : GoodIn lw_tbl wsX10 := goodIn_of _ (by decide +kernel)
theorem pq_inL : GoodIn lw_tbl wsL_law := goodIn_app (goodIn_app (goodIn_app (goodIn_app (goodIn_app (goodIn_app (goodIn_app (goodIn_app (goodIn_app pq_in1 (goodIn_app pq_in2 (goodIn_app pq_in3 (goodIn_app pq_in4 (goodIn_app pq_in5 (goodIn_app pq_in6 (goodIn_app pq_in7 (goodIn_app pq_in8 (goodIn_app pq_in9 (goodIn_app pq_in10 (goodIn_app pq_in11 (goodIn_app pq_in12 (goodIn_app pq_in13 (goodIn_app pq_in14 (goodIn_app pq_in15 (goodIn_app pq_in16 (goodIn_app pq_in17 (goodIn_app pq_in18 (goodIn_app pq_in19 (goodIn_app pq_in20 (goodIn_app pq_in21 (goodIn_app pq_in22 (goodIn_app pq_in23 (goodIn_app pq_in24 (goodIn_app pq_in25 (goodIn_app pq_in26 (goodIn_app pq_in27 (goodIn_app pq_in28 (goodIn_app pq_in29 (goodIn_app pq_in30 pq_in31)))))))))))))))))))))))))))))) pq_in_wsX60) pq_in_wsX70) pq_in_wsX40) pq_in_wsX20) pq_in_wsX00) pq_in_wsX50) pq_in_wsX10) (fun _ h => absurd h List.not_mem_nil)
theorem pq_m1 : ∀ w ∈ wsL_law_r1, w ∈ wsL_law := fun _ h => (List.mem_append_left _ (List.mem_append_left _ (List.mem_append_left _ (List.mem_append_left _ (List.mem_append_left _ (List.mem_append_left _ (List.mem_append_left _ (List.mem_append_left _ (List.mem_append_left _ h)))))))))
theorem pq_m2 : ∀ w ∈ wsL_law_r2, w ∈ wsL_law := fun _ h => (List.mem_append_left _ (List.mem_append_left _ (List.mem_append_left _ (List.mem_append_left _ (List.mem_append_left _ (List.mem_append_left _ (List.mem_append_left _ (List.mem_append_left _ (List.mem_append_right _ (List.mem_append_left _ h))))))))))
theorem pq_m3 : ∀ w ∈ wsL_law_r3, w ∈ wsL_law := fun _ h => (List.mem_append_left _ (List.mem_append_left _ (List.mem_append_left _ (List.mem_append_left _ (List.mem_append_left _ (List.mem_append_left _ (List.mem_append_left _ (List.mem_append_left _ (List.mem_append_right _ (List.mem_append_right _ (List.mem_append_left _ h)))))))))))
theorem pq_m4 : ∀ w ∈ wsL_law_r4, w ∈ wsL_law := fun _ h => (List.mem_append_left _ (List.mem_append_left _ (List.mem_append_left _ (List.mem_append_left _ (List.mem_append_left _ (List.mem_append_left _ (List.mem_append_left _ (List.mem_append_left _ (List.mem_append_right _ (List.mem_append_right _ (List.mem_append_right _ (List.mem_append_left _ h))))))))))))
theorem pq_m5 : ∀ w ∈ wsL_law_r5, w ∈ wsL_law := fun _ h => (List.mem_append_left _ (List.mem_append_left _ (List.mem_append_left _ (List.mem_append_left _ (List.mem_append_left _ (List.mem_append_left _ (List.mem_append_left _ (List.mem_append_left _ (List.mem_append_right _ (List.mem_append_right _ (List.mem_append_right _ (List.mem_append_right _ (List.mem_append_left _ h)))))))))))))
theorem pq_m6 : ∀ w ∈ wsL_law_r6, w ∈ wsL_law := fun _ h => (List.mem_append_left _ (List.mem_append_left _ (List.mem_append_left _ (List.mem_append_left _ (List.mem_append_left _ (List.mem_append_left _ (List.mem_append_left _ (List.mem_append_left _ (List.mem_append_right _ (List.mem_append_right _ (List.mem_append_right _ (List.mem_append_right _ (List.mem_append_right _ (List.mem_append_left _ h))))))))))))))
theorem pq_m7 : ∀ w ∈ wsL_law_r7, w ∈ wsL_law := fun _ h => (List.mem_append_left _ (List.mem_append_left _ (List.mem_append_left _ (List.mem_append_left _ (List.mem_append_left _ (List.mem_append_left _ (List.mem_append_left _ (List.mem_append_left _ (List.mem_append_right _ (List.mem_append_right _ (List.mem_append_right _ (List.mem_append_right _ (List.mem_append_right _ (List.mem_append_right _ (List.mem_append_left _ h)))))))))))))))
theorem pq_m8 : ∀ w ∈ wsL_law_r8, w ∈ wsL_law := fun _ h => (List.mem_append_left _ (List.mem_append_left _ (List.mem_append_left _ (List.mem_append_left _ (List.mem_append_left _ (List.mem_append_left _ (List.mem_append_left _ (List.mem_append_left _ (List.mem_append_right _ (List.mem_append_right _ (List.mem_append_right _ (List.mem_append_right _ (List.mem_append_right _ (List.mem_append_right _ (List.mem_append_right _ (List.mem_append_left _ h))))))))))))))))
theorem pq_m9 : ∀ w ∈ wsL_law_r9, w ∈ wsL_law := fun _ h => (List.mem_append_left _ (List.mem_append_left _ (List.mem_append_left _ (List.mem_append_left _ (List.mem_append_left _ (List.mem_append_left _ (List.mem_append_left _ (List.mem_append_left _ (List.mem_append_right _ (List.mem_append_right _ (List.mem_append_right _ (List.mem_append_right _ (List.mem_append_right _ (List.mem_append_right _ (List.mem_append_right _ (List.mem_append_right _ (List.mem_append_left _ h)))))))))))))))))
theorem pq_m10 : ∀ w ∈ wsL_law_r10, w ∈ wsL_law := fun _ h => (List.mem_append_left _ (List.mem_append_left _ (List.mem_append_left _ (List.mem_append_left _ (List.mem_append_left _ (List.mem_append_left _ (List.mem_append_left _ (List.mem_append_left _ (List.mem_append_right _ (List.mem_append_right _ (List.mem_append_right _ (List.mem_append_right _ (List.mem_append_right _ (List.mem_append_right _ (List.mem_append_right _ (List.mem_append_right _ (List.mem_append_right _ (List.mem_append_left _ h))))))))))))))))))
theorem pq_m11 : ∀ w ∈ wsL_law_r11, w ∈ wsL_law := fun _ h => (List.mem_append_left _ (List.mem_append_left _ (List.mem_append_left _ (List.mem_append_left _ (List.mem_append_left _ (List.mem_append_left _ (List.mem_append_left _ (List.mem_append_left _ (List.mem_append_right _ (List.mem_append_right _ (List.mem_append_right _ (List.mem_append_right _ (List.mem_append_right _ (List.mem_append_right _ (List.mem_append_right _ (List.mem_append_right _ (List.mem_append_right _ (List.mem_append_right _ (List.mem_append_left _ h)))))))))))))))))))
theorem pq_m12 : ∀ w ∈ wsL_law_r12, w ∈ wsL_law := fun _ h => (List.mem_append_left _ (List.mem_append_left _ (List.mem_append_left _ (List.mem_append_left _ (List.mem_append_left _ (List.mem_append_left _ (List.mem_append_left _ (List.mem_append_left _ (List.mem_append_right _ (List.mem_append_right _ (List.mem_append_right _ (List.mem_append_right _ (List.mem_append_right _ (List.mem_append_right _ (List.mem_append_right _ (List.mem_append_right _ (List.mem_append_right _ (List.mem_append_right _ (List.mem_append_right _ (List.mem_append_left _ h))))))))))))))))))))
theorem pq_m13 : ∀ w ∈ wsL_law_r13, w ∈ wsL_law := fun _ h => (List.mem_append_left _ (List.mem_append_left _ (List.mem_append_left _ (List.mem_append_left _ (List.mem_append_left _ (List.mem_append_left _ (List.mem_append_left _ (List.mem_append_left _ (List.mem_append_right _ (List.mem_append_right _ (List.mem_append_right _ (List.mem_append_right _ (List.mem_append_right _ (List.mem_append_right _ (List.mem_append_right _ (List.mem_append_right _ (List.mem_append_right _ (List.mem_append_right _ (List.mem_append_right _ (List.mem_append_right _ (List.mem_append_left _ h)))))))))))))))))))))
theorem pq_m14 : ∀ w ∈ wsL_law_r14, w ∈ wsL_law := fun _ h => (List.mem_append_left _ (List.mem_append_left _ (List.mem_append_left _ (List.mem_append_left _ (List.mem_append_left _ (List.mem_append_left _ (List.mem_append_left _ (List.mem_append_left _ (List.mem_append_right _ (List.mem_append_right _ (List.mem_append_right _ (List.mem_append_right _ (List.mem_append_right _ (List.mem_append_right _ (List.mem_append_right _ (List.mem_append_right _ (List.mem_append_right _ (List.mem_append_right _ (List.mem_append_right _ (List.mem_append_right _ (List.mem_append_right _ (List.mem_append_left _ h))))))))))))))))))))))
theorem pq_m15 : ∀ w ∈ wsL_law_r15, w ∈ wsL_law := fun _ h => (List.mem_append_left _ (List.mem_append_left _ (List.mem_append_left _ (List.mem_append_left _ (List.mem_append_left _ (List.mem_append_left _ (List.mem_append_left _ (List.mem_append_left _ (List.mem_append_right _ (List.mem_append_right _ (List.mem_append_right _ (List.mem_append_right _ (List.mem_append_right _ (List.mem_append_right _ (List.mem_append_right _ (List.mem_append_right _ (List.mem_append_right _ (List.mem_append_right _ (List.mem_append_right _ (List.mem_append_right _ (List.mem_append_right _ (List.mem_append_right _ (List.mem_append_left _ h)))))))))))))))))))))))
theorem pq_m16 : ∀ w ∈ wsL_law_r16, w ∈ wsL_law := fun _ h => (List.mem_append_left _ (List.mem_append_left _ (List.mem_append_left _ (List.mem_append_left _ (List.mem_append_left _ (List.mem_append_left _ (List.mem_append_left _ (List.mem_append_left _ (List.mem_append_right _ (List.mem_append_right _ (List.mem_append_right _ (List.mem_append_right _ (List.mem_append_right _ (List.mem_append_right _ (List.mem_append_right _ (List.mem_append_right _ (List.mem_append_right _ (List.mem_append_right _ (List.mem_append_right _ (List.mem_append_right _ (List.mem_append_right _ (List.mem_append_right _ (List.mem_append_right _ (List.mem_append_left _ h))))))))))))))))))))))))
theorem pq_m17 : ∀ w ∈ wsL_law_r17, w ∈ wsL_law := fun _ h => (List.mem_append_left _ (List.mem_append_left _ (List.mem_append_left _ (List.mem_append_left _ (List.mem_append_left _ (List.mem_append_left _ (List.mem_append_left _ (List.mem_append_left _ (List.mem_append_right _ (List.mem_append_right _ (List.mem_append_right _ (List.mem_append_right _ (List.mem_append_right _ (List.mem_append_right _ (List.mem_append_right _ (List.mem_append_right _ (List.mem_append_right _ (List.mem_append_right _ (List.mem_append_right _ (List.mem_append_right _ (List.mem_append_right _ (List.mem_append_right _ (List.mem_append_right _ (List.mem_append_right _ (List.mem_append_left _ h)))))))))))))))))))))))))
theorem pq_m18 : ∀ w ∈ wsL_law_r18, w ∈ wsL_law := fun _ h => (List.mem_append_left _ (List.mem_append_left _ (List.mem_append_left _ (List.mem_append_left _ (List.mem_append_left _ (List.mem_append_left _ (List.mem_append_left _ (List.mem_append_left _ (List.mem_append_right _ (List.mem_append_right _ (List.mem_append_right _ (List.mem_append_right _ (List.mem_append_right _ (List.mem_append_right _ (List.mem_append_right _ (List.mem_append_right _ (List.mem_append_right _ (List.mem_append_right _ (List.mem_append_right _ (List.mem_append_right _ (List.mem_append_right _ (List.mem_append_right _ (List.mem_append_right _ (List.mem_append_right _ (List.mem_append_right _ (List.mem_append_left _ h))))))))))))))))))))))))))
theorem pq_m19 : ∀ w ∈ wsL_law_r19, w ∈ wsL_law := fun _ h => (List.mem_append_left _ (List.mem_append_left _ (List.mem_append_left _ (List.mem_append_left _ (List.mem_append_left _ (List.mem_append_left _ (List.mem_append_left _ (List.mem_append_left _ (List.mem_append_right _ (List.mem_append_right _ (List.mem_append_right _ (List.mem_append_right _ (List.mem_append_right _ (List.mem_append_right _ (List.mem_append_right _ (List.mem_append_right _ (List.mem_append_right _ (List.mem_append_right _ (List.mem_append_right _ (List.mem_append_right _ (List.mem_append_right _ (List.mem_append_right _ (List.mem_append_right _ (List.mem_append_right _ (List.mem_append_right _ (List.mem_append_right _ (List.mem_append_left _ h)))))))))))))))))))))))))))
theorem pq_m20 : ∀ w ∈ wsL_law_r20, w ∈ wsL_law := fun _ h => (List.mem_append_left _ (List.mem_append_left _ (List.mem_append_left _ (List.mem_append_left _ (List.mem_append_left _ (List.mem_append_left _ (List.mem_append_left _ (List.mem_append_left _ (List.mem_append_right _ (List.mem_append_right _ (List.mem_append_right _ (List.mem_append_right _ (List.mem_append_right _ (List.mem_append_right _ (List.mem_append_right _ (List.mem_append_right _ (List.mem_append_right _ (List.mem_append_right _ (List.mem_append_right _ (List.mem_append_right _ (List.mem_append_right _ (List.mem_append_right _ (List.mem_append_right _ (List.mem_append_right _ (List.mem_append_right _ (List.mem_append_right _ (List.mem_append_right _ (List.mem_append_left _ h))))))))))))))))))))))))))))
theorem pq_m21 : ∀ w ∈ wsL_law_r21, w ∈ wsL_law := fun _ h => (List.mem_append_left _ (List.mem_append_left _ (List.mem_append_left _ (List.mem_append_left _ (List.mem_append_left _ (List.mem_append_left _ (List.mem_append_left _ (List.mem_append_left _ (List.mem_append_right _ (List.mem_append_right _ (List.mem_append_right _ (List.mem_append_right _ (List.mem_append_right _ (List.mem_append_right _ (List.mem_append_right _ (List.mem_append_right _ (List.mem_append_right _ (List.mem_append_right _ (List.mem_append_right _ (List.mem_append_right _ (List.mem_append_right _ (List.mem_append_right _ (List.mem_append_right _ (List.mem_append_right _ (List.mem_append_right _ (List.mem_append_right _ (List.mem_append_right _ (List.mem_append_right _ (List.mem_append_left _ h)))))))))))))))))))))))))))))
theorem pq_m22 : ∀ w ∈ wsL_law_r22, w ∈ wsL_law := fun _ h => (List.mem_append_left _ (List.mem_append_left _ (List.mem_append_left _ (List.mem_append_left _ (List.mem_append_left _ (List.mem_append_left _ (List.mem_append_left _ (List.mem_append_left _ (List.mem_append_right _ (List.mem_append_right _ (List.mem_append_right _ (List.mem_append_right _ (List.mem_append_right _ (List.mem_append_right _ (List.mem_append_right _ (List.mem_append_right _ (List.mem_append_right _ (List.mem_append_right _ (List.mem_append_right _ (List.mem_append_right _ (List.mem_append_right _ (List.mem_append_right _ (List.mem_append_right _ (List.mem_append_right _ (List.mem_append_right _ (List.mem_append_right _ (List.mem_append_right _ (List.mem_append_right _ (List.mem_append_right _ (List.mem_append_left _ h))))))))))))))))))))))))))))))
theorem pq_m23 : ∀ w ∈ wsL_law_r23, w ∈ wsL_law := fun _ h => (List.mem_append_left _ (List.mem_append_left _ (List.mem_append_left _ (List.mem_append_left _ (List.mem_append_left _ (List.mem_append_left _ (List.mem_append_left _ (List.mem_append_left _ (List.mem_append_right _ (List.mem_append_right _ (List.mem_append_right _ (List.mem_append_right _ (List.mem_append_right _ (List.mem_append_right _ (List.mem_append_right _ (List.mem_append_right _ (List.mem_append_right _ (List.mem_append_right _ (List.mem_append_right _ (List.mem_append_right _ (List.mem_append_right _ (List.mem_append_right _ (List.mem_append_right _ (List.mem_append_right _ (List.mem_append_right _ (List.mem_append_right _ (List.mem_append_right _ (List.mem_append_right _ (List.mem_append_right _ (List.mem_append_right _ (List.mem_append_left _ h)))))))))))))))))))))))))))))))
theorem pq_m24 : ∀ w ∈ wsL_law_r24, w ∈ wsL_law := fun _ h => (List.mem_append_left _ (List.mem_append_left _ (List.mem_append_left _ (List.mem_append_left _ (List.mem_append_left _ (List.mem_append_left _ (List.mem_append_left _ (List.mem_append_left _ (List.mem_append_right _ (List.mem_append_right _ (List.mem_append_right _ (List.mem_append_right _ (List.mem_append_right _ (List.mem_append_right _ (List.mem_append_right _ (List.mem_append_right _ (List.mem_append_right _ (List.mem_append_right _ (List.mem_append_right _ (List.mem_append_right _ (List.mem_append_right _ (List.mem_append_right _ (List.mem_append_right _ (List.mem_append_right _ (List.mem_append_right _ (List.mem_append_right _ (List.mem_append_right _ (List.mem_append_right _ (List.mem_append_right _ (List.mem_append_right _ (List.mem_append_right _ (List.mem_append_left _ h))))))))))))))))))))))))))))))))
theorem pq_m25 : ∀ w ∈ wsL_law_r25, w ∈ wsL_law := fun _ h => (List.mem_append_left _ (List.mem_append_left _ (List.mem_append_left _ (List.mem_append_left _ (List.mem_append_left _ (List.mem_append_left _ (List.mem_append_left _ (List.mem_append_left _ (List.mem_append_right _ (List.mem_append_right _ (List.mem_append_right _ (List.mem_append_right _ (List.mem_append_right _ (List.mem_append_right _ (List.mem_append_right _ (List.mem_append_right _ (List.mem_append_right _ (List.mem_append_right _ (List.mem_append_right _ (List.mem_append_right _ (List.mem_append_right _ (List.mem_append_right _ (List.mem_append_right _ (List.mem_append_right _ (List.mem_append_right _ (List.mem_append_right _ (List.mem_append_right _ (List.mem_append_right _ (List.mem_append_right _ (List.mem_append_right _ (List.mem_append_right _ (List.mem_append_right _ (List.mem_append_left _ h)))))))))))))))))))))))))))))))))
theorem pq_m26 : ∀ w ∈ wsL_law_r26, w ∈ wsL_law := fun _ h => (List.mem_append_left _ (List.mem_append_left _ (List.mem_append_left _ (List.mem_append_left _ (List.mem_append_left _ (List.mem_append_left _ (List.mem_append_left _ (List.mem_append_left _ (List.mem_append_right _ (List.mem_append_right _ (List.mem_append_right _ (List.mem_append_right _ (List.mem_append_right _ (List.mem_append_right _ (List.mem_append_right _ (List.mem_append_right _ (List.mem_append_right _ (List.mem_append_right _ (List.mem_append_right _ (List.mem_append_right _ (List.mem_append_right _ (List.mem_append_right _ (List.mem_append_right _ (List.mem_append_right _ (List.mem_append_right _ (List.mem_append_right _ (List.mem_append_right _ (List.mem_append_right _ (List.mem_append_right _ (List.mem_append_right _ (List.mem_append_right _ (List.mem_append_right _ (List.mem_append_right _ (List.mem_append_left _ h))))))))))))))))))))))))))))))))))
theorem pq_m27 : ∀ w ∈ wsL_law_r27, w ∈ wsL_law := fun _ h => (List.mem_append_left _ (List.mem_append_left _ (List.mem_append_left _ (List.mem_append_left _ (List.mem_append_left _ (List.mem_append_left _ (List.mem_append_left _ (List.mem_append_left _ (List.mem_append_right _ (List.mem_append_right _ (List.mem_append_right _ (List.mem_append_right _ (List.mem_append_right _ (List.mem_append_right _ (List.mem_append_right _ (List.mem_append_right _ (List.mem_append_right _ (List.mem_append_right _ (List.mem_append_right _ (List.mem_append_right _ (List.mem_append_right _ (List.mem_append_right _ (List.mem_append_right _ (List.mem_append_right _ (List.mem_append_right _ (List.mem_append_right _ (List.mem_append_right _ (List.mem_append_right _ (List.mem_append_right _ (List.mem_append_right _ (List.mem_append_right _ (List.mem_append_right _ (List.mem_append_right _ (List.mem_append_right _ (List.mem_append_left _ h)))))))))))))))))))))))))))))))))))
theorem pq_m28 : ∀ w ∈ wsL_law_r28, w ∈ wsL_law := fun _ h => (List.mem_append_left _ (List.mem_append_left _ (List.mem_append_left _ (List.mem_append_left _ (List.mem_append_left _ (List.mem_append_left _ (List.mem_append_left _ (List.mem_append_left _ (List.mem_append_right _ (List.mem_append_right _ (List.mem_append_right _ (List.mem_append_right _ (List.mem_append_right _ (List.mem_append_right _ (List.mem_append_right _ (List.mem_append_right _ (List.mem_append_right _ (List.mem_append_right _ (List.mem_append_right _ (List.mem_append_right _ (List.mem_append_right _ (List.mem_append_right _ (List.mem_append_right _ (List.mem_append_right _ (List.mem_append_right _ (List.mem_append_right _ (List.mem_append_right _ (List.mem_append_right _ (List.mem_append_right _ (List.mem_append_right _ (List.mem_append_right _ (List.mem_append_right _ (List.mem_append_right _ (List.mem_append_right _ (List.mem_append_right _ (List.mem_append_left _ h))))))))))))))))))))))))))))))))))))
theorem pq_m29 : ∀ w ∈ wsL_law_r29, w ∈ wsL_law := fun _ h => (List.mem_append_left _ (List.mem_append_left _ (List.mem_append_left _ (List.mem_append_left _ (List.mem_append_left _ (List.mem_append_left _ (List.mem_append_left _ (List.mem_append_left _ (List.mem_append_right _ (List.mem_append_right _ (List.mem_append_right _ (List.mem_append_right _ (List.mem_append_right _ (List.mem_append_right _ (List.mem_append_right _ (List.mem_append_right _ (List.mem_append_right _ (List.mem_append_right _ (List.mem_append_right _ (List.mem_append_right _ (List.mem_append_right _ (List.mem_append_right _ (List.mem_append_right _ (List.mem_append_right _ (List.mem_append_right _ (List.mem_append_right _ (List.mem_append_right _ (List.mem_append_right _ (List.mem_append_right _ (List.mem_append_right _ (List.mem_append_right _ (List.mem_append_right _ (List.mem_append_right _ (List.mem_append_right _ (List.mem_append_right _ (List.mem_append_right _ (List.mem_append_left _ h)))))))))))))))))))))))))))))))))))))
theorem pq_m30 : ∀ w ∈ wsL_law_r30, w ∈ wsL_law := fun _ h => (List.mem_append_left _ (List.mem_append_left _ (List.mem_append_left _ (List.mem_append_left _ (List.mem_append_left _ (List.mem_append_left _ (List.mem_append_left _ (List.mem_append_left _ (List.mem_append_right _ (List.mem_append_right _ (List.mem_append_right _ (List.mem_append_right _ (List.mem_append_right _ (List.mem_append_right _ (List.mem_append_right _ (List.mem_append_right _ (List.mem_append_right _ (List.mem_append_right _ (List.mem_append_right _ (List.mem_append_right _ (List.mem_append_right _ (List.mem_append_right _ (List.mem_append_right _ (List.mem_append_right _ (List.mem_append_right _ (List.mem_append_right _ (List.mem_append_right _ (List.mem_append_right _ (List.mem_append_right _ (List.mem_append_right _ (List.mem_append_right _ (List.mem_append_right _ (List.mem_append_right _ (List.mem_append_right _ (List.mem_append_right _ (List.mem_append_right _ (List.mem_append_right _ (List.mem_append_left _ h))))))))))))))))))))))))))))))))))))))
theorem pq_m31 : ∀ w ∈ wsL_law_r31, w ∈ wsL_law := fun _ h => (List.mem_append_left _ (List.mem_append_left _ (List.mem_append_left _ (List.mem_append_left _ (List.mem_append_left _ (List.mem_append_left _ (List.mem_append_left _ (List.mem_append_left _ (List.mem_append_right _ (List.mem_append_right _ (List.mem_append_right _ (List.mem_append_right _ (List.mem_append_right _ (List.mem_append_right _ (List.mem_append_right _ (List.mem_append_right _ (List.mem_append_right _ (List.mem_append_right _ (List.mem_append_right _ (List.mem_append_right _ (List.mem_append_right _ (List.mem_append_right _ (List.mem_append_right _ (List.mem_append_right _ (List.mem_append_right _ (List.mem_append_right _ (List.mem_append_right _ (List.mem_append_right _ (List.mem_append_right _ (List.mem_append_right _ (List.mem_append_right _ (List.mem_append_right _ (List.mem_append_right _ (List.mem_append_right _ (List.mem_append_right _ (List.mem_append_right _ (List.mem_append_right _ (List.mem_append_right _ h))))))))))))))))))))))))))))))))))))))
theorem pq_i6 : ∀ w ∈ wsX60, w ∈ wsL_law := fun _ h => (List.mem_append_left _ (List.mem_append_left _ (List.mem_append_left _ (List.mem_append_left _ (List.mem_append_left _ (List.mem_append_left _ (List.mem_append_left _ (List.mem_append_right _ h))))))))
theorem pq_i7 : ∀ w ∈ wsX70, w ∈ wsL_law := fun _ h => (List.mem_append_left _ (List.mem_append_left _ (List.mem_append_left _ (List.mem_append_left _ (List.mem_append_left _ (List.mem_append_left _ (List.mem_append_right _ h)))))))
theorem pq_i4 : ∀ w ∈ wsX40, w ∈ wsL_law := fun _ h => (List.mem_append_left _ (List.mem_append_left _ (List.mem_append_left _ (List.mem_append_left _ (List.mem_append_left _ (List.mem_append_right _ h))))))
theorem pq_i2 : ∀ w ∈ wsX20, w ∈ wsL_law := fun _ h => (List.mem_append_left _ (List.mem_append_left _ (List.mem_append_left _ (List.mem_append_left _ (List.mem_append_right _ h)))))
theorem pq_i0 : ∀ w ∈ wsX00, w ∈ wsL_law := fun _ h => (List.mem_append_left _ (List.mem_append_left _ (List.mem_append_left _ (List.mem_append_right _ h))))
theorem pq_i5 : ∀ w ∈ wsX50, w ∈ wsL_law := fun _ h => (List.mem_append_left _ (List.mem_append_left _ (List.mem_append_right _ h)))
theorem pq_i1 : ∀ w ∈ wsX10, w ∈ wsL_law := fun _ h => (List.mem_append_left _ (List.mem_append_right _ h))
end
section
theorem dX0_init_0 : decode cX0_init 0 = .ok (.aload_n 0, 1) := by decide +kernel
theorem dX0_init_1 : decode cX0_init 1 = .ok (.invokespecial 3, 3) := by decide +kernel
theorem dX0_init_4 : decode cX0_init 4 = .ok (.aload_n 0, 1) := by decide +kernel
theorem dX0_init_5 : decode cX0_init 5 = .ok (.bipush 24, 2) := by decide +kernel
theorem dX0_init_7 : decode cX0_init 7 = .ok (.newarray .int, 2) := by decide +kernel
theorem dX0_init_9 : decode cX0_init 9 = .ok (.putfield 11, 3) := by decide +kernel
theorem dX0_init_12 : decode cX0_init 12 = .ok (.aload_n 0, 1) := by decide +kernel
theorem dX0_init_13 : decode cX0_init 13 = .ok (.iconst 2, 1) := by decide +kernel
theorem dX0_init_14 : decode cX0_init 14 = .ok (.putfield 15, 3) := by decide +kernel
theorem dX0_init_17 : decode cX0_init 17 = .ok (.aload_n 0, 1) := by decide +kernel
theorem dX0_init_18 : decode cX0_init 18 = .ok (.iconst 0, 1) := by decide +kernel
theorem dX0_init_19 : decode cX0_init 19 = .ok (.putfield 19, 3) := by decide +kernel
theorem dX0_init_22 : decode cX0_init 22 = .ok (.aload_n 0, 1) := by decide +kernel
theorem dX0_init_23 : decode cX0_init 23 = .ok (.iconst 0, 1) := by decide +kernel
theorem dX0_init_24 : decode cX0_init 24 = .ok (.putfield 22, 3) := by decide +kernel
theorem dX0_init_27 : decode cX0_init 27 = .ok (.aload_n 0, 1) := by decide +kernel
theorem dX0_init_28 : decode cX0_init 28 = .ok (.iconst 0, 1) := by decide +kernel
theorem dX0_init_29 : decode cX0_init 29 = .ok (.putfield 25, 3) := by decide +kernel
theorem dX0_init_32 : decode cX0_init 32 = .ok (.return_, 1) := by decide +kernel
theorem dX0_begin_0 : decode cX0_begin 0 = .ok (.aload_n 0, 1) := by decide +kernel
theorem dX0_begin_1 : decode cX0_begin 1 = .ok (.iload_n 1, 1) := by decide +kernel
theorem dX0_begin_2 : decode cX0_begin 2 = .ok (.putfield 15, 3) := by decide +kernel
theorem dX0_begin_5 : decode cX0_begin 5 = .ok (.iconst 0, 1) := by decide +kernel
theorem dX0_begin_6 : decode cX0_begin 6 = .ok (.istore_n 2, 1) := by decide +kernel
theorem dX0_begin_7 : decode cX0_begin 7 = .ok (.iload_n 2, 1) := by decide +kernel
theorem dX0_begin_8 : decode cX0_begin 8 = .ok (.bipush 24, 2) := by decide +kernel
theorem dX0_begin_10 : decode cX0_begin 10 = .ok (.if_icmp .ge 16, 3) := by decide +kernel
theorem dX0_begin_13 : decode cX0_begin 13 = .ok (.aload_n 0, 1) := by decide +kernel
theorem dX0_begin_14 : decode cX0_begin 14 = .ok (.getfield 11, 3) := by decide +kernel
theorem dX0_begin_17 : decode cX0_begin 17 = .ok (.iload_n 2, 1) := by decide +kernel
theorem dX0_begin_18 : decode cX0_begin 18 = .ok (.iconst 0, 1) := by decide +kernel
theorem dX0_begin_19 : decode cX0_begin 19 = .ok (.iastore, 1) := by decide +kernel
theorem dX0_begin_20 : decode cX0_begin 20 = .ok (.iinc 2 1, 3) := by decide +kernel
theorem dX0_begin_23 : decode cX0_begin 23 = .ok (.goto (-16), 3) := by decide +kernel
theorem dX0_begin_26 : decode cX0_begin 26 = .ok (.aload_n 0, 1) := by decide +kernel
theorem dX0_begin_27 : decode cX0_begin 27 = .ok (.getfield 11, 3) := by decide +kernel
theorem dX0_begin_30 : decode cX0_begin 30 = .ok (.iconst 0, 1) := by decide +kernel
theorem dX0_begin_31 : decode cX0_begin 31 = .ok (.ldc 28, 2) := by decide +kernel
theorem dX0_begin_33 : decode cX0_begin 33 = .ok (.iastore, 1) := by decide +kernel
theorem dX0_begin_34 : decode cX0_begin 34 = .ok (.aload_n 0, 1) := by decide +kernel
theorem dX0_begin_35 : decode cX0_begin 35 = .ok (.getfield 11, 3) := by decide +kernel
theorem dX0_begin_38 : decode cX0_begin 38 = .ok (.iconst 1, 1) := by decide +kernel
theorem dX0_begin_39 : decode cX0_begin 39 = .ok (.sipush 544, 3) := by decide +kernel
theorem dX0_begin_42 : decode cX0_begin 42 = .ok (.iastore, 1) := by decide +kernel
theorem dX0_begin_43 : decode cX0_begin 43 = .ok (.aload_n 0, 1) := by decide +kernel
theorem dX0_begin_44 : decode cX0_begin 44 = .ok (.getfield 11, 3) := by decide +kernel
theorem dX0_begin_47 : decode cX0_begin 47 = .ok (.bipush 14, 2) := by decide +kernel
theorem dX0_begin_49 : decode cX0_begin 49 = .ok (.bipush 32, 2) := by decide +kernel
theorem dX0_begin_51 : decode cX0_begin 51 = .ok (.iastore, 1) := by decide +kernel
theorem dX0_begin_52 : decode cX0_begin 52 = .ok (.aload_n 0, 1) := by decide +kernel
theorem dX0_begin_53 : decode cX0_begin 53 = .ok (.getfield 11, 3) := by decide +kernel
theorem dX0_begin_56 : decode cX0_begin 56 = .ok (.bipush 15, 2) := by decide +kernel
theorem dX0_begin_58 : decode cX0_begin 58 = .ok (.bipush 32, 2) := by decide +kernel
theorem dX0_begin_60 : decode cX0_begin 60 = .ok (.iastore, 1) := by decide +kernel
theorem dX0_begin_61 : decode cX0_begin 61 = .ok (.iconst 0, 1) := by decide +kernel
theorem dX0_begin_62 : decode cX0_begin 62 = .ok (.istore_n 2, 1) := by decide +kernel
theorem dX0_begin_63 : decode cX0_begin 63 = .ok (.iload_n 2, 1) := by decide +kernel
theorem dX0_begin_64 : decode cX0_begin 64 = .ok (.bipush 6, 2) := by decide +kernel
theorem dX0_begin_66 : decode cX0_begin 66 = .ok (.if_icmp .ge 20, 3) := by decide +kernel
theorem dX0_begin_69 : decode cX0_begin 69 = .ok (.aload_n 0, 1) := by decide +kernel
theorem dX0_begin_70 : decode cX0_begin 70 = .ok (.getfield 11, 3) := by decide +kernel
theorem dX0_begin_73 : decode cX0_begin 73 = .ok (.bipush 16, 2) := by decide +kernel
theorem dX0_begin_75 : decode cX0_begin 75 = .ok (.iload_n 2, 1) := by decide +kernel
theorem dX0_begin_76 : decode cX0_begin 76 = .ok (.iadd, 1) := by decide +kernel
theorem dX0_begin_77 : decode cX0_begin 77 = .ok (.bipush 32, 2) := by decide +kernel
theorem dX0_begin_79 : decode cX0_begin 79 = .ok (.iastore, 1) := by decide +kernel
theorem dX0_begin_80 : decode cX0_begin 80 = .ok (.iinc 2 1, 3) := by decide +kernel
theorem dX0_begin_83 : decode cX0_begin 83 = .ok (.goto (-20), 3) := by decide +kernel
theorem dX0_begin_86 : decode cX0_begin 86 = .ok (.return_, 1) := by decide +kernel
theorem dX0_number_0 : decode cX0_number 0 = .ok (.iload_n 1, 1) := by decide +kernel
theorem dX0_number_1 : decode cX0_number 1 = .ok (.ifCond .lt 9, 3) := by decide +kernel
theorem dX0_number_4 : decode cX0_number 4 = .ok (.iload_n 1, 1) := by decide +kernel
theorem dX0_number_5 : decode cX0_number 5 = .ok (.bipush 24, 2) := by decide +kernel
theorem dX0_number_7 : decode cX0_number 7 = .ok (.if_icmp .lt 8, 3) := by decide +kernel
theorem dX0_number_10 : decode cX0_number 10 = .ok (.ldc 29, 2) := by decide +kernel
theorem dX0_number_12 : decode cX0_number 12 = .ok (.goto 9, 3) := by decide +kernel
theorem dX0_number_15 : decode cX0_number 15 = .ok (.aload_n 0, 1) := by decide +kernel
theorem dX0_number_16 : decode cX0_number 16 = .ok (.getfield 11, 3) := by decide +kernel
theorem dX0_number_19 : decode cX0_number 19 = .ok (.iload_n 1, 1) := by decide +kernel
theorem dX0_number_20 : decode cX0_number 20 = .ok (.iaload, 1) := by decide +kernel
theorem dX0_number_21 : decode cX0_number 21 = .ok (.ireturn, 1) := by decide +kernel
theorem dX0_encode_0 : decode cX0_encode 0 = .ok (.aload_n 0, 1) := by decide +kernel
theorem dX0_encode_1 : decode cX0_encode 1 = .ok (.invokevirtual 30, 3) := by decide +kernel
theorem dX0_encode_4 : decode cX0_encode 4 = .ok (.aload_n 0, 1) := by decide +kernel
theorem dX0_encode_5 : decode cX0_encode 5 = .ok (.iload_n 1, 1) := by decide +kernel
theorem dX0_encode_6 : decode cX0_encode 6 = .ok (.iconst 2, 1) := by decide +kernel
theorem dX0_encode_7 : decode cX0_encode 7 = .ok (.ishr, 1) := by decide +kernel
theorem dX0_encode_8 : decode cX0_encode 8 = .ok (.aload_n 0, 1) := by decide +kernel
theorem dX0_encode_9 : decode cX0_encode 9 = .ok (.getfield 19, 3) := by decide +kernel
theorem dX0_encode_12 : decode cX0_encode 12 = .ok (.isub, 1) := by decide +kernel
theorem dX0_encode_13 : decode cX0_encode 13 = .ok (.invokevirtual 33, 3) := by decide +kernel
theorem dX0_encode_16 : decode cX0_encode 16 = .ok (.istore_n 2, 1) := by decide +kernel
theorem dX0_encode_17 : decode cX0_encode 17 = .ok (.aload_n 0, 1) := by decide +kernel
theorem dX0_encode_18 : decode cX0_encode 18 = .ok (.iload_n 2, 1) := by decide +kernel
theorem dX0_encode_19 : decode cX0_encode 19 = .ok (.invokevirtual 37, 3) := by decide +kernel
theorem dX0_encode_22 : decode cX0_encode 22 = .ok (.pop, 1) := by decide +kernel
theorem dX0_encode_23 : decode cX0_encode 23 = .ok (.iload_n 2, 1) := by decide +kernel
theorem dX0_encode_24 : decode cX0_encode 24 = .ok (.ireturn, 1) := by decide +kernel
theorem dX0_decode_0 : decode cX0_decode 0 = .ok (.aload_n 0, 1) := by decide +kernel
theorem dX0_decode_1 : decode cX0_decode 1 = .ok (.invokevirtual 30, 3) := by decide +kernel
theorem dX0_decode_4 : decode cX0_decode 4 = .ok (.iconst 4, 1) := by decide +kernel
theorem dX0_decode_5 : decode cX0_decode 5 = .ok (.aload_n 0, 1) := by decide +kernel
theorem dX0_decode_6 : decode cX0_decode 6 = .ok (.iload_n 1, 1) := by decide +kernel
theorem dX0_decode_7 : decode cX0_decode 7 = .ok (.invokevirtual 37, 3) := by decide +kernel
theorem dX0_decode_10 : decode cX0_decode 10 = .ok (.imul, 1) := by decide +kernel
theorem dX0_decode_11 : decode cX0_decode 11 = .ok (.invokestatic 40, 3) := by decide +kernel
theorem dX0_decode_14 : decode cX0_decode 14 = .ok (.ireturn, 1) := by decide +kernel
theorem dX0_foresee_0 : decode cX0_foresee 0 = .ok (.iconst 0, 1) := by decide +kernel
theorem dX0_foresee_1 : decode cX0_foresee 1 = .ok (.istore_n 1, 1) := by decide +kernel
theorem dX0_foresee_2 : decode cX0_foresee 2 = .ok (.iconst 0, 1) := by decide +kernel
theorem dX0_foresee_3 : decode cX0_foresee 3 = .ok (.istore_n 2, 1) := by decide +kernel
theorem dX0_foresee_4 : decode cX0_foresee 4 = .ok (.iload_n 2, 1) := by decide +kernel
theorem dX0_foresee_5 : decode cX0_foresee 5 = .ok (.bipush 6, 2) := by decide +kernel
theorem dX0_foresee_7 : decode cX0_foresee 7 = .ok (.if_icmp .ge 35, 3) := by decide +kernel
theorem dX0_foresee_10 : decode cX0_foresee 10 = .ok (.iload_n 1, 1) := by decide +kernel
theorem dX0_foresee_11 : decode cX0_foresee 11 = .ok (.aload_n 0, 1) := by decide +kernel
theorem dX0_foresee_12 : decode cX0_foresee 12 = .ok (.getfield 11, 3) := by decide +kernel
theorem dX0_foresee_15 : decode cX0_foresee 15 = .ok (.bipush 8, 2) := by decide +kernel
theorem dX0_foresee_17 : decode cX0_foresee 17 = .ok (.iload_n 2, 1) := by decide +kernel
theorem dX0_foresee_18 : decode cX0_foresee 18 = .ok (.iadd, 1) := by decide +kernel
theorem dX0_foresee_19 : decode cX0_foresee 19 = .ok (.iaload, 1) := by decide +kernel
theorem dX0_foresee_20 : decode cX0_foresee 20 = .ok (.iconst 2, 1) := by decide +kernel
theorem dX0_foresee_21 : decode cX0_foresee 21 = .ok (.ishr, 1) := by decide +kernel
theorem dX0_foresee_22 : decode cX0_foresee 22 = .ok (.aload_n 0, 1) := by decide +kernel
theorem dX0_foresee_23 : decode cX0_foresee 23 = .ok (.getfield 11, 3) := by decide +kernel
theorem dX0_foresee_26 : decode cX0_foresee 26 = .ok (.bipush 16, 2) := by decide +kernel
theorem dX0_foresee_28 : decode cX0_foresee 28 = .ok (.iload_n 2, 1) := by decide +kernel
theorem dX0_foresee_29 : decode cX0_foresee 29 = .ok (.iadd, 1) := by decide +kernel
theorem dX0_foresee_30 : decode cX0_foresee 30 = .ok (.iaload, 1) := by decide +kernel
theorem dX0_foresee_31 : decode cX0_foresee 31 = .ok (.invokestatic 43, 3) := by decide +kernel
theorem dX0_foresee_34 : decode cX0_foresee 34 = .ok (.iadd, 1) := by decide +kernel
theorem dX0_foresee_35 : decode cX0_foresee 35 = .ok (.istore_n 1, 1) := by decide +kernel
theorem dX0_foresee_36 : decode cX0_foresee 36 = .ok (.iinc 2 1, 3) := by decide +kernel
theorem dX0_foresee_39 : decode cX0_foresee 39 = .ok (.goto (-35), 3) := by decide +kernel
theorem dX0_foresee_42 : decode cX0_foresee 42 = .ok (.iload_n 1, 1) := by decide +kernel
theorem dX0_foresee_43 : decode cX0_foresee 43 = .ok (.invokestatic 47, 3) := by decide +kernel
theorem dX0_foresee_46 : decode cX0_foresee 46 = .ok (.istore_n 1, 1) := by decide +kernel
theorem dX0_foresee_47 : decode cX0_foresee 47 = .ok (.aload_n 0, 1) := by decide +kernel
theorem dX0_foresee_48 : decode cX0_foresee 48 = .ok (.iload_n 1, 1) := by decide +kernel
theorem dX0_foresee_49 : decode cX0_foresee 49 = .ok (.iconst 1, 1) := by decide +kernel
theorem dX0_foresee_50 : decode cX0_foresee 50 = .ok (.ishr, 1) := by decide +kernel
theorem dX0_foresee_51 : decode cX0_foresee 51 = .ok (.putfield 22, 3) := by decide +kernel
theorem dX0_foresee_54 : decode cX0_foresee 54 = .ok (.aload_n 0, 1) := by decide +kernel
theorem dX0_foresee_55 : decode cX0_foresee 55 = .ok (.getfield 11, 3) := by decide +kernel
theorem dX0_foresee_58 : decode cX0_foresee 58 = .ok (.bipush 7, 2) := by decide +kernel
theorem dX0_foresee_60 : decode cX0_foresee 60 = .ok (.iaload, 1) := by decide +kernel
theorem dX0_foresee_61 : decode cX0_foresee 61 = .ok (.iconst 2, 1) := by decide +kernel
theorem dX0_foresee_62 : decode cX0_foresee 62 = .ok (.ishr, 1) := by decide +kernel
theorem dX0_foresee_63 : decode cX0_foresee 63 = .ok (.aload_n 0, 1) := by decide +kernel
theorem dX0_foresee_64 : decode cX0_foresee 64 = .ok (.getfield 11, 3) := by decide +kernel
theorem dX0_foresee_67 : decode cX0_foresee 67 = .ok (.bipush 15, 2) := by decide +kernel
theorem dX0_foresee_69 : decode cX0_foresee 69 = .ok (.iaload, 1) := by decide +kernel
theorem dX0_foresee_70 : decode cX0_foresee 70 = .ok (.invokestatic 43, 3) := by decide +kernel
theorem dX0_foresee_73 : decode cX0_foresee 73 = .ok (.aload_n 0, 1) := by decide +kernel
theorem dX0_foresee_74 : decode cX0_foresee 74 = .ok (.getfield 11, 3) := by decide +kernel
theorem dX0_foresee_77 : decode cX0_foresee 77 = .ok (.bipush 6, 2) := by decide +kernel
theorem dX0_foresee_79 : decode cX0_foresee 79 = .ok (.iaload, 1) := by decide +kernel
theorem dX0_foresee_80 : decode cX0_foresee 80 = .ok (.iconst 2, 1) := by decide +kernel
theorem dX0_foresee_81 : decode cX0_foresee 81 = .ok (.ishr, 1) := by decide +kernel
theorem dX0_foresee_82 : decode cX0_foresee 82 = .ok (.aload_n 0, 1) := by decide +kernel
theorem dX0_foresee_83 : decode cX0_foresee 83 = .ok (.getfield 11, 3) := by decide +kernel
theorem dX0_foresee_86 : decode cX0_foresee 86 = .ok (.bipush 14, 2) := by decide +kernel
theorem dX0_foresee_88 : decode cX0_foresee 88 = .ok (.iaload, 1) := by decide +kernel
theorem dX0_foresee_89 : decode cX0_foresee 89 = .ok (.invokestatic 43, 3) := by decide +kernel
theorem dX0_foresee_92 : decode cX0_foresee 92 = .ok (.iadd, 1) := by decide +kernel
theorem dX0_foresee_93 : decode cX0_foresee 93 = .ok (.istore_n 2, 1) := by decide +kernel
theorem dX0_foresee_94 : decode cX0_foresee 94 = .ok (.aload_n 0, 1) := by decide +kernel
theorem dX0_foresee_95 : decode cX0_foresee 95 = .ok (.iload_n 1, 1) := by decide +kernel
theorem dX0_foresee_96 : decode cX0_foresee 96 = .ok (.iload_n 2, 1) := by decide +kernel
theorem dX0_foresee_97 : decode cX0_foresee 97 = .ok (.iadd, 1) := by decide +kernel
theorem dX0_foresee_98 : decode cX0_foresee 98 = .ok (.invokestatic 47, 3) := by decide +kernel
theorem dX0_foresee_101 : decode cX0_foresee 101 = .ok (.iconst 1, 1) := by decide +kernel
theorem dX0_foresee_102 : decode cX0_foresee 102 = .ok (.ishr, 1) := by decide +kernel
theorem dX0_foresee_103 : decode cX0_foresee 103 = .ok (.putfield 19, 3) := by decide +kernel
theorem dX0_foresee_106 : decode cX0_foresee 106 = .ok (.aload_n 0, 1) := by decide +kernel
theorem dX0_foresee_107 : decode cX0_foresee 107 = .ok (.aload_n 0, 1) := by decide +kernel
theorem dX0_foresee_108 : decode cX0_foresee 108 = .ok (.invokevirtual 50, 3) := by decide +kernel
theorem dX0_foresee_111 : decode cX0_foresee 111 = .ok (.putfield 25, 3) := by decide +kernel
theorem dX0_foresee_114 : decode cX0_foresee 114 = .ok (.return_, 1) := by decide +kernel
theorem dX0_stepNow_0 : decode cX0_stepNow 0 = .ok (.aload_n 0, 1) := by decide +kernel
theorem dX0_stepNow_1 : decode cX0_stepNow 1 = .ok (.getfield 11, 3) := by decide +kernel
theorem dX0_stepNow_4 : decode cX0_stepNow 4 = .ok (.iconst 4, 1) := by decide +kernel
theorem dX0_stepNow_5 : decode cX0_stepNow 5 = .ok (.iaload, 1) := by decide +kernel
theorem dX0_stepNow_6 : decode cX0_stepNow 6 = .ok (.sipush 256, 3) := by decide +kernel
theorem dX0_stepNow_9 : decode cX0_stepNow 9 = .ok (.if_icmp .lt 10, 3) := by decide +kernel
theorem dX0_stepNow_12 : decode cX0_stepNow 12 = .ok (.aload_n 0, 1) := by decide +kernel
theorem dX0_stepNow_13 : decode cX0_stepNow 13 = .ok (.getfield 11, 3) := by decide +kernel
theorem dX0_stepNow_16 : decode cX0_stepNow 16 = .ok (.iconst 1, 1) := by decide +kernel
theorem dX0_stepNow_17 : decode cX0_stepNow 17 = .ok (.iaload, 1) := by decide +kernel
theorem dX0_stepNow_18 : decode cX0_stepNow 18 = .ok (.ireturn, 1) := by decide +kernel
theorem dX0_stepNow_19 : decode cX0_stepNow 19 = .ok (.aload_n 0, 1) := by decide +kernel
theorem dX0_stepNow_20 : decode cX0_stepNow 20 = .ok (.getfield 11, 3) := by decide +kernel
theorem dX0_stepNow_23 : decode cX0_stepNow 23 = .ok (.iconst 0, 1) := by decide +kernel
theorem dX0_stepNow_24 : decode cX0_stepNow 24 = .ok (.iaload, 1) := by decide +kernel
theorem dX0_stepNow_25 : decode cX0_stepNow 25 = .ok (.bipush 6, 2) := by decide +kernel
theorem dX0_stepNow_27 : decode cX0_stepNow 27 = .ok (.ishr, 1) := by decide +kernel
theorem dX0_stepNow_28 : decode cX0_stepNow 28 = .ok (.istore_n 1, 1) := by decide +kernel
theorem dX0_stepNow_29 : decode cX0_stepNow 29 = .ok (.aload_n 0, 1) := by decide +kernel
theorem dX0_stepNow_30 : decode cX0_stepNow 30 = .ok (.getfield 11, 3) := by decide +kernel
theorem dX0_stepNow_33 : decode cX0_stepNow 33 = .ok (.iconst 1, 1) := by decide +kernel
theorem dX0_stepNow_34 : decode cX0_stepNow 34 = .ok (.iaload, 1) := by decide +kernel
theorem dX0_stepNow_35 : decode cX0_stepNow 35 = .ok (.iload_n 1, 1) := by decide +kernel
theorem dX0_stepNow_36 : decode cX0_stepNow 36 = .ok (.isub, 1) := by decide +kernel
theorem dX0_stepNow_37 : decode cX0_stepNow 37 = .ok (.istore_n 2, 1) := by decide +kernel
theorem dX0_stepNow_38 : decode cX0_stepNow 38 = .ok (.aload_n 0, 1) := by decide +kernel
theorem dX0_stepNow_39 : decode cX0_stepNow 39 = .ok (.getfield 11, 3) := by decide +kernel
theorem dX0_stepNow_42 : decode cX0_stepNow 42 = .ok (.iconst 4, 1) := by decide +kernel
theorem dX0_stepNow_43 : decode cX0_stepNow 43 = .ok (.iaload, 1) := by decide +kernel
theorem dX0_stepNow_44 : decode cX0_stepNow 44 = .ok (.iconst 2, 1) := by decide +kernel
theorem dX0_stepNow_45 : decode cX0_stepNow 45 = .ok (.ishr, 1) := by decide +kernel
theorem dX0_stepNow_46 : decode cX0_stepNow 46 = .ok (.istore_n 3, 1) := by decide +kernel
theorem dX0_stepNow_47 : decode cX0_stepNow 47 = .ok (.iload_n 2, 1) := by decide +kernel
theorem dX0_stepNow_48 : decode cX0_stepNow 48 = .ok (.ifCond .le 12, 3) := by decide +kernel
theorem dX0_stepNow_51 : decode cX0_stepNow 51 = .ok (.iload_n 1, 1) := by decide +kernel
theorem dX0_stepNow_52 : decode cX0_stepNow 52 = .ok (.iload_n 2, 1) := by decide +kernel
theorem dX0_stepNow_53 : decode cX0_stepNow 53 = .ok (.iload_n 3, 1) := by decide +kernel
theorem dX0_stepNow_54 : decode cX0_stepNow 54 = .ok (.imul, 1) := by decide +kernel
theorem dX0_stepNow_55 : decode cX0_stepNow 55 = .ok (.bipush 6, 2) := by decide +kernel
theorem dX0_stepNow_57 : decode cX0_stepNow 57 = .ok (.ishr, 1) := by decide +kernel
theorem dX0_stepNow_58 : decode cX0_stepNow 58 = .ok (.iadd, 1) := by decide +kernel
theorem dX0_stepNow_59 : decode cX0_stepNow 59 = .ok (.ireturn, 1) := by decide +kernel
theorem dX0_stepNow_60 : decode cX0_stepNow 60 = .ok (.iload_n 2, 1) := by decide +kernel
theorem dX0_stepNow_61 : decode cX0_stepNow 61 = .ok (.ifCond .ge 15, 3) := by decide +kernel
theorem dX0_stepNow_64 : decode cX0_stepNow 64 = .ok (.iload_n 1, 1) := by decide +kernel
theorem dX0_stepNow_65 : decode cX0_stepNow 65 = .ok (.iload_n 2, 1) := by decide +kernel
theorem dX0_stepNow_66 : decode cX0_stepNow 66 = .ok (.iload_n 3, 1) := by decide +kernel
theorem dX0_stepNow_67 : decode cX0_stepNow 67 = .ok (.imul, 1) := by decide +kernel
theorem dX0_stepNow_68 : decode cX0_stepNow 68 = .ok (.bipush 63, 2) := by decide +kernel
theorem dX0_stepNow_70 : decode cX0_stepNow 70 = .ok (.iadd, 1) := by decide +kernel
theorem dX0_stepNow_71 : decode cX0_stepNow 71 = .ok (.bipush 6, 2) := by decide +kernel
theorem dX0_stepNow_73 : decode cX0_stepNow 73 = .ok (.ishr, 1) := by decide +kernel
theorem dX0_stepNow_74 : decode cX0_stepNow 74 = .ok (.iadd, 1) := by decide +kernel
theorem dX0_stepNow_75 : decode cX0_stepNow 75 = .ok (.ireturn, 1) := by decide +kernel
theorem dX0_stepNow_76 : decode cX0_stepNow 76 = .ok (.iload_n 1, 1) := by decide +kernel
theorem dX0_stepNow_77 : decode cX0_stepNow 77 = .ok (.ireturn, 1) := by decide +kernel
theorem dX0_codeOf_0 : decode cX0_codeOf 0 = .ok (.iload_n 1, 1) := by decide +kernel
theorem dX0_codeOf_1 : decode cX0_codeOf 1 = .ok (.invokestatic 54, 3) := by decide +kernel
theorem dX0_codeOf_4 : decode cX0_codeOf 4 = .ok (.istore_n 2, 1) := by decide +kernel
theorem dX0_codeOf_5 : decode cX0_codeOf 5 = .ok (.iload_n 2, 1) := by decide +kernel
theorem dX0_codeOf_6 : decode cX0_codeOf 6 = .ok (.iconst 1, 1) := by decide +kernel
theorem dX0_codeOf_7 : decode cX0_codeOf 7 = .ok (.ishr, 1) := by decide +kernel
theorem dX0_codeOf_8 : decode cX0_codeOf 8 = .ok (.invokestatic 59, 3) := by decide +kernel
theorem dX0_codeOf_11 : decode cX0_codeOf 11 = .ok (.istore_n 3, 1) := by decide +kernel
theorem dX0_codeOf_12 : decode cX0_codeOf 12 = .ok (.sipush 128, 3) := by decide +kernel
theorem dX0_codeOf_15 : decode cX0_codeOf 15 = .ok (.iload_n 3, 1) := by decide +kernel
theorem dX0_codeOf_16 : decode cX0_codeOf 16 = .ok (.imul, 1) := by decide +kernel
theorem dX0_codeOf_17 : decode cX0_codeOf 17 = .ok (.sipush 128, 3) := by decide +kernel
theorem dX0_codeOf_20 : decode cX0_codeOf 20 = .ok (.iload_n 2, 1) := by decide +kernel
theorem dX0_codeOf_21 : decode cX0_codeOf 21 = .ok (.imul, 1) := by decide +kernel
theorem dX0_codeOf_22 : decode cX0_codeOf 22 = .ok (.iload_n 3, 1) := by decide +kernel
theorem dX0_codeOf_23 : decode cX0_codeOf 23 = .ok (.ishr, 1) := by decide +kernel
theorem dX0_codeOf_24 : decode cX0_codeOf 24 = .ok (.bipush 127, 2) := by decide +kernel
theorem dX0_codeOf_26 : decode cX0_codeOf 26 = .ok (.iand, 1) := by decide +kernel
theorem dX0_codeOf_27 : decode cX0_codeOf 27 = .ok (.iadd, 1) := by decide +kernel
theorem dX0_codeOf_28 : decode cX0_codeOf 28 = .ok (.aload_n 0, 1) := by decide +kernel
theorem dX0_codeOf_29 : decode cX0_codeOf 29 = .ok (.getfield 25, 3) := by decide +kernel
theorem dX0_codeOf_32 : decode cX0_codeOf 32 = .ok (.iconst 2, 1) := by decide +kernel
theorem dX0_codeOf_33 : decode cX0_codeOf 33 = .ok (.ishr, 1) := by decide +kernel
theorem dX0_codeOf_34 : decode cX0_codeOf 34 = .ok (.isub, 1) := by decide +kernel
theorem dX0_codeOf_35 : decode cX0_codeOf 35 = .ok (.istore 4, 2) := by decide +kernel
theorem dX0_codeOf_37 : decode cX0_codeOf 37 = .ok (.iconst 1, 1) := by decide +kernel
theorem dX0_codeOf_38 : decode cX0_codeOf 38 = .ok (.aload_n 0, 1) := by decide +kernel
theorem dX0_codeOf_39 : decode cX0_codeOf 39 = .ok (.getfield 15, 3) := by decide +kernel
theorem dX0_codeOf_42 : decode cX0_codeOf 42 = .ok (.iconst 1, 1) := by decide +kernel
theorem dX0_codeOf_43 : decode cX0_codeOf 43 = .ok (.isub, 1) := by decide +kernel
theorem dX0_codeOf_44 : decode cX0_codeOf 44 = .ok (.ishl, 1) := by decide +kernel
theorem dX0_codeOf_45 : decode cX0_codeOf 45 = .ok (.iconst 1, 1) := by decide +kernel
theorem dX0_codeOf_46 : decode cX0_codeOf 46 = .ok (.isub, 1) := by decide +kernel
theorem dX0_codeOf_47 : decode cX0_codeOf 47 = .ok (.istore 5, 2) := by decide +kernel
theorem dX0_codeOf_49 : decode cX0_codeOf 49 = .ok (.iconst 1, 1) := by decide +kernel
theorem dX0_codeOf_50 : decode cX0_codeOf 50 = .ok (.aload_n 0, 1) := by decide +kernel
theorem dX0_codeOf_51 : decode cX0_codeOf 51 = .ok (.getfield 15, 3) := by decide +kernel
theorem dX0_codeOf_54 : decode cX0_codeOf 54 = .ok (.iconst 1, 1) := by decide +kernel
theorem dX0_codeOf_55 : decode cX0_codeOf 55 = .ok (.isub, 1) := by decide +kernel
theorem dX0_codeOf_56 : decode cX0_codeOf 56 = .ok (.ishl, 1) := by decide +kernel
theorem dX0_codeOf_57 : decode cX0_codeOf 57 = .ok (.aload_n 0, 1) := by decide +kernel
theorem dX0_codeOf_58 : decode cX0_codeOf 58 = .ok (.getfield 15, 3) := by decide +kernel
theorem dX0_codeOf_61 : decode cX0_codeOf 61 = .ok (.isub, 1) := by decide +kernel
theorem dX0_codeOf_62 : decode cX0_codeOf 62 = .ok (.istore 6, 2) := by decide +kernel
theorem dX0_codeOf_64 : decode cX0_codeOf 64 = .ok (.iconst 0, 1) := by decide +kernel
theorem dX0_codeOf_65 : decode cX0_codeOf 65 = .ok (.istore 7, 2) := by decide +kernel
theorem dX0_codeOf_67 : decode cX0_codeOf 67 = .ok (.iload 7, 2) := by decide +kernel
theorem dX0_codeOf_69 : decode cX0_codeOf 69 = .ok (.iload 5, 2) := by decide +kernel
theorem dX0_codeOf_71 : decode cX0_codeOf 71 = .ok (.if_icmp .ge 23, 3) := by decide +kernel
theorem dX0_codeOf_74 : decode cX0_codeOf 74 = .ok (.iload 4, 2) := by decide +kernel
theorem dX0_codeOf_76 : decode cX0_codeOf 76 = .ok (.getstatic 62, 3) := by decide +kernel
theorem dX0_codeOf_79 : decode cX0_codeOf 79 = .ok (.iload 6, 2) := by decide +kernel
theorem dX0_codeOf_81 : decode cX0_codeOf 81 = .ok (.iload 7, 2) := by decide +kernel
theorem dX0_codeOf_83 : decode cX0_codeOf 83 = .ok (.iadd, 1) := by decide +kernel
theorem dX0_codeOf_84 : decode cX0_codeOf 84 = .ok (.iaload, 1) := by decide +kernel
theorem dX0_codeOf_85 : decode cX0_codeOf 85 = .ok (.if_icmp .lt 9, 3) := by decide +kernel
theorem dX0_codeOf_88 : decode cX0_codeOf 88 = .ok (.iinc 7 1, 3) := by decide +kernel
theorem dX0_codeOf_91 : decode cX0_codeOf 91 = .ok (.goto (-24), 3) := by decide +kernel
theorem dX0_codeOf_94 : decode cX0_codeOf 94 = .ok (.iload_n 1, 1) := by decide +kernel
theorem dX0_codeOf_95 : decode cX0_codeOf 95 = .ok (.ifCond .ge 13, 3) := by decide +kernel
theorem dX0_codeOf_98 : decode cX0_codeOf 98 = .ok (.iconst 2, 1) := by decide +kernel
theorem dX0_codeOf_99 : decode cX0_codeOf 99 = .ok (.iload 5, 2) := by decide +kernel
theorem dX0_codeOf_101 : decode cX0_codeOf 101 = .ok (.imul, 1) := by decide +kernel
theorem dX0_codeOf_102 : decode cX0_codeOf 102 = .ok (.iconst 1, 1) := by decide +kernel
theorem dX0_codeOf_103 : decode cX0_codeOf 103 = .ok (.iadd, 1) := by decide +kernel
theorem dX0_codeOf_104 : decode cX0_codeOf 104 = .ok (.iload 7, 2) := by decide +kernel
theorem dX0_codeOf_106 : decode cX0_codeOf 106 = .ok (.isub, 1) := by decide +kernel
theorem dX0_codeOf_107 : decode cX0_codeOf 107 = .ok (.ireturn, 1) := by decide +kernel
theorem dX0_codeOf_108 : decode cX0_codeOf 108 = .ok (.iload 7, 2) := by decide +kernel
theorem dX0_codeOf_110 : decode cX0_codeOf 110 = .ok (.ifCond .le 6, 3) := by decide +kernel
theorem dX0_codeOf_113 : decode cX0_codeOf 113 = .ok (.iload 7, 2) := by decide +kernel
theorem dX0_codeOf_115 : decode cX0_codeOf 115 = .ok (.ireturn, 1) := by decide +kernel
theorem dX0_codeOf_116 : decode cX0_codeOf 116 = .ok (.aload_n 0, 1) := by decide +kernel
theorem dX0_codeOf_117 : decode cX0_codeOf 117 = .ok (.getfield 15, 3) := by decide +kernel
theorem dX0_codeOf_120 : decode cX0_codeOf 120 = .ok (.iconst 2, 1) := by decide +kernel
theorem dX0_codeOf_121 : decode cX0_codeOf 121 = .ok (.if_icmp .ne 7, 3) := by decide +kernel
theorem dX0_codeOf_124 : decode cX0_codeOf 124 = .ok (.iconst 0, 1) := by decide +kernel
theorem dX0_codeOf_125 : decode cX0_codeOf 125 = .ok (.goto 9, 3) := by decide +kernel
theorem dX0_codeOf_128 : decode cX0_codeOf 128 = .ok (.iconst 2, 1) := by decide +kernel
theorem dX0_codeOf_129 : decode cX0_codeOf 129 = .ok (.iload 5, 2) := by decide +kernel
theorem dX0_codeOf_131 : decode cX0_codeOf 131 = .ok (.imul, 1) := by decide +kernel
theorem dX0_codeOf_132 : decode cX0_codeOf 132 = .ok (.iconst 1, 1) := by decide +kernel
theorem dX0_codeOf_133 : decode cX0_codeOf 133 = .ok (.iadd, 1) := by decide +kernel
theorem dX0_codeOf_134 : decode cX0_codeOf 134 = .ok (.ireturn, 1) := by decide +kernel
theorem dX0_settle_0 : decode cX0_settle 0 = .ok (.aload_n 0, 1) := by decide +kernel
theorem dX0_settle_1 : decode cX0_settle 1 = .ok (.iload_n 1, 1) := by decide +kernel
theorem dX0_settle_2 : decode cX0_settle 2 = .ok (.invokevirtual 65, 3) := by decide +kernel
theorem dX0_settle_5 : decode cX0_settle 5 = .ok (.istore_n 2, 1) := by decide +kernel
theorem dX0_settle_6 : decode cX0_settle 6 = .ok (.iload_n 1, 1) := by decide +kernel
theorem dX0_settle_7 : decode cX0_settle 7 = .ok (.iconst 1, 1) := by decide +kernel
theorem dX0_settle_8 : decode cX0_settle 8 = .ok (.aload_n 0, 1) := by decide +kernel
theorem dX0_settle_9 : decode cX0_settle 9 = .ok (.getfield 15, 3) := by decide +kernel
theorem dX0_settle_12 : decode cX0_settle 12 = .ok (.iconst 1, 1) := by decide +kernel
theorem dX0_settle_13 : decode cX0_settle 13 = .ok (.isub, 1) := by decide +kernel
theorem dX0_settle_14 : decode cX0_settle 14 = .ok (.ishl, 1) := by decide +kernel
theorem dX0_settle_15 : decode cX0_settle 15 = .ok (.if_icmp .lt 7, 3) := by decide +kernel
theorem dX0_settle_18 : decode cX0_settle 18 = .ok (.iconst 1, 1) := by decide +kernel
theorem dX0_settle_19 : decode cX0_settle 19 = .ok (.goto 4, 3) := by decide +kernel
theorem dX0_settle_22 : decode cX0_settle 22 = .ok (.iconst 0, 1) := by decide +kernel
theorem dX0_settle_23 : decode cX0_settle 23 = .ok (.istore_n 3, 1) := by decide +kernel
theorem dX0_settle_24 : decode cX0_settle 24 = .ok (.getstatic 68, 3) := by decide +kernel
theorem dX0_settle_27 : decode cX0_settle 27 = .ok (.iload_n 2, 1) := by decide +kernel
theorem dX0_settle_28 : decode cX0_settle 28 = .ok (.iaload, 1) := by decide +kernel
theorem dX0_settle_29 : decode cX0_settle 29 = .ok (.aload_n 0, 1) := by decide +kernel
theorem dX0_settle_30 : decode cX0_settle 30 = .ok (.getfield 25, 3) := by decide +kernel
theorem dX0_settle_33 : decode cX0_settle 33 = .ok (.iconst 2, 1) := by decide +kernel
theorem dX0_settle_34 : decode cX0_settle 34 = .ok (.ishr, 1) := by decide +kernel
theorem dX0_settle_35 : decode cX0_settle 35 = .ok (.iadd, 1) := by decide +kernel
theorem dX0_settle_36 : decode cX0_settle 36 = .ok (.invokestatic 71, 3) := by decide +kernel
theorem dX0_settle_39 : decode cX0_settle 39 = .ok (.istore 4, 2) := by decide +kernel
theorem dX0_settle_41 : decode cX0_settle 41 = .ok (.iload_n 3, 1) := by decide +kernel
theorem dX0_settle_42 : decode cX0_settle 42 = .ok (.ifCond .eq 13, 3) := by decide +kernel
theorem dX0_settle_45 : decode cX0_settle 45 = .ok (.aload_n 0, 1) := by decide +kernel
theorem dX0_settle_46 : decode cX0_settle 46 = .ok (.getfield 19, 3) := by decide +kernel
theorem dX0_settle_49 : decode cX0_settle 49 = .ok (.iload 4, 2) := by decide +kernel
theorem dX0_settle_51 : decode cX0_settle 51 = .ok (.isub, 1) := by decide +kernel
theorem dX0_settle_52 : decode cX0_settle 52 = .ok (.goto 10, 3) := by decide +kernel
theorem dX0_settle_55 : decode cX0_settle 55 = .ok (.aload_n 0, 1) := by decide +kernel
theorem dX0_settle_56 : decode cX0_settle 56 = .ok (.getfield 19, 3) := by decide +kernel
theorem dX0_settle_59 : decode cX0_settle 59 = .ok (.iload 4, 2) := by decide +kernel
theorem dX0_settle_61 : decode cX0_settle 61 = .ok (.iadd, 1) := by decide +kernel
theorem dX0_settle_62 : decode cX0_settle 62 = .ok (.invokestatic 47, 3) := by decide +kernel
theorem dX0_settle_65 : decode cX0_settle 65 = .ok (.istore 5, 2) := by decide +kernel
theorem dX0_settle_67 : decode cX0_settle 67 = .ok (.iload 5, 2) := by decide +kernel
theorem dX0_settle_69 : decode cX0_settle 69 = .ok (.aload_n 0, 1) := by decide +kernel
theorem dX0_settle_70 : decode cX0_settle 70 = .ok (.getfield 22, 3) := by decide +kernel
theorem dX0_settle_73 : decode cX0_settle 73 = .ok (.iadd, 1) := by decide +kernel
theorem dX0_settle_74 : decode cX0_settle 74 = .ok (.aload_n 0, 1) := by decide +kernel
theorem dX0_settle_75 : decode cX0_settle 75 = .ok (.getfield 19, 3) := by decide +kernel
theorem dX0_settle_78 : decode cX0_settle 78 = .ok (.isub, 1) := by decide +kernel
theorem dX0_settle_79 : decode cX0_settle 79 = .ok (.invokestatic 47, 3) := by decide +kernel
theorem dX0_settle_82 : decode cX0_settle 82 = .ok (.istore 6, 2) := by decide +kernel
theorem dX0_settle_84 : decode cX0_settle 84 = .ok (.aload_n 0, 1) := by decide +kernel
theorem dX0_settle_85 : decode cX0_settle 85 = .ok (.iload 4, 2) := by decide +kernel
theorem dX0_settle_87 : decode cX0_settle 87 = .ok (.invokevirtual 74, 3) := by decide +kernel
theorem dX0_settle_90 : decode cX0_settle 90 = .ok (.istore 7, 2) := by decide +kernel
theorem dX0_settle_92 : decode cX0_settle 92 = .ok (.aload_n 0, 1) := by decide +kernel
theorem dX0_settle_93 : decode cX0_settle 93 = .ok (.getstatic 78, 3) := by decide +kernel
theorem dX0_settle_96 : decode cX0_settle 96 = .ok (.iload_n 2, 1) := by decide +kernel
theorem dX0_settle_97 : decode cX0_settle 97 = .ok (.iaload, 1) := by decide +kernel
theorem dX0_settle_98 : decode cX0_settle 98 = .ok (.invokevirtual 81, 3) := by decide +kernel
theorem dX0_settle_101 : decode cX0_settle 101 = .ok (.iload 7, 2) := by decide +kernel
theorem dX0_settle_103 : decode cX0_settle 103 = .ok (.ifCond .eq 10, 3) := by decide +kernel
theorem dX0_settle_106 : decode cX0_settle 106 = .ok (.aload_n 0, 1) := by decide +kernel
theorem dX0_settle_107 : decode cX0_settle 107 = .ok (.invokevirtual 85, 3) := by decide +kernel
theorem dX0_settle_110 : decode cX0_settle 110 = .ok (.goto 22, 3) := by decide +kernel
theorem dX0_settle_113 : decode cX0_settle 113 = .ok (.aload_n 0, 1) := by decide +kernel
theorem dX0_settle_114 : decode cX0_settle 114 = .ok (.iload 6, 2) := by decide +kernel
theorem dX0_settle_116 : decode cX0_settle 116 = .ok (.invokevirtual 88, 3) := by decide +kernel
theorem dX0_settle_119 : decode cX0_settle 119 = .ok (.aload_n 0, 1) := by decide +kernel
theorem dX0_settle_120 : decode cX0_settle 120 = .ok (.iload 6, 2) := by decide +kernel
theorem dX0_settle_122 : decode cX0_settle 122 = .ok (.invokevirtual 91, 3) := by decide +kernel
theorem dX0_settle_125 : decode cX0_settle 125 = .ok (.aload_n 0, 1) := by decide +kernel
theorem dX0_settle_126 : decode cX0_settle 126 = .ok (.iload 4, 2) := by decide +kernel
theorem dX0_settle_128 : decode cX0_settle 128 = .ok (.iload_n 3, 1) := by decide +kernel
theorem dX0_settle_129 : decode cX0_settle 129 = .ok (.invokevirtual 94, 3) := by decide +kernel
theorem dX0_settle_132 : decode cX0_settle 132 = .ok (.aload_n 0, 1) := by decide +kernel
theorem dX0_settle_133 : decode cX0_settle 133 = .ok (.iload 4, 2) := by decide +kernel
theorem dX0_settle_135 : decode cX0_settle 135 = .ok (.iload_n 3, 1) := by decide +kernel
theorem dX0_settle_136 : decode cX0_settle 136 = .ok (.invokestatic 98, 3) := by decide +kernel
theorem dX0_settle_139 : decode cX0_settle 139 = .ok (.iload 5, 2) := by decide +kernel
theorem dX0_settle_141 : decode cX0_settle 141 = .ok (.invokestatic 54, 3) := by decide +kernel
theorem dX0_settle_144 : decode cX0_settle 144 = .ok (.iload 5, 2) := by decide +kernel
theorem dX0_settle_146 : decode cX0_settle 146 = .ok (.ifCond .ge 7, 3) := by decide +kernel
theorem dX0_settle_149 : decode cX0_settle 149 = .ok (.iconst 1, 1) := by decide +kernel
theorem dX0_settle_150 : decode cX0_settle 150 = .ok (.goto 4, 3) := by decide +kernel
theorem dX0_settle_153 : decode cX0_settle 153 = .ok (.iconst 0, 1) := by decide +kernel
theorem dX0_settle_154 : decode cX0_settle 154 = .ok (.invokestatic 98, 3) := by decide +kernel
theorem dX0_settle_157 : decode cX0_settle 157 = .ok (.iload 6, 2) := by decide +kernel
theorem dX0_settle_159 : decode cX0_settle 159 = .ok (.invokestatic 102, 3) := by decide +kernel
theorem dX0_settle_162 : decode cX0_settle 162 = .ok (.invokevirtual 105, 3) := by decide +kernel
theorem dX0_settle_165 : decode cX0_settle 165 = .ok (.aload_n 0, 1) := by decide +kernel
theorem dX0_settle_166 : decode cX0_settle 166 = .ok (.getfield 11, 3) := by decide +kernel
theorem dX0_settle_169 : decode cX0_settle 169 = .ok (.iconst 5, 1) := by decide +kernel
theorem dX0_settle_170 : decode cX0_settle 170 = .ok (.iload 7, 2) := by decide +kernel
theorem dX0_settle_172 : decode cX0_settle 172 = .ok (.ifCond .ne 20, 3) := by decide +kernel
theorem dX0_settle_175 : decode cX0_settle 175 = .ok (.aload_n 0, 1) := by decide +kernel
theorem dX0_settle_176 : decode cX0_settle 176 = .ok (.getfield 11, 3) := by decide +kernel
theorem dX0_settle_179 : decode cX0_settle 179 = .ok (.bipush 7, 2) := by decide +kernel
theorem dX0_settle_181 : decode cX0_settle 181 = .ok (.iaload, 1) := by decide +kernel
theorem dX0_settle_182 : decode cX0_settle 182 = .ok (.sipush (-11776), 3) := by decide +kernel
theorem dX0_settle_185 : decode cX0_settle 185 = .ok (.if_icmp .ge 7, 3) := by decide +kernel
theorem dX0_settle_188 : decode cX0_settle 188 = .ok (.iconst 1, 1) := by decide +kernel
theorem dX0_settle_189 : decode cX0_settle 189 = .ok (.goto 4, 3) := by decide +kernel
theorem dX0_settle_192 : decode cX0_settle 192 = .ok (.iconst 0, 1) := by decide +kernel
theorem dX0_settle_193 : decode cX0_settle 193 = .ok (.iastore, 1) := by decide +kernel
theorem dX0_settle_194 : decode cX0_settle 194 = .ok (.aload_n 0, 1) := by decide +kernel
theorem dX0_settle_195 : decode cX0_settle 195 = .ok (.getstatic 109, 3) := by decide +kernel
theorem dX0_settle_198 : decode cX0_settle 198 = .ok (.iload_n 2, 1) := by decide +kernel
theorem dX0_settle_199 : decode cX0_settle 199 = .ok (.iaload, 1) := by decide +kernel
theorem dX0_settle_200 : decode cX0_settle 200 = .ok (.iload 7, 2) := by decide +kernel
theorem dX0_settle_202 : decode cX0_settle 202 = .ok (.invokevirtual 112, 3) := by decide +kernel
theorem dX0_settle_205 : decode cX0_settle 205 = .ok (.iload 5, 2) := by decide +kernel
theorem dX0_settle_207 : decode cX0_settle 207 = .ok (.ireturn, 1) := by decide +kernel
theorem dX0_tablePlace_0 : decode cX0_tablePlace 0 = .ok (.iconst 1, 1) := by decide +kernel
theorem dX0_tablePlace_1 : decode cX0_tablePlace 1 = .ok (.aload_n 0, 1) := by decide +kernel
theorem dX0_tablePlace_2 : decode cX0_tablePlace 2 = .ok (.getfield 15, 3) := by decide +kernel
theorem dX0_tablePlace_5 : decode cX0_tablePlace 5 = .ok (.iconst 1, 1) := by decide +kernel
theorem dX0_tablePlace_6 : decode cX0_tablePlace 6 = .ok (.isub, 1) := by decide +kernel
theorem dX0_tablePlace_7 : decode cX0_tablePlace 7 = .ok (.ishl, 1) := by decide +kernel
theorem dX0_tablePlace_8 : decode cX0_tablePlace 8 = .ok (.istore_n 2, 1) := by decide +kernel
theorem dX0_tablePlace_9 : decode cX0_tablePlace 9 = .ok (.iconst 2, 1) := by decide +kernel
theorem dX0_tablePlace_10 : decode cX0_tablePlace 10 = .ok (.iload_n 2, 1) := by decide +kernel
theorem dX0_tablePlace_11 : decode cX0_tablePlace 11 = .ok (.imul, 1) := by decide +kernel
theorem dX0_tablePlace_12 : decode cX0_tablePlace 12 = .ok (.iconst 1, 1) := by decide +kernel
theorem dX0_tablePlace_13 : decode cX0_tablePlace 13 = .ok (.isub, 1) := by decide +kernel
theorem dX0_tablePlace_14 : decode cX0_tablePlace 14 = .ok (.istore_n 3, 1) := by decide +kernel
theorem dX0_tablePlace_15 : decode cX0_tablePlace 15 = .ok (.iload_n 1, 1) := by decide +kernel
theorem dX0_tablePlace_16 : decode cX0_tablePlace 16 = .ok (.iload_n 2, 1) := by decide +kernel
theorem dX0_tablePlace_17 : decode cX0_tablePlace 17 = .ok (.if_icmp .ge 7, 3) := by decide +kernel
theorem dX0_tablePlace_20 : decode cX0_tablePlace 20 = .ok (.iload_n 1, 1) := by decide +kernel
theorem dX0_tablePlace_21 : decode cX0_tablePlace 21 = .ok (.goto 6, 3) := by decide +kernel
theorem dX0_tablePlace_24 : decode cX0_tablePlace 24 = .ok (.iload_n 3, 1) := by decide +kernel
theorem dX0_tablePlace_25 : decode cX0_tablePlace 25 = .ok (.iload_n 1, 1) := by decide +kernel
theorem dX0_tablePlace_26 : decode cX0_tablePlace 26 = .ok (.isub, 1) := by decide +kernel
theorem dX0_tablePlace_27 : decode cX0_tablePlace 27 = .ok (.istore 4, 2) := by decide +kernel
theorem dX0_tablePlace_29 : decode cX0_tablePlace 29 = .ok (.iload_n 2, 1) := by decide +kernel
theorem dX0_tablePlace_30 : decode cX0_tablePlace 30 = .ok (.iconst 2, 1) := by decide +kernel
theorem dX0_tablePlace_31 : decode cX0_tablePlace 31 = .ok (.isub, 1) := by decide +kernel
theorem dX0_tablePlace_32 : decode cX0_tablePlace 32 = .ok (.iload 4, 2) := by decide +kernel
theorem dX0_tablePlace_34 : decode cX0_tablePlace 34 = .ok (.iconst 0, 1) := by decide +kernel
theorem dX0_tablePlace_35 : decode cX0_tablePlace 35 = .ok (.iload_n 2, 1) := by decide +kernel
theorem dX0_tablePlace_36 : decode cX0_tablePlace 36 = .ok (.iconst 1, 1) := by decide +kernel
theorem dX0_tablePlace_37 : decode cX0_tablePlace 37 = .ok (.isub, 1) := by decide +kernel
theorem dX0_tablePlace_38 : decode cX0_tablePlace 38 = .ok (.invokestatic 115, 3) := by decide +kernel
theorem dX0_tablePlace_41 : decode cX0_tablePlace 41 = .ok (.iadd, 1) := by decide +kernel
theorem dX0_tablePlace_42 : decode cX0_tablePlace 42 = .ok (.ireturn, 1) := by decide +kernel
theorem dX0_amount_0 : decode cX0_amount 0 = .ok (.iload_n 0, 1) := by decide +kernel
theorem dX0_amount_1 : decode cX0_amount 1 = .ok (.ifCond .ge 5, 3) := by decide +kernel
theorem dX0_amount_4 : decode cX0_amount 4 = .ok (.iconst 0, 1) := by decide +kernel
theorem dX0_amount_5 : decode cX0_amount 5 = .ok (.ireturn, 1) := by decide +kernel
theorem dX0_amount_6 : decode cX0_amount 6 = .ok (.sipush 128, 3) := by decide +kernel
theorem dX0_amount_9 : decode cX0_amount 9 = .ok (.iload_n 0, 1) := by decide +kernel
theorem dX0_amount_10 : decode cX0_amount 10 = .ok (.bipush 127, 2) := by decide +kernel
theorem dX0_amount_12 : decode cX0_amount 12 = .ok (.iand, 1) := by decide +kernel
theorem dX0_amount_13 : decode cX0_amount 13 = .ok (.iadd, 1) := by decide +kernel
theorem dX0_amount_14 : decode cX0_amount 14 = .ok (.sipush 128, 3) := by decide +kernel
theorem dX0_amount_17 : decode cX0_amount 17 = .ok (.imul, 1) := by decide +kernel
theorem dX0_amount_18 : decode cX0_amount 18 = .ok (.bipush 14, 2) := by decide +kernel
theorem dX0_amount_20 : decode cX0_amount 20 = .ok (.iload_n 0, 1) := by decide +kernel
theorem dX0_amount_21 : decode cX0_amount 21 = .ok (.bipush 7, 2) := by decide +kernel
theorem dX0_amount_23 : decode cX0_amount 23 = .ok (.ishr, 1) := by decide +kernel
theorem dX0_amount_24 : decode cX0_amount 24 = .ok (.bipush 15, 2) := by decide +kernel
theorem dX0_amount_26 : decode cX0_amount 26 = .ok (.iand, 1) := by decide +kernel
theorem dX0_amount_27 : decode cX0_amount 27 = .ok (.isub, 1) := by decide +kernel
theorem dX0_amount_28 : decode cX0_amount 28 = .ok (.ishr, 1) := by decide +kernel
theorem dX0_amount_29 : decode cX0_amount 29 = .ok (.ireturn, 1) := by decide +kernel
theorem dX0_isTransition_0 : decode cX0_isTransition 0 = .ok (.aload_n 0, 1) := by decide +kernel
theorem dX0_isTransition_1 : decode cX0_isTransition 1 = .ok (.getfield 11, 3) := by decide +kernel
theorem dX0_isTransition_4 : decode cX0_isTransition 4 = .ok (.iconst 5, 1) := by decide +kernel
theorem dX0_isTransition_5 : decode cX0_isTransition 5 = .ok (.iaload, 1) := by decide +kernel
theorem dX0_isTransition_6 : decode cX0_isTransition 6 = .ok (.ifCond .ne 5, 3) := by decide +kernel
theorem dX0_isTransition_9 : decode cX0_isTransition 9 = .ok (.iconst 0, 1) := by decide +kernel
theorem dX0_isTransition_10 : decode cX0_isTransition 10 = .ok (.ireturn, 1) := by decide +kernel
theorem dX0_isTransition_11 : decode cX0_isTransition 11 = .ok (.aload_n 0, 1) := by decide +kernel
theorem dX0_isTransition_12 : decode cX0_isTransition 12 = .ok (.getfield 11, 3) := by decide +kernel
theorem dX0_isTransition_15 : decode cX0_isTransition 15 = .ok (.iconst 0, 1) := by decide +kernel
theorem dX0_isTransition_16 : decode cX0_isTransition 16 = .ok (.iaload, 1) := by decide +kernel
theorem dX0_isTransition_17 : decode cX0_isTransition 17 = .ok (.bipush 15, 2) := by decide +kernel
theorem dX0_isTransition_19 : decode cX0_isTransition 19 = .ok (.ishr, 1) := by decide +kernel
theorem dX0_isTransition_20 : decode cX0_isTransition 20 = .ok (.istore_n 2, 1) := by decide +kernel
theorem dX0_isTransition_21 : decode cX0_isTransition 21 = .ok (.iload_n 2, 1) := by decide +kernel
theorem dX0_isTransition_22 : decode cX0_isTransition 22 = .ok (.bipush 9, 2) := by decide +kernel
theorem dX0_isTransition_24 : decode cX0_isTransition 24 = .ok (.if_icmp .le 9, 3) := by decide +kernel
theorem dX0_isTransition_27 : decode cX0_isTransition 27 = .ok (.sipush 31744, 3) := by decide +kernel
theorem dX0_isTransition_30 : decode cX0_isTransition 30 = .ok (.goto 20, 3) := by decide +kernel
theorem dX0_isTransition_33 : decode cX0_isTransition 33 = .ok (.bipush 32, 2) := by decide +kernel
theorem dX0_isTransition_35 : decode cX0_isTransition 35 = .ok (.aload_n 0, 1) := by decide +kernel
theorem dX0_isTransition_36 : decode cX0_isTransition 36 = .ok (.getfield 11, 3) := by decide +kernel
theorem dX0_isTransition_39 : decode cX0_isTransition 39 = .ok (.iconst 0, 1) := by decide +kernel
theorem dX0_isTransition_40 : decode cX0_isTransition 40 = .ok (.iaload, 1) := by decide +kernel
theorem dX0_isTransition_41 : decode cX0_isTransition 41 = .ok (.bipush 10, 2) := by decide +kernel
theorem dX0_isTransition_43 : decode cX0_isTransition 43 = .ok (.ishr, 1) := by decide +kernel
theorem dX0_isTransition_44 : decode cX0_isTransition 44 = .ok (.bipush 31, 2) := by decide +kernel
theorem dX0_isTransition_46 : decode cX0_isTransition 46 = .ok (.iand, 1) := by decide +kernel
theorem dX0_isTransition_47 : decode cX0_isTransition 47 = .ok (.iadd, 1) := by decide +kernel
theorem dX0_isTransition_48 : decode cX0_isTransition 48 = .ok (.iload_n 2, 1) := by decide +kernel
theorem dX0_isTransition_49 : decode cX0_isTransition 49 = .ok (.ishl, 1) := by decide +kernel
theorem dX0_isTransition_50 : decode cX0_isTransition 50 = .ok (.istore_n 3, 1) := by decide +kernel
theorem dX0_isTransition_51 : decode cX0_isTransition 51 = .ok (.iload_n 1, 1) := by decide +kernel
theorem dX0_isTransition_52 : decode cX0_isTransition 52 = .ok (.iload_n 3, 1) := by decide +kernel
theorem dX0_isTransition_53 : decode cX0_isTransition 53 = .ok (.iload_n 3, 1) := by decide +kernel
theorem dX0_isTransition_54 : decode cX0_isTransition 54 = .ok (.iconst 1, 1) := by decide +kernel
theorem dX0_isTransition_55 : decode cX0_isTransition 55 = .ok (.ishr, 1) := by decide +kernel
theorem dX0_isTransition_56 : decode cX0_isTransition 56 = .ok (.iadd, 1) := by decide +kernel
theorem dX0_isTransition_57 : decode cX0_isTransition 57 = .ok (.iconst 1, 1) := by decide +kernel
theorem dX0_isTransition_58 : decode cX0_isTransition 58 = .ok (.ishr, 1) := by decide +kernel
theorem dX0_isTransition_59 : decode cX0_isTransition 59 = .ok (.if_icmp .le 7, 3) := by decide +kernel
theorem dX0_isTransition_62 : decode cX0_isTransition 62 = .ok (.iconst 1, 1) := by decide +kernel
theorem dX0_isTransition_63 : decode cX0_isTransition 63 = .ok (.goto 4, 3) := by decide +kernel
theorem dX0_isTransition_66 : decode cX0_isTransition 66 = .ok (.iconst 0, 1) := by decide +kernel
theorem dX0_isTransition_67 : decode cX0_isTransition 67 = .ok (.ireturn, 1) := by decide +kernel
theorem dX0_adaptStep_0 : decode cX0_adaptStep 0 = .ok (.aload_n 0, 1) := by decide +kernel
theorem dX0_adaptStep_1 : decode cX0_adaptStep 1 = .ok (.getfield 11, 3) := by decide +kernel
theorem dX0_adaptStep_4 : decode cX0_adaptStep 4 = .ok (.iconst 1, 1) := by decide +kernel
theorem dX0_adaptStep_5 : decode cX0_adaptStep 5 = .ok (.aload_n 0, 1) := by decide +kernel
theorem dX0_adaptStep_6 : decode cX0_adaptStep 6 = .ok (.getfield 25, 3) := by decide +kernel
theorem dX0_adaptStep_9 : decode cX0_adaptStep 9 = .ok (.iload_n 1, 1) := by decide +kernel
theorem dX0_adaptStep_10 : decode cX0_adaptStep 10 = .ok (.aload_n 0, 1) := by decide +kernel
theorem dX0_adaptStep_11 : decode cX0_adaptStep 11 = .ok (.getfield 25, 3) := by decide +kernel
theorem dX0_adaptStep_14 : decode cX0_adaptStep 14 = .ok (.isub, 1) := by decide +kernel
theorem dX0_adaptStep_15 : decode cX0_adaptStep 15 = .ok (.iconst 5, 1) := by decide +kernel
theorem dX0_adaptStep_16 : decode cX0_adaptStep 16 = .ok (.ishr, 1) := by decide +kernel
theorem dX0_adaptStep_17 : decode cX0_adaptStep 17 = .ok (.iadd, 1) := by decide +kernel
theorem dX0_adaptStep_18 : decode cX0_adaptStep 18 = .ok (.sipush 544, 3) := by decide +kernel
theorem dX0_adaptStep_21 : decode cX0_adaptStep 21 = .ok (.sipush 5120, 3) := by decide +kernel
theorem dX0_adaptStep_24 : decode cX0_adaptStep 24 = .ok (.invokestatic 115, 3) := by decide +kernel
theorem dX0_adaptStep_27 : decode cX0_adaptStep 27 = .ok (.iastore, 1) := by decide +kernel
theorem dX0_adaptStep_28 : decode cX0_adaptStep 28 = .ok (.aload_n 0, 1) := by decide +kernel
theorem dX0_adaptStep_29 : decode cX0_adaptStep 29 = .ok (.getfield 11, 3) := by decide +kernel
theorem dX0_adaptStep_32 : decode cX0_adaptStep 32 = .ok (.iconst 0, 1) := by decide +kernel
theorem dX0_adaptStep_33 : decode cX0_adaptStep 33 = .ok (.dup2, 1) := by decide +kernel
theorem dX0_adaptStep_34 : decode cX0_adaptStep 34 = .ok (.iaload, 1) := by decide +kernel
theorem dX0_adaptStep_35 : decode cX0_adaptStep 35 = .ok (.aload_n 0, 1) := by decide +kernel
theorem dX0_adaptStep_36 : decode cX0_adaptStep 36 = .ok (.getfield 11, 3) := by decide +kernel
theorem dX0_adaptStep_39 : decode cX0_adaptStep 39 = .ok (.iconst 1, 1) := by decide +kernel
theorem dX0_adaptStep_40 : decode cX0_adaptStep 40 = .ok (.iaload, 1) := by decide +kernel
theorem dX0_adaptStep_41 : decode cX0_adaptStep 41 = .ok (.aload_n 0, 1) := by decide +kernel
theorem dX0_adaptStep_42 : decode cX0_adaptStep 42 = .ok (.getfield 11, 3) := by decide +kernel
theorem dX0_adaptStep_45 : decode cX0_adaptStep 45 = .ok (.iconst 0, 1) := by decide +kernel
theorem dX0_adaptStep_46 : decode cX0_adaptStep 46 = .ok (.iaload, 1) := by decide +kernel
theorem dX0_adaptStep_47 : decode cX0_adaptStep 47 = .ok (.ineg, 1) := by decide +kernel
theorem dX0_adaptStep_48 : decode cX0_adaptStep 48 = .ok (.bipush 6, 2) := by decide +kernel
theorem dX0_adaptStep_50 : decode cX0_adaptStep 50 = .ok (.ishr, 1) := by decide +kernel
theorem dX0_adaptStep_51 : decode cX0_adaptStep 51 = .ok (.iadd, 1) := by decide +kernel
theorem dX0_adaptStep_52 : decode cX0_adaptStep 52 = .ok (.iadd, 1) := by decide +kernel
theorem dX0_adaptStep_53 : decode cX0_adaptStep 53 = .ok (.iastore, 1) := by decide +kernel
theorem dX0_adaptStep_54 : decode cX0_adaptStep 54 = .ok (.return_, 1) := by decide +kernel
theorem dX0_forgetFilters_0 : decode cX0_forgetFilters 0 = .ok (.aload_n 0, 1) := by decide +kernel
theorem dX0_forgetFilters_1 : decode cX0_forgetFilters 1 = .ok (.getfield 11, 3) := by decide +kernel
theorem dX0_forgetFilters_4 : decode cX0_forgetFilters 4 = .ok (.bipush 6, 2) := by decide +kernel
theorem dX0_forgetFilters_6 : decode cX0_forgetFilters 6 = .ok (.iconst 0, 1) := by decide +kernel
theorem dX0_forgetFilters_7 : decode cX0_forgetFilters 7 = .ok (.iastore, 1) := by decide +kernel
theorem dX0_forgetFilters_8 : decode cX0_forgetFilters 8 = .ok (.aload_n 0, 1) := by decide +kernel
theorem dX0_forgetFilters_9 : decode cX0_forgetFilters 9 = .ok (.getfield 11, 3) := by decide +kernel
theorem dX0_forgetFilters_12 : decode cX0_forgetFilters 12 = .ok (.bipush 7, 2) := by decide +kernel
theorem dX0_forgetFilters_14 : decode cX0_forgetFilters 14 = .ok (.iconst 0, 1) := by decide +kernel
theorem dX0_forgetFilters_15 : decode cX0_forgetFilters 15 = .ok (.iastore, 1) := by decide +kernel
theorem dX0_forgetFilters_16 : decode cX0_forgetFilters 16 = .ok (.iconst 0, 1) := by decide +kernel
theorem dX0_forgetFilters_17 : decode cX0_forgetFilters 17 = .ok (.istore_n 1, 1) := by decide +kernel
theorem dX0_forgetFilters_18 : decode cX0_forgetFilters 18 = .ok (.iload_n 1, 1) := by decide +kernel
theorem dX0_forgetFilters_19 : decode cX0_forgetFilters 19 = .ok (.bipush 6, 2) := by decide +kernel
theorem dX0_forgetFilters_21 : decode cX0_forgetFilters 21 = .ok (.if_icmp .ge 19, 3) := by decide +kernel
theorem dX0_forgetFilters_24 : decode cX0_forgetFilters 24 = .ok (.aload_n 0, 1) := by decide +kernel
theorem dX0_forgetFilters_25 : decode cX0_forgetFilters 25 = .ok (.getfield 11, 3) := by decide +kernel
theorem dX0_forgetFilters_28 : decode cX0_forgetFilters 28 = .ok (.bipush 8, 2) := by decide +kernel
theorem dX0_forgetFilters_30 : decode cX0_forgetFilters 30 = .ok (.iload_n 1, 1) := by decide +kernel
theorem dX0_forgetFilters_31 : decode cX0_forgetFilters 31 = .ok (.iadd, 1) := by decide +kernel
theorem dX0_forgetFilters_32 : decode cX0_forgetFilters 32 = .ok (.iconst 0, 1) := by decide +kernel
theorem dX0_forgetFilters_33 : decode cX0_forgetFilters 33 = .ok (.iastore, 1) := by decide +kernel
theorem dX0_forgetFilters_34 : decode cX0_forgetFilters 34 = .ok (.iinc 1 1, 3) := by decide +kernel
theorem dX0_forgetFilters_37 : decode cX0_forgetFilters 37 = .ok (.goto (-19), 3) := by decide +kernel
theorem dX0_forgetFilters_40 : decode cX0_forgetFilters 40 = .ok (.return_, 1) := by decide +kernel
theorem dX0_adaptA2_0 : decode cX0_adaptA2 0 = .ok (.aload_n 0, 1) := by decide +kernel
theorem dX0_adaptA2_1 : decode cX0_adaptA2 1 = .ok (.getfield 11, 3) := by decide +kernel
theorem dX0_adaptA2_4 : decode cX0_adaptA2 4 = .ok (.bipush 7, 2) := by decide +kernel
theorem dX0_adaptA2_6 : decode cX0_adaptA2 6 = .ok (.iaload, 1) := by decide +kernel
theorem dX0_adaptA2_7 : decode cX0_adaptA2 7 = .ok (.aload_n 0, 1) := by decide +kernel
theorem dX0_adaptA2_8 : decode cX0_adaptA2 8 = .ok (.getfield 11, 3) := by decide +kernel
theorem dX0_adaptA2_11 : decode cX0_adaptA2 11 = .ok (.bipush 7, 2) := by decide +kernel
theorem dX0_adaptA2_13 : decode cX0_adaptA2 13 = .ok (.iaload, 1) := by decide +kernel
theorem dX0_adaptA2_14 : decode cX0_adaptA2 14 = .ok (.bipush 7, 2) := by decide +kernel
theorem dX0_adaptA2_16 : decode cX0_adaptA2 16 = .ok (.ishr, 1) := by decide +kernel
theorem dX0_adaptA2_17 : decode cX0_adaptA2 17 = .ok (.isub, 1) := by decide +kernel
theorem dX0_adaptA2_18 : decode cX0_adaptA2 18 = .ok (.istore_n 2, 1) := by decide +kernel
theorem dX0_adaptA2_19 : decode cX0_adaptA2 19 = .ok (.iload_n 1, 1) := by decide +kernel
theorem dX0_adaptA2_20 : decode cX0_adaptA2 20 = .ok (.ifCond .eq 104, 3) := by decide +kernel
theorem dX0_adaptA2_23 : decode cX0_adaptA2 23 = .ok (.iload_n 1, 1) := by decide +kernel
theorem dX0_adaptA2_24 : decode cX0_adaptA2 24 = .ok (.invokestatic 102, 3) := by decide +kernel
theorem dX0_adaptA2_27 : decode cX0_adaptA2 27 = .ok (.istore_n 3, 1) := by decide +kernel
theorem dX0_adaptA2_28 : decode cX0_adaptA2 28 = .ok (.iload_n 3, 1) := by decide +kernel
theorem dX0_adaptA2_29 : decode cX0_adaptA2 29 = .ok (.aload_n 0, 1) := by decide +kernel
theorem dX0_adaptA2_30 : decode cX0_adaptA2 30 = .ok (.getfield 11, 3) := by decide +kernel
theorem dX0_adaptA2_33 : decode cX0_adaptA2 33 = .ok (.bipush 22, 2) := by decide +kernel
theorem dX0_adaptA2_35 : decode cX0_adaptA2 35 = .ok (.iaload, 1) := by decide +kernel
theorem dX0_adaptA2_36 : decode cX0_adaptA2 36 = .ok (.if_icmp .eq 13, 3) := by decide +kernel
theorem dX0_adaptA2_39 : decode cX0_adaptA2 39 = .ok (.aload_n 0, 1) := by decide +kernel
theorem dX0_adaptA2_40 : decode cX0_adaptA2 40 = .ok (.getfield 11, 3) := by decide +kernel
theorem dX0_adaptA2_43 : decode cX0_adaptA2 43 = .ok (.bipush 6, 2) := by decide +kernel
theorem dX0_adaptA2_45 : decode cX0_adaptA2 45 = .ok (.iaload, 1) := by decide +kernel
theorem dX0_adaptA2_46 : decode cX0_adaptA2 46 = .ok (.goto 11, 3) := by decide +kernel
theorem dX0_adaptA2_49 : decode cX0_adaptA2 49 = .ok (.aload_n 0, 1) := by decide +kernel
theorem dX0_adaptA2_50 : decode cX0_adaptA2 50 = .ok (.getfield 11, 3) := by decide +kernel
theorem dX0_adaptA2_53 : decode cX0_adaptA2 53 = .ok (.bipush 6, 2) := by decide +kernel
theorem dX0_adaptA2_55 : decode cX0_adaptA2 55 = .ok (.iaload, 1) := by decide +kernel
theorem dX0_adaptA2_56 : decode cX0_adaptA2 56 = .ok (.ineg, 1) := by decide +kernel
theorem dX0_adaptA2_57 : decode cX0_adaptA2 57 = .ok (.istore 4, 2) := by decide +kernel
theorem dX0_adaptA2_59 : decode cX0_adaptA2 59 = .ok (.iload 4, 2) := by decide +kernel
theorem dX0_adaptA2_61 : decode cX0_adaptA2 61 = .ok (.sipush (-8191), 3) := by decide +kernel
theorem dX0_adaptA2_64 : decode cX0_adaptA2 64 = .ok (.if_icmp .ge 12, 3) := by decide +kernel
theorem dX0_adaptA2_67 : decode cX0_adaptA2 67 = .ok (.iinc 2 (-256), 6) := by decide +kernel
theorem dX0_adaptA2_73 : decode cX0_adaptA2 73 = .ok (.goto 27, 3) := by decide +kernel
theorem dX0_adaptA2_76 : decode cX0_adaptA2 76 = .ok (.iload 4, 2) := by decide +kernel
theorem dX0_adaptA2_78 : decode cX0_adaptA2 78 = .ok (.sipush 8191, 3) := by decide +kernel
theorem dX0_adaptA2_81 : decode cX0_adaptA2 81 = .ok (.if_icmp .le 12, 3) := by decide +kernel
theorem dX0_adaptA2_84 : decode cX0_adaptA2 84 = .ok (.iinc 2 255, 6) := by decide +kernel
theorem dX0_adaptA2_90 : decode cX0_adaptA2 90 = .ok (.goto 10, 3) := by decide +kernel
theorem dX0_adaptA2_93 : decode cX0_adaptA2 93 = .ok (.iload_n 2, 1) := by decide +kernel
theorem dX0_adaptA2_94 : decode cX0_adaptA2 94 = .ok (.iload 4, 2) := by decide +kernel
theorem dX0_adaptA2_96 : decode cX0_adaptA2 96 = .ok (.iconst 5, 1) := by decide +kernel
theorem dX0_adaptA2_97 : decode cX0_adaptA2 97 = .ok (.ishr, 1) := by decide +kernel
theorem dX0_adaptA2_98 : decode cX0_adaptA2 98 = .ok (.iadd, 1) := by decide +kernel
theorem dX0_adaptA2_99 : decode cX0_adaptA2 99 = .ok (.istore_n 2, 1) := by decide +kernel
theorem dX0_adaptA2_100 : decode cX0_adaptA2 100 = .ok (.iload_n 2, 1) := by decide +kernel
theorem dX0_adaptA2_101 : decode cX0_adaptA2 101 = .ok (.iload_n 3, 1) := by decide +kernel
theorem dX0_adaptA2_102 : decode cX0_adaptA2 102 = .ok (.aload_n 0, 1) := by decide +kernel
theorem dX0_adaptA2_103 : decode cX0_adaptA2 103 = .ok (.getfield 11, 3) := by decide +kernel
theorem dX0_adaptA2_106 : decode cX0_adaptA2 106 = .ok (.bipush 23, 2) := by decide +kernel
theorem dX0_adaptA2_108 : decode cX0_adaptA2 108 = .ok (.iaload, 1) := by decide +kernel
theorem dX0_adaptA2_109 : decode cX0_adaptA2 109 = .ok (.if_icmp .eq 8, 3) := by decide +kernel
theorem dX0_adaptA2_112 : decode cX0_adaptA2 112 = .ok (.bipush (-128), 2) := by decide +kernel
theorem dX0_adaptA2_114 : decode cX0_adaptA2 114 = .ok (.goto 6, 3) := by decide +kernel
theorem dX0_adaptA2_117 : decode cX0_adaptA2 117 = .ok (.sipush 128, 3) := by decide +kernel
theorem dX0_adaptA2_120 : decode cX0_adaptA2 120 = .ok (.invokestatic 119, 3) := by decide +kernel
theorem dX0_adaptA2_123 : decode cX0_adaptA2 123 = .ok (.istore_n 2, 1) := by decide +kernel
theorem dX0_adaptA2_124 : decode cX0_adaptA2 124 = .ok (.aload_n 0, 1) := by decide +kernel
theorem dX0_adaptA2_125 : decode cX0_adaptA2 125 = .ok (.getfield 11, 3) := by decide +kernel
theorem dX0_adaptA2_128 : decode cX0_adaptA2 128 = .ok (.bipush 7, 2) := by decide +kernel
theorem dX0_adaptA2_130 : decode cX0_adaptA2 130 = .ok (.iload_n 2, 1) := by decide +kernel
theorem dX0_adaptA2_131 : decode cX0_adaptA2 131 = .ok (.iastore, 1) := by decide +kernel
theorem dX0_adaptA2_132 : decode cX0_adaptA2 132 = .ok (.return_, 1) := by decide +kernel
theorem dX0_nudgedA2_0 : decode cX0_nudgedA2 0 = .ok (.iload_n 0, 1) := by decide +kernel
theorem dX0_nudgedA2_1 : decode cX0_nudgedA2 1 = .ok (.sipush (-12288), 3) := by decide +kernel
theorem dX0_nudgedA2_4 : decode cX0_nudgedA2 4 = .ok (.iload_n 1, 1) := by decide +kernel
theorem dX0_nudgedA2_5 : decode cX0_nudgedA2 5 = .ok (.isub, 1) := by decide +kernel
theorem dX0_nudgedA2_6 : decode cX0_nudgedA2 6 = .ok (.if_icmp .gt 7, 3) := by decide +kernel
theorem dX0_nudgedA2_9 : decode cX0_nudgedA2 9 = .ok (.sipush (-12288), 3) := by decide +kernel
theorem dX0_nudgedA2_12 : decode cX0_nudgedA2 12 = .ok (.ireturn, 1) := by decide +kernel
theorem dX0_nudgedA2_13 : decode cX0_nudgedA2 13 = .ok (.iload_n 0, 1) := by decide +kernel
theorem dX0_nudgedA2_14 : decode cX0_nudgedA2 14 = .ok (.sipush 12288, 3) := by decide +kernel
theorem dX0_nudgedA2_17 : decode cX0_nudgedA2 17 = .ok (.iload_n 1, 1) := by decide +kernel
theorem dX0_nudgedA2_18 : decode cX0_nudgedA2 18 = .ok (.isub, 1) := by decide +kernel
theorem dX0_nudgedA2_19 : decode cX0_nudgedA2 19 = .ok (.if_icmp .lt 7, 3) := by decide +kernel
theorem dX0_nudgedA2_22 : decode cX0_nudgedA2 22 = .ok (.sipush 12288, 3) := by decide +kernel
theorem dX0_nudgedA2_25 : decode cX0_nudgedA2 25 = .ok (.ireturn, 1) := by decide +kernel
theorem dX0_nudgedA2_26 : decode cX0_nudgedA2 26 = .ok (.iload_n 0, 1) := by decide +kernel
theorem dX0_nudgedA2_27 : decode cX0_nudgedA2 27 = .ok (.iload_n 1, 1) := by decide +kernel
theorem dX0_nudgedA2_28 : decode cX0_nudgedA2 28 = .ok (.iadd, 1) := by decide +kernel
theorem dX0_nudgedA2_29 : decode cX0_nudgedA2 29 = .ok (.ireturn, 1) := by decide +kernel
theorem dX0_adaptA1_0 : decode cX0_adaptA1 0 = .ok (.aload_n 0, 1) := by decide +kernel
theorem dX0_adaptA1_1 : decode cX0_adaptA1 1 = .ok (.getfield 11, 3) := by decide +kernel
theorem dX0_adaptA1_4 : decode cX0_adaptA1 4 = .ok (.bipush 6, 2) := by decide +kernel
theorem dX0_adaptA1_6 : decode cX0_adaptA1 6 = .ok (.iaload, 1) := by decide +kernel
theorem dX0_adaptA1_7 : decode cX0_adaptA1 7 = .ok (.aload_n 0, 1) := by decide +kernel
theorem dX0_adaptA1_8 : decode cX0_adaptA1 8 = .ok (.getfield 11, 3) := by decide +kernel
theorem dX0_adaptA1_11 : decode cX0_adaptA1 11 = .ok (.bipush 6, 2) := by decide +kernel
theorem dX0_adaptA1_13 : decode cX0_adaptA1 13 = .ok (.iaload, 1) := by decide +kernel
theorem dX0_adaptA1_14 : decode cX0_adaptA1 14 = .ok (.bipush 8, 2) := by decide +kernel
theorem dX0_adaptA1_16 : decode cX0_adaptA1 16 = .ok (.ishr, 1) := by decide +kernel
theorem dX0_adaptA1_17 : decode cX0_adaptA1 17 = .ok (.isub, 1) := by decide +kernel
theorem dX0_adaptA1_18 : decode cX0_adaptA1 18 = .ok (.istore_n 2, 1) := by decide +kernel
theorem dX0_adaptA1_19 : decode cX0_adaptA1 19 = .ok (.iload_n 1, 1) := by decide +kernel
theorem dX0_adaptA1_20 : decode cX0_adaptA1 20 = .ok (.ifCond .eq 29, 3) := by decide +kernel
theorem dX0_adaptA1_23 : decode cX0_adaptA1 23 = .ok (.iload_n 2, 1) := by decide +kernel
theorem dX0_adaptA1_24 : decode cX0_adaptA1 24 = .ok (.iload_n 1, 1) := by decide +kernel
theorem dX0_adaptA1_25 : decode cX0_adaptA1 25 = .ok (.invokestatic 102, 3) := by decide +kernel
theorem dX0_adaptA1_28 : decode cX0_adaptA1 28 = .ok (.aload_n 0, 1) := by decide +kernel
theorem dX0_adaptA1_29 : decode cX0_adaptA1 29 = .ok (.getfield 11, 3) := by decide +kernel
theorem dX0_adaptA1_32 : decode cX0_adaptA1 32 = .ok (.bipush 22, 2) := by decide +kernel
theorem dX0_adaptA1_34 : decode cX0_adaptA1 34 = .ok (.iaload, 1) := by decide +kernel
theorem dX0_adaptA1_35 : decode cX0_adaptA1 35 = .ok (.if_icmp .ne 9, 3) := by decide +kernel
theorem dX0_adaptA1_38 : decode cX0_adaptA1 38 = .ok (.sipush 192, 3) := by decide +kernel
theorem dX0_adaptA1_41 : decode cX0_adaptA1 41 = .ok (.goto 6, 3) := by decide +kernel
theorem dX0_adaptA1_44 : decode cX0_adaptA1 44 = .ok (.sipush (-192), 3) := by decide +kernel
theorem dX0_adaptA1_47 : decode cX0_adaptA1 47 = .ok (.iadd, 1) := by decide +kernel
theorem dX0_adaptA1_48 : decode cX0_adaptA1 48 = .ok (.istore_n 2, 1) := by decide +kernel
theorem dX0_adaptA1_49 : decode cX0_adaptA1 49 = .ok (.sipush 15360, 3) := by decide +kernel
theorem dX0_adaptA1_52 : decode cX0_adaptA1 52 = .ok (.aload_n 0, 1) := by decide +kernel
theorem dX0_adaptA1_53 : decode cX0_adaptA1 53 = .ok (.getfield 11, 3) := by decide +kernel
theorem dX0_adaptA1_56 : decode cX0_adaptA1 56 = .ok (.bipush 7, 2) := by decide +kernel
theorem dX0_adaptA1_58 : decode cX0_adaptA1 58 = .ok (.iaload, 1) := by decide +kernel
theorem dX0_adaptA1_59 : decode cX0_adaptA1 59 = .ok (.isub, 1) := by decide +kernel
theorem dX0_adaptA1_60 : decode cX0_adaptA1 60 = .ok (.istore_n 3, 1) := by decide +kernel
theorem dX0_adaptA1_61 : decode cX0_adaptA1 61 = .ok (.aload_n 0, 1) := by decide +kernel
theorem dX0_adaptA1_62 : decode cX0_adaptA1 62 = .ok (.getfield 11, 3) := by decide +kernel
theorem dX0_adaptA1_65 : decode cX0_adaptA1 65 = .ok (.bipush 6, 2) := by decide +kernel
theorem dX0_adaptA1_67 : decode cX0_adaptA1 67 = .ok (.iload_n 2, 1) := by decide +kernel
theorem dX0_adaptA1_68 : decode cX0_adaptA1 68 = .ok (.iload_n 3, 1) := by decide +kernel
theorem dX0_adaptA1_69 : decode cX0_adaptA1 69 = .ok (.ineg, 1) := by decide +kernel
theorem dX0_adaptA1_70 : decode cX0_adaptA1 70 = .ok (.iload_n 3, 1) := by decide +kernel
theorem dX0_adaptA1_71 : decode cX0_adaptA1 71 = .ok (.invokestatic 115, 3) := by decide +kernel
theorem dX0_adaptA1_74 : decode cX0_adaptA1 74 = .ok (.iastore, 1) := by decide +kernel
theorem dX0_adaptA1_75 : decode cX0_adaptA1 75 = .ok (.return_, 1) := by decide +kernel
theorem dX0_adaptZeros_0 : decode cX0_adaptZeros 0 = .ok (.aload_n 0, 1) := by decide +kernel
theorem dX0_adaptZeros_1 : decode cX0_adaptZeros 1 = .ok (.getfield 15, 3) := by decide +kernel
theorem dX0_adaptZeros_4 : decode cX0_adaptZeros 4 = .ok (.iconst 5, 1) := by decide +kernel
theorem dX0_adaptZeros_5 : decode cX0_adaptZeros 5 = .ok (.if_icmp .ne 8, 3) := by decide +kernel
theorem dX0_adaptZeros_8 : decode cX0_adaptZeros 8 = .ok (.bipush 9, 2) := by decide +kernel
theorem dX0_adaptZeros_10 : decode cX0_adaptZeros 10 = .ok (.goto 5, 3) := by decide +kernel
theorem dX0_adaptZeros_13 : decode cX0_adaptZeros 13 = .ok (.bipush 8, 2) := by decide +kernel
theorem dX0_adaptZeros_15 : decode cX0_adaptZeros 15 = .ok (.istore_n 3, 1) := by decide +kernel
theorem dX0_adaptZeros_16 : decode cX0_adaptZeros 16 = .ok (.iconst 0, 1) := by decide +kernel
theorem dX0_adaptZeros_17 : decode cX0_adaptZeros 17 = .ok (.istore 4, 2) := by decide +kernel
theorem dX0_adaptZeros_19 : decode cX0_adaptZeros 19 = .ok (.iload 4, 2) := by decide +kernel
theorem dX0_adaptZeros_21 : decode cX0_adaptZeros 21 = .ok (.bipush 6, 2) := by decide +kernel
theorem dX0_adaptZeros_23 : decode cX0_adaptZeros 23 = .ok (.if_icmp .ge 84, 3) := by decide +kernel
theorem dX0_adaptZeros_26 : decode cX0_adaptZeros 26 = .ok (.aload_n 0, 1) := by decide +kernel
theorem dX0_adaptZeros_27 : decode cX0_adaptZeros 27 = .ok (.getfield 11, 3) := by decide +kernel
theorem dX0_adaptZeros_30 : decode cX0_adaptZeros 30 = .ok (.bipush 8, 2) := by decide +kernel
theorem dX0_adaptZeros_32 : decode cX0_adaptZeros 32 = .ok (.iload 4, 2) := by decide +kernel
theorem dX0_adaptZeros_34 : decode cX0_adaptZeros 34 = .ok (.iadd, 1) := by decide +kernel
theorem dX0_adaptZeros_35 : decode cX0_adaptZeros 35 = .ok (.iaload, 1) := by decide +kernel
theorem dX0_adaptZeros_36 : decode cX0_adaptZeros 36 = .ok (.istore 5, 2) := by decide +kernel
theorem dX0_adaptZeros_38 : decode cX0_adaptZeros 38 = .ok (.iload 5, 2) := by decide +kernel
theorem dX0_adaptZeros_40 : decode cX0_adaptZeros 40 = .ok (.iload 5, 2) := by decide +kernel
theorem dX0_adaptZeros_42 : decode cX0_adaptZeros 42 = .ok (.iload_n 3, 1) := by decide +kernel
theorem dX0_adaptZeros_43 : decode cX0_adaptZeros 43 = .ok (.ishr, 1) := by decide +kernel
theorem dX0_adaptZeros_44 : decode cX0_adaptZeros 44 = .ok (.isub, 1) := by decide +kernel
theorem dX0_adaptZeros_45 : decode cX0_adaptZeros 45 = .ok (.istore 5, 2) := by decide +kernel
theorem dX0_adaptZeros_47 : decode cX0_adaptZeros 47 = .ok (.iload_n 1, 1) := by decide +kernel
theorem dX0_adaptZeros_48 : decode cX0_adaptZeros 48 = .ok (.ifCond .eq 38, 3) := by decide +kernel
theorem dX0_adaptZeros_51 : decode cX0_adaptZeros 51 = .ok (.iload 5, 2) := by decide +kernel
theorem dX0_adaptZeros_53 : decode cX0_adaptZeros 53 = .ok (.iload_n 2, 1) := by decide +kernel
theorem dX0_adaptZeros_54 : decode cX0_adaptZeros 54 = .ok (.aload_n 0, 1) := by decide +kernel
theorem dX0_adaptZeros_55 : decode cX0_adaptZeros 55 = .ok (.getfield 11, 3) := by decide +kernel
theorem dX0_adaptZeros_58 : decode cX0_adaptZeros 58 = .ok (.bipush 16, 2) := by decide +kernel
theorem dX0_adaptZeros_60 : decode cX0_adaptZeros 60 = .ok (.iload 4, 2) := by decide +kernel
theorem dX0_adaptZeros_62 : decode cX0_adaptZeros 62 = .ok (.iadd, 1) := by decide +kernel
theorem dX0_adaptZeros_63 : decode cX0_adaptZeros 63 = .ok (.iaload, 1) := by decide +kernel
theorem dX0_adaptZeros_64 : decode cX0_adaptZeros 64 = .ok (.ifCond .ge 7, 3) := by decide +kernel
theorem dX0_adaptZeros_67 : decode cX0_adaptZeros 67 = .ok (.iconst 1, 1) := by decide +kernel
theorem dX0_adaptZeros_68 : decode cX0_adaptZeros 68 = .ok (.goto 4, 3) := by decide +kernel
theorem dX0_adaptZeros_71 : decode cX0_adaptZeros 71 = .ok (.iconst 0, 1) := by decide +kernel
theorem dX0_adaptZeros_72 : decode cX0_adaptZeros 72 = .ok (.if_icmp .ne 9, 3) := by decide +kernel
theorem dX0_adaptZeros_75 : decode cX0_adaptZeros 75 = .ok (.sipush 128, 3) := by decide +kernel
theorem dX0_adaptZeros_78 : decode cX0_adaptZeros 78 = .ok (.goto 5, 3) := by decide +kernel
theorem dX0_adaptZeros_81 : decode cX0_adaptZeros 81 = .ok (.bipush (-128), 2) := by decide +kernel
theorem dX0_adaptZeros_83 : decode cX0_adaptZeros 83 = .ok (.iadd, 1) := by decide +kernel
theorem dX0_adaptZeros_84 : decode cX0_adaptZeros 84 = .ok (.istore 5, 2) := by decide +kernel
theorem dX0_adaptZeros_86 : decode cX0_adaptZeros 86 = .ok (.aload_n 0, 1) := by decide +kernel
theorem dX0_adaptZeros_87 : decode cX0_adaptZeros 87 = .ok (.getfield 11, 3) := by decide +kernel
theorem dX0_adaptZeros_90 : decode cX0_adaptZeros 90 = .ok (.bipush 8, 2) := by decide +kernel
theorem dX0_adaptZeros_92 : decode cX0_adaptZeros 92 = .ok (.iload 4, 2) := by decide +kernel
theorem dX0_adaptZeros_94 : decode cX0_adaptZeros 94 = .ok (.iadd, 1) := by decide +kernel
theorem dX0_adaptZeros_95 : decode cX0_adaptZeros 95 = .ok (.iload 5, 2) := by decide +kernel
theorem dX0_adaptZeros_97 : decode cX0_adaptZeros 97 = .ok (.invokestatic 47, 3) := by decide +kernel
theorem dX0_adaptZeros_100 : decode cX0_adaptZeros 100 = .ok (.iastore, 1) := by decide +kernel
theorem dX0_adaptZeros_101 : decode cX0_adaptZeros 101 = .ok (.iinc 4 1, 3) := by decide +kernel
theorem dX0_adaptZeros_104 : decode cX0_adaptZeros 104 = .ok (.goto (-85), 3) := by decide +kernel
theorem dX0_adaptZeros_107 : decode cX0_adaptZeros 107 = .ok (.return_, 1) := by decide +kernel
theorem dX0_remember_0 : decode cX0_remember 0 = .ok (.iconst 5, 1) := by decide +kernel
theorem dX0_remember_1 : decode cX0_remember 1 = .ok (.istore 4, 2) := by decide +kernel
theorem dX0_remember_3 : decode cX0_remember 3 = .ok (.iload 4, 2) := by decide +kernel
theorem dX0_remember_5 : decode cX0_remember 5 = .ok (.ifCond .le 31, 3) := by decide +kernel
theorem dX0_remember_8 : decode cX0_remember 8 = .ok (.aload_n 0, 1) := by decide +kernel
theorem dX0_remember_9 : decode cX0_remember 9 = .ok (.getfield 11, 3) := by decide +kernel
theorem dX0_remember_12 : decode cX0_remember 12 = .ok (.bipush 16, 2) := by decide +kernel
theorem dX0_remember_14 : decode cX0_remember 14 = .ok (.iload 4, 2) := by decide +kernel
theorem dX0_remember_16 : decode cX0_remember 16 = .ok (.iadd, 1) := by decide +kernel
theorem dX0_remember_17 : decode cX0_remember 17 = .ok (.aload_n 0, 1) := by decide +kernel
theorem dX0_remember_18 : decode cX0_remember 18 = .ok (.getfield 11, 3) := by decide +kernel
theorem dX0_remember_21 : decode cX0_remember 21 = .ok (.bipush 16, 2) := by decide +kernel
theorem dX0_remember_23 : decode cX0_remember 23 = .ok (.iload 4, 2) := by decide +kernel
theorem dX0_remember_25 : decode cX0_remember 25 = .ok (.iadd, 1) := by decide +kernel
theorem dX0_remember_26 : decode cX0_remember 26 = .ok (.iconst 1, 1) := by decide +kernel
theorem dX0_remember_27 : decode cX0_remember 27 = .ok (.isub, 1) := by decide +kernel
theorem dX0_remember_28 : decode cX0_remember 28 = .ok (.iaload, 1) := by decide +kernel
theorem dX0_remember_29 : decode cX0_remember 29 = .ok (.iastore, 1) := by decide +kernel
theorem dX0_remember_30 : decode cX0_remember 30 = .ok (.iinc 4 (-1), 3) := by decide +kernel
theorem dX0_remember_33 : decode cX0_remember 33 = .ok (.goto (-30), 3) := by decide +kernel
theorem dX0_remember_36 : decode cX0_remember 36 = .ok (.aload_n 0, 1) := by decide +kernel
theorem dX0_remember_37 : decode cX0_remember 37 = .ok (.getfield 11, 3) := by decide +kernel
theorem dX0_remember_40 : decode cX0_remember 40 = .ok (.bipush 16, 2) := by decide +kernel
theorem dX0_remember_42 : decode cX0_remember 42 = .ok (.iload_n 1, 1) := by decide +kernel
theorem dX0_remember_43 : decode cX0_remember 43 = .ok (.iastore, 1) := by decide +kernel
theorem dX0_remember_44 : decode cX0_remember 44 = .ok (.aload_n 0, 1) := by decide +kernel
theorem dX0_remember_45 : decode cX0_remember 45 = .ok (.getfield 11, 3) := by decide +kernel
theorem dX0_remember_48 : decode cX0_remember 48 = .ok (.bipush 15, 2) := by decide +kernel
theorem dX0_remember_50 : decode cX0_remember 50 = .ok (.aload_n 0, 1) := by decide +kernel
theorem dX0_remember_51 : decode cX0_remember 51 = .ok (.getfield 11, 3) := by decide +kernel
theorem dX0_remember_54 : decode cX0_remember 54 = .ok (.bipush 14, 2) := by decide +kernel
theorem dX0_remember_56 : decode cX0_remember 56 = .ok (.iaload, 1) := by decide +kernel
theorem dX0_remember_57 : decode cX0_remember 57 = .ok (.iastore, 1) := by decide +kernel
theorem dX0_remember_58 : decode cX0_remember 58 = .ok (.aload_n 0, 1) := by decide +kernel
theorem dX0_remember_59 : decode cX0_remember 59 = .ok (.getfield 11, 3) := by decide +kernel
theorem dX0_remember_62 : decode cX0_remember 62 = .ok (.bipush 14, 2) := by decide +kernel
theorem dX0_remember_64 : decode cX0_remember 64 = .ok (.iload_n 2, 1) := by decide +kernel
theorem dX0_remember_65 : decode cX0_remember 65 = .ok (.iastore, 1) := by decide +kernel
theorem dX0_remember_66 : decode cX0_remember 66 = .ok (.aload_n 0, 1) := by decide +kernel
theorem dX0_remember_67 : decode cX0_remember 67 = .ok (.getfield 11, 3) := by decide +kernel
theorem dX0_remember_70 : decode cX0_remember 70 = .ok (.bipush 23, 2) := by decide +kernel
theorem dX0_remember_72 : decode cX0_remember 72 = .ok (.aload_n 0, 1) := by decide +kernel
theorem dX0_remember_73 : decode cX0_remember 73 = .ok (.getfield 11, 3) := by decide +kernel
theorem dX0_remember_76 : decode cX0_remember 76 = .ok (.bipush 22, 2) := by decide +kernel
theorem dX0_remember_78 : decode cX0_remember 78 = .ok (.iaload, 1) := by decide +kernel
theorem dX0_remember_79 : decode cX0_remember 79 = .ok (.iastore, 1) := by decide +kernel
theorem dX0_remember_80 : decode cX0_remember 80 = .ok (.aload_n 0, 1) := by decide +kernel
theorem dX0_remember_81 : decode cX0_remember 81 = .ok (.getfield 11, 3) := by decide +kernel
theorem dX0_remember_84 : decode cX0_remember 84 = .ok (.bipush 22, 2) := by decide +kernel
theorem dX0_remember_86 : decode cX0_remember 86 = .ok (.iload_n 3, 1) := by decide +kernel
theorem dX0_remember_87 : decode cX0_remember 87 = .ok (.iastore, 1) := by decide +kernel
theorem dX0_remember_88 : decode cX0_remember 88 = .ok (.return_, 1) := by decide +kernel
theorem dX0_adaptPace_0 : decode cX0_adaptPace 0 = .ok (.aload_n 0, 1) := by decide +kernel
theorem dX0_adaptPace_1 : decode cX0_adaptPace 1 = .ok (.getfield 11, 3) := by decide +kernel
theorem dX0_adaptPace_4 : decode cX0_adaptPace 4 = .ok (.iconst 2, 1) := by decide +kernel
theorem dX0_adaptPace_5 : decode cX0_adaptPace 5 = .ok (.dup2, 1) := by decide +kernel
theorem dX0_adaptPace_6 : decode cX0_adaptPace 6 = .ok (.iaload, 1) := by decide +kernel
theorem dX0_adaptPace_7 : decode cX0_adaptPace 7 = .ok (.iload_n 1, 1) := by decide +kernel
theorem dX0_adaptPace_8 : decode cX0_adaptPace 8 = .ok (.aload_n 0, 1) := by decide +kernel
theorem dX0_adaptPace_9 : decode cX0_adaptPace 9 = .ok (.getfield 11, 3) := by decide +kernel
theorem dX0_adaptPace_12 : decode cX0_adaptPace 12 = .ok (.iconst 2, 1) := by decide +kernel
theorem dX0_adaptPace_13 : decode cX0_adaptPace 13 = .ok (.iaload, 1) := by decide +kernel
theorem dX0_adaptPace_14 : decode cX0_adaptPace 14 = .ok (.isub, 1) := by decide +kernel
theorem dX0_adaptPace_15 : decode cX0_adaptPace 15 = .ok (.iconst 5, 1) := by decide +kernel
theorem dX0_adaptPace_16 : decode cX0_adaptPace 16 = .ok (.ishr, 1) := by decide +kernel
theorem dX0_adaptPace_17 : decode cX0_adaptPace 17 = .ok (.iadd, 1) := by decide +kernel
theorem dX0_adaptPace_18 : decode cX0_adaptPace 18 = .ok (.iastore, 1) := by decide +kernel
theorem dX0_adaptPace_19 : decode cX0_adaptPace 19 = .ok (.aload_n 0, 1) := by decide +kernel
theorem dX0_adaptPace_20 : decode cX0_adaptPace 20 = .ok (.getfield 11, 3) := by decide +kernel
theorem dX0_adaptPace_23 : decode cX0_adaptPace 23 = .ok (.iconst 3, 1) := by decide +kernel
theorem dX0_adaptPace_24 : decode cX0_adaptPace 24 = .ok (.dup2, 1) := by decide +kernel
theorem dX0_adaptPace_25 : decode cX0_adaptPace 25 = .ok (.iaload, 1) := by decide +kernel
theorem dX0_adaptPace_26 : decode cX0_adaptPace 26 = .ok (.iconst 4, 1) := by decide +kernel
theorem dX0_adaptPace_27 : decode cX0_adaptPace 27 = .ok (.iload_n 1, 1) := by decide +kernel
theorem dX0_adaptPace_28 : decode cX0_adaptPace 28 = .ok (.imul, 1) := by decide +kernel
theorem dX0_adaptPace_29 : decode cX0_adaptPace 29 = .ok (.aload_n 0, 1) := by decide +kernel
theorem dX0_adaptPace_30 : decode cX0_adaptPace 30 = .ok (.getfield 11, 3) := by decide +kernel
theorem dX0_adaptPace_33 : decode cX0_adaptPace 33 = .ok (.iconst 3, 1) := by decide +kernel
theorem dX0_adaptPace_34 : decode cX0_adaptPace 34 = .ok (.iaload, 1) := by decide +kernel
theorem dX0_adaptPace_35 : decode cX0_adaptPace 35 = .ok (.isub, 1) := by decide +kernel
theorem dX0_adaptPace_36 : decode cX0_adaptPace 36 = .ok (.bipush 7, 2) := by decide +kernel
theorem dX0_adaptPace_38 : decode cX0_adaptPace 38 = .ok (.ishr, 1) := by decide +kernel
theorem dX0_adaptPace_39 : decode cX0_adaptPace 39 = .ok (.iadd, 1) := by decide +kernel
theorem dX0_adaptPace_40 : decode cX0_adaptPace 40 = .ok (.iastore, 1) := by decide +kernel
theorem dX0_adaptPace_41 : decode cX0_adaptPace 41 = .ok (.iconst 4, 1) := by decide +kernel
theorem dX0_adaptPace_42 : decode cX0_adaptPace 42 = .ok (.aload_n 0, 1) := by decide +kernel
theorem dX0_adaptPace_43 : decode cX0_adaptPace 43 = .ok (.getfield 11, 3) := by decide +kernel
theorem dX0_adaptPace_46 : decode cX0_adaptPace 46 = .ok (.iconst 2, 1) := by decide +kernel
theorem dX0_adaptPace_47 : decode cX0_adaptPace 47 = .ok (.iaload, 1) := by decide +kernel
theorem dX0_adaptPace_48 : decode cX0_adaptPace 48 = .ok (.imul, 1) := by decide +kernel
theorem dX0_adaptPace_49 : decode cX0_adaptPace 49 = .ok (.aload_n 0, 1) := by decide +kernel
theorem dX0_adaptPace_50 : decode cX0_adaptPace 50 = .ok (.getfield 11, 3) := by decide +kernel
theorem dX0_adaptPace_53 : decode cX0_adaptPace 53 = .ok (.iconst 3, 1) := by decide +kernel
theorem dX0_adaptPace_54 : decode cX0_adaptPace 54 = .ok (.iaload, 1) := by decide +kernel
theorem dX0_adaptPace_55 : decode cX0_adaptPace 55 = .ok (.isub, 1) := by decide +kernel
theorem dX0_adaptPace_56 : decode cX0_adaptPace 56 = .ok (.invokestatic 54, 3) := by decide +kernel
theorem dX0_adaptPace_59 : decode cX0_adaptPace 59 = .ok (.istore_n 3, 1) := by decide +kernel
theorem dX0_adaptPace_60 : decode cX0_adaptPace 60 = .ok (.iload_n 2, 1) := by decide +kernel
theorem dX0_adaptPace_61 : decode cX0_adaptPace 61 = .ok (.ifCond .eq 15, 3) := by decide +kernel
theorem dX0_adaptPace_64 : decode cX0_adaptPace 64 = .ok (.aload_n 0, 1) := by decide +kernel
theorem dX0_adaptPace_65 : decode cX0_adaptPace 65 = .ok (.getfield 11, 3) := by decide +kernel
theorem dX0_adaptPace_68 : decode cX0_adaptPace 68 = .ok (.iconst 4, 1) := by decide +kernel
theorem dX0_adaptPace_69 : decode cX0_adaptPace 69 = .ok (.sipush 256, 3) := by decide +kernel
theorem dX0_adaptPace_72 : decode cX0_adaptPace 72 = .ok (.iastore, 1) := by decide +kernel
theorem dX0_adaptPace_73 : decode cX0_adaptPace 73 = .ok (.goto 77, 3) := by decide +kernel
theorem dX0_adaptPace_76 : decode cX0_adaptPace 76 = .ok (.aload_n 0, 1) := by decide +kernel
theorem dX0_adaptPace_77 : decode cX0_adaptPace 77 = .ok (.getfield 25, 3) := by decide +kernel
theorem dX0_adaptPace_80 : decode cX0_adaptPace 80 = .ok (.sipush 1536, 3) := by decide +kernel
theorem dX0_adaptPace_83 : decode cX0_adaptPace 83 = .ok (.if_icmp .lt 25, 3) := by decide +kernel
theorem dX0_adaptPace_86 : decode cX0_adaptPace 86 = .ok (.aload_n 0, 1) := by decide +kernel
theorem dX0_adaptPace_87 : decode cX0_adaptPace 87 = .ok (.getfield 11, 3) := by decide +kernel
theorem dX0_adaptPace_90 : decode cX0_adaptPace 90 = .ok (.iconst 5, 1) := by decide +kernel
theorem dX0_adaptPace_91 : decode cX0_adaptPace 91 = .ok (.iaload, 1) := by decide +kernel
theorem dX0_adaptPace_92 : decode cX0_adaptPace 92 = .ok (.iconst 1, 1) := by decide +kernel
theorem dX0_adaptPace_93 : decode cX0_adaptPace 93 = .ok (.if_icmp .eq 15, 3) := by decide +kernel
theorem dX0_adaptPace_96 : decode cX0_adaptPace 96 = .ok (.iload_n 3, 1) := by decide +kernel
theorem dX0_adaptPace_97 : decode cX0_adaptPace 97 = .ok (.aload_n 0, 1) := by decide +kernel
theorem dX0_adaptPace_98 : decode cX0_adaptPace 98 = .ok (.getfield 11, 3) := by decide +kernel
theorem dX0_adaptPace_101 : decode cX0_adaptPace 101 = .ok (.iconst 3, 1) := by decide +kernel
theorem dX0_adaptPace_102 : decode cX0_adaptPace 102 = .ok (.iaload, 1) := by decide +kernel
theorem dX0_adaptPace_103 : decode cX0_adaptPace 103 = .ok (.iconst 3, 1) := by decide +kernel
theorem dX0_adaptPace_104 : decode cX0_adaptPace 104 = .ok (.ishr, 1) := by decide +kernel
theorem dX0_adaptPace_105 : decode cX0_adaptPace 105 = .ok (.if_icmp .lt 27, 3) := by decide +kernel
theorem dX0_adaptPace_108 : decode cX0_adaptPace 108 = .ok (.aload_n 0, 1) := by decide +kernel
theorem dX0_adaptPace_109 : decode cX0_adaptPace 109 = .ok (.getfield 11, 3) := by decide +kernel
theorem dX0_adaptPace_112 : decode cX0_adaptPace 112 = .ok (.iconst 4, 1) := by decide +kernel
theorem dX0_adaptPace_113 : decode cX0_adaptPace 113 = .ok (.dup2, 1) := by decide +kernel
theorem dX0_adaptPace_114 : decode cX0_adaptPace 114 = .ok (.iaload, 1) := by decide +kernel
theorem dX0_adaptPace_115 : decode cX0_adaptPace 115 = .ok (.sipush 512, 3) := by decide +kernel
theorem dX0_adaptPace_118 : decode cX0_adaptPace 118 = .ok (.aload_n 0, 1) := by decide +kernel
theorem dX0_adaptPace_119 : decode cX0_adaptPace 119 = .ok (.getfield 11, 3) := by decide +kernel
theorem dX0_adaptPace_122 : decode cX0_adaptPace 122 = .ok (.iconst 4, 1) := by decide +kernel
theorem dX0_adaptPace_123 : decode cX0_adaptPace 123 = .ok (.iaload, 1) := by decide +kernel
theorem dX0_adaptPace_124 : decode cX0_adaptPace 124 = .ok (.isub, 1) := by decide +kernel
theorem dX0_adaptPace_125 : decode cX0_adaptPace 125 = .ok (.iconst 4, 1) := by decide +kernel
theorem dX0_adaptPace_126 : decode cX0_adaptPace 126 = .ok (.ishr, 1) := by decide +kernel
theorem dX0_adaptPace_127 : decode cX0_adaptPace 127 = .ok (.iadd, 1) := by decide +kernel
theorem dX0_adaptPace_128 : decode cX0_adaptPace 128 = .ok (.iastore, 1) := by decide +kernel
theorem dX0_adaptPace_129 : decode cX0_adaptPace 129 = .ok (.goto 21, 3) := by decide +kernel
theorem dX0_adaptPace_132 : decode cX0_adaptPace 132 = .ok (.aload_n 0, 1) := by decide +kernel
theorem dX0_adaptPace_133 : decode cX0_adaptPace 133 = .ok (.getfield 11, 3) := by decide +kernel
theorem dX0_adaptPace_136 : decode cX0_adaptPace 136 = .ok (.iconst 4, 1) := by decide +kernel
theorem dX0_adaptPace_137 : decode cX0_adaptPace 137 = .ok (.dup2, 1) := by decide +kernel
theorem dX0_adaptPace_138 : decode cX0_adaptPace 138 = .ok (.iaload, 1) := by decide +kernel
theorem dX0_adaptPace_139 : decode cX0_adaptPace 139 = .ok (.aload_n 0, 1) := by decide +kernel
theorem dX0_adaptPace_140 : decode cX0_adaptPace 140 = .ok (.getfield 11, 3) := by decide +kernel
theorem dX0_adaptPace_143 : decode cX0_adaptPace 143 = .ok (.iconst 4, 1) := by decide +kernel
theorem dX0_adaptPace_144 : decode cX0_adaptPace 144 = .ok (.iaload, 1) := by decide +kernel
theorem dX0_adaptPace_145 : decode cX0_adaptPace 145 = .ok (.ineg, 1) := by decide +kernel
theorem dX0_adaptPace_146 : decode cX0_adaptPace 146 = .ok (.iconst 4, 1) := by decide +kernel
theorem dX0_adaptPace_147 : decode cX0_adaptPace 147 = .ok (.ishr, 1) := by decide +kernel
theorem dX0_adaptPace_148 : decode cX0_adaptPace 148 = .ok (.iadd, 1) := by decide +kernel
theorem dX0_adaptPace_149 : decode cX0_adaptPace 149 = .ok (.iastore, 1) := by decide +kernel
theorem dX0_adaptPace_150 : decode cX0_adaptPace 150 = .ok (.return_, 1) := by decide +kernel
theorem dX0_size_0 : decode cX0_size 0 = .ok (.iconst 0, 1) := by decide +kernel
theorem dX0_size_1 : decode cX0_size 1 = .ok (.istore_n 1, 1) := by decide +kernel
theorem dX0_size_2 : decode cX0_size 2 = .ok (.iload_n 1, 1) := by decide +kernel
theorem dX0_size_3 : decode cX0_size 3 = .ok (.bipush 15, 2) := by decide +kernel
theorem dX0_size_5 : decode cX0_size 5 = .ok (.if_icmp .ge 16, 3) := by decide +kernel
theorem dX0_size_8 : decode cX0_size 8 = .ok (.iload_n 0, 1) := by decide +kernel
theorem dX0_size_9 : decode cX0_size 9 = .ok (.iconst 1, 1) := by decide +kernel
theorem dX0_size_10 : decode cX0_size 10 = .ok (.iload_n 1, 1) := by decide +kernel
theorem dX0_size_11 : decode cX0_size 11 = .ok (.ishl, 1) := by decide +kernel
theorem dX0_size_12 : decode cX0_size 12 = .ok (.if_icmp .lt 9, 3) := by decide +kernel
theorem dX0_size_15 : decode cX0_size 15 = .ok (.iinc 1 1, 3) := by decide +kernel
theorem dX0_size_18 : decode cX0_size 18 = .ok (.goto (-16), 3) := by decide +kernel
theorem dX0_size_21 : decode cX0_size 21 = .ok (.iload_n 1, 1) := by decide +kernel
theorem dX0_size_22 : decode cX0_size 22 = .ok (.ireturn, 1) := by decide +kernel
theorem dX0_times_0 : decode cX0_times 0 = .ok (.iload_n 0, 1) := by decide +kernel
theorem dX0_times_1 : decode cX0_times 1 = .ok (.invokestatic 54, 3) := by decide +kernel
theorem dX0_times_4 : decode cX0_times 4 = .ok (.sipush 8191, 3) := by decide +kernel
theorem dX0_times_7 : decode cX0_times 7 = .ok (.iand, 1) := by decide +kernel
theorem dX0_times_8 : decode cX0_times 8 = .ok (.istore_n 2, 1) := by decide +kernel
theorem dX0_times_9 : decode cX0_times 9 = .ok (.iload_n 2, 1) := by decide +kernel
theorem dX0_times_10 : decode cX0_times 10 = .ok (.invokestatic 59, 3) := by decide +kernel
theorem dX0_times_13 : decode cX0_times 13 = .ok (.bipush 6, 2) := by decide +kernel
theorem dX0_times_15 : decode cX0_times 15 = .ok (.isub, 1) := by decide +kernel
theorem dX0_times_16 : decode cX0_times 16 = .ok (.istore_n 3, 1) := by decide +kernel
theorem dX0_times_17 : decode cX0_times 17 = .ok (.iload_n 2, 1) := by decide +kernel
theorem dX0_times_18 : decode cX0_times 18 = .ok (.ifCond .ne 8, 3) := by decide +kernel
theorem dX0_times_21 : decode cX0_times 21 = .ok (.bipush 32, 2) := by decide +kernel
theorem dX0_times_23 : decode cX0_times 23 = .ok (.goto 9, 3) := by decide +kernel
theorem dX0_times_26 : decode cX0_times 26 = .ok (.iload_n 2, 1) := by decide +kernel
theorem dX0_times_27 : decode cX0_times 27 = .ok (.iload_n 3, 1) := by decide +kernel
theorem dX0_times_28 : decode cX0_times 28 = .ok (.ineg, 1) := by decide +kernel
theorem dX0_times_29 : decode cX0_times 29 = .ok (.invokestatic 122, 3) := by decide +kernel
theorem dX0_times_32 : decode cX0_times 32 = .ok (.istore 4, 2) := by decide +kernel
theorem dX0_times_34 : decode cX0_times 34 = .ok (.iload_n 3, 1) := by decide +kernel
theorem dX0_times_35 : decode cX0_times 35 = .ok (.iload_n 1, 1) := by decide +kernel
theorem dX0_times_36 : decode cX0_times 36 = .ok (.bipush 6, 2) := by decide +kernel
theorem dX0_times_38 : decode cX0_times 38 = .ok (.ishr, 1) := by decide +kernel
theorem dX0_times_39 : decode cX0_times 39 = .ok (.bipush 15, 2) := by decide +kernel
theorem dX0_times_41 : decode cX0_times 41 = .ok (.iand, 1) := by decide +kernel
theorem dX0_times_42 : decode cX0_times 42 = .ok (.iadd, 1) := by decide +kernel
theorem dX0_times_43 : decode cX0_times 43 = .ok (.bipush 13, 2) := by decide +kernel
theorem dX0_times_45 : decode cX0_times 45 = .ok (.isub, 1) := by decide +kernel
theorem dX0_times_46 : decode cX0_times 46 = .ok (.istore 5, 2) := by decide +kernel
theorem dX0_times_48 : decode cX0_times 48 = .ok (.iload 4, 2) := by decide +kernel
theorem dX0_times_50 : decode cX0_times 50 = .ok (.iload_n 1, 1) := by decide +kernel
theorem dX0_times_51 : decode cX0_times 51 = .ok (.bipush 63, 2) := by decide +kernel
theorem dX0_times_53 : decode cX0_times 53 = .ok (.iand, 1) := by decide +kernel
theorem dX0_times_54 : decode cX0_times 54 = .ok (.imul, 1) := by decide +kernel
theorem dX0_times_55 : decode cX0_times 55 = .ok (.bipush 48, 2) := by decide +kernel
theorem dX0_times_57 : decode cX0_times 57 = .ok (.iadd, 1) := by decide +kernel
theorem dX0_times_58 : decode cX0_times 58 = .ok (.iconst 4, 1) := by decide +kernel
theorem dX0_times_59 : decode cX0_times 59 = .ok (.ishr, 1) := by decide +kernel
theorem dX0_times_60 : decode cX0_times 60 = .ok (.istore 6, 2) := by decide +kernel
theorem dX0_times_62 : decode cX0_times 62 = .ok (.iload 6, 2) := by decide +kernel
theorem dX0_times_64 : decode cX0_times 64 = .ok (.iload 5, 2) := by decide +kernel
theorem dX0_times_66 : decode cX0_times 66 = .ok (.invokestatic 122, 3) := by decide +kernel
theorem dX0_times_69 : decode cX0_times 69 = .ok (.sipush 32767, 3) := by decide +kernel
theorem dX0_times_72 : decode cX0_times 72 = .ok (.iand, 1) := by decide +kernel
theorem dX0_times_73 : decode cX0_times 73 = .ok (.istore 7, 2) := by decide +kernel
theorem dX0_times_75 : decode cX0_times 75 = .ok (.iload_n 0, 1) := by decide +kernel
theorem dX0_times_76 : decode cX0_times 76 = .ok (.ifCond .ge 7, 3) := by decide +kernel
theorem dX0_times_79 : decode cX0_times 79 = .ok (.iconst 1, 1) := by decide +kernel
theorem dX0_times_80 : decode cX0_times 80 = .ok (.goto 4, 3) := by decide +kernel
theorem dX0_times_83 : decode cX0_times 83 = .ok (.iconst 0, 1) := by decide +kernel
theorem dX0_times_84 : decode cX0_times 84 = .ok (.iload_n 1, 1) := by decide +kernel
theorem dX0_times_85 : decode cX0_times 85 = .ok (.ifCond .ge 7, 3) := by decide +kernel
theorem dX0_times_88 : decode cX0_times 88 = .ok (.iconst 1, 1) := by decide +kernel
theorem dX0_times_89 : decode cX0_times 89 = .ok (.goto 4, 3) := by decide +kernel
theorem dX0_times_92 : decode cX0_times 92 = .ok (.iconst 0, 1) := by decide +kernel
theorem dX0_times_93 : decode cX0_times 93 = .ok (.if_icmp .eq 9, 3) := by decide +kernel
theorem dX0_times_96 : decode cX0_times 96 = .ok (.iload 7, 2) := by decide +kernel
theorem dX0_times_98 : decode cX0_times 98 = .ok (.ineg, 1) := by decide +kernel
theorem dX0_times_99 : decode cX0_times 99 = .ok (.goto 5, 3) := by decide +kernel
theorem dX0_times_102 : decode cX0_times 102 = .ok (.iload 7, 2) := by decide +kernel
theorem dX0_times_104 : decode cX0_times 104 = .ok (.ireturn, 1) := by decide +kernel
theorem dX0_shifted_0 : decode cX0_shifted 0 = .ok (.iload_n 1, 1) := by decide +kernel
theorem dX0_shifted_1 : decode cX0_shifted 1 = .ok (.ifCond .ge 10, 3) := by decide +kernel
theorem dX0_shifted_4 : decode cX0_shifted 4 = .ok (.iload_n 0, 1) := by decide +kernel
theorem dX0_shifted_5 : decode cX0_shifted 5 = .ok (.iload_n 1, 1) := by decide +kernel
theorem dX0_shifted_6 : decode cX0_shifted 6 = .ok (.ineg, 1) := by decide +kernel
theorem dX0_shifted_7 : decode cX0_shifted 7 = .ok (.ishr, 1) := by decide +kernel
theorem dX0_shifted_8 : decode cX0_shifted 8 = .ok (.goto 6, 3) := by decide +kernel
theorem dX0_shifted_11 : decode cX0_shifted 11 = .ok (.iload_n 0, 1) := by decide +kernel
theorem dX0_shifted_12 : decode cX0_shifted 12 = .ok (.iload_n 1, 1) := by decide +kernel
theorem dX0_shifted_13 : decode cX0_shifted 13 = .ok (.ishl, 1) := by decide +kernel
theorem dX0_shifted_14 : decode cX0_shifted 14 = .ok (.ireturn, 1) := by decide +kernel
theorem dX0_floatOf_0 : decode cX0_floatOf 0 = .ok (.bipush 32, 2) := by decide +kernel
theorem dX0_floatOf_2 : decode cX0_floatOf 2 = .ok (.istore_n 2, 1) := by decide +kernel
theorem dX0_floatOf_3 : decode cX0_floatOf 3 = .ok (.iload_n 0, 1) := by decide +kernel
theorem dX0_floatOf_4 : decode cX0_floatOf 4 = .ok (.ifCond .le 26, 3) := by decide +kernel
theorem dX0_floatOf_7 : decode cX0_floatOf 7 = .ok (.iload_n 0, 1) := by decide +kernel
theorem dX0_floatOf_8 : decode cX0_floatOf 8 = .ok (.ldc 125, 2) := by decide +kernel
theorem dX0_floatOf_10 : decode cX0_floatOf 10 = .ok (.if_icmp .ge 20, 3) := by decide +kernel
theorem dX0_floatOf_13 : decode cX0_floatOf 13 = .ok (.iload_n 0, 1) := by decide +kernel
theorem dX0_floatOf_14 : decode cX0_floatOf 14 = .ok (.invokestatic 59, 3) := by decide +kernel
theorem dX0_floatOf_17 : decode cX0_floatOf 17 = .ok (.istore_n 3, 1) := by decide +kernel
theorem dX0_floatOf_18 : decode cX0_floatOf 18 = .ok (.bipush 64, 2) := by decide +kernel
theorem dX0_floatOf_20 : decode cX0_floatOf 20 = .ok (.iload_n 3, 1) := by decide +kernel
theorem dX0_floatOf_21 : decode cX0_floatOf 21 = .ok (.imul, 1) := by decide +kernel
theorem dX0_floatOf_22 : decode cX0_floatOf 22 = .ok (.bipush 64, 2) := by decide +kernel
theorem dX0_floatOf_24 : decode cX0_floatOf 24 = .ok (.iload_n 0, 1) := by decide +kernel
theorem dX0_floatOf_25 : decode cX0_floatOf 25 = .ok (.imul, 1) := by decide +kernel
theorem dX0_floatOf_26 : decode cX0_floatOf 26 = .ok (.iload_n 3, 1) := by decide +kernel
theorem dX0_floatOf_27 : decode cX0_floatOf 27 = .ok (.ishr, 1) := by decide +kernel
theorem dX0_floatOf_28 : decode cX0_floatOf 28 = .ok (.iadd, 1) := by decide +kernel
theorem dX0_floatOf_29 : decode cX0_floatOf 29 = .ok (.istore_n 2, 1) := by decide +kernel
theorem dX0_floatOf_30 : decode cX0_floatOf 30 = .ok (.iload_n 1, 1) := by decide +kernel
theorem dX0_floatOf_31 : decode cX0_floatOf 31 = .ok (.ifCond .eq 11, 3) := by decide +kernel
theorem dX0_floatOf_34 : decode cX0_floatOf 34 = .ok (.iload_n 2, 1) := by decide +kernel
theorem dX0_floatOf_35 : decode cX0_floatOf 35 = .ok (.sipush 1024, 3) := by decide +kernel
theorem dX0_floatOf_38 : decode cX0_floatOf 38 = .ok (.isub, 1) := by decide +kernel
theorem dX0_floatOf_39 : decode cX0_floatOf 39 = .ok (.goto 4, 3) := by decide +kernel
theorem dX0_floatOf_42 : decode cX0_floatOf 42 = .ok (.iload_n 2, 1) := by decide +kernel
theorem dX0_floatOf_43 : decode cX0_floatOf 43 = .ok (.ireturn, 1) := by decide +kernel
theorem dX1_init_0 : decode cX1_init 0 = .ok (.aload_n 0, 1) := by decide +kernel
theorem dX1_init_1 : decode cX1_init 1 = .ok (.invokespecial 3, 3) := by decide +kernel
theorem dX1_init_4 : decode cX1_init 4 = .ok (.aload_n 0, 1) := by decide +kernel
theorem dX1_init_5 : decode cX1_init 5 = .ok (.bipush 23, 2) := by decide +kernel
theorem dX1_init_7 : decode cX1_init 7 = .ok (.newarray .int, 2) := by decide +kernel
theorem dX1_init_9 : decode cX1_init 9 = .ok (.putfield 11, 3) := by decide +kernel
theorem dX1_init_12 : decode cX1_init 12 = .ok (.return_, 1) := by decide +kernel
theorem dX1_begin_0 : decode cX1_begin 0 = .ok (.iconst 0, 1) := by decide +kernel
theorem dX1_begin_1 : decode cX1_begin 1 = .ok (.istore_n 2, 1) := by decide +kernel
theorem dX1_begin_2 : decode cX1_begin 2 = .ok (.iload_n 2, 1) := by decide +kernel
theorem dX1_begin_3 : decode cX1_begin 3 = .ok (.bipush 23, 2) := by decide +kernel
theorem dX1_begin_5 : decode cX1_begin 5 = .ok (.if_icmp .ge 16, 3) := by decide +kernel
theorem dX1_begin_8 : decode cX1_begin 8 = .ok (.aload_n 0, 1) := by decide +kernel
theorem dX1_begin_9 : decode cX1_begin 9 = .ok (.getfield 11, 3) := by decide +kernel
theorem dX1_begin_12 : decode cX1_begin 12 = .ok (.iload_n 2, 1) := by decide +kernel
theorem dX1_begin_13 : decode cX1_begin 13 = .ok (.iconst 0, 1) := by decide +kernel
theorem dX1_begin_14 : decode cX1_begin 14 = .ok (.iastore, 1) := by decide +kernel
theorem dX1_begin_15 : decode cX1_begin 15 = .ok (.iinc 2 1, 3) := by decide +kernel
theorem dX1_begin_18 : decode cX1_begin 18 = .ok (.goto (-16), 3) := by decide +kernel
theorem dX1_begin_21 : decode cX1_begin 21 = .ok (.aload_n 0, 1) := by decide +kernel
theorem dX1_begin_22 : decode cX1_begin 22 = .ok (.getfield 11, 3) := by decide +kernel
theorem dX1_begin_25 : decode cX1_begin 25 = .ok (.iconst 1, 1) := by decide +kernel
theorem dX1_begin_26 : decode cX1_begin 26 = .ok (.iload_n 1, 1) := by decide +kernel
theorem dX1_begin_27 : decode cX1_begin 27 = .ok (.iastore, 1) := by decide +kernel
theorem dX1_begin_28 : decode cX1_begin 28 = .ok (.return_, 1) := by decide +kernel
theorem dX1_number_0 : decode cX1_number 0 = .ok (.iload_n 1, 1) := by decide +kernel
theorem dX1_number_1 : decode cX1_number 1 = .ok (.ifCond .lt 9, 3) := by decide +kernel
theorem dX1_number_4 : decode cX1_number 4 = .ok (.iload_n 1, 1) := by decide +kernel
theorem dX1_number_5 : decode cX1_number 5 = .ok (.bipush 23, 2) := by decide +kernel
theorem dX1_number_7 : decode cX1_number 7 = .ok (.if_icmp .lt 8, 3) := by decide +kernel
theorem dX1_number_10 : decode cX1_number 10 = .ok (.ldc 15, 2) := by decide +kernel
theorem dX1_number_12 : decode cX1_number 12 = .ok (.goto 9, 3) := by decide +kernel
theorem dX1_number_15 : decode cX1_number 15 = .ok (.aload_n 0, 1) := by decide +kernel
theorem dX1_number_16 : decode cX1_number 16 = .ok (.getfield 11, 3) := by decide +kernel
theorem dX1_number_19 : decode cX1_number 19 = .ok (.iload_n 1, 1) := by decide +kernel
theorem dX1_number_20 : decode cX1_number 20 = .ok (.iaload, 1) := by decide +kernel
theorem dX1_number_21 : decode cX1_number 21 = .ok (.ireturn, 1) := by decide +kernel
theorem dX1_error_0 : decode cX1_error 0 = .ok (.iload_n 1, 1) := by decide +kernel
theorem dX1_error_1 : decode cX1_error 1 = .ok (.aload_n 0, 1) := by decide +kernel
theorem dX1_error_2 : decode cX1_error 2 = .ok (.getfield 11, 3) := by decide +kernel
theorem dX1_error_5 : decode cX1_error 5 = .ok (.iconst 2, 1) := by decide +kernel
theorem dX1_error_6 : decode cX1_error 6 = .ok (.iaload, 1) := by decide +kernel
theorem dX1_error_7 : decode cX1_error 7 = .ok (.isub, 1) := by decide +kernel
theorem dX1_error_8 : decode cX1_error 8 = .ok (.invokestatic 16, 3) := by decide +kernel
theorem dX1_error_11 : decode cX1_error 11 = .ok (.ireturn, 1) := by decide +kernel
theorem dX1_scaled_0 : decode cX1_scaled 0 = .ok (.iload_n 1, 1) := by decide +kernel
theorem dX1_scaled_1 : decode cX1_scaled 1 = .ok (.aload_n 0, 1) := by decide +kernel
theorem dX1_scaled_2 : decode cX1_scaled 2 = .ok (.getfield 11, 3) := by decide +kernel
theorem dX1_scaled_5 : decode cX1_scaled 5 = .ok (.iconst 1, 1) := by decide +kernel
theorem dX1_scaled_6 : decode cX1_scaled 6 = .ok (.iaload, 1) := by decide +kernel
theorem dX1_scaled_7 : decode cX1_scaled 7 = .ok (.imul, 1) := by decide +kernel
theorem dX1_scaled_8 : decode cX1_scaled 8 = .ok (.bipush 12, 2) := by decide +kernel
theorem dX1_scaled_10 : decode cX1_scaled 10 = .ok (.ishr, 1) := by decide +kernel
theorem dX1_scaled_11 : decode cX1_scaled 11 = .ok (.ireturn, 1) := by decide +kernel
theorem dX1_heard_0 : decode cX1_heard 0 = .ok (.aload_n 0, 1) := by decide +kernel
theorem dX1_heard_1 : decode cX1_heard 1 = .ok (.getfield 11, 3) := by decide +kernel
theorem dX1_heard_4 : decode cX1_heard 4 = .ok (.iconst 2, 1) := by decide +kernel
theorem dX1_heard_5 : decode cX1_heard 5 = .ok (.iaload, 1) := by decide +kernel
theorem dX1_heard_6 : decode cX1_heard 6 = .ok (.aload_n 0, 1) := by decide +kernel
theorem dX1_heard_7 : decode cX1_heard 7 = .ok (.iload_n 1, 1) := by decide +kernel
theorem dX1_heard_8 : decode cX1_heard 8 = .ok (.invokevirtual 20, 3) := by decide +kernel
theorem dX1_heard_11 : decode cX1_heard 11 = .ok (.iadd, 1) := by decide +kernel
theorem dX1_heard_12 : decode cX1_heard 12 = .ok (.sipush (-16384), 3) := by decide +kernel
theorem dX1_heard_15 : decode cX1_heard 15 = .ok (.sipush 16383, 3) := by decide +kernel
theorem dX1_heard_18 : decode cX1_heard 18 = .ok (.invokestatic 23, 3) := by decide +kernel
theorem dX1_heard_21 : decode cX1_heard 21 = .ok (.ireturn, 1) := by decide +kernel
theorem dX1_difference_0 : decode cX1_difference 0 = .ok (.aload_n 0, 1) := by decide +kernel
theorem dX1_difference_1 : decode cX1_difference 1 = .ok (.getfield 11, 3) := by decide +kernel
theorem dX1_difference_4 : decode cX1_difference 4 = .ok (.iconst 1, 1) := by decide +kernel
theorem dX1_difference_5 : decode cX1_difference 5 = .ok (.iaload, 1) := by decide +kernel
theorem dX1_difference_6 : decode cX1_difference 6 = .ok (.iload_n 1, 1) := by decide +kernel
theorem dX1_difference_7 : decode cX1_difference 7 = .ok (.imul, 1) := by decide +kernel
theorem dX1_difference_8 : decode cX1_difference 8 = .ok (.bipush 15, 2) := by decide +kernel
theorem dX1_difference_10 : decode cX1_difference 10 = .ok (.ishr, 1) := by decide +kernel
theorem dX1_difference_11 : decode cX1_difference 11 = .ok (.ireturn, 1) := by decide +kernel
theorem dX1_settle_0 : decode cX1_settle 0 = .ok (.aload_n 0, 1) := by decide +kernel
theorem dX1_settle_1 : decode cX1_settle 1 = .ok (.iload_n 1, 1) := by decide +kernel
theorem dX1_settle_2 : decode cX1_settle 2 = .ok (.invokevirtual 20, 3) := by decide +kernel
theorem dX1_settle_5 : decode cX1_settle 5 = .ok (.istore 5, 2) := by decide +kernel
theorem dX1_settle_7 : decode cX1_settle 7 = .ok (.aload_n 0, 1) := by decide +kernel
theorem dX1_settle_8 : decode cX1_settle 8 = .ok (.getfield 11, 3) := by decide +kernel
theorem dX1_settle_11 : decode cX1_settle 11 = .ok (.iconst 2, 1) := by decide +kernel
theorem dX1_settle_12 : decode cX1_settle 12 = .ok (.iaload, 1) := by decide +kernel
theorem dX1_settle_13 : decode cX1_settle 13 = .ok (.iload 5, 2) := by decide +kernel
theorem dX1_settle_15 : decode cX1_settle 15 = .ok (.iadd, 1) := by decide +kernel
theorem dX1_settle_16 : decode cX1_settle 16 = .ok (.invokestatic 16, 3) := by decide +kernel
theorem dX1_settle_19 : decode cX1_settle 19 = .ok (.istore 6, 2) := by decide +kernel
theorem dX1_settle_21 : decode cX1_settle 21 = .ok (.aload_n 0, 1) := by decide +kernel
theorem dX1_settle_22 : decode cX1_settle 22 = .ok (.getfield 11, 3) := by decide +kernel
theorem dX1_settle_25 : decode cX1_settle 25 = .ok (.iconst 4, 1) := by decide +kernel
theorem dX1_settle_26 : decode cX1_settle 26 = .ok (.iaload, 1) := by decide +kernel
theorem dX1_settle_27 : decode cX1_settle 27 = .ok (.iload 5, 2) := by decide +kernel
theorem dX1_settle_29 : decode cX1_settle 29 = .ok (.iadd, 1) := by decide +kernel
theorem dX1_settle_30 : decode cX1_settle 30 = .ok (.invokestatic 16, 3) := by decide +kernel
theorem dX1_settle_33 : decode cX1_settle 33 = .ok (.istore 7, 2) := by decide +kernel
theorem dX1_settle_35 : decode cX1_settle 35 = .ok (.aload_n 0, 1) := by decide +kernel
theorem dX1_settle_36 : decode cX1_settle 36 = .ok (.iload_n 2, 1) := by decide +kernel
theorem dX1_settle_37 : decode cX1_settle 37 = .ok (.iload_n 3, 1) := by decide +kernel
theorem dX1_settle_38 : decode cX1_settle 38 = .ok (.iload 4, 2) := by decide +kernel
theorem dX1_settle_40 : decode cX1_settle 40 = .ok (.invokevirtual 27, 3) := by decide +kernel
theorem dX1_settle_43 : decode cX1_settle 43 = .ok (.aload_n 0, 1) := by decide +kernel
theorem dX1_settle_44 : decode cX1_settle 44 = .ok (.iload 7, 2) := by decide +kernel
theorem dX1_settle_46 : decode cX1_settle 46 = .ok (.invokevirtual 31, 3) := by decide +kernel
theorem dX1_settle_49 : decode cX1_settle 49 = .ok (.aload_n 0, 1) := by decide +kernel
theorem dX1_settle_50 : decode cX1_settle 50 = .ok (.iload 5, 2) := by decide +kernel
theorem dX1_settle_52 : decode cX1_settle 52 = .ok (.invokevirtual 35, 3) := by decide +kernel
theorem dX1_settle_55 : decode cX1_settle 55 = .ok (.aload_n 0, 1) := by decide +kernel
theorem dX1_settle_56 : decode cX1_settle 56 = .ok (.iload 5, 2) := by decide +kernel
theorem dX1_settle_58 : decode cX1_settle 58 = .ok (.iload 6, 2) := by decide +kernel
theorem dX1_settle_60 : decode cX1_settle 60 = .ok (.iload 7, 2) := by decide +kernel
theorem dX1_settle_62 : decode cX1_settle 62 = .ok (.invokevirtual 38, 3) := by decide +kernel
theorem dX1_settle_65 : decode cX1_settle 65 = .ok (.iconst 0, 1) := by decide +kernel
theorem dX1_settle_66 : decode cX1_settle 66 = .ok (.istore 8, 2) := by decide +kernel
theorem dX1_settle_68 : decode cX1_settle 68 = .ok (.iconst 0, 1) := by decide +kernel
theorem dX1_settle_69 : decode cX1_settle 69 = .ok (.istore 9, 2) := by decide +kernel
theorem dX1_settle_71 : decode cX1_settle 71 = .ok (.iload 9, 2) := by decide +kernel
theorem dX1_settle_73 : decode cX1_settle 73 = .ok (.bipush 6, 2) := by decide +kernel
theorem dX1_settle_75 : decode cX1_settle 75 = .ok (.if_icmp .ge 28, 3) := by decide +kernel
theorem dX1_settle_78 : decode cX1_settle 78 = .ok (.iload 8, 2) := by decide +kernel
theorem dX1_settle_80 : decode cX1_settle 80 = .ok (.aload_n 0, 1) := by decide +kernel
theorem dX1_settle_81 : decode cX1_settle 81 = .ok (.bipush 7, 2) := by decide +kernel
theorem dX1_settle_83 : decode cX1_settle 83 = .ok (.iload 9, 2) := by decide +kernel
theorem dX1_settle_85 : decode cX1_settle 85 = .ok (.iadd, 1) := by decide +kernel
theorem dX1_settle_86 : decode cX1_settle 86 = .ok (.bipush 17, 2) := by decide +kernel
theorem dX1_settle_88 : decode cX1_settle 88 = .ok (.iload 9, 2) := by decide +kernel
theorem dX1_settle_90 : decode cX1_settle 90 = .ok (.iadd, 1) := by decide +kernel
theorem dX1_settle_91 : decode cX1_settle 91 = .ok (.invokevirtual 41, 3) := by decide +kernel
theorem dX1_settle_94 : decode cX1_settle 94 = .ok (.iadd, 1) := by decide +kernel
theorem dX1_settle_95 : decode cX1_settle 95 = .ok (.istore 8, 2) := by decide +kernel
theorem dX1_settle_97 : decode cX1_settle 97 = .ok (.iinc 9 1, 3) := by decide +kernel
theorem dX1_settle_100 : decode cX1_settle 100 = .ok (.goto (-29), 3) := by decide +kernel
theorem dX1_settle_103 : decode cX1_settle 103 = .ok (.aload_n 0, 1) := by decide +kernel
theorem dX1_settle_104 : decode cX1_settle 104 = .ok (.getfield 11, 3) := by decide +kernel
theorem dX1_settle_107 : decode cX1_settle 107 = .ok (.iconst 3, 1) := by decide +kernel
theorem dX1_settle_108 : decode cX1_settle 108 = .ok (.aload_n 0, 1) := by decide +kernel
theorem dX1_settle_109 : decode cX1_settle 109 = .ok (.iconst 5, 1) := by decide +kernel
theorem dX1_settle_110 : decode cX1_settle 110 = .ok (.bipush 13, 2) := by decide +kernel
theorem dX1_settle_112 : decode cX1_settle 112 = .ok (.invokevirtual 41, 3) := by decide +kernel
theorem dX1_settle_115 : decode cX1_settle 115 = .ok (.aload_n 0, 1) := by decide +kernel
theorem dX1_settle_116 : decode cX1_settle 116 = .ok (.bipush 6, 2) := by decide +kernel
theorem dX1_settle_118 : decode cX1_settle 118 = .ok (.bipush 14, 2) := by decide +kernel
theorem dX1_settle_120 : decode cX1_settle 120 = .ok (.invokevirtual 41, 3) := by decide +kernel
theorem dX1_settle_123 : decode cX1_settle 123 = .ok (.iadd, 1) := by decide +kernel
theorem dX1_settle_124 : decode cX1_settle 124 = .ok (.invokestatic 16, 3) := by decide +kernel
theorem dX1_settle_127 : decode cX1_settle 127 = .ok (.iastore, 1) := by decide +kernel
theorem dX1_settle_128 : decode cX1_settle 128 = .ok (.aload_n 0, 1) := by decide +kernel
theorem dX1_settle_129 : decode cX1_settle 129 = .ok (.getfield 11, 3) := by decide +kernel
theorem dX1_settle_132 : decode cX1_settle 132 = .ok (.iconst 4, 1) := by decide +kernel
theorem dX1_settle_133 : decode cX1_settle 133 = .ok (.iload 8, 2) := by decide +kernel
theorem dX1_settle_135 : decode cX1_settle 135 = .ok (.invokestatic 16, 3) := by decide +kernel
theorem dX1_settle_138 : decode cX1_settle 138 = .ok (.iastore, 1) := by decide +kernel
theorem dX1_settle_139 : decode cX1_settle 139 = .ok (.aload_n 0, 1) := by decide +kernel
theorem dX1_settle_140 : decode cX1_settle 140 = .ok (.getfield 11, 3) := by decide +kernel
theorem dX1_settle_143 : decode cX1_settle 143 = .ok (.iconst 2, 1) := by decide +kernel
theorem dX1_settle_144 : decode cX1_settle 144 = .ok (.aload_n 0, 1) := by decide +kernel
theorem dX1_settle_145 : decode cX1_settle 145 = .ok (.getfield 11, 3) := by decide +kernel
theorem dX1_settle_148 : decode cX1_settle 148 = .ok (.iconst 3, 1) := by decide +kernel
theorem dX1_settle_149 : decode cX1_settle 149 = .ok (.iaload, 1) := by decide +kernel
theorem dX1_settle_150 : decode cX1_settle 150 = .ok (.aload_n 0, 1) := by decide +kernel
theorem dX1_settle_151 : decode cX1_settle 151 = .ok (.getfield 11, 3) := by decide +kernel
theorem dX1_settle_154 : decode cX1_settle 154 = .ok (.iconst 4, 1) := by decide +kernel
theorem dX1_settle_155 : decode cX1_settle 155 = .ok (.iaload, 1) := by decide +kernel
theorem dX1_settle_156 : decode cX1_settle 156 = .ok (.iadd, 1) := by decide +kernel
theorem dX1_settle_157 : decode cX1_settle 157 = .ok (.invokestatic 16, 3) := by decide +kernel
theorem dX1_settle_160 : decode cX1_settle 160 = .ok (.iastore, 1) := by decide +kernel
theorem dX1_settle_161 : decode cX1_settle 161 = .ok (.return_, 1) := by decide +kernel
theorem dX1_adaptScale_0 : decode cX1_adaptScale 0 = .ok (.bipush 127, 2) := by decide +kernel
theorem dX1_adaptScale_2 : decode cX1_adaptScale 2 = .ok (.aload_n 0, 1) := by decide +kernel
theorem dX1_adaptScale_3 : decode cX1_adaptScale 3 = .ok (.getfield 11, 3) := by decide +kernel
theorem dX1_adaptScale_6 : decode cX1_adaptScale 6 = .ok (.iconst 0, 1) := by decide +kernel
theorem dX1_adaptScale_7 : decode cX1_adaptScale 7 = .ok (.iaload, 1) := by decide +kernel
theorem dX1_adaptScale_8 : decode cX1_adaptScale 8 = .ok (.imul, 1) := by decide +kernel
theorem dX1_adaptScale_9 : decode cX1_adaptScale 9 = .ok (.bipush 7, 2) := by decide +kernel
theorem dX1_adaptScale_11 : decode cX1_adaptScale 11 = .ok (.ishr, 1) := by decide +kernel
theorem dX1_adaptScale_12 : decode cX1_adaptScale 12 = .ok (.iload_n 1, 1) := by decide +kernel
theorem dX1_adaptScale_13 : decode cX1_adaptScale 13 = .ok (.iadd, 1) := by decide +kernel
theorem dX1_adaptScale_14 : decode cX1_adaptScale 14 = .ok (.iconst 0, 1) := by decide +kernel
theorem dX1_adaptScale_15 : decode cX1_adaptScale 15 = .ok (.iload_n 2, 1) := by decide +kernel
theorem dX1_adaptScale_16 : decode cX1_adaptScale 16 = .ok (.invokestatic 23, 3) := by decide +kernel
theorem dX1_adaptScale_19 : decode cX1_adaptScale 19 = .ok (.istore 4, 2) := by decide +kernel
theorem dX1_adaptScale_21 : decode cX1_adaptScale 21 = .ok (.getstatic 45, 3) := by decide +kernel
theorem dX1_adaptScale_24 : decode cX1_adaptScale 24 = .ok (.iload 4, 2) := by decide +kernel
theorem dX1_adaptScale_26 : decode cX1_adaptScale 26 = .ok (.bipush 6, 2) := by decide +kernel
theorem dX1_adaptScale_28 : decode cX1_adaptScale 28 = .ok (.ishr, 1) := by decide +kernel
theorem dX1_adaptScale_29 : decode cX1_adaptScale 29 = .ok (.bipush 31, 2) := by decide +kernel
theorem dX1_adaptScale_31 : decode cX1_adaptScale 31 = .ok (.iand, 1) := by decide +kernel
theorem dX1_adaptScale_32 : decode cX1_adaptScale 32 = .ok (.iaload, 1) := by decide +kernel
theorem dX1_adaptScale_33 : decode cX1_adaptScale 33 = .ok (.istore 5, 2) := by decide +kernel
theorem dX1_adaptScale_35 : decode cX1_adaptScale 35 = .ok (.iload_n 3, 1) := by decide +kernel
theorem dX1_adaptScale_36 : decode cX1_adaptScale 36 = .ok (.iload 4, 2) := by decide +kernel
theorem dX1_adaptScale_38 : decode cX1_adaptScale 38 = .ok (.bipush 11, 2) := by decide +kernel
theorem dX1_adaptScale_40 : decode cX1_adaptScale 40 = .ok (.ishr, 1) := by decide +kernel
theorem dX1_adaptScale_41 : decode cX1_adaptScale 41 = .ok (.isub, 1) := by decide +kernel
theorem dX1_adaptScale_42 : decode cX1_adaptScale 42 = .ok (.istore 6, 2) := by decide +kernel
theorem dX1_adaptScale_44 : decode cX1_adaptScale 44 = .ok (.aload_n 0, 1) := by decide +kernel
theorem dX1_adaptScale_45 : decode cX1_adaptScale 45 = .ok (.getfield 11, 3) := by decide +kernel
theorem dX1_adaptScale_48 : decode cX1_adaptScale 48 = .ok (.iconst 0, 1) := by decide +kernel
theorem dX1_adaptScale_49 : decode cX1_adaptScale 49 = .ok (.iload 4, 2) := by decide +kernel
theorem dX1_adaptScale_51 : decode cX1_adaptScale 51 = .ok (.iastore, 1) := by decide +kernel
theorem dX1_adaptScale_52 : decode cX1_adaptScale 52 = .ok (.aload_n 0, 1) := by decide +kernel
theorem dX1_adaptScale_53 : decode cX1_adaptScale 53 = .ok (.getfield 11, 3) := by decide +kernel
theorem dX1_adaptScale_56 : decode cX1_adaptScale 56 = .ok (.iconst 1, 1) := by decide +kernel
theorem dX1_adaptScale_57 : decode cX1_adaptScale 57 = .ok (.iconst 4, 1) := by decide +kernel
theorem dX1_adaptScale_58 : decode cX1_adaptScale 58 = .ok (.iload 6, 2) := by decide +kernel
theorem dX1_adaptScale_60 : decode cX1_adaptScale 60 = .ok (.ifCond .ge 12, 3) := by decide +kernel
theorem dX1_adaptScale_63 : decode cX1_adaptScale 63 = .ok (.iload 5, 2) := by decide +kernel
theorem dX1_adaptScale_65 : decode cX1_adaptScale 65 = .ok (.iload 6, 2) := by decide +kernel
theorem dX1_adaptScale_67 : decode cX1_adaptScale 67 = .ok (.ineg, 1) := by decide +kernel
theorem dX1_adaptScale_68 : decode cX1_adaptScale 68 = .ok (.ishl, 1) := by decide +kernel
theorem dX1_adaptScale_69 : decode cX1_adaptScale 69 = .ok (.goto 8, 3) := by decide +kernel
theorem dX1_adaptScale_72 : decode cX1_adaptScale 72 = .ok (.iload 5, 2) := by decide +kernel
theorem dX1_adaptScale_74 : decode cX1_adaptScale 74 = .ok (.iload 6, 2) := by decide +kernel
theorem dX1_adaptScale_76 : decode cX1_adaptScale 76 = .ok (.ishr, 1) := by decide +kernel
theorem dX1_adaptScale_77 : decode cX1_adaptScale 77 = .ok (.imul, 1) := by decide +kernel
theorem dX1_adaptScale_78 : decode cX1_adaptScale 78 = .ok (.iastore, 1) := by decide +kernel
theorem dX1_adaptScale_79 : decode cX1_adaptScale 79 = .ok (.return_, 1) := by decide +kernel
theorem dX1_product_0 : decode cX1_product 0 = .ok (.aload_n 0, 1) := by decide +kernel
theorem dX1_product_1 : decode cX1_product 1 = .ok (.getfield 11, 3) := by decide +kernel
theorem dX1_product_4 : decode cX1_product 4 = .ok (.iload_n 1, 1) := by decide +kernel
theorem dX1_product_5 : decode cX1_product 5 = .ok (.iaload, 1) := by decide +kernel
theorem dX1_product_6 : decode cX1_product 6 = .ok (.iconst 2, 1) := by decide +kernel
theorem dX1_product_7 : decode cX1_product 7 = .ok (.aload_n 0, 1) := by decide +kernel
theorem dX1_product_8 : decode cX1_product 8 = .ok (.getfield 11, 3) := by decide +kernel
theorem dX1_product_11 : decode cX1_product 11 = .ok (.iload_n 2, 1) := by decide +kernel
theorem dX1_product_12 : decode cX1_product 12 = .ok (.iaload, 1) := by decide +kernel
theorem dX1_product_13 : decode cX1_product 13 = .ok (.imul, 1) := by decide +kernel
theorem dX1_product_14 : decode cX1_product 14 = .ok (.invokestatic 16, 3) := by decide +kernel
theorem dX1_product_17 : decode cX1_product 17 = .ok (.imul, 1) := by decide +kernel
theorem dX1_product_18 : decode cX1_product 18 = .ok (.bipush 15, 2) := by decide +kernel
theorem dX1_product_20 : decode cX1_product 20 = .ok (.ishr, 1) := by decide +kernel
theorem dX1_product_21 : decode cX1_product 21 = .ok (.ireturn, 1) := by decide +kernel
theorem dX1_adaptPoles_0 : decode cX1_adaptPoles 0 = .ok (.iload_n 1, 1) := by decide +kernel
theorem dX1_adaptPoles_1 : decode cX1_adaptPoles 1 = .ok (.invokestatic 48, 3) := by decide +kernel
theorem dX1_adaptPoles_4 : decode cX1_adaptPoles 4 = .ok (.aload_n 0, 1) := by decide +kernel
theorem dX1_adaptPoles_5 : decode cX1_adaptPoles 5 = .ok (.getfield 11, 3) := by decide +kernel
theorem dX1_adaptPoles_8 : decode cX1_adaptPoles 8 = .ok (.bipush 15, 2) := by decide +kernel
theorem dX1_adaptPoles_10 : decode cX1_adaptPoles 10 = .ok (.iaload, 1) := by decide +kernel
theorem dX1_adaptPoles_11 : decode cX1_adaptPoles 11 = .ok (.invokestatic 48, 3) := by decide +kernel
theorem dX1_adaptPoles_14 : decode cX1_adaptPoles 14 = .ok (.if_icmp .ne 7, 3) := by decide +kernel
theorem dX1_adaptPoles_17 : decode cX1_adaptPoles 17 = .ok (.iconst 1, 1) := by decide +kernel
theorem dX1_adaptPoles_18 : decode cX1_adaptPoles 18 = .ok (.goto 4, 3) := by decide +kernel
theorem dX1_adaptPoles_21 : decode cX1_adaptPoles 21 = .ok (.iconst 0, 1) := by decide +kernel
theorem dX1_adaptPoles_22 : decode cX1_adaptPoles 22 = .ok (.istore_n 2, 1) := by decide +kernel
theorem dX1_adaptPoles_23 : decode cX1_adaptPoles 23 = .ok (.iload_n 1, 1) := by decide +kernel
theorem dX1_adaptPoles_24 : decode cX1_adaptPoles 24 = .ok (.invokestatic 48, 3) := by decide +kernel
theorem dX1_adaptPoles_27 : decode cX1_adaptPoles 27 = .ok (.aload_n 0, 1) := by decide +kernel
theorem dX1_adaptPoles_28 : decode cX1_adaptPoles 28 = .ok (.getfield 11, 3) := by decide +kernel
theorem dX1_adaptPoles_31 : decode cX1_adaptPoles 31 = .ok (.bipush 16, 2) := by decide +kernel
theorem dX1_adaptPoles_33 : decode cX1_adaptPoles 33 = .ok (.iaload, 1) := by decide +kernel
theorem dX1_adaptPoles_34 : decode cX1_adaptPoles 34 = .ok (.invokestatic 48, 3) := by decide +kernel
theorem dX1_adaptPoles_37 : decode cX1_adaptPoles 37 = .ok (.if_icmp .ne 7, 3) := by decide +kernel
theorem dX1_adaptPoles_40 : decode cX1_adaptPoles 40 = .ok (.iconst 1, 1) := by decide +kernel
theorem dX1_adaptPoles_41 : decode cX1_adaptPoles 41 = .ok (.goto 4, 3) := by decide +kernel
theorem dX1_adaptPoles_44 : decode cX1_adaptPoles 44 = .ok (.iconst 0, 1) := by decide +kernel
theorem dX1_adaptPoles_45 : decode cX1_adaptPoles 45 = .ok (.istore_n 3, 1) := by decide +kernel
theorem dX1_adaptPoles_46 : decode cX1_adaptPoles 46 = .ok (.iconst 4, 1) := by decide +kernel
theorem dX1_adaptPoles_47 : decode cX1_adaptPoles 47 = .ok (.aload_n 0, 1) := by decide +kernel
theorem dX1_adaptPoles_48 : decode cX1_adaptPoles 48 = .ok (.getfield 11, 3) := by decide +kernel
theorem dX1_adaptPoles_51 : decode cX1_adaptPoles 51 = .ok (.iconst 5, 1) := by decide +kernel
theorem dX1_adaptPoles_52 : decode cX1_adaptPoles 52 = .ok (.iaload, 1) := by decide +kernel
theorem dX1_adaptPoles_53 : decode cX1_adaptPoles 53 = .ok (.imul, 1) := by decide +kernel
theorem dX1_adaptPoles_54 : decode cX1_adaptPoles 54 = .ok (.invokestatic 16, 3) := by decide +kernel
theorem dX1_adaptPoles_57 : decode cX1_adaptPoles 57 = .ok (.istore 4, 2) := by decide +kernel
theorem dX1_adaptPoles_59 : decode cX1_adaptPoles 59 = .ok (.iload_n 2, 1) := by decide +kernel
theorem dX1_adaptPoles_60 : decode cX1_adaptPoles 60 = .ok (.ifCond .eq 14, 3) := by decide +kernel
theorem dX1_adaptPoles_63 : decode cX1_adaptPoles 63 = .ok (.iload 4, 2) := by decide +kernel
theorem dX1_adaptPoles_65 : decode cX1_adaptPoles 65 = .ok (.ineg, 1) := by decide +kernel
theorem dX1_adaptPoles_66 : decode cX1_adaptPoles 66 = .ok (.sipush 32767, 3) := by decide +kernel
theorem dX1_adaptPoles_69 : decode cX1_adaptPoles 69 = .ok (.invokestatic 51, 3) := by decide +kernel
theorem dX1_adaptPoles_72 : decode cX1_adaptPoles 72 = .ok (.istore 4, 2) := by decide +kernel
theorem dX1_adaptPoles_74 : decode cX1_adaptPoles 74 = .ok (.iload_n 3, 1) := by decide +kernel
theorem dX1_adaptPoles_75 : decode cX1_adaptPoles 75 = .ok (.ifCond .eq 9, 3) := by decide +kernel
theorem dX1_adaptPoles_78 : decode cX1_adaptPoles 78 = .ok (.sipush 128, 3) := by decide +kernel
theorem dX1_adaptPoles_81 : decode cX1_adaptPoles 81 = .ok (.goto 5, 3) := by decide +kernel
theorem dX1_adaptPoles_84 : decode cX1_adaptPoles 84 = .ok (.bipush (-128), 2) := by decide +kernel
theorem dX1_adaptPoles_86 : decode cX1_adaptPoles 86 = .ok (.iload 4, 2) := by decide +kernel
theorem dX1_adaptPoles_88 : decode cX1_adaptPoles 88 = .ok (.bipush 7, 2) := by decide +kernel
theorem dX1_adaptPoles_90 : decode cX1_adaptPoles 90 = .ok (.ishr, 1) := by decide +kernel
theorem dX1_adaptPoles_91 : decode cX1_adaptPoles 91 = .ok (.iadd, 1) := by decide +kernel
theorem dX1_adaptPoles_92 : decode cX1_adaptPoles 92 = .ok (.aload_n 0, 1) := by decide +kernel
theorem dX1_adaptPoles_93 : decode cX1_adaptPoles 93 = .ok (.getfield 11, 3) := by decide +kernel
theorem dX1_adaptPoles_96 : decode cX1_adaptPoles 96 = .ok (.bipush 6, 2) := by decide +kernel
theorem dX1_adaptPoles_98 : decode cX1_adaptPoles 98 = .ok (.iaload, 1) := by decide +kernel
theorem dX1_adaptPoles_99 : decode cX1_adaptPoles 99 = .ok (.sipush 32512, 3) := by decide +kernel
theorem dX1_adaptPoles_102 : decode cX1_adaptPoles 102 = .ok (.imul, 1) := by decide +kernel
theorem dX1_adaptPoles_103 : decode cX1_adaptPoles 103 = .ok (.bipush 15, 2) := by decide +kernel
theorem dX1_adaptPoles_105 : decode cX1_adaptPoles 105 = .ok (.ishr, 1) := by decide +kernel
theorem dX1_adaptPoles_106 : decode cX1_adaptPoles 106 = .ok (.iadd, 1) := by decide +kernel
theorem dX1_adaptPoles_107 : decode cX1_adaptPoles 107 = .ok (.istore 5, 2) := by decide +kernel
theorem dX1_adaptPoles_109 : decode cX1_adaptPoles 109 = .ok (.aload_n 0, 1) := by decide +kernel
theorem dX1_adaptPoles_110 : decode cX1_adaptPoles 110 = .ok (.getfield 11, 3) := by decide +kernel
theorem dX1_adaptPoles_113 : decode cX1_adaptPoles 113 = .ok (.bipush 6, 2) := by decide +kernel
theorem dX1_adaptPoles_115 : decode cX1_adaptPoles 115 = .ok (.iload 5, 2) := by decide +kernel
theorem dX1_adaptPoles_117 : decode cX1_adaptPoles 117 = .ok (.sipush (-12288), 3) := by decide +kernel
theorem dX1_adaptPoles_120 : decode cX1_adaptPoles 120 = .ok (.sipush 12288, 3) := by decide +kernel
theorem dX1_adaptPoles_123 : decode cX1_adaptPoles 123 = .ok (.invokestatic 23, 3) := by decide +kernel
theorem dX1_adaptPoles_126 : decode cX1_adaptPoles 126 = .ok (.iastore, 1) := by decide +kernel
theorem dX1_adaptPoles_127 : decode cX1_adaptPoles 127 = .ok (.iload_n 2, 1) := by decide +kernel
theorem dX1_adaptPoles_128 : decode cX1_adaptPoles 128 = .ok (.ifCond .eq 9, 3) := by decide +kernel
theorem dX1_adaptPoles_131 : decode cX1_adaptPoles 131 = .ok (.sipush 192, 3) := by decide +kernel
theorem dX1_adaptPoles_134 : decode cX1_adaptPoles 134 = .ok (.goto 6, 3) := by decide +kernel
theorem dX1_adaptPoles_137 : decode cX1_adaptPoles 137 = .ok (.sipush (-192), 3) := by decide +kernel
theorem dX1_adaptPoles_140 : decode cX1_adaptPoles 140 = .ok (.aload_n 0, 1) := by decide +kernel
theorem dX1_adaptPoles_141 : decode cX1_adaptPoles 141 = .ok (.getfield 11, 3) := by decide +kernel
theorem dX1_adaptPoles_144 : decode cX1_adaptPoles 144 = .ok (.iconst 5, 1) := by decide +kernel
theorem dX1_adaptPoles_145 : decode cX1_adaptPoles 145 = .ok (.iaload, 1) := by decide +kernel
theorem dX1_adaptPoles_146 : decode cX1_adaptPoles 146 = .ok (.sipush 32640, 3) := by decide +kernel
theorem dX1_adaptPoles_149 : decode cX1_adaptPoles 149 = .ok (.imul, 1) := by decide +kernel
theorem dX1_adaptPoles_150 : decode cX1_adaptPoles 150 = .ok (.bipush 15, 2) := by decide +kernel
theorem dX1_adaptPoles_152 : decode cX1_adaptPoles 152 = .ok (.ishr, 1) := by decide +kernel
theorem dX1_adaptPoles_153 : decode cX1_adaptPoles 153 = .ok (.iadd, 1) := by decide +kernel
theorem dX1_adaptPoles_154 : decode cX1_adaptPoles 154 = .ok (.invokestatic 16, 3) := by decide +kernel
theorem dX1_adaptPoles_157 : decode cX1_adaptPoles 157 = .ok (.istore 6, 2) := by decide +kernel
theorem dX1_adaptPoles_159 : decode cX1_adaptPoles 159 = .ok (.sipush 15360, 3) := by decide +kernel
theorem dX1_adaptPoles_162 : decode cX1_adaptPoles 162 = .ok (.aload_n 0, 1) := by decide +kernel
theorem dX1_adaptPoles_163 : decode cX1_adaptPoles 163 = .ok (.getfield 11, 3) := by decide +kernel
theorem dX1_adaptPoles_166 : decode cX1_adaptPoles 166 = .ok (.bipush 6, 2) := by decide +kernel
theorem dX1_adaptPoles_168 : decode cX1_adaptPoles 168 = .ok (.iaload, 1) := by decide +kernel
theorem dX1_adaptPoles_169 : decode cX1_adaptPoles 169 = .ok (.isub, 1) := by decide +kernel
theorem dX1_adaptPoles_170 : decode cX1_adaptPoles 170 = .ok (.istore 7, 2) := by decide +kernel
theorem dX1_adaptPoles_172 : decode cX1_adaptPoles 172 = .ok (.aload_n 0, 1) := by decide +kernel
theorem dX1_adaptPoles_173 : decode cX1_adaptPoles 173 = .ok (.getfield 11, 3) := by decide +kernel
theorem dX1_adaptPoles_176 : decode cX1_adaptPoles 176 = .ok (.iconst 5, 1) := by decide +kernel
theorem dX1_adaptPoles_177 : decode cX1_adaptPoles 177 = .ok (.iload 6, 2) := by decide +kernel
theorem dX1_adaptPoles_179 : decode cX1_adaptPoles 179 = .ok (.iload 7, 2) := by decide +kernel
theorem dX1_adaptPoles_181 : decode cX1_adaptPoles 181 = .ok (.ineg, 1) := by decide +kernel
theorem dX1_adaptPoles_182 : decode cX1_adaptPoles 182 = .ok (.iload 7, 2) := by decide +kernel
theorem dX1_adaptPoles_184 : decode cX1_adaptPoles 184 = .ok (.invokestatic 23, 3) := by decide +kernel
theorem dX1_adaptPoles_187 : decode cX1_adaptPoles 187 = .ok (.iastore, 1) := by decide +kernel
theorem dX1_adaptPoles_188 : decode cX1_adaptPoles 188 = .ok (.return_, 1) := by decide +kernel
theorem dX1_adaptZeros_0 : decode cX1_adaptZeros 0 = .ok (.iconst 0, 1) := by decide +kernel
theorem dX1_adaptZeros_1 : decode cX1_adaptZeros 1 = .ok (.istore_n 2, 1) := by decide +kernel
theorem dX1_adaptZeros_2 : decode cX1_adaptZeros 2 = .ok (.iload_n 2, 1) := by decide +kernel
theorem dX1_adaptZeros_3 : decode cX1_adaptZeros 3 = .ok (.bipush 6, 2) := by decide +kernel
theorem dX1_adaptZeros_5 : decode cX1_adaptZeros 5 = .ok (.if_icmp .ge 73, 3) := by decide +kernel
theorem dX1_adaptZeros_8 : decode cX1_adaptZeros 8 = .ok (.iload_n 1, 1) := by decide +kernel
theorem dX1_adaptZeros_9 : decode cX1_adaptZeros 9 = .ok (.invokestatic 48, 3) := by decide +kernel
theorem dX1_adaptZeros_12 : decode cX1_adaptZeros 12 = .ok (.aload_n 0, 1) := by decide +kernel
theorem dX1_adaptZeros_13 : decode cX1_adaptZeros 13 = .ok (.getfield 11, 3) := by decide +kernel
theorem dX1_adaptZeros_16 : decode cX1_adaptZeros 16 = .ok (.bipush 17, 2) := by decide +kernel
theorem dX1_adaptZeros_18 : decode cX1_adaptZeros 18 = .ok (.iload_n 2, 1) := by decide +kernel
theorem dX1_adaptZeros_19 : decode cX1_adaptZeros 19 = .ok (.iadd, 1) := by decide +kernel
theorem dX1_adaptZeros_20 : decode cX1_adaptZeros 20 = .ok (.iaload, 1) := by decide +kernel
theorem dX1_adaptZeros_21 : decode cX1_adaptZeros 21 = .ok (.invokestatic 48, 3) := by decide +kernel
theorem dX1_adaptZeros_24 : decode cX1_adaptZeros 24 = .ok (.if_icmp .ne 9, 3) := by decide +kernel
theorem dX1_adaptZeros_27 : decode cX1_adaptZeros 27 = .ok (.sipush 128, 3) := by decide +kernel
theorem dX1_adaptZeros_30 : decode cX1_adaptZeros 30 = .ok (.goto 5, 3) := by decide +kernel
theorem dX1_adaptZeros_33 : decode cX1_adaptZeros 33 = .ok (.bipush (-128), 2) := by decide +kernel
theorem dX1_adaptZeros_35 : decode cX1_adaptZeros 35 = .ok (.istore_n 3, 1) := by decide +kernel
theorem dX1_adaptZeros_36 : decode cX1_adaptZeros 36 = .ok (.iload_n 1, 1) := by decide +kernel
theorem dX1_adaptZeros_37 : decode cX1_adaptZeros 37 = .ok (.ifCond .ne 5, 3) := by decide +kernel
theorem dX1_adaptZeros_40 : decode cX1_adaptZeros 40 = .ok (.iconst 0, 1) := by decide +kernel
theorem dX1_adaptZeros_41 : decode cX1_adaptZeros 41 = .ok (.istore_n 3, 1) := by decide +kernel
theorem dX1_adaptZeros_42 : decode cX1_adaptZeros 42 = .ok (.aload_n 0, 1) := by decide +kernel
theorem dX1_adaptZeros_43 : decode cX1_adaptZeros 43 = .ok (.getfield 11, 3) := by decide +kernel
theorem dX1_adaptZeros_46 : decode cX1_adaptZeros 46 = .ok (.bipush 7, 2) := by decide +kernel
theorem dX1_adaptZeros_48 : decode cX1_adaptZeros 48 = .ok (.iload_n 2, 1) := by decide +kernel
theorem dX1_adaptZeros_49 : decode cX1_adaptZeros 49 = .ok (.iadd, 1) := by decide +kernel
theorem dX1_adaptZeros_50 : decode cX1_adaptZeros 50 = .ok (.iload_n 3, 1) := by decide +kernel
theorem dX1_adaptZeros_51 : decode cX1_adaptZeros 51 = .ok (.aload_n 0, 1) := by decide +kernel
theorem dX1_adaptZeros_52 : decode cX1_adaptZeros 52 = .ok (.getfield 11, 3) := by decide +kernel
theorem dX1_adaptZeros_55 : decode cX1_adaptZeros 55 = .ok (.bipush 7, 2) := by decide +kernel
theorem dX1_adaptZeros_57 : decode cX1_adaptZeros 57 = .ok (.iload_n 2, 1) := by decide +kernel
theorem dX1_adaptZeros_58 : decode cX1_adaptZeros 58 = .ok (.iadd, 1) := by decide +kernel
theorem dX1_adaptZeros_59 : decode cX1_adaptZeros 59 = .ok (.iaload, 1) := by decide +kernel
theorem dX1_adaptZeros_60 : decode cX1_adaptZeros 60 = .ok (.sipush 32640, 3) := by decide +kernel
theorem dX1_adaptZeros_63 : decode cX1_adaptZeros 63 = .ok (.imul, 1) := by decide +kernel
theorem dX1_adaptZeros_64 : decode cX1_adaptZeros 64 = .ok (.bipush 15, 2) := by decide +kernel
theorem dX1_adaptZeros_66 : decode cX1_adaptZeros 66 = .ok (.ishr, 1) := by decide +kernel
theorem dX1_adaptZeros_67 : decode cX1_adaptZeros 67 = .ok (.iadd, 1) := by decide +kernel
theorem dX1_adaptZeros_68 : decode cX1_adaptZeros 68 = .ok (.invokestatic 16, 3) := by decide +kernel
theorem dX1_adaptZeros_71 : decode cX1_adaptZeros 71 = .ok (.iastore, 1) := by decide +kernel
theorem dX1_adaptZeros_72 : decode cX1_adaptZeros 72 = .ok (.iinc 2 1, 3) := by decide +kernel
theorem dX1_adaptZeros_75 : decode cX1_adaptZeros 75 = .ok (.goto (-73), 3) := by decide +kernel
theorem dX1_adaptZeros_78 : decode cX1_adaptZeros 78 = .ok (.return_, 1) := by decide +kernel
theorem dX1_remember_0 : decode cX1_remember 0 = .ok (.iconst 5, 1) := by decide +kernel
theorem dX1_remember_1 : decode cX1_remember 1 = .ok (.istore 4, 2) := by decide +kernel
theorem dX1_remember_3 : decode cX1_remember 3 = .ok (.iload 4, 2) := by decide +kernel
theorem dX1_remember_5 : decode cX1_remember 5 = .ok (.ifCond .le 31, 3) := by decide +kernel
theorem dX1_remember_8 : decode cX1_remember 8 = .ok (.aload_n 0, 1) := by decide +kernel
theorem dX1_remember_9 : decode cX1_remember 9 = .ok (.getfield 11, 3) := by decide +kernel
theorem dX1_remember_12 : decode cX1_remember 12 = .ok (.bipush 17, 2) := by decide +kernel
theorem dX1_remember_14 : decode cX1_remember 14 = .ok (.iload 4, 2) := by decide +kernel
theorem dX1_remember_16 : decode cX1_remember 16 = .ok (.iadd, 1) := by decide +kernel
theorem dX1_remember_17 : decode cX1_remember 17 = .ok (.aload_n 0, 1) := by decide +kernel
theorem dX1_remember_18 : decode cX1_remember 18 = .ok (.getfield 11, 3) := by decide +kernel
theorem dX1_remember_21 : decode cX1_remember 21 = .ok (.bipush 17, 2) := by decide +kernel
theorem dX1_remember_23 : decode cX1_remember 23 = .ok (.iload 4, 2) := by decide +kernel
theorem dX1_remember_25 : decode cX1_remember 25 = .ok (.iadd, 1) := by decide +kernel
theorem dX1_remember_26 : decode cX1_remember 26 = .ok (.iconst 1, 1) := by decide +kernel
theorem dX1_remember_27 : decode cX1_remember 27 = .ok (.isub, 1) := by decide +kernel
theorem dX1_remember_28 : decode cX1_remember 28 = .ok (.iaload, 1) := by decide +kernel
theorem dX1_remember_29 : decode cX1_remember 29 = .ok (.iastore, 1) := by decide +kernel
theorem dX1_remember_30 : decode cX1_remember 30 = .ok (.iinc 4 (-1), 3) := by decide +kernel
theorem dX1_remember_33 : decode cX1_remember 33 = .ok (.goto (-30), 3) := by decide +kernel
theorem dX1_remember_36 : decode cX1_remember 36 = .ok (.aload_n 0, 1) := by decide +kernel
theorem dX1_remember_37 : decode cX1_remember 37 = .ok (.getfield 11, 3) := by decide +kernel
theorem dX1_remember_40 : decode cX1_remember 40 = .ok (.bipush 17, 2) := by decide +kernel
theorem dX1_remember_42 : decode cX1_remember 42 = .ok (.iload_n 1, 1) := by decide +kernel
theorem dX1_remember_43 : decode cX1_remember 43 = .ok (.iastore, 1) := by decide +kernel
theorem dX1_remember_44 : decode cX1_remember 44 = .ok (.aload_n 0, 1) := by decide +kernel
theorem dX1_remember_45 : decode cX1_remember 45 = .ok (.getfield 11, 3) := by decide +kernel
theorem dX1_remember_48 : decode cX1_remember 48 = .ok (.bipush 14, 2) := by decide +kernel
theorem dX1_remember_50 : decode cX1_remember 50 = .ok (.aload_n 0, 1) := by decide +kernel
theorem dX1_remember_51 : decode cX1_remember 51 = .ok (.getfield 11, 3) := by decide +kernel
theorem dX1_remember_54 : decode cX1_remember 54 = .ok (.bipush 13, 2) := by decide +kernel
theorem dX1_remember_56 : decode cX1_remember 56 = .ok (.iaload, 1) := by decide +kernel
theorem dX1_remember_57 : decode cX1_remember 57 = .ok (.iastore, 1) := by decide +kernel
theorem dX1_remember_58 : decode cX1_remember 58 = .ok (.aload_n 0, 1) := by decide +kernel
theorem dX1_remember_59 : decode cX1_remember 59 = .ok (.getfield 11, 3) := by decide +kernel
theorem dX1_remember_62 : decode cX1_remember 62 = .ok (.bipush 13, 2) := by decide +kernel
theorem dX1_remember_64 : decode cX1_remember 64 = .ok (.iload_n 2, 1) := by decide +kernel
theorem dX1_remember_65 : decode cX1_remember 65 = .ok (.iastore, 1) := by decide +kernel
theorem dX1_remember_66 : decode cX1_remember 66 = .ok (.aload_n 0, 1) := by decide +kernel
theorem dX1_remember_67 : decode cX1_remember 67 = .ok (.getfield 11, 3) := by decide +kernel
theorem dX1_remember_70 : decode cX1_remember 70 = .ok (.bipush 16, 2) := by decide +kernel
theorem dX1_remember_72 : decode cX1_remember 72 = .ok (.aload_n 0, 1) := by decide +kernel
theorem dX1_remember_73 : decode cX1_remember 73 = .ok (.getfield 11, 3) := by decide +kernel
theorem dX1_remember_76 : decode cX1_remember 76 = .ok (.bipush 15, 2) := by decide +kernel
theorem dX1_remember_78 : decode cX1_remember 78 = .ok (.iaload, 1) := by decide +kernel
theorem dX1_remember_79 : decode cX1_remember 79 = .ok (.iastore, 1) := by decide +kernel
theorem dX1_remember_80 : decode cX1_remember 80 = .ok (.aload_n 0, 1) := by decide +kernel
theorem dX1_remember_81 : decode cX1_remember 81 = .ok (.getfield 11, 3) := by decide +kernel
theorem dX1_remember_84 : decode cX1_remember 84 = .ok (.bipush 15, 2) := by decide +kernel
theorem dX1_remember_86 : decode cX1_remember 86 = .ok (.iload_n 3, 1) := by decide +kernel
theorem dX1_remember_87 : decode cX1_remember 87 = .ok (.iastore, 1) := by decide +kernel
theorem dX1_remember_88 : decode cX1_remember 88 = .ok (.return_, 1) := by decide +kernel
theorem dX2_init_0 : decode cX2_init 0 = .ok (.aload_n 0, 1) := by decide +kernel
theorem dX2_init_1 : decode cX2_init 1 = .ok (.invokespecial 3, 3) := by decide +kernel
theorem dX2_init_4 : decode cX2_init 4 = .ok (.aload_n 0, 1) := by decide +kernel
theorem dX2_init_5 : decode cX2_init 5 = .ok (.sipush 1000, 3) := by decide +kernel
theorem dX2_init_8 : decode cX2_init 8 = .ok (.newarray .int, 2) := by decide +kernel
theorem dX2_init_10 : decode cX2_init 10 = .ok (.putfield 11, 3) := by decide +kernel
theorem dX2_init_13 : decode cX2_init 13 = .ok (.aload_n 0, 1) := by decide +kernel
theorem dX2_init_14 : decode cX2_init 14 = .ok (.iconst 0, 1) := by decide +kernel
theorem dX2_init_15 : decode cX2_init 15 = .ok (.putfield 15, 3) := by decide +kernel
theorem dX2_init_18 : decode cX2_init 18 = .ok (.return_, 1) := by decide +kernel
theorem dX2_needed_0 : decode cX2_needed 0 = .ok (.iload_n 0, 1) := by decide +kernel
theorem dX2_needed_1 : decode cX2_needed 1 = .ok (.bipush 7, 2) := by decide +kernel
theorem dX2_needed_3 : decode cX2_needed 3 = .ok (.iadd, 1) := by decide +kernel
theorem dX2_needed_4 : decode cX2_needed 4 = .ok (.iconst 3, 1) := by decide +kernel
theorem dX2_needed_5 : decode cX2_needed 5 = .ok (.ishr, 1) := by decide +kernel
theorem dX2_needed_6 : decode cX2_needed 6 = .ok (.ireturn, 1) := by decide +kernel
theorem dX2_byteAt_0 : decode cX2_byteAt 0 = .ok (.iload_n 1, 1) := by decide +kernel
theorem dX2_byteAt_1 : decode cX2_byteAt 1 = .ok (.ifCond .lt 11, 3) := by decide +kernel
theorem dX2_byteAt_4 : decode cX2_byteAt 4 = .ok (.iload_n 1, 1) := by decide +kernel
theorem dX2_byteAt_5 : decode cX2_byteAt 5 = .ok (.aload_n 0, 1) := by decide +kernel
theorem dX2_byteAt_6 : decode cX2_byteAt 6 = .ok (.getfield 15, 3) := by decide +kernel
theorem dX2_byteAt_9 : decode cX2_byteAt 9 = .ok (.if_icmp .lt 8, 3) := by decide +kernel
theorem dX2_byteAt_12 : decode cX2_byteAt 12 = .ok (.ldc 19, 2) := by decide +kernel
theorem dX2_byteAt_14 : decode cX2_byteAt 14 = .ok (.goto 9, 3) := by decide +kernel
theorem dX2_byteAt_17 : decode cX2_byteAt 17 = .ok (.aload_n 0, 1) := by decide +kernel
theorem dX2_byteAt_18 : decode cX2_byteAt 18 = .ok (.getfield 11, 3) := by decide +kernel
theorem dX2_byteAt_21 : decode cX2_byteAt 21 = .ok (.iload_n 1, 1) := by decide +kernel
theorem dX2_byteAt_22 : decode cX2_byteAt 22 = .ok (.iaload, 1) := by decide +kernel
theorem dX2_byteAt_23 : decode cX2_byteAt 23 = .ok (.ireturn, 1) := by decide +kernel
theorem dX2_add_0 : decode cX2_add 0 = .ok (.aload_n 0, 1) := by decide +kernel
theorem dX2_add_1 : decode cX2_add 1 = .ok (.getfield 15, 3) := by decide +kernel
theorem dX2_add_4 : decode cX2_add 4 = .ok (.sipush 1000, 3) := by decide +kernel
theorem dX2_add_7 : decode cX2_add 7 = .ok (.if_icmp .ge 27, 3) := by decide +kernel
theorem dX2_add_10 : decode cX2_add 10 = .ok (.aload_n 0, 1) := by decide +kernel
theorem dX2_add_11 : decode cX2_add 11 = .ok (.getfield 11, 3) := by decide +kernel
theorem dX2_add_14 : decode cX2_add 14 = .ok (.aload_n 0, 1) := by decide +kernel
theorem dX2_add_15 : decode cX2_add 15 = .ok (.getfield 15, 3) := by decide +kernel
theorem dX2_add_18 : decode cX2_add 18 = .ok (.iload_n 1, 1) := by decide +kernel
theorem dX2_add_19 : decode cX2_add 19 = .ok (.sipush 255, 3) := by decide +kernel
theorem dX2_add_22 : decode cX2_add 22 = .ok (.iand, 1) := by decide +kernel
theorem dX2_add_23 : decode cX2_add 23 = .ok (.iastore, 1) := by decide +kernel
theorem dX2_add_24 : decode cX2_add 24 = .ok (.aload_n 0, 1) := by decide +kernel
theorem dX2_add_25 : decode cX2_add 25 = .ok (.dup, 1) := by decide +kernel
theorem dX2_add_26 : decode cX2_add 26 = .ok (.getfield 15, 3) := by decide +kernel
theorem dX2_add_29 : decode cX2_add 29 = .ok (.iconst 1, 1) := by decide +kernel
theorem dX2_add_30 : decode cX2_add 30 = .ok (.iadd, 1) := by decide +kernel
theorem dX2_add_31 : decode cX2_add 31 = .ok (.putfield 15, 3) := by decide +kernel
theorem dX2_add_34 : decode cX2_add 34 = .ok (.return_, 1) := by decide +kernel
theorem dX2_addInt_0 : decode cX2_addInt 0 = .ok (.aload_n 0, 1) := by decide +kernel
theorem dX2_addInt_1 : decode cX2_addInt 1 = .ok (.iload_n 1, 1) := by decide +kernel
theorem dX2_addInt_2 : decode cX2_addInt 2 = .ok (.bipush 24, 2) := by decide +kernel
theorem dX2_addInt_4 : decode cX2_addInt 4 = .ok (.ishr, 1) := by decide +kernel
theorem dX2_addInt_5 : decode cX2_addInt 5 = .ok (.invokevirtual 20, 3) := by decide +kernel
theorem dX2_addInt_8 : decode cX2_addInt 8 = .ok (.aload_n 0, 1) := by decide +kernel
theorem dX2_addInt_9 : decode cX2_addInt 9 = .ok (.iload_n 1, 1) := by decide +kernel
theorem dX2_addInt_10 : decode cX2_addInt 10 = .ok (.bipush 16, 2) := by decide +kernel
theorem dX2_addInt_12 : decode cX2_addInt 12 = .ok (.ishr, 1) := by decide +kernel
theorem dX2_addInt_13 : decode cX2_addInt 13 = .ok (.invokevirtual 20, 3) := by decide +kernel
theorem dX2_addInt_16 : decode cX2_addInt 16 = .ok (.aload_n 0, 1) := by decide +kernel
theorem dX2_addInt_17 : decode cX2_addInt 17 = .ok (.iload_n 1, 1) := by decide +kernel
theorem dX2_addInt_18 : decode cX2_addInt 18 = .ok (.bipush 8, 2) := by decide +kernel
theorem dX2_addInt_20 : decode cX2_addInt 20 = .ok (.ishr, 1) := by decide +kernel
theorem dX2_addInt_21 : decode cX2_addInt 21 = .ok (.invokevirtual 20, 3) := by decide +kernel
theorem dX2_addInt_24 : decode cX2_addInt 24 = .ok (.aload_n 0, 1) := by decide +kernel
theorem dX2_addInt_25 : decode cX2_addInt 25 = .ok (.iload_n 1, 1) := by decide +kernel
theorem dX2_addInt_26 : decode cX2_addInt 26 = .ok (.invokevirtual 20, 3) := by decide +kernel
theorem dX2_addInt_29 : decode cX2_addInt 29 = .ok (.return_, 1) := by decide +kernel
theorem dX2_addSample_0 : decode cX2_addSample 0 = .ok (.aload_n 0, 1) := by decide +kernel
theorem dX2_addSample_1 : decode cX2_addSample 1 = .ok (.iload_n 1, 1) := by decide +kernel
theorem dX2_addSample_2 : decode cX2_addSample 2 = .ok (.bipush 8, 2) := by decide +kernel
theorem dX2_addSample_4 : decode cX2_addSample 4 = .ok (.ishr, 1) := by decide +kernel
theorem dX2_addSample_5 : decode cX2_addSample 5 = .ok (.invokevirtual 20, 3) := by decide +kernel
theorem dX2_addSample_8 : decode cX2_addSample 8 = .ok (.aload_n 0, 1) := by decide +kernel
theorem dX2_addSample_9 : decode cX2_addSample 9 = .ok (.iload_n 1, 1) := by decide +kernel
theorem dX2_addSample_10 : decode cX2_addSample 10 = .ok (.invokevirtual 20, 3) := by decide +kernel
theorem dX2_addSample_13 : decode cX2_addSample 13 = .ok (.return_, 1) := by decide +kernel
theorem dX2_sampleAt_0 : decode cX2_sampleAt 0 = .ok (.aload_n 0, 1) := by decide +kernel
theorem dX2_sampleAt_1 : decode cX2_sampleAt 1 = .ok (.iload_n 1, 1) := by decide +kernel
theorem dX2_sampleAt_2 : decode cX2_sampleAt 2 = .ok (.invokevirtual 24, 3) := by decide +kernel
theorem dX2_sampleAt_5 : decode cX2_sampleAt 5 = .ok (.bipush 8, 2) := by decide +kernel
theorem dX2_sampleAt_7 : decode cX2_sampleAt 7 = .ok (.ishl, 1) := by decide +kernel
theorem dX2_sampleAt_8 : decode cX2_sampleAt 8 = .ok (.aload_n 0, 1) := by decide +kernel
theorem dX2_sampleAt_9 : decode cX2_sampleAt 9 = .ok (.iload_n 1, 1) := by decide +kernel
theorem dX2_sampleAt_10 : decode cX2_sampleAt 10 = .ok (.iconst 1, 1) := by decide +kernel
theorem dX2_sampleAt_11 : decode cX2_sampleAt 11 = .ok (.iadd, 1) := by decide +kernel
theorem dX2_sampleAt_12 : decode cX2_sampleAt 12 = .ok (.invokevirtual 24, 3) := by decide +kernel
theorem dX2_sampleAt_15 : decode cX2_sampleAt 15 = .ok (.ior, 1) := by decide +kernel
theorem dX2_sampleAt_16 : decode cX2_sampleAt 16 = .ok (.invokestatic 28, 3) := by decide +kernel
theorem dX2_sampleAt_19 : decode cX2_sampleAt 19 = .ok (.ireturn, 1) := by decide +kernel
theorem dX2_copyFrom_0 : decode cX2_copyFrom 0 = .ok (.aload_n 0, 1) := by decide +kernel
theorem dX2_copyFrom_1 : decode cX2_copyFrom 1 = .ok (.aload_n 1, 1) := by decide +kernel
theorem dX2_copyFrom_2 : decode cX2_copyFrom 2 = .ok (.getfield 15, 3) := by decide +kernel
theorem dX2_copyFrom_5 : decode cX2_copyFrom 5 = .ok (.putfield 15, 3) := by decide +kernel
theorem dX2_copyFrom_8 : decode cX2_copyFrom 8 = .ok (.iconst 0, 1) := by decide +kernel
theorem dX2_copyFrom_9 : decode cX2_copyFrom 9 = .ok (.istore_n 2, 1) := by decide +kernel
theorem dX2_copyFrom_10 : decode cX2_copyFrom 10 = .ok (.iload_n 2, 1) := by decide +kernel
theorem dX2_copyFrom_11 : decode cX2_copyFrom 11 = .ok (.aload_n 0, 1) := by decide +kernel
theorem dX2_copyFrom_12 : decode cX2_copyFrom 12 = .ok (.getfield 15, 3) := by decide +kernel
theorem dX2_copyFrom_15 : decode cX2_copyFrom 15 = .ok (.if_icmp .ge 21, 3) := by decide +kernel
theorem dX2_copyFrom_18 : decode cX2_copyFrom 18 = .ok (.aload_n 0, 1) := by decide +kernel
theorem dX2_copyFrom_19 : decode cX2_copyFrom 19 = .ok (.getfield 11, 3) := by decide +kernel
theorem dX2_copyFrom_22 : decode cX2_copyFrom 22 = .ok (.iload_n 2, 1) := by decide +kernel
theorem dX2_copyFrom_23 : decode cX2_copyFrom 23 = .ok (.aload_n 1, 1) := by decide +kernel
theorem dX2_copyFrom_24 : decode cX2_copyFrom 24 = .ok (.getfield 11, 3) := by decide +kernel
theorem dX2_copyFrom_27 : decode cX2_copyFrom 27 = .ok (.iload_n 2, 1) := by decide +kernel
theorem dX2_copyFrom_28 : decode cX2_copyFrom 28 = .ok (.iaload, 1) := by decide +kernel
theorem dX2_copyFrom_29 : decode cX2_copyFrom 29 = .ok (.iastore, 1) := by decide +kernel
theorem dX2_copyFrom_30 : decode cX2_copyFrom 30 = .ok (.iinc 2 1, 3) := by decide +kernel
theorem dX2_copyFrom_33 : decode cX2_copyFrom 33 = .ok (.goto (-23), 3) := by decide +kernel
theorem dX2_copyFrom_36 : decode cX2_copyFrom 36 = .ok (.return_, 1) := by decide +kernel
theorem dX2_clearFor_0 : decode cX2_clearFor 0 = .ok (.aload_n 0, 1) := by decide +kernel
theorem dX2_clearFor_1 : decode cX2_clearFor 1 = .ok (.sipush 1000, 3) := by decide +kernel
theorem dX2_clearFor_4 : decode cX2_clearFor 4 = .ok (.iload_n 1, 1) := by decide +kernel
theorem dX2_clearFor_5 : decode cX2_clearFor 5 = .ok (.invokestatic 31, 3) := by decide +kernel
theorem dX2_clearFor_8 : decode cX2_clearFor 8 = .ok (.invokestatic 34, 3) := by decide +kernel
theorem dX2_clearFor_11 : decode cX2_clearFor 11 = .ok (.putfield 15, 3) := by decide +kernel
theorem dX2_clearFor_14 : decode cX2_clearFor 14 = .ok (.iconst 0, 1) := by decide +kernel
theorem dX2_clearFor_15 : decode cX2_clearFor 15 = .ok (.istore_n 2, 1) := by decide +kernel
theorem dX2_clearFor_16 : decode cX2_clearFor 16 = .ok (.iload_n 2, 1) := by decide +kernel
theorem dX2_clearFor_17 : decode cX2_clearFor 17 = .ok (.aload_n 0, 1) := by decide +kernel
theorem dX2_clearFor_18 : decode cX2_clearFor 18 = .ok (.getfield 15, 3) := by decide +kernel
theorem dX2_clearFor_21 : decode cX2_clearFor 21 = .ok (.if_icmp .ge 16, 3) := by decide +kernel
theorem dX2_clearFor_24 : decode cX2_clearFor 24 = .ok (.aload_n 0, 1) := by decide +kernel
theorem dX2_clearFor_25 : decode cX2_clearFor 25 = .ok (.getfield 11, 3) := by decide +kernel
theorem dX2_clearFor_28 : decode cX2_clearFor 28 = .ok (.iload_n 2, 1) := by decide +kernel
theorem dX2_clearFor_29 : decode cX2_clearFor 29 = .ok (.iconst 0, 1) := by decide +kernel
theorem dX2_clearFor_30 : decode cX2_clearFor 30 = .ok (.iastore, 1) := by decide +kernel
theorem dX2_clearFor_31 : decode cX2_clearFor 31 = .ok (.iinc 2 1, 3) := by decide +kernel
theorem dX2_clearFor_34 : decode cX2_clearFor 34 = .ok (.goto (-18), 3) := by decide +kernel
theorem dX2_clearFor_37 : decode cX2_clearFor 37 = .ok (.return_, 1) := by decide +kernel
end
section
theorem dX2_putCode_0 : decode cX2_putCode 0 = .ok (.iconst 0, 1) := by decide +kernel
theorem dX2_putCode_1 : decode cX2_putCode 1 = .ok (.istore 5, 2) := by decide +kernel
theorem dX2_putCode_3 : decode cX2_putCode 3 = .ok (.iload 5, 2) := by decide +kernel
theorem dX2_putCode_5 : decode cX2_putCode 5 = .ok (.iload_n 2, 1) := by decide +kernel
theorem dX2_putCode_6 : decode cX2_putCode 6 = .ok (.if_icmp .ge 70, 3) := by decide +kernel
theorem dX2_putCode_9 : decode cX2_putCode 9 = .ok (.iload_n 1, 1) := by decide +kernel
theorem dX2_putCode_10 : decode cX2_putCode 10 = .ok (.iload_n 2, 1) := by decide +kernel
theorem dX2_putCode_11 : decode cX2_putCode 11 = .ok (.imul, 1) := by decide +kernel
theorem dX2_putCode_12 : decode cX2_putCode 12 = .ok (.iload 5, 2) := by decide +kernel
theorem dX2_putCode_14 : decode cX2_putCode 14 = .ok (.iadd, 1) := by decide +kernel
theorem dX2_putCode_15 : decode cX2_putCode 15 = .ok (.istore 6, 2) := by decide +kernel
theorem dX2_putCode_17 : decode cX2_putCode 17 = .ok (.iload 6, 2) := by decide +kernel
theorem dX2_putCode_19 : decode cX2_putCode 19 = .ok (.iconst 3, 1) := by decide +kernel
theorem dX2_putCode_20 : decode cX2_putCode 20 = .ok (.ishr, 1) := by decide +kernel
theorem dX2_putCode_21 : decode cX2_putCode 21 = .ok (.istore 7, 2) := by decide +kernel
theorem dX2_putCode_23 : decode cX2_putCode 23 = .ok (.iload 4, 2) := by decide +kernel
theorem dX2_putCode_25 : decode cX2_putCode 25 = .ok (.iload 5, 2) := by decide +kernel
theorem dX2_putCode_27 : decode cX2_putCode 27 = .ok (.iload_n 2, 1) := by decide +kernel
theorem dX2_putCode_28 : decode cX2_putCode 28 = .ok (.iload_n 3, 1) := by decide +kernel
theorem dX2_putCode_29 : decode cX2_putCode 29 = .ok (.invokestatic 40, 3) := by decide +kernel
theorem dX2_putCode_32 : decode cX2_putCode 32 = .ok (.ishr, 1) := by decide +kernel
theorem dX2_putCode_33 : decode cX2_putCode 33 = .ok (.iconst 1, 1) := by decide +kernel
theorem dX2_putCode_34 : decode cX2_putCode 34 = .ok (.iand, 1) := by decide +kernel
theorem dX2_putCode_35 : decode cX2_putCode 35 = .ok (.istore 8, 2) := by decide +kernel
theorem dX2_putCode_37 : decode cX2_putCode 37 = .ok (.iload 7, 2) := by decide +kernel
theorem dX2_putCode_39 : decode cX2_putCode 39 = .ok (.ifCond .lt 31, 3) := by decide +kernel
theorem dX2_putCode_42 : decode cX2_putCode 42 = .ok (.iload 7, 2) := by decide +kernel
theorem dX2_putCode_44 : decode cX2_putCode 44 = .ok (.aload_n 0, 1) := by decide +kernel
theorem dX2_putCode_45 : decode cX2_putCode 45 = .ok (.getfield 15, 3) := by decide +kernel
theorem dX2_putCode_48 : decode cX2_putCode 48 = .ok (.if_icmp .ge 22, 3) := by decide +kernel
theorem dX2_putCode_51 : decode cX2_putCode 51 = .ok (.aload_n 0, 1) := by decide +kernel
theorem dX2_putCode_52 : decode cX2_putCode 52 = .ok (.getfield 11, 3) := by decide +kernel
theorem dX2_putCode_55 : decode cX2_putCode 55 = .ok (.iload 7, 2) := by decide +kernel
theorem dX2_putCode_57 : decode cX2_putCode 57 = .ok (.dup2, 1) := by decide +kernel
theorem dX2_putCode_58 : decode cX2_putCode 58 = .ok (.iaload, 1) := by decide +kernel
theorem dX2_putCode_59 : decode cX2_putCode 59 = .ok (.iload 8, 2) := by decide +kernel
theorem dX2_putCode_61 : decode cX2_putCode 61 = .ok (.iload 6, 2) := by decide +kernel
theorem dX2_putCode_63 : decode cX2_putCode 63 = .ok (.iload_n 3, 1) := by decide +kernel
theorem dX2_putCode_64 : decode cX2_putCode 64 = .ok (.invokestatic 44, 3) := by decide +kernel
theorem dX2_putCode_67 : decode cX2_putCode 67 = .ok (.ishl, 1) := by decide +kernel
theorem dX2_putCode_68 : decode cX2_putCode 68 = .ok (.ior, 1) := by decide +kernel
theorem dX2_putCode_69 : decode cX2_putCode 69 = .ok (.iastore, 1) := by decide +kernel
theorem dX2_putCode_70 : decode cX2_putCode 70 = .ok (.iinc 5 1, 3) := by decide +kernel
theorem dX2_putCode_73 : decode cX2_putCode 73 = .ok (.goto (-70), 3) := by decide +kernel
theorem dX2_putCode_76 : decode cX2_putCode 76 = .ok (.return_, 1) := by decide +kernel
theorem dX2_codeAt_0 : decode cX2_codeAt 0 = .ok (.iconst 0, 1) := by decide +kernel
theorem dX2_codeAt_1 : decode cX2_codeAt 1 = .ok (.istore 4, 2) := by decide +kernel
theorem dX2_codeAt_3 : decode cX2_codeAt 3 = .ok (.iconst 0, 1) := by decide +kernel
theorem dX2_codeAt_4 : decode cX2_codeAt 4 = .ok (.istore 5, 2) := by decide +kernel
theorem dX2_codeAt_6 : decode cX2_codeAt 6 = .ok (.iload 5, 2) := by decide +kernel
theorem dX2_codeAt_8 : decode cX2_codeAt 8 = .ok (.iload_n 2, 1) := by decide +kernel
theorem dX2_codeAt_9 : decode cX2_codeAt 9 = .ok (.if_icmp .ge 51, 3) := by decide +kernel
theorem dX2_codeAt_12 : decode cX2_codeAt 12 = .ok (.iload_n 1, 1) := by decide +kernel
theorem dX2_codeAt_13 : decode cX2_codeAt 13 = .ok (.iload_n 2, 1) := by decide +kernel
theorem dX2_codeAt_14 : decode cX2_codeAt 14 = .ok (.imul, 1) := by decide +kernel
theorem dX2_codeAt_15 : decode cX2_codeAt 15 = .ok (.iload 5, 2) := by decide +kernel
theorem dX2_codeAt_17 : decode cX2_codeAt 17 = .ok (.iadd, 1) := by decide +kernel
theorem dX2_codeAt_18 : decode cX2_codeAt 18 = .ok (.istore 6, 2) := by decide +kernel
theorem dX2_codeAt_20 : decode cX2_codeAt 20 = .ok (.aload_n 0, 1) := by decide +kernel
theorem dX2_codeAt_21 : decode cX2_codeAt 21 = .ok (.iload 6, 2) := by decide +kernel
theorem dX2_codeAt_23 : decode cX2_codeAt 23 = .ok (.iconst 3, 1) := by decide +kernel
theorem dX2_codeAt_24 : decode cX2_codeAt 24 = .ok (.ishr, 1) := by decide +kernel
theorem dX2_codeAt_25 : decode cX2_codeAt 25 = .ok (.invokevirtual 24, 3) := by decide +kernel
theorem dX2_codeAt_28 : decode cX2_codeAt 28 = .ok (.iload 6, 2) := by decide +kernel
theorem dX2_codeAt_30 : decode cX2_codeAt 30 = .ok (.iload_n 3, 1) := by decide +kernel
theorem dX2_codeAt_31 : decode cX2_codeAt 31 = .ok (.invokestatic 44, 3) := by decide +kernel
theorem dX2_codeAt_34 : decode cX2_codeAt 34 = .ok (.ishr, 1) := by decide +kernel
theorem dX2_codeAt_35 : decode cX2_codeAt 35 = .ok (.iconst 1, 1) := by decide +kernel
theorem dX2_codeAt_36 : decode cX2_codeAt 36 = .ok (.iand, 1) := by decide +kernel
theorem dX2_codeAt_37 : decode cX2_codeAt 37 = .ok (.istore 7, 2) := by decide +kernel
theorem dX2_codeAt_39 : decode cX2_codeAt 39 = .ok (.iload 4, 2) := by decide +kernel
theorem dX2_codeAt_41 : decode cX2_codeAt 41 = .ok (.iload 7, 2) := by decide +kernel
theorem dX2_codeAt_43 : decode cX2_codeAt 43 = .ok (.iload 5, 2) := by decide +kernel
theorem dX2_codeAt_45 : decode cX2_codeAt 45 = .ok (.iload_n 2, 1) := by decide +kernel
theorem dX2_codeAt_46 : decode cX2_codeAt 46 = .ok (.iload_n 3, 1) := by decide +kernel
theorem dX2_codeAt_47 : decode cX2_codeAt 47 = .ok (.invokestatic 40, 3) := by decide +kernel
theorem dX2_codeAt_50 : decode cX2_codeAt 50 = .ok (.ishl, 1) := by decide +kernel
theorem dX2_codeAt_51 : decode cX2_codeAt 51 = .ok (.ior, 1) := by decide +kernel
theorem dX2_codeAt_52 : decode cX2_codeAt 52 = .ok (.istore 4, 2) := by decide +kernel
theorem dX2_codeAt_54 : decode cX2_codeAt 54 = .ok (.iinc 5 1, 3) := by decide +kernel
theorem dX2_codeAt_57 : decode cX2_codeAt 57 = .ok (.goto (-51), 3) := by decide +kernel
theorem dX2_codeAt_60 : decode cX2_codeAt 60 = .ok (.iload 4, 2) := by decide +kernel
theorem dX2_codeAt_62 : decode cX2_codeAt 62 = .ok (.ireturn, 1) := by decide +kernel
theorem dX2_codeBit_0 : decode cX2_codeBit 0 = .ok (.iload_n 2, 1) := by decide +kernel
theorem dX2_codeBit_1 : decode cX2_codeBit 1 = .ok (.ifCond .eq 11, 3) := by decide +kernel
theorem dX2_codeBit_4 : decode cX2_codeBit 4 = .ok (.iload_n 1, 1) := by decide +kernel
theorem dX2_codeBit_5 : decode cX2_codeBit 5 = .ok (.iconst 1, 1) := by decide +kernel
theorem dX2_codeBit_6 : decode cX2_codeBit 6 = .ok (.isub, 1) := by decide +kernel
theorem dX2_codeBit_7 : decode cX2_codeBit 7 = .ok (.iload_n 0, 1) := by decide +kernel
theorem dX2_codeBit_8 : decode cX2_codeBit 8 = .ok (.isub, 1) := by decide +kernel
theorem dX2_codeBit_9 : decode cX2_codeBit 9 = .ok (.goto 4, 3) := by decide +kernel
theorem dX2_codeBit_12 : decode cX2_codeBit 12 = .ok (.iload_n 0, 1) := by decide +kernel
theorem dX2_codeBit_13 : decode cX2_codeBit 13 = .ok (.ireturn, 1) := by decide +kernel
theorem dX2_byteBit_0 : decode cX2_byteBit 0 = .ok (.iload_n 1, 1) := by decide +kernel
theorem dX2_byteBit_1 : decode cX2_byteBit 1 = .ok (.ifCond .eq 13, 3) := by decide +kernel
theorem dX2_byteBit_4 : decode cX2_byteBit 4 = .ok (.bipush 7, 2) := by decide +kernel
theorem dX2_byteBit_6 : decode cX2_byteBit 6 = .ok (.iload_n 0, 1) := by decide +kernel
theorem dX2_byteBit_7 : decode cX2_byteBit 7 = .ok (.bipush 7, 2) := by decide +kernel
theorem dX2_byteBit_9 : decode cX2_byteBit 9 = .ok (.iand, 1) := by decide +kernel
theorem dX2_byteBit_10 : decode cX2_byteBit 10 = .ok (.isub, 1) := by decide +kernel
theorem dX2_byteBit_11 : decode cX2_byteBit 11 = .ok (.goto 7, 3) := by decide +kernel
theorem dX2_byteBit_14 : decode cX2_byteBit 14 = .ok (.iload_n 0, 1) := by decide +kernel
theorem dX2_byteBit_15 : decode cX2_byteBit 15 = .ok (.bipush 7, 2) := by decide +kernel
theorem dX2_byteBit_17 : decode cX2_byteBit 17 = .ok (.iand, 1) := by decide +kernel
theorem dX2_byteBit_18 : decode cX2_byteBit 18 = .ok (.ireturn, 1) := by decide +kernel
theorem dX3_muCode_0 : decode cX3_muCode 0 = .ok (.iload_n 0, 1) := by decide +kernel
theorem dX3_muCode_1 : decode cX3_muCode 1 = .ok (.iconst 2, 1) := by decide +kernel
theorem dX3_muCode_2 : decode cX3_muCode 2 = .ok (.ishr, 1) := by decide +kernel
theorem dX3_muCode_3 : decode cX3_muCode 3 = .ok (.istore_n 1, 1) := by decide +kernel
theorem dX3_muCode_4 : decode cX3_muCode 4 = .ok (.iload_n 1, 1) := by decide +kernel
theorem dX3_muCode_5 : decode cX3_muCode 5 = .ok (.invokestatic 9, 3) := by decide +kernel
theorem dX3_muCode_8 : decode cX3_muCode 8 = .ok (.sipush 8158, 3) := by decide +kernel
theorem dX3_muCode_11 : decode cX3_muCode 11 = .ok (.invokestatic 17, 3) := by decide +kernel
theorem dX3_muCode_14 : decode cX3_muCode 14 = .ok (.bipush 33, 2) := by decide +kernel
theorem dX3_muCode_16 : decode cX3_muCode 16 = .ok (.iadd, 1) := by decide +kernel
theorem dX3_muCode_17 : decode cX3_muCode 17 = .ok (.istore_n 2, 1) := by decide +kernel
theorem dX3_muCode_18 : decode cX3_muCode 18 = .ok (.iload_n 2, 1) := by decide +kernel
theorem dX3_muCode_19 : decode cX3_muCode 19 = .ok (.bipush 64, 2) := by decide +kernel
theorem dX3_muCode_21 : decode cX3_muCode 21 = .ok (.invokestatic 21, 3) := by decide +kernel
theorem dX3_muCode_24 : decode cX3_muCode 24 = .ok (.istore_n 3, 1) := by decide +kernel
theorem dX3_muCode_25 : decode cX3_muCode 25 = .ok (.iload_n 1, 1) := by decide +kernel
theorem dX3_muCode_26 : decode cX3_muCode 26 = .ok (.ifCond .ge 8, 3) := by decide +kernel
theorem dX3_muCode_29 : decode cX3_muCode 29 = .ok (.bipush 127, 2) := by decide +kernel
theorem dX3_muCode_31 : decode cX3_muCode 31 = .ok (.goto 6, 3) := by decide +kernel
theorem dX3_muCode_34 : decode cX3_muCode 34 = .ok (.sipush 255, 3) := by decide +kernel
theorem dX3_muCode_37 : decode cX3_muCode 37 = .ok (.istore 4, 2) := by decide +kernel
theorem dX3_muCode_39 : decode cX3_muCode 39 = .ok (.iload 4, 2) := by decide +kernel
theorem dX3_muCode_41 : decode cX3_muCode 41 = .ok (.bipush 16, 2) := by decide +kernel
theorem dX3_muCode_43 : decode cX3_muCode 43 = .ok (.iload_n 3, 1) := by decide +kernel
theorem dX3_muCode_44 : decode cX3_muCode 44 = .ok (.imul, 1) := by decide +kernel
theorem dX3_muCode_45 : decode cX3_muCode 45 = .ok (.iload_n 2, 1) := by decide +kernel
theorem dX3_muCode_46 : decode cX3_muCode 46 = .ok (.iload_n 3, 1) := by decide +kernel
theorem dX3_muCode_47 : decode cX3_muCode 47 = .ok (.iconst 1, 1) := by decide +kernel
theorem dX3_muCode_48 : decode cX3_muCode 48 = .ok (.iadd, 1) := by decide +kernel
theorem dX3_muCode_49 : decode cX3_muCode 49 = .ok (.ishr, 1) := by decide +kernel
theorem dX3_muCode_50 : decode cX3_muCode 50 = .ok (.bipush 15, 2) := by decide +kernel
theorem dX3_muCode_52 : decode cX3_muCode 52 = .ok (.iand, 1) := by decide +kernel
theorem dX3_muCode_53 : decode cX3_muCode 53 = .ok (.iadd, 1) := by decide +kernel
theorem dX3_muCode_54 : decode cX3_muCode 54 = .ok (.isub, 1) := by decide +kernel
theorem dX3_muCode_55 : decode cX3_muCode 55 = .ok (.ireturn, 1) := by decide +kernel
theorem dX3_muSample_0 : decode cX3_muSample 0 = .ok (.sipush 255, 3) := by decide +kernel
theorem dX3_muSample_3 : decode cX3_muSample 3 = .ok (.iload_n 0, 1) := by decide +kernel
theorem dX3_muSample_4 : decode cX3_muSample 4 = .ok (.isub, 1) := by decide +kernel
theorem dX3_muSample_5 : decode cX3_muSample 5 = .ok (.istore_n 1, 1) := by decide +kernel
theorem dX3_muSample_6 : decode cX3_muSample 6 = .ok (.bipush 8, 2) := by decide +kernel
theorem dX3_muSample_8 : decode cX3_muSample 8 = .ok (.iload_n 1, 1) := by decide +kernel
theorem dX3_muSample_9 : decode cX3_muSample 9 = .ok (.bipush 15, 2) := by decide +kernel
theorem dX3_muSample_11 : decode cX3_muSample 11 = .ok (.iand, 1) := by decide +kernel
theorem dX3_muSample_12 : decode cX3_muSample 12 = .ok (.imul, 1) := by decide +kernel
theorem dX3_muSample_13 : decode cX3_muSample 13 = .ok (.sipush 132, 3) := by decide +kernel
theorem dX3_muSample_16 : decode cX3_muSample 16 = .ok (.iadd, 1) := by decide +kernel
theorem dX3_muSample_17 : decode cX3_muSample 17 = .ok (.iload_n 1, 1) := by decide +kernel
theorem dX3_muSample_18 : decode cX3_muSample 18 = .ok (.iconst 4, 1) := by decide +kernel
theorem dX3_muSample_19 : decode cX3_muSample 19 = .ok (.ishr, 1) := by decide +kernel
theorem dX3_muSample_20 : decode cX3_muSample 20 = .ok (.bipush 7, 2) := by decide +kernel
theorem dX3_muSample_22 : decode cX3_muSample 22 = .ok (.iand, 1) := by decide +kernel
theorem dX3_muSample_23 : decode cX3_muSample 23 = .ok (.ishl, 1) := by decide +kernel
theorem dX3_muSample_24 : decode cX3_muSample 24 = .ok (.sipush 132, 3) := by decide +kernel
theorem dX3_muSample_27 : decode cX3_muSample 27 = .ok (.isub, 1) := by decide +kernel
theorem dX3_muSample_28 : decode cX3_muSample 28 = .ok (.istore_n 2, 1) := by decide +kernel
theorem dX3_muSample_29 : decode cX3_muSample 29 = .ok (.iload_n 1, 1) := by decide +kernel
theorem dX3_muSample_30 : decode cX3_muSample 30 = .ok (.sipush 128, 3) := by decide +kernel
theorem dX3_muSample_33 : decode cX3_muSample 33 = .ok (.iand, 1) := by decide +kernel
theorem dX3_muSample_34 : decode cX3_muSample 34 = .ok (.ifCond .ne 7, 3) := by decide +kernel
theorem dX3_muSample_37 : decode cX3_muSample 37 = .ok (.iload_n 2, 1) := by decide +kernel
theorem dX3_muSample_38 : decode cX3_muSample 38 = .ok (.goto 5, 3) := by decide +kernel
theorem dX3_muSample_41 : decode cX3_muSample 41 = .ok (.iload_n 2, 1) := by decide +kernel
theorem dX3_muSample_42 : decode cX3_muSample 42 = .ok (.ineg, 1) := by decide +kernel
theorem dX3_muSample_43 : decode cX3_muSample 43 = .ok (.ireturn, 1) := by decide +kernel
theorem dX3_aCode_0 : decode cX3_aCode 0 = .ok (.iload_n 0, 1) := by decide +kernel
theorem dX3_aCode_1 : decode cX3_aCode 1 = .ok (.iconst 3, 1) := by decide +kernel
theorem dX3_aCode_2 : decode cX3_aCode 2 = .ok (.ishr, 1) := by decide +kernel
theorem dX3_aCode_3 : decode cX3_aCode 3 = .ok (.istore_n 1, 1) := by decide +kernel
theorem dX3_aCode_4 : decode cX3_aCode 4 = .ok (.iload_n 1, 1) := by decide +kernel
theorem dX3_aCode_5 : decode cX3_aCode 5 = .ok (.ifCond .ge 10, 3) := by decide +kernel
theorem dX3_aCode_8 : decode cX3_aCode 8 = .ok (.iload_n 1, 1) := by decide +kernel
theorem dX3_aCode_9 : decode cX3_aCode 9 = .ok (.ineg, 1) := by decide +kernel
theorem dX3_aCode_10 : decode cX3_aCode 10 = .ok (.iconst 1, 1) := by decide +kernel
theorem dX3_aCode_11 : decode cX3_aCode 11 = .ok (.isub, 1) := by decide +kernel
theorem dX3_aCode_12 : decode cX3_aCode 12 = .ok (.goto 4, 3) := by decide +kernel
theorem dX3_aCode_15 : decode cX3_aCode 15 = .ok (.iload_n 1, 1) := by decide +kernel
theorem dX3_aCode_16 : decode cX3_aCode 16 = .ok (.istore_n 2, 1) := by decide +kernel
theorem dX3_aCode_17 : decode cX3_aCode 17 = .ok (.iload_n 2, 1) := by decide +kernel
theorem dX3_aCode_18 : decode cX3_aCode 18 = .ok (.bipush 32, 2) := by decide +kernel
theorem dX3_aCode_20 : decode cX3_aCode 20 = .ok (.invokestatic 21, 3) := by decide +kernel
theorem dX3_aCode_23 : decode cX3_aCode 23 = .ok (.istore_n 3, 1) := by decide +kernel
theorem dX3_aCode_24 : decode cX3_aCode 24 = .ok (.bipush 16, 2) := by decide +kernel
theorem dX3_aCode_26 : decode cX3_aCode 26 = .ok (.iload_n 3, 1) := by decide +kernel
theorem dX3_aCode_27 : decode cX3_aCode 27 = .ok (.imul, 1) := by decide +kernel
theorem dX3_aCode_28 : decode cX3_aCode 28 = .ok (.iload_n 2, 1) := by decide +kernel
theorem dX3_aCode_29 : decode cX3_aCode 29 = .ok (.iload_n 3, 1) := by decide +kernel
theorem dX3_aCode_30 : decode cX3_aCode 30 = .ok (.iconst 1, 1) := by decide +kernel
theorem dX3_aCode_31 : decode cX3_aCode 31 = .ok (.invokestatic 24, 3) := by decide +kernel
theorem dX3_aCode_34 : decode cX3_aCode 34 = .ok (.ishr, 1) := by decide +kernel
theorem dX3_aCode_35 : decode cX3_aCode 35 = .ok (.bipush 15, 2) := by decide +kernel
theorem dX3_aCode_37 : decode cX3_aCode 37 = .ok (.iand, 1) := by decide +kernel
theorem dX3_aCode_38 : decode cX3_aCode 38 = .ok (.iadd, 1) := by decide +kernel
theorem dX3_aCode_39 : decode cX3_aCode 39 = .ok (.istore 4, 2) := by decide +kernel
theorem dX3_aCode_41 : decode cX3_aCode 41 = .ok (.iload 4, 2) := by decide +kernel
theorem dX3_aCode_43 : decode cX3_aCode 43 = .ok (.iload_n 0, 1) := by decide +kernel
theorem dX3_aCode_44 : decode cX3_aCode 44 = .ok (.ifCond .ge 8, 3) := by decide +kernel
theorem dX3_aCode_47 : decode cX3_aCode 47 = .ok (.bipush 85, 2) := by decide +kernel
theorem dX3_aCode_49 : decode cX3_aCode 49 = .ok (.goto 6, 3) := by decide +kernel
theorem dX3_aCode_52 : decode cX3_aCode 52 = .ok (.sipush 213, 3) := by decide +kernel
theorem dX3_aCode_55 : decode cX3_aCode 55 = .ok (.ixor, 1) := by decide +kernel
theorem dX3_aCode_56 : decode cX3_aCode 56 = .ok (.ireturn, 1) := by decide +kernel
theorem dX3_aSample_0 : decode cX3_aSample 0 = .ok (.iload_n 0, 1) := by decide +kernel
theorem dX3_aSample_1 : decode cX3_aSample 1 = .ok (.bipush 85, 2) := by decide +kernel
theorem dX3_aSample_3 : decode cX3_aSample 3 = .ok (.ixor, 1) := by decide +kernel
theorem dX3_aSample_4 : decode cX3_aSample 4 = .ok (.istore_n 1, 1) := by decide +kernel
theorem dX3_aSample_5 : decode cX3_aSample 5 = .ok (.bipush 16, 2) := by decide +kernel
theorem dX3_aSample_7 : decode cX3_aSample 7 = .ok (.iload_n 1, 1) := by decide +kernel
theorem dX3_aSample_8 : decode cX3_aSample 8 = .ok (.bipush 15, 2) := by decide +kernel
theorem dX3_aSample_10 : decode cX3_aSample 10 = .ok (.iand, 1) := by decide +kernel
theorem dX3_aSample_11 : decode cX3_aSample 11 = .ok (.imul, 1) := by decide +kernel
theorem dX3_aSample_12 : decode cX3_aSample 12 = .ok (.bipush 8, 2) := by decide +kernel
theorem dX3_aSample_14 : decode cX3_aSample 14 = .ok (.iadd, 1) := by decide +kernel
theorem dX3_aSample_15 : decode cX3_aSample 15 = .ok (.istore_n 2, 1) := by decide +kernel
theorem dX3_aSample_16 : decode cX3_aSample 16 = .ok (.iload_n 1, 1) := by decide +kernel
theorem dX3_aSample_17 : decode cX3_aSample 17 = .ok (.iconst 4, 1) := by decide +kernel
theorem dX3_aSample_18 : decode cX3_aSample 18 = .ok (.ishr, 1) := by decide +kernel
theorem dX3_aSample_19 : decode cX3_aSample 19 = .ok (.bipush 7, 2) := by decide +kernel
theorem dX3_aSample_21 : decode cX3_aSample 21 = .ok (.iand, 1) := by decide +kernel
theorem dX3_aSample_22 : decode cX3_aSample 22 = .ok (.istore_n 3, 1) := by decide +kernel
theorem dX3_aSample_23 : decode cX3_aSample 23 = .ok (.iload_n 3, 1) := by decide +kernel
theorem dX3_aSample_24 : decode cX3_aSample 24 = .ok (.ifCond .le 13, 3) := by decide +kernel
theorem dX3_aSample_27 : decode cX3_aSample 27 = .ok (.iload_n 2, 1) := by decide +kernel
theorem dX3_aSample_28 : decode cX3_aSample 28 = .ok (.sipush 256, 3) := by decide +kernel
theorem dX3_aSample_31 : decode cX3_aSample 31 = .ok (.iadd, 1) := by decide +kernel
theorem dX3_aSample_32 : decode cX3_aSample 32 = .ok (.iload_n 3, 1) := by decide +kernel
theorem dX3_aSample_33 : decode cX3_aSample 33 = .ok (.iconst 1, 1) := by decide +kernel
theorem dX3_aSample_34 : decode cX3_aSample 34 = .ok (.isub, 1) := by decide +kernel
theorem dX3_aSample_35 : decode cX3_aSample 35 = .ok (.ishl, 1) := by decide +kernel
theorem dX3_aSample_36 : decode cX3_aSample 36 = .ok (.istore_n 2, 1) := by decide +kernel
theorem dX3_aSample_37 : decode cX3_aSample 37 = .ok (.iload_n 1, 1) := by decide +kernel
theorem dX3_aSample_38 : decode cX3_aSample 38 = .ok (.sipush 128, 3) := by decide +kernel
theorem dX3_aSample_41 : decode cX3_aSample 41 = .ok (.iand, 1) := by decide +kernel
theorem dX3_aSample_42 : decode cX3_aSample 42 = .ok (.ifCond .ne 8, 3) := by decide +kernel
theorem dX3_aSample_45 : decode cX3_aSample 45 = .ok (.iload_n 2, 1) := by decide +kernel
theorem dX3_aSample_46 : decode cX3_aSample 46 = .ok (.ineg, 1) := by decide +kernel
theorem dX3_aSample_47 : decode cX3_aSample 47 = .ok (.goto 4, 3) := by decide +kernel
theorem dX3_aSample_50 : decode cX3_aSample 50 = .ok (.iload_n 2, 1) := by decide +kernel
theorem dX3_aSample_51 : decode cX3_aSample 51 = .ok (.ireturn, 1) := by decide +kernel
theorem dX3_segment_0 : decode cX3_segment 0 = .ok (.iconst 0, 1) := by decide +kernel
theorem dX3_segment_1 : decode cX3_segment 1 = .ok (.istore_n 2, 1) := by decide +kernel
theorem dX3_segment_2 : decode cX3_segment 2 = .ok (.iload_n 2, 1) := by decide +kernel
theorem dX3_segment_3 : decode cX3_segment 3 = .ok (.bipush 7, 2) := by decide +kernel
theorem dX3_segment_5 : decode cX3_segment 5 = .ok (.if_icmp .ge 16, 3) := by decide +kernel
theorem dX3_segment_8 : decode cX3_segment 8 = .ok (.iload_n 0, 1) := by decide +kernel
theorem dX3_segment_9 : decode cX3_segment 9 = .ok (.iload_n 1, 1) := by decide +kernel
theorem dX3_segment_10 : decode cX3_segment 10 = .ok (.iload_n 2, 1) := by decide +kernel
theorem dX3_segment_11 : decode cX3_segment 11 = .ok (.ishl, 1) := by decide +kernel
theorem dX3_segment_12 : decode cX3_segment 12 = .ok (.if_icmp .lt 9, 3) := by decide +kernel
theorem dX3_segment_15 : decode cX3_segment 15 = .ok (.iinc 2 1, 3) := by decide +kernel
theorem dX3_segment_18 : decode cX3_segment 18 = .ok (.goto (-16), 3) := by decide +kernel
theorem dX3_segment_21 : decode cX3_segment 21 = .ok (.iload_n 2, 1) := by decide +kernel
theorem dX3_segment_22 : decode cX3_segment 22 = .ok (.ireturn, 1) := by decide +kernel
theorem dX3_muEdge_0 : decode cX3_muEdge 0 = .ok (.sipush 255, 3) := by decide +kernel
theorem dX3_muEdge_3 : decode cX3_muEdge 3 = .ok (.iload_n 0, 1) := by decide +kernel
theorem dX3_muEdge_4 : decode cX3_muEdge 4 = .ok (.isub, 1) := by decide +kernel
theorem dX3_muEdge_5 : decode cX3_muEdge 5 = .ok (.istore_n 2, 1) := by decide +kernel
theorem dX3_muEdge_6 : decode cX3_muEdge 6 = .ok (.iload_n 2, 1) := by decide +kernel
theorem dX3_muEdge_7 : decode cX3_muEdge 7 = .ok (.iconst 4, 1) := by decide +kernel
theorem dX3_muEdge_8 : decode cX3_muEdge 8 = .ok (.ishr, 1) := by decide +kernel
theorem dX3_muEdge_9 : decode cX3_muEdge 9 = .ok (.bipush 7, 2) := by decide +kernel
theorem dX3_muEdge_11 : decode cX3_muEdge 11 = .ok (.iand, 1) := by decide +kernel
theorem dX3_muEdge_12 : decode cX3_muEdge 12 = .ok (.istore_n 3, 1) := by decide +kernel
theorem dX3_muEdge_13 : decode cX3_muEdge 13 = .ok (.bipush 16, 2) := by decide +kernel
theorem dX3_muEdge_15 : decode cX3_muEdge 15 = .ok (.iload_n 2, 1) := by decide +kernel
theorem dX3_muEdge_16 : decode cX3_muEdge 16 = .ok (.bipush 15, 2) := by decide +kernel
theorem dX3_muEdge_18 : decode cX3_muEdge 18 = .ok (.iand, 1) := by decide +kernel
theorem dX3_muEdge_19 : decode cX3_muEdge 19 = .ok (.iadd, 1) := by decide +kernel
theorem dX3_muEdge_20 : decode cX3_muEdge 20 = .ok (.istore 4, 2) := by decide +kernel
theorem dX3_muEdge_22 : decode cX3_muEdge 22 = .ok (.iload_n 2, 1) := by decide +kernel
theorem dX3_muEdge_23 : decode cX3_muEdge 23 = .ok (.sipush 128, 3) := by decide +kernel
theorem dX3_muEdge_26 : decode cX3_muEdge 26 = .ok (.iand, 1) := by decide +kernel
theorem dX3_muEdge_27 : decode cX3_muEdge 27 = .ok (.ifCond .eq 7, 3) := by decide +kernel
theorem dX3_muEdge_30 : decode cX3_muEdge 30 = .ok (.iconst 1, 1) := by decide +kernel
theorem dX3_muEdge_31 : decode cX3_muEdge 31 = .ok (.goto 4, 3) := by decide +kernel
theorem dX3_muEdge_34 : decode cX3_muEdge 34 = .ok (.iconst 0, 1) := by decide +kernel
theorem dX3_muEdge_35 : decode cX3_muEdge 35 = .ok (.istore 5, 2) := by decide +kernel
theorem dX3_muEdge_37 : decode cX3_muEdge 37 = .ok (.iload 4, 2) := by decide +kernel
theorem dX3_muEdge_39 : decode cX3_muEdge 39 = .ok (.iconst 1, 1) := by decide +kernel
theorem dX3_muEdge_40 : decode cX3_muEdge 40 = .ok (.iadd, 1) := by decide +kernel
theorem dX3_muEdge_41 : decode cX3_muEdge 41 = .ok (.iload_n 3, 1) := by decide +kernel
theorem dX3_muEdge_42 : decode cX3_muEdge 42 = .ok (.iconst 1, 1) := by decide +kernel
theorem dX3_muEdge_43 : decode cX3_muEdge 43 = .ok (.iadd, 1) := by decide +kernel
theorem dX3_muEdge_44 : decode cX3_muEdge 44 = .ok (.ishl, 1) := by decide +kernel
theorem dX3_muEdge_45 : decode cX3_muEdge 45 = .ok (.iconst 1, 1) := by decide +kernel
theorem dX3_muEdge_46 : decode cX3_muEdge 46 = .ok (.isub, 1) := by decide +kernel
theorem dX3_muEdge_47 : decode cX3_muEdge 47 = .ok (.bipush 33, 2) := by decide +kernel
theorem dX3_muEdge_49 : decode cX3_muEdge 49 = .ok (.isub, 1) := by decide +kernel
theorem dX3_muEdge_50 : decode cX3_muEdge 50 = .ok (.istore 6, 2) := by decide +kernel
theorem dX3_muEdge_52 : decode cX3_muEdge 52 = .ok (.iload 6, 2) := by decide +kernel
theorem dX3_muEdge_54 : decode cX3_muEdge 54 = .ok (.sipush 8158, 3) := by decide +kernel
theorem dX3_muEdge_57 : decode cX3_muEdge 57 = .ok (.if_icmp .ne 19, 3) := by decide +kernel
theorem dX3_muEdge_60 : decode cX3_muEdge 60 = .ok (.iload 5, 2) := by decide +kernel
theorem dX3_muEdge_62 : decode cX3_muEdge 62 = .ok (.ifCond .eq 9, 3) := by decide +kernel
theorem dX3_muEdge_65 : decode cX3_muEdge 65 = .ok (.sipush 8192, 3) := by decide +kernel
theorem dX3_muEdge_68 : decode cX3_muEdge 68 = .ok (.goto 6, 3) := by decide +kernel
theorem dX3_muEdge_71 : decode cX3_muEdge 71 = .ok (.sipush 8191, 3) := by decide +kernel
theorem dX3_muEdge_74 : decode cX3_muEdge 74 = .ok (.istore 6, 2) := by decide +kernel
theorem dX3_muEdge_76 : decode cX3_muEdge 76 = .ok (.iload 4, 2) := by decide +kernel
theorem dX3_muEdge_78 : decode cX3_muEdge 78 = .ok (.iload_n 3, 1) := by decide +kernel
theorem dX3_muEdge_79 : decode cX3_muEdge 79 = .ok (.iconst 1, 1) := by decide +kernel
theorem dX3_muEdge_80 : decode cX3_muEdge 80 = .ok (.iadd, 1) := by decide +kernel
theorem dX3_muEdge_81 : decode cX3_muEdge 81 = .ok (.ishl, 1) := by decide +kernel
theorem dX3_muEdge_82 : decode cX3_muEdge 82 = .ok (.bipush 33, 2) := by decide +kernel
theorem dX3_muEdge_84 : decode cX3_muEdge 84 = .ok (.isub, 1) := by decide +kernel
theorem dX3_muEdge_85 : decode cX3_muEdge 85 = .ok (.iload 5, 2) := by decide +kernel
theorem dX3_muEdge_87 : decode cX3_muEdge 87 = .ok (.ifCond .eq 7, 3) := by decide +kernel
theorem dX3_muEdge_90 : decode cX3_muEdge 90 = .ok (.iconst 1, 1) := by decide +kernel
theorem dX3_muEdge_91 : decode cX3_muEdge 91 = .ok (.goto 4, 3) := by decide +kernel
theorem dX3_muEdge_94 : decode cX3_muEdge 94 = .ok (.iconst 0, 1) := by decide +kernel
theorem dX3_muEdge_95 : decode cX3_muEdge 95 = .ok (.invokestatic 24, 3) := by decide +kernel
theorem dX3_muEdge_98 : decode cX3_muEdge 98 = .ok (.istore 7, 2) := by decide +kernel
theorem dX3_muEdge_100 : decode cX3_muEdge 100 = .ok (.iload 7, 2) := by decide +kernel
theorem dX3_muEdge_102 : decode cX3_muEdge 102 = .ok (.iload 6, 2) := by decide +kernel
theorem dX3_muEdge_104 : decode cX3_muEdge 104 = .ok (.if_icmp .le 6, 3) := by decide +kernel
theorem dX3_muEdge_107 : decode cX3_muEdge 107 = .ok (.ldc 27, 2) := by decide +kernel
theorem dX3_muEdge_109 : decode cX3_muEdge 109 = .ok (.ireturn, 1) := by decide +kernel
theorem dX3_muEdge_110 : decode cX3_muEdge 110 = .ok (.iload 5, 2) := by decide +kernel
theorem dX3_muEdge_112 : decode cX3_muEdge 112 = .ok (.ifCond .eq 22, 3) := by decide +kernel
theorem dX3_muEdge_115 : decode cX3_muEdge 115 = .ok (.iload_n 1, 1) := by decide +kernel
theorem dX3_muEdge_116 : decode cX3_muEdge 116 = .ok (.ifCond .eq 12, 3) := by decide +kernel
theorem dX3_muEdge_119 : decode cX3_muEdge 119 = .ok (.iconst 3, 1) := by decide +kernel
theorem dX3_muEdge_120 : decode cX3_muEdge 120 = .ok (.iconst 4, 1) := by decide +kernel
theorem dX3_muEdge_121 : decode cX3_muEdge 121 = .ok (.iload 7, 2) := by decide +kernel
theorem dX3_muEdge_123 : decode cX3_muEdge 123 = .ok (.imul, 1) := by decide +kernel
theorem dX3_muEdge_124 : decode cX3_muEdge 124 = .ok (.isub, 1) := by decide +kernel
theorem dX3_muEdge_125 : decode cX3_muEdge 125 = .ok (.goto 8, 3) := by decide +kernel
theorem dX3_muEdge_128 : decode cX3_muEdge 128 = .ok (.bipush (-4), 2) := by decide +kernel
theorem dX3_muEdge_130 : decode cX3_muEdge 130 = .ok (.iload 6, 2) := by decide +kernel
theorem dX3_muEdge_132 : decode cX3_muEdge 132 = .ok (.imul, 1) := by decide +kernel
theorem dX3_muEdge_133 : decode cX3_muEdge 133 = .ok (.ireturn, 1) := by decide +kernel
theorem dX3_muEdge_134 : decode cX3_muEdge 134 = .ok (.iload_n 1, 1) := by decide +kernel
theorem dX3_muEdge_135 : decode cX3_muEdge 135 = .ok (.ifCond .eq 12, 3) := by decide +kernel
theorem dX3_muEdge_138 : decode cX3_muEdge 138 = .ok (.iconst 4, 1) := by decide +kernel
theorem dX3_muEdge_139 : decode cX3_muEdge 139 = .ok (.iload 6, 2) := by decide +kernel
theorem dX3_muEdge_141 : decode cX3_muEdge 141 = .ok (.imul, 1) := by decide +kernel
theorem dX3_muEdge_142 : decode cX3_muEdge 142 = .ok (.iconst 3, 1) := by decide +kernel
theorem dX3_muEdge_143 : decode cX3_muEdge 143 = .ok (.iadd, 1) := by decide +kernel
theorem dX3_muEdge_144 : decode cX3_muEdge 144 = .ok (.goto 7, 3) := by decide +kernel
theorem dX3_muEdge_147 : decode cX3_muEdge 147 = .ok (.iconst 4, 1) := by decide +kernel
theorem dX3_muEdge_148 : decode cX3_muEdge 148 = .ok (.iload 7, 2) := by decide +kernel
theorem dX3_muEdge_150 : decode cX3_muEdge 150 = .ok (.imul, 1) := by decide +kernel
theorem dX3_muEdge_151 : decode cX3_muEdge 151 = .ok (.ireturn, 1) := by decide +kernel
theorem dX3_aEdge_0 : decode cX3_aEdge 0 = .ok (.iload_n 0, 1) := by decide +kernel
theorem dX3_aEdge_1 : decode cX3_aEdge 1 = .ok (.bipush 85, 2) := by decide +kernel
theorem dX3_aEdge_3 : decode cX3_aEdge 3 = .ok (.ixor, 1) := by decide +kernel
theorem dX3_aEdge_4 : decode cX3_aEdge 4 = .ok (.istore_n 2, 1) := by decide +kernel
theorem dX3_aEdge_5 : decode cX3_aEdge 5 = .ok (.iload_n 2, 1) := by decide +kernel
theorem dX3_aEdge_6 : decode cX3_aEdge 6 = .ok (.iconst 4, 1) := by decide +kernel
theorem dX3_aEdge_7 : decode cX3_aEdge 7 = .ok (.ishr, 1) := by decide +kernel
theorem dX3_aEdge_8 : decode cX3_aEdge 8 = .ok (.bipush 7, 2) := by decide +kernel
theorem dX3_aEdge_10 : decode cX3_aEdge 10 = .ok (.iand, 1) := by decide +kernel
theorem dX3_aEdge_11 : decode cX3_aEdge 11 = .ok (.istore_n 3, 1) := by decide +kernel
theorem dX3_aEdge_12 : decode cX3_aEdge 12 = .ok (.iload_n 3, 1) := by decide +kernel
theorem dX3_aEdge_13 : decode cX3_aEdge 13 = .ok (.ifCond .ne 10, 3) := by decide +kernel
theorem dX3_aEdge_16 : decode cX3_aEdge 16 = .ok (.iload_n 2, 1) := by decide +kernel
theorem dX3_aEdge_17 : decode cX3_aEdge 17 = .ok (.bipush 15, 2) := by decide +kernel
theorem dX3_aEdge_19 : decode cX3_aEdge 19 = .ok (.iand, 1) := by decide +kernel
theorem dX3_aEdge_20 : decode cX3_aEdge 20 = .ok (.goto 10, 3) := by decide +kernel
theorem dX3_aEdge_23 : decode cX3_aEdge 23 = .ok (.bipush 16, 2) := by decide +kernel
theorem dX3_aEdge_25 : decode cX3_aEdge 25 = .ok (.iload_n 2, 1) := by decide +kernel
theorem dX3_aEdge_26 : decode cX3_aEdge 26 = .ok (.bipush 15, 2) := by decide +kernel
theorem dX3_aEdge_28 : decode cX3_aEdge 28 = .ok (.iand, 1) := by decide +kernel
theorem dX3_aEdge_29 : decode cX3_aEdge 29 = .ok (.iadd, 1) := by decide +kernel
theorem dX3_aEdge_30 : decode cX3_aEdge 30 = .ok (.istore 4, 2) := by decide +kernel
theorem dX3_aEdge_32 : decode cX3_aEdge 32 = .ok (.iload_n 3, 1) := by decide +kernel
theorem dX3_aEdge_33 : decode cX3_aEdge 33 = .ok (.iconst 1, 1) := by decide +kernel
theorem dX3_aEdge_34 : decode cX3_aEdge 34 = .ok (.invokestatic 24, 3) := by decide +kernel
theorem dX3_aEdge_37 : decode cX3_aEdge 37 = .ok (.istore 5, 2) := by decide +kernel
theorem dX3_aEdge_39 : decode cX3_aEdge 39 = .ok (.iload 4, 2) := by decide +kernel
theorem dX3_aEdge_41 : decode cX3_aEdge 41 = .ok (.iload 5, 2) := by decide +kernel
theorem dX3_aEdge_43 : decode cX3_aEdge 43 = .ok (.ishl, 1) := by decide +kernel
theorem dX3_aEdge_44 : decode cX3_aEdge 44 = .ok (.istore 6, 2) := by decide +kernel
theorem dX3_aEdge_46 : decode cX3_aEdge 46 = .ok (.iload 4, 2) := by decide +kernel
theorem dX3_aEdge_48 : decode cX3_aEdge 48 = .ok (.iconst 1, 1) := by decide +kernel
theorem dX3_aEdge_49 : decode cX3_aEdge 49 = .ok (.iadd, 1) := by decide +kernel
theorem dX3_aEdge_50 : decode cX3_aEdge 50 = .ok (.iload 5, 2) := by decide +kernel
theorem dX3_aEdge_52 : decode cX3_aEdge 52 = .ok (.ishl, 1) := by decide +kernel
theorem dX3_aEdge_53 : decode cX3_aEdge 53 = .ok (.iconst 1, 1) := by decide +kernel
theorem dX3_aEdge_54 : decode cX3_aEdge 54 = .ok (.isub, 1) := by decide +kernel
theorem dX3_aEdge_55 : decode cX3_aEdge 55 = .ok (.istore 7, 2) := by decide +kernel
theorem dX3_aEdge_57 : decode cX3_aEdge 57 = .ok (.iload_n 2, 1) := by decide +kernel
theorem dX3_aEdge_58 : decode cX3_aEdge 58 = .ok (.sipush 128, 3) := by decide +kernel
theorem dX3_aEdge_61 : decode cX3_aEdge 61 = .ok (.iand, 1) := by decide +kernel
theorem dX3_aEdge_62 : decode cX3_aEdge 62 = .ok (.ifCond .ne 26, 3) := by decide +kernel
theorem dX3_aEdge_65 : decode cX3_aEdge 65 = .ok (.iload_n 1, 1) := by decide +kernel
theorem dX3_aEdge_66 : decode cX3_aEdge 66 = .ok (.ifCond .eq 13, 3) := by decide +kernel
theorem dX3_aEdge_69 : decode cX3_aEdge 69 = .ok (.bipush (-8), 2) := by decide +kernel
theorem dX3_aEdge_71 : decode cX3_aEdge 71 = .ok (.iload 6, 2) := by decide +kernel
theorem dX3_aEdge_73 : decode cX3_aEdge 73 = .ok (.imul, 1) := by decide +kernel
theorem dX3_aEdge_74 : decode cX3_aEdge 74 = .ok (.iconst 1, 1) := by decide +kernel
theorem dX3_aEdge_75 : decode cX3_aEdge 75 = .ok (.isub, 1) := by decide +kernel
theorem dX3_aEdge_76 : decode cX3_aEdge 76 = .ok (.goto 11, 3) := by decide +kernel
theorem dX3_aEdge_79 : decode cX3_aEdge 79 = .ok (.bipush (-8), 2) := by decide +kernel
theorem dX3_aEdge_81 : decode cX3_aEdge 81 = .ok (.iload 7, 2) := by decide +kernel
theorem dX3_aEdge_83 : decode cX3_aEdge 83 = .ok (.imul, 1) := by decide +kernel
theorem dX3_aEdge_84 : decode cX3_aEdge 84 = .ok (.bipush 8, 2) := by decide +kernel
theorem dX3_aEdge_86 : decode cX3_aEdge 86 = .ok (.isub, 1) := by decide +kernel
theorem dX3_aEdge_87 : decode cX3_aEdge 87 = .ok (.ireturn, 1) := by decide +kernel
theorem dX3_aEdge_88 : decode cX3_aEdge 88 = .ok (.iload_n 1, 1) := by decide +kernel
theorem dX3_aEdge_89 : decode cX3_aEdge 89 = .ok (.ifCond .eq 14, 3) := by decide +kernel
theorem dX3_aEdge_92 : decode cX3_aEdge 92 = .ok (.bipush 8, 2) := by decide +kernel
theorem dX3_aEdge_94 : decode cX3_aEdge 94 = .ok (.iload 7, 2) := by decide +kernel
theorem dX3_aEdge_96 : decode cX3_aEdge 96 = .ok (.imul, 1) := by decide +kernel
theorem dX3_aEdge_97 : decode cX3_aEdge 97 = .ok (.bipush 7, 2) := by decide +kernel
theorem dX3_aEdge_99 : decode cX3_aEdge 99 = .ok (.iadd, 1) := by decide +kernel
theorem dX3_aEdge_100 : decode cX3_aEdge 100 = .ok (.goto 8, 3) := by decide +kernel
theorem dX3_aEdge_103 : decode cX3_aEdge 103 = .ok (.bipush 8, 2) := by decide +kernel
theorem dX3_aEdge_105 : decode cX3_aEdge 105 = .ok (.iload 6, 2) := by decide +kernel
theorem dX3_aEdge_107 : decode cX3_aEdge 107 = .ok (.imul, 1) := by decide +kernel
theorem dX3_aEdge_108 : decode cX3_aEdge 108 = .ok (.ireturn, 1) := by decide +kernel
theorem dX4_init_0 : decode cX4_init 0 = .ok (.aload_n 0, 1) := by decide +kernel
theorem dX4_init_1 : decode cX4_init 1 = .ok (.invokespecial 3, 3) := by decide +kernel
theorem dX4_init_4 : decode cX4_init 4 = .ok (.aload_n 0, 1) := by decide +kernel
theorem dX4_init_5 : decode cX4_init 5 = .ok (.new 9, 3) := by decide +kernel
theorem dX4_init_8 : decode cX4_init 8 = .ok (.dup, 1) := by decide +kernel
theorem dX4_init_9 : decode cX4_init 9 = .ok (.invokespecial 11, 3) := by decide +kernel
theorem dX4_init_12 : decode cX4_init 12 = .ok (.putfield 12, 3) := by decide +kernel
theorem dX4_init_15 : decode cX4_init 15 = .ok (.aload_n 0, 1) := by decide +kernel
theorem dX4_init_16 : decode cX4_init 16 = .ok (.new 9, 3) := by decide +kernel
theorem dX4_init_19 : decode cX4_init 19 = .ok (.dup, 1) := by decide +kernel
theorem dX4_init_20 : decode cX4_init 20 = .ok (.invokespecial 11, 3) := by decide +kernel
theorem dX4_init_23 : decode cX4_init 23 = .ok (.putfield 18, 3) := by decide +kernel
theorem dX4_init_26 : decode cX4_init 26 = .ok (.aload_n 0, 1) := by decide +kernel
theorem dX4_init_27 : decode cX4_init 27 = .ok (.new 21, 3) := by decide +kernel
theorem dX4_init_30 : decode cX4_init 30 = .ok (.dup, 1) := by decide +kernel
theorem dX4_init_31 : decode cX4_init 31 = .ok (.invokespecial 23, 3) := by decide +kernel
theorem dX4_init_34 : decode cX4_init 34 = .ok (.putfield 24, 3) := by decide +kernel
theorem dX4_init_37 : decode cX4_init 37 = .ok (.aload_n 0, 1) := by decide +kernel
theorem dX4_init_38 : decode cX4_init 38 = .ok (.new 21, 3) := by decide +kernel
theorem dX4_init_41 : decode cX4_init 41 = .ok (.dup, 1) := by decide +kernel
theorem dX4_init_42 : decode cX4_init 42 = .ok (.invokespecial 23, 3) := by decide +kernel
theorem dX4_init_45 : decode cX4_init 45 = .ok (.putfield 28, 3) := by decide +kernel
theorem dX4_init_48 : decode cX4_init 48 = .ok (.aload_n 0, 1) := by decide +kernel
theorem dX4_init_49 : decode cX4_init 49 = .ok (.ldc 31, 2) := by decide +kernel
theorem dX4_init_51 : decode cX4_init 51 = .ok (.putfield 32, 3) := by decide +kernel
theorem dX4_init_54 : decode cX4_init 54 = .ok (.return_, 1) := by decide +kernel
theorem dX4_begin_0 : decode cX4_begin 0 = .ok (.aload_n 0, 1) := by decide +kernel
theorem dX4_begin_1 : decode cX4_begin 1 = .ok (.iload_n 1, 1) := by decide +kernel
theorem dX4_begin_2 : decode cX4_begin 2 = .ok (.putfield 32, 3) := by decide +kernel
theorem dX4_begin_5 : decode cX4_begin 5 = .ok (.aload_n 0, 1) := by decide +kernel
theorem dX4_begin_6 : decode cX4_begin 6 = .ok (.invokevirtual 36, 3) := by decide +kernel
theorem dX4_begin_9 : decode cX4_begin 9 = .ok (.ifCond .eq 22, 3) := by decide +kernel
theorem dX4_begin_12 : decode cX4_begin 12 = .ok (.aload_n 0, 1) := by decide +kernel
theorem dX4_begin_13 : decode cX4_begin 13 = .ok (.getfield 12, 3) := by decide +kernel
theorem dX4_begin_16 : decode cX4_begin 16 = .ok (.iload_n 1, 1) := by decide +kernel
theorem dX4_begin_17 : decode cX4_begin 17 = .ok (.invokevirtual 40, 3) := by decide +kernel
theorem dX4_begin_20 : decode cX4_begin 20 = .ok (.aload_n 0, 1) := by decide +kernel
theorem dX4_begin_21 : decode cX4_begin 21 = .ok (.getfield 18, 3) := by decide +kernel
theorem dX4_begin_24 : decode cX4_begin 24 = .ok (.iload_n 1, 1) := by decide +kernel
theorem dX4_begin_25 : decode cX4_begin 25 = .ok (.invokevirtual 40, 3) := by decide +kernel
theorem dX4_begin_28 : decode cX4_begin 28 = .ok (.goto 24, 3) := by decide +kernel
theorem dX4_begin_31 : decode cX4_begin 31 = .ok (.aload_n 0, 1) := by decide +kernel
theorem dX4_begin_32 : decode cX4_begin 32 = .ok (.invokevirtual 44, 3) := by decide +kernel
theorem dX4_begin_35 : decode cX4_begin 35 = .ok (.ifCond .eq 17, 3) := by decide +kernel
theorem dX4_begin_38 : decode cX4_begin 38 = .ok (.aload_n 0, 1) := by decide +kernel
theorem dX4_begin_39 : decode cX4_begin 39 = .ok (.getfield 24, 3) := by decide +kernel
theorem dX4_begin_42 : decode cX4_begin 42 = .ok (.invokevirtual 47, 3) := by decide +kernel
theorem dX4_begin_45 : decode cX4_begin 45 = .ok (.aload_n 0, 1) := by decide +kernel
theorem dX4_begin_46 : decode cX4_begin 46 = .ok (.getfield 28, 3) := by decide +kernel
theorem dX4_begin_49 : decode cX4_begin 49 = .ok (.invokevirtual 47, 3) := by decide +kernel
theorem dX4_begin_52 : decode cX4_begin 52 = .ok (.return_, 1) := by decide +kernel
theorem dX4_isAdpcm_0 : decode cX4_isAdpcm 0 = .ok (.aload_n 0, 1) := by decide +kernel
theorem dX4_isAdpcm_1 : decode cX4_isAdpcm 1 = .ok (.getfield 32, 3) := by decide +kernel
theorem dX4_isAdpcm_4 : decode cX4_isAdpcm 4 = .ok (.iconst 2, 1) := by decide +kernel
theorem dX4_isAdpcm_5 : decode cX4_isAdpcm 5 = .ok (.if_icmp .lt 15, 3) := by decide +kernel
theorem dX4_isAdpcm_8 : decode cX4_isAdpcm 8 = .ok (.aload_n 0, 1) := by decide +kernel
theorem dX4_isAdpcm_9 : decode cX4_isAdpcm 9 = .ok (.getfield 32, 3) := by decide +kernel
theorem dX4_isAdpcm_12 : decode cX4_isAdpcm 12 = .ok (.iconst 5, 1) := by decide +kernel
theorem dX4_isAdpcm_13 : decode cX4_isAdpcm 13 = .ok (.if_icmp .gt 7, 3) := by decide +kernel
theorem dX4_isAdpcm_16 : decode cX4_isAdpcm 16 = .ok (.iconst 1, 1) := by decide +kernel
theorem dX4_isAdpcm_17 : decode cX4_isAdpcm 17 = .ok (.goto 4, 3) := by decide +kernel
theorem dX4_isAdpcm_20 : decode cX4_isAdpcm 20 = .ok (.iconst 0, 1) := by decide +kernel
theorem dX4_isAdpcm_21 : decode cX4_isAdpcm 21 = .ok (.ireturn, 1) := by decide +kernel
theorem dX4_isWide_0 : decode cX4_isWide 0 = .ok (.aload_n 0, 1) := by decide +kernel
theorem dX4_isWide_1 : decode cX4_isWide 1 = .ok (.getfield 32, 3) := by decide +kernel
theorem dX4_isWide_4 : decode cX4_isWide 4 = .ok (.bipush 6, 2) := by decide +kernel
theorem dX4_isWide_6 : decode cX4_isWide 6 = .ok (.if_icmp .lt 7, 3) := by decide +kernel
theorem dX4_isWide_9 : decode cX4_isWide 9 = .ok (.iconst 1, 1) := by decide +kernel
theorem dX4_isWide_10 : decode cX4_isWide 10 = .ok (.goto 4, 3) := by decide +kernel
theorem dX4_isWide_13 : decode cX4_isWide 13 = .ok (.iconst 0, 1) := by decide +kernel
theorem dX4_isWide_14 : decode cX4_isWide 14 = .ok (.ireturn, 1) := by decide +kernel
theorem dX4_codeBits_0 : decode cX4_codeBits 0 = .ok (.aload_n 0, 1) := by decide +kernel
theorem dX4_codeBits_1 : decode cX4_codeBits 1 = .ok (.invokevirtual 36, 3) := by decide +kernel
theorem dX4_codeBits_4 : decode cX4_codeBits 4 = .ok (.ifCond .eq 10, 3) := by decide +kernel
theorem dX4_codeBits_7 : decode cX4_codeBits 7 = .ok (.aload_n 0, 1) := by decide +kernel
theorem dX4_codeBits_8 : decode cX4_codeBits 8 = .ok (.getfield 32, 3) := by decide +kernel
theorem dX4_codeBits_11 : decode cX4_codeBits 11 = .ok (.goto 5, 3) := by decide +kernel
theorem dX4_codeBits_14 : decode cX4_codeBits 14 = .ok (.bipush 8, 2) := by decide +kernel
theorem dX4_codeBits_16 : decode cX4_codeBits 16 = .ok (.ireturn, 1) := by decide +kernel
theorem dX4_hasCode_0 : decode cX4_hasCode 0 = .ok (.iload_n 1, 1) := by decide +kernel
theorem dX4_hasCode_1 : decode cX4_hasCode 1 = .ok (.ifCond .lt 17, 3) := by decide +kernel
theorem dX4_hasCode_4 : decode cX4_hasCode 4 = .ok (.iload_n 1, 1) := by decide +kernel
theorem dX4_hasCode_5 : decode cX4_hasCode 5 = .ok (.iconst 1, 1) := by decide +kernel
theorem dX4_hasCode_6 : decode cX4_hasCode 6 = .ok (.aload_n 0, 1) := by decide +kernel
theorem dX4_hasCode_7 : decode cX4_hasCode 7 = .ok (.invokevirtual 49, 3) := by decide +kernel
theorem dX4_hasCode_10 : decode cX4_hasCode 10 = .ok (.ishl, 1) := by decide +kernel
theorem dX4_hasCode_11 : decode cX4_hasCode 11 = .ok (.if_icmp .ge 7, 3) := by decide +kernel
theorem dX4_hasCode_14 : decode cX4_hasCode 14 = .ok (.iconst 1, 1) := by decide +kernel
theorem dX4_hasCode_15 : decode cX4_hasCode 15 = .ok (.goto 4, 3) := by decide +kernel
theorem dX4_hasCode_18 : decode cX4_hasCode 18 = .ok (.iconst 0, 1) := by decide +kernel
theorem dX4_hasCode_19 : decode cX4_hasCode 19 = .ok (.ireturn, 1) := by decide +kernel
theorem dX4_encode_0 : decode cX4_encode 0 = .ok (.aload_n 0, 1) := by decide +kernel
theorem dX4_encode_1 : decode cX4_encode 1 = .ok (.invokevirtual 44, 3) := by decide +kernel
theorem dX4_encode_4 : decode cX4_encode 4 = .ok (.ifCond .eq 13, 3) := by decide +kernel
theorem dX4_encode_7 : decode cX4_encode 7 = .ok (.aload_n 0, 1) := by decide +kernel
theorem dX4_encode_8 : decode cX4_encode 8 = .ok (.getfield 24, 3) := by decide +kernel
theorem dX4_encode_11 : decode cX4_encode 11 = .ok (.iload_n 1, 1) := by decide +kernel
theorem dX4_encode_12 : decode cX4_encode 12 = .ok (.iload_n 2, 1) := by decide +kernel
theorem dX4_encode_13 : decode cX4_encode 13 = .ok (.invokevirtual 53, 3) := by decide +kernel
theorem dX4_encode_16 : decode cX4_encode 16 = .ok (.ireturn, 1) := by decide +kernel
theorem dX4_encode_17 : decode cX4_encode 17 = .ok (.aload_n 0, 1) := by decide +kernel
theorem dX4_encode_18 : decode cX4_encode 18 = .ok (.invokevirtual 36, 3) := by decide +kernel
theorem dX4_encode_21 : decode cX4_encode 21 = .ok (.ifCond .eq 12, 3) := by decide +kernel
theorem dX4_encode_24 : decode cX4_encode 24 = .ok (.aload_n 0, 1) := by decide +kernel
theorem dX4_encode_25 : decode cX4_encode 25 = .ok (.getfield 12, 3) := by decide +kernel
theorem dX4_encode_28 : decode cX4_encode 28 = .ok (.iload_n 1, 1) := by decide +kernel
theorem dX4_encode_29 : decode cX4_encode 29 = .ok (.invokevirtual 57, 3) := by decide +kernel
theorem dX4_encode_32 : decode cX4_encode 32 = .ok (.ireturn, 1) := by decide +kernel
theorem dX4_encode_33 : decode cX4_encode 33 = .ok (.aload_n 0, 1) := by decide +kernel
theorem dX4_encode_34 : decode cX4_encode 34 = .ok (.getfield 32, 3) := by decide +kernel
theorem dX4_encode_37 : decode cX4_encode 37 = .ok (.ifCond .ne 10, 3) := by decide +kernel
theorem dX4_encode_40 : decode cX4_encode 40 = .ok (.iload_n 1, 1) := by decide +kernel
theorem dX4_encode_41 : decode cX4_encode 41 = .ok (.invokestatic 60, 3) := by decide +kernel
theorem dX4_encode_44 : decode cX4_encode 44 = .ok (.goto 7, 3) := by decide +kernel
theorem dX4_encode_47 : decode cX4_encode 47 = .ok (.iload_n 1, 1) := by decide +kernel
theorem dX4_encode_48 : decode cX4_encode 48 = .ok (.invokestatic 65, 3) := by decide +kernel
theorem dX4_encode_51 : decode cX4_encode 51 = .ok (.ireturn, 1) := by decide +kernel
theorem dX4_decode_0 : decode cX4_decode 0 = .ok (.aload_n 0, 1) := by decide +kernel
theorem dX4_decode_1 : decode cX4_decode 1 = .ok (.invokevirtual 44, 3) := by decide +kernel
theorem dX4_decode_4 : decode cX4_decode 4 = .ok (.ifCond .eq 16, 3) := by decide +kernel
theorem dX4_decode_7 : decode cX4_decode 7 = .ok (.aload_n 0, 1) := by decide +kernel
theorem dX4_decode_8 : decode cX4_decode 8 = .ok (.getfield 28, 3) := by decide +kernel
theorem dX4_decode_11 : decode cX4_decode 11 = .ok (.iload_n 1, 1) := by decide +kernel
theorem dX4_decode_12 : decode cX4_decode 12 = .ok (.aload_n 0, 1) := by decide +kernel
theorem dX4_decode_13 : decode cX4_decode 13 = .ok (.getfield 32, 3) := by decide +kernel
theorem dX4_decode_16 : decode cX4_decode 16 = .ok (.invokevirtual 68, 3) := by decide +kernel
theorem dX4_decode_19 : decode cX4_decode 19 = .ok (.ireturn, 1) := by decide +kernel
theorem dX4_decode_20 : decode cX4_decode 20 = .ok (.aload_n 0, 1) := by decide +kernel
theorem dX4_decode_21 : decode cX4_decode 21 = .ok (.invokevirtual 36, 3) := by decide +kernel
theorem dX4_decode_24 : decode cX4_decode 24 = .ok (.ifCond .eq 12, 3) := by decide +kernel
theorem dX4_decode_27 : decode cX4_decode 27 = .ok (.aload_n 0, 1) := by decide +kernel
theorem dX4_decode_28 : decode cX4_decode 28 = .ok (.getfield 18, 3) := by decide +kernel
theorem dX4_decode_31 : decode cX4_decode 31 = .ok (.iload_n 1, 1) := by decide +kernel
theorem dX4_decode_32 : decode cX4_decode 32 = .ok (.invokevirtual 71, 3) := by decide +kernel
theorem dX4_decode_35 : decode cX4_decode 35 = .ok (.ireturn, 1) := by decide +kernel
theorem dX4_decode_36 : decode cX4_decode 36 = .ok (.aload_n 0, 1) := by decide +kernel
theorem dX4_decode_37 : decode cX4_decode 37 = .ok (.getfield 32, 3) := by decide +kernel
theorem dX4_decode_40 : decode cX4_decode 40 = .ok (.ifCond .ne 10, 3) := by decide +kernel
theorem dX4_decode_43 : decode cX4_decode 43 = .ok (.iload_n 1, 1) := by decide +kernel
theorem dX4_decode_44 : decode cX4_decode 44 = .ok (.invokestatic 73, 3) := by decide +kernel
theorem dX4_decode_47 : decode cX4_decode 47 = .ok (.goto 7, 3) := by decide +kernel
theorem dX4_decode_50 : decode cX4_decode 50 = .ok (.iload_n 1, 1) := by decide +kernel
theorem dX4_decode_51 : decode cX4_decode 51 = .ok (.invokestatic 76, 3) := by decide +kernel
theorem dX4_decode_54 : decode cX4_decode 54 = .ok (.ireturn, 1) := by decide +kernel
theorem dX4_secondHeard_0 : decode cX4_secondHeard 0 = .ok (.aload_n 0, 1) := by decide +kernel
theorem dX4_secondHeard_1 : decode cX4_secondHeard 1 = .ok (.getfield 28, 3) := by decide +kernel
theorem dX4_secondHeard_4 : decode cX4_secondHeard 4 = .ok (.getfield 79, 3) := by decide +kernel
theorem dX4_secondHeard_7 : decode cX4_secondHeard 7 = .ok (.ireturn, 1) := by decide +kernel
theorem dX4_number_0 : decode cX4_number 0 = .ok (.aload_n 0, 1) := by decide +kernel
theorem dX4_number_1 : decode cX4_number 1 = .ok (.invokevirtual 44, 3) := by decide +kernel
theorem dX4_number_4 : decode cX4_number 4 = .ok (.ifCond .eq 27, 3) := by decide +kernel
theorem dX4_number_7 : decode cX4_number 7 = .ok (.iload_n 1, 1) := by decide +kernel
theorem dX4_number_8 : decode cX4_number 8 = .ok (.ifCond .eq 14, 3) := by decide +kernel
theorem dX4_number_11 : decode cX4_number 11 = .ok (.aload_n 0, 1) := by decide +kernel
theorem dX4_number_12 : decode cX4_number 12 = .ok (.getfield 24, 3) := by decide +kernel
theorem dX4_number_15 : decode cX4_number 15 = .ok (.iload_n 2, 1) := by decide +kernel
theorem dX4_number_16 : decode cX4_number 16 = .ok (.invokevirtual 82, 3) := by decide +kernel
theorem dX4_number_19 : decode cX4_number 19 = .ok (.goto 11, 3) := by decide +kernel
theorem dX4_number_22 : decode cX4_number 22 = .ok (.aload_n 0, 1) := by decide +kernel
theorem dX4_number_23 : decode cX4_number 23 = .ok (.getfield 28, 3) := by decide +kernel
theorem dX4_number_26 : decode cX4_number 26 = .ok (.iload_n 2, 1) := by decide +kernel
theorem dX4_number_27 : decode cX4_number 27 = .ok (.invokevirtual 82, 3) := by decide +kernel
theorem dX4_number_30 : decode cX4_number 30 = .ok (.ireturn, 1) := by decide +kernel
theorem dX4_number_31 : decode cX4_number 31 = .ok (.aload_n 0, 1) := by decide +kernel
theorem dX4_number_32 : decode cX4_number 32 = .ok (.invokevirtual 36, 3) := by decide +kernel
theorem dX4_number_35 : decode cX4_number 35 = .ok (.ifCond .eq 27, 3) := by decide +kernel
theorem dX4_number_38 : decode cX4_number 38 = .ok (.iload_n 1, 1) := by decide +kernel
theorem dX4_number_39 : decode cX4_number 39 = .ok (.ifCond .eq 14, 3) := by decide +kernel
theorem dX4_number_42 : decode cX4_number 42 = .ok (.aload_n 0, 1) := by decide +kernel
theorem dX4_number_43 : decode cX4_number 43 = .ok (.getfield 12, 3) := by decide +kernel
theorem dX4_number_46 : decode cX4_number 46 = .ok (.iload_n 2, 1) := by decide +kernel
theorem dX4_number_47 : decode cX4_number 47 = .ok (.invokevirtual 85, 3) := by decide +kernel
theorem dX4_number_50 : decode cX4_number 50 = .ok (.goto 11, 3) := by decide +kernel
theorem dX4_number_53 : decode cX4_number 53 = .ok (.aload_n 0, 1) := by decide +kernel
theorem dX4_number_54 : decode cX4_number 54 = .ok (.getfield 18, 3) := by decide +kernel
theorem dX4_number_57 : decode cX4_number 57 = .ok (.iload_n 2, 1) := by decide +kernel
theorem dX4_number_58 : decode cX4_number 58 = .ok (.invokevirtual 85, 3) := by decide +kernel
theorem dX4_number_61 : decode cX4_number 61 = .ok (.ireturn, 1) := by decide +kernel
theorem dX4_number_62 : decode cX4_number 62 = .ok (.ldc 31, 2) := by decide +kernel
theorem dX4_number_64 : decode cX4_number 64 = .ok (.ireturn, 1) := by decide +kernel
theorem dX5_init_0 : decode cX5_init 0 = .ok (.aload_n 0, 1) := by decide +kernel
theorem dX5_init_1 : decode cX5_init 1 = .ok (.invokespecial 3, 3) := by decide +kernel
theorem dX5_init_4 : decode cX5_init 4 = .ok (.aload_n 0, 1) := by decide +kernel
theorem dX5_init_5 : decode cX5_init 5 = .ok (.new 9, 3) := by decide +kernel
theorem dX5_init_8 : decode cX5_init 8 = .ok (.dup, 1) := by decide +kernel
theorem dX5_init_9 : decode cX5_init 9 = .ok (.invokespecial 11, 3) := by decide +kernel
theorem dX5_init_12 : decode cX5_init 12 = .ok (.putfield 12, 3) := by decide +kernel
theorem dX5_init_15 : decode cX5_init 15 = .ok (.aload_n 0, 1) := by decide +kernel
theorem dX5_init_16 : decode cX5_init 16 = .ok (.new 9, 3) := by decide +kernel
theorem dX5_init_19 : decode cX5_init 19 = .ok (.dup, 1) := by decide +kernel
theorem dX5_init_20 : decode cX5_init 20 = .ok (.invokespecial 11, 3) := by decide +kernel
theorem dX5_init_23 : decode cX5_init 23 = .ok (.putfield 18, 3) := by decide +kernel
theorem dX5_init_26 : decode cX5_init 26 = .ok (.aload_n 0, 1) := by decide +kernel
theorem dX5_init_27 : decode cX5_init 27 = .ok (.bipush 24, 2) := by decide +kernel
theorem dX5_init_29 : decode cX5_init 29 = .ok (.newarray .int, 2) := by decide +kernel
theorem dX5_init_31 : decode cX5_init 31 = .ok (.putfield 21, 3) := by decide +kernel
theorem dX5_init_34 : decode cX5_init 34 = .ok (.aload_n 0, 1) := by decide +kernel
theorem dX5_init_35 : decode cX5_init 35 = .ok (.iconst 0, 1) := by decide +kernel
theorem dX5_init_36 : decode cX5_init 36 = .ok (.putfield 25, 3) := by decide +kernel
theorem dX5_init_39 : decode cX5_init 39 = .ok (.return_, 1) := by decide +kernel
theorem dX5_begin_0 : decode cX5_begin 0 = .ok (.aload_n 0, 1) := by decide +kernel
theorem dX5_begin_1 : decode cX5_begin 1 = .ok (.getfield 12, 3) := by decide +kernel
theorem dX5_begin_4 : decode cX5_begin 4 = .ok (.bipush 32, 2) := by decide +kernel
theorem dX5_begin_6 : decode cX5_begin 6 = .ok (.invokevirtual 29, 3) := by decide +kernel
theorem dX5_begin_9 : decode cX5_begin 9 = .ok (.aload_n 0, 1) := by decide +kernel
theorem dX5_begin_10 : decode cX5_begin 10 = .ok (.getfield 18, 3) := by decide +kernel
theorem dX5_begin_13 : decode cX5_begin 13 = .ok (.bipush 8, 2) := by decide +kernel
theorem dX5_begin_15 : decode cX5_begin 15 = .ok (.invokevirtual 29, 3) := by decide +kernel
theorem dX5_begin_18 : decode cX5_begin 18 = .ok (.iconst 0, 1) := by decide +kernel
theorem dX5_begin_19 : decode cX5_begin 19 = .ok (.istore_n 1, 1) := by decide +kernel
theorem dX5_begin_20 : decode cX5_begin 20 = .ok (.iload_n 1, 1) := by decide +kernel
theorem dX5_begin_21 : decode cX5_begin 21 = .ok (.bipush 24, 2) := by decide +kernel
theorem dX5_begin_23 : decode cX5_begin 23 = .ok (.if_icmp .ge 16, 3) := by decide +kernel
theorem dX5_begin_26 : decode cX5_begin 26 = .ok (.aload_n 0, 1) := by decide +kernel
theorem dX5_begin_27 : decode cX5_begin 27 = .ok (.getfield 21, 3) := by decide +kernel
theorem dX5_begin_30 : decode cX5_begin 30 = .ok (.iload_n 1, 1) := by decide +kernel
theorem dX5_begin_31 : decode cX5_begin 31 = .ok (.iconst 0, 1) := by decide +kernel
theorem dX5_begin_32 : decode cX5_begin 32 = .ok (.iastore, 1) := by decide +kernel
theorem dX5_begin_33 : decode cX5_begin 33 = .ok (.iinc 1 1, 3) := by decide +kernel
theorem dX5_begin_36 : decode cX5_begin 36 = .ok (.goto (-16), 3) := by decide +kernel
theorem dX5_begin_39 : decode cX5_begin 39 = .ok (.aload_n 0, 1) := by decide +kernel
theorem dX5_begin_40 : decode cX5_begin 40 = .ok (.iconst 0, 1) := by decide +kernel
theorem dX5_begin_41 : decode cX5_begin 41 = .ok (.putfield 25, 3) := by decide +kernel
theorem dX5_begin_44 : decode cX5_begin 44 = .ok (.return_, 1) := by decide +kernel
theorem dX5_number_0 : decode cX5_number 0 = .ok (.iload_n 1, 1) := by decide +kernel
theorem dX5_number_1 : decode cX5_number 1 = .ok (.bipush 30, 2) := by decide +kernel
theorem dX5_number_3 : decode cX5_number 3 = .ok (.if_icmp .ge 12, 3) := by decide +kernel
theorem dX5_number_6 : decode cX5_number 6 = .ok (.aload_n 0, 1) := by decide +kernel
theorem dX5_number_7 : decode cX5_number 7 = .ok (.getfield 12, 3) := by decide +kernel
theorem dX5_number_10 : decode cX5_number 10 = .ok (.iload_n 1, 1) := by decide +kernel
theorem dX5_number_11 : decode cX5_number 11 = .ok (.invokevirtual 33, 3) := by decide +kernel
theorem dX5_number_14 : decode cX5_number 14 = .ok (.ireturn, 1) := by decide +kernel
theorem dX5_number_15 : decode cX5_number 15 = .ok (.iload_n 1, 1) := by decide +kernel
theorem dX5_number_16 : decode cX5_number 16 = .ok (.bipush 60, 2) := by decide +kernel
theorem dX5_number_18 : decode cX5_number 18 = .ok (.if_icmp .ge 15, 3) := by decide +kernel
theorem dX5_number_21 : decode cX5_number 21 = .ok (.aload_n 0, 1) := by decide +kernel
theorem dX5_number_22 : decode cX5_number 22 = .ok (.getfield 18, 3) := by decide +kernel
theorem dX5_number_25 : decode cX5_number 25 = .ok (.iload_n 1, 1) := by decide +kernel
theorem dX5_number_26 : decode cX5_number 26 = .ok (.bipush 30, 2) := by decide +kernel
theorem dX5_number_28 : decode cX5_number 28 = .ok (.isub, 1) := by decide +kernel
theorem dX5_number_29 : decode cX5_number 29 = .ok (.invokevirtual 33, 3) := by decide +kernel
theorem dX5_number_32 : decode cX5_number 32 = .ok (.ireturn, 1) := by decide +kernel
theorem dX5_number_33 : decode cX5_number 33 = .ok (.iload_n 1, 1) := by decide +kernel
theorem dX5_number_34 : decode cX5_number 34 = .ok (.bipush 84, 2) := by decide +kernel
theorem dX5_number_36 : decode cX5_number 36 = .ok (.if_icmp .ge 15, 3) := by decide +kernel
theorem dX5_number_39 : decode cX5_number 39 = .ok (.aload_n 0, 1) := by decide +kernel
theorem dX5_number_40 : decode cX5_number 40 = .ok (.getfield 21, 3) := by decide +kernel
theorem dX5_number_43 : decode cX5_number 43 = .ok (.iload_n 1, 1) := by decide +kernel
theorem dX5_number_44 : decode cX5_number 44 = .ok (.bipush 60, 2) := by decide +kernel
theorem dX5_number_46 : decode cX5_number 46 = .ok (.isub, 1) := by decide +kernel
theorem dX5_number_47 : decode cX5_number 47 = .ok (.iaload, 1) := by decide +kernel
theorem dX5_number_48 : decode cX5_number 48 = .ok (.goto 5, 3) := by decide +kernel
theorem dX5_number_51 : decode cX5_number 51 = .ok (.ldc 37, 2) := by decide +kernel
theorem dX5_number_53 : decode cX5_number 53 = .ok (.ireturn, 1) := by decide +kernel
theorem dX5_encode_0 : decode cX5_encode 0 = .ok (.aload_n 0, 1) := by decide +kernel
theorem dX5_encode_1 : decode cX5_encode 1 = .ok (.iload_n 1, 1) := by decide +kernel
theorem dX5_encode_2 : decode cX5_encode 2 = .ok (.iload_n 2, 1) := by decide +kernel
theorem dX5_encode_3 : decode cX5_encode 3 = .ok (.invokevirtual 38, 3) := by decide +kernel
theorem dX5_encode_6 : decode cX5_encode 6 = .ok (.aload_n 0, 1) := by decide +kernel
theorem dX5_encode_7 : decode cX5_encode 7 = .ok (.invokevirtual 42, 3) := by decide +kernel
theorem dX5_encode_10 : decode cX5_encode 10 = .ok (.istore_n 3, 1) := by decide +kernel
theorem dX5_encode_11 : decode cX5_encode 11 = .ok (.aload_n 0, 1) := by decide +kernel
theorem dX5_encode_12 : decode cX5_encode 12 = .ok (.invokevirtual 46, 3) := by decide +kernel
theorem dX5_encode_15 : decode cX5_encode 15 = .ok (.istore 4, 2) := by decide +kernel
theorem dX5_encode_17 : decode cX5_encode 17 = .ok (.aload_n 0, 1) := by decide +kernel
theorem dX5_encode_18 : decode cX5_encode 18 = .ok (.aload_n 0, 1) := by decide +kernel
theorem dX5_encode_19 : decode cX5_encode 19 = .ok (.getfield 12, 3) := by decide +kernel
theorem dX5_encode_22 : decode cX5_encode 22 = .ok (.iload 4, 2) := by decide +kernel
theorem dX5_encode_24 : decode cX5_encode 24 = .ok (.iload_n 3, 1) := by decide +kernel
theorem dX5_encode_25 : decode cX5_encode 25 = .ok (.iadd, 1) := by decide +kernel
theorem dX5_encode_26 : decode cX5_encode 26 = .ok (.bipush 14, 2) := by decide +kernel
theorem dX5_encode_28 : decode cX5_encode 28 = .ok (.ishr, 1) := by decide +kernel
theorem dX5_encode_29 : decode cX5_encode 29 = .ok (.invokevirtual 49, 3) := by decide +kernel
theorem dX5_encode_32 : decode cX5_encode 32 = .ok (.invokevirtual 52, 3) := by decide +kernel
theorem dX5_encode_35 : decode cX5_encode 35 = .ok (.istore 5, 2) := by decide +kernel
theorem dX5_encode_37 : decode cX5_encode 37 = .ok (.aload_n 0, 1) := by decide +kernel
theorem dX5_encode_38 : decode cX5_encode 38 = .ok (.aload_n 0, 1) := by decide +kernel
theorem dX5_encode_39 : decode cX5_encode 39 = .ok (.getfield 18, 3) := by decide +kernel
theorem dX5_encode_42 : decode cX5_encode 42 = .ok (.iload 4, 2) := by decide +kernel
theorem dX5_encode_44 : decode cX5_encode 44 = .ok (.iload_n 3, 1) := by decide +kernel
theorem dX5_encode_45 : decode cX5_encode 45 = .ok (.isub, 1) := by decide +kernel
theorem dX5_encode_46 : decode cX5_encode 46 = .ok (.bipush 14, 2) := by decide +kernel
theorem dX5_encode_48 : decode cX5_encode 48 = .ok (.ishr, 1) := by decide +kernel
theorem dX5_encode_49 : decode cX5_encode 49 = .ok (.invokevirtual 49, 3) := by decide +kernel
theorem dX5_encode_52 : decode cX5_encode 52 = .ok (.invokevirtual 55, 3) := by decide +kernel
theorem dX5_encode_55 : decode cX5_encode 55 = .ok (.istore 6, 2) := by decide +kernel
theorem dX5_encode_57 : decode cX5_encode 57 = .ok (.aload_n 0, 1) := by decide +kernel
theorem dX5_encode_58 : decode cX5_encode 58 = .ok (.iload 5, 2) := by decide +kernel
theorem dX5_encode_60 : decode cX5_encode 60 = .ok (.iload 6, 2) := by decide +kernel
theorem dX5_encode_62 : decode cX5_encode 62 = .ok (.invokevirtual 58, 3) := by decide +kernel
theorem dX5_encode_65 : decode cX5_encode 65 = .ok (.bipush 64, 2) := by decide +kernel
theorem dX5_encode_67 : decode cX5_encode 67 = .ok (.iload 6, 2) := by decide +kernel
theorem dX5_encode_69 : decode cX5_encode 69 = .ok (.imul, 1) := by decide +kernel
theorem dX5_encode_70 : decode cX5_encode 70 = .ok (.iload 5, 2) := by decide +kernel
theorem dX5_encode_72 : decode cX5_encode 72 = .ok (.iadd, 1) := by decide +kernel
theorem dX5_encode_73 : decode cX5_encode 73 = .ok (.ireturn, 1) := by decide +kernel
theorem dX5_decode_0 : decode cX5_decode 0 = .ok (.iload_n 1, 1) := by decide +kernel
theorem dX5_decode_1 : decode cX5_decode 1 = .ok (.bipush 63, 2) := by decide +kernel
theorem dX5_decode_3 : decode cX5_decode 3 = .ok (.iand, 1) := by decide +kernel
theorem dX5_decode_4 : decode cX5_decode 4 = .ok (.istore_n 3, 1) := by decide +kernel
theorem dX5_decode_5 : decode cX5_decode 5 = .ok (.iload_n 1, 1) := by decide +kernel
theorem dX5_decode_6 : decode cX5_decode 6 = .ok (.bipush 6, 2) := by decide +kernel
theorem dX5_decode_8 : decode cX5_decode 8 = .ok (.ishr, 1) := by decide +kernel
theorem dX5_decode_9 : decode cX5_decode 9 = .ok (.iconst 3, 1) := by decide +kernel
theorem dX5_decode_10 : decode cX5_decode 10 = .ok (.iand, 1) := by decide +kernel
theorem dX5_decode_11 : decode cX5_decode 11 = .ok (.istore 4, 2) := by decide +kernel
theorem dX5_decode_13 : decode cX5_decode 13 = .ok (.aload_n 0, 1) := by decide +kernel
theorem dX5_decode_14 : decode cX5_decode 14 = .ok (.getfield 12, 3) := by decide +kernel
theorem dX5_decode_17 : decode cX5_decode 17 = .ok (.iload_n 3, 1) := by decide +kernel
theorem dX5_decode_18 : decode cX5_decode 18 = .ok (.iload_n 2, 1) := by decide +kernel
theorem dX5_decode_19 : decode cX5_decode 19 = .ok (.invokestatic 61, 3) := by decide +kernel
theorem dX5_decode_22 : decode cX5_decode 22 = .ok (.invokevirtual 65, 3) := by decide +kernel
theorem dX5_decode_25 : decode cX5_decode 25 = .ok (.istore 5, 2) := by decide +kernel
theorem dX5_decode_27 : decode cX5_decode 27 = .ok (.aload_n 0, 1) := by decide +kernel
theorem dX5_decode_28 : decode cX5_decode 28 = .ok (.getfield 18, 3) := by decide +kernel
theorem dX5_decode_31 : decode cX5_decode 31 = .ok (.getstatic 68, 3) := by decide +kernel
theorem dX5_decode_34 : decode cX5_decode 34 = .ok (.iload 4, 2) := by decide +kernel
theorem dX5_decode_36 : decode cX5_decode 36 = .ok (.iaload, 1) := by decide +kernel
theorem dX5_decode_37 : decode cX5_decode 37 = .ok (.invokevirtual 65, 3) := by decide +kernel
theorem dX5_decode_40 : decode cX5_decode 40 = .ok (.istore 6, 2) := by decide +kernel
theorem dX5_decode_42 : decode cX5_decode 42 = .ok (.aload_n 0, 1) := by decide +kernel
theorem dX5_decode_43 : decode cX5_decode 43 = .ok (.iload_n 3, 1) := by decide +kernel
theorem dX5_decode_44 : decode cX5_decode 44 = .ok (.iload 4, 2) := by decide +kernel
theorem dX5_decode_46 : decode cX5_decode 46 = .ok (.invokevirtual 58, 3) := by decide +kernel
theorem dX5_decode_49 : decode cX5_decode 49 = .ok (.aload_n 0, 1) := by decide +kernel
theorem dX5_decode_50 : decode cX5_decode 50 = .ok (.iload 5, 2) := by decide +kernel
theorem dX5_decode_52 : decode cX5_decode 52 = .ok (.iload 6, 2) := by decide +kernel
theorem dX5_decode_54 : decode cX5_decode 54 = .ok (.iadd, 1) := by decide +kernel
theorem dX5_decode_55 : decode cX5_decode 55 = .ok (.iload 5, 2) := by decide +kernel
theorem dX5_decode_57 : decode cX5_decode 57 = .ok (.iload 6, 2) := by decide +kernel
theorem dX5_decode_59 : decode cX5_decode 59 = .ok (.isub, 1) := by decide +kernel
theorem dX5_decode_60 : decode cX5_decode 60 = .ok (.invokevirtual 38, 3) := by decide +kernel
theorem dX5_decode_63 : decode cX5_decode 63 = .ok (.aload_n 0, 1) := by decide +kernel
theorem dX5_decode_64 : decode cX5_decode 64 = .ok (.aload_n 0, 1) := by decide +kernel
theorem dX5_decode_65 : decode cX5_decode 65 = .ok (.invokevirtual 42, 3) := by decide +kernel
theorem dX5_decode_68 : decode cX5_decode 68 = .ok (.bipush 11, 2) := by decide +kernel
theorem dX5_decode_70 : decode cX5_decode 70 = .ok (.ishr, 1) := by decide +kernel
theorem dX5_decode_71 : decode cX5_decode 71 = .ok (.invokestatic 71, 3) := by decide +kernel
theorem dX5_decode_74 : decode cX5_decode 74 = .ok (.putfield 25, 3) := by decide +kernel
theorem dX5_decode_77 : decode cX5_decode 77 = .ok (.aload_n 0, 1) := by decide +kernel
theorem dX5_decode_78 : decode cX5_decode 78 = .ok (.invokevirtual 46, 3) := by decide +kernel
theorem dX5_decode_81 : decode cX5_decode 81 = .ok (.bipush 11, 2) := by decide +kernel
theorem dX5_decode_83 : decode cX5_decode 83 = .ok (.ishr, 1) := by decide +kernel
theorem dX5_decode_84 : decode cX5_decode 84 = .ok (.invokestatic 71, 3) := by decide +kernel
theorem dX5_decode_87 : decode cX5_decode 87 = .ok (.ireturn, 1) := by decide +kernel
theorem dX5_push_0 : decode cX5_push 0 = .ok (.iconst 0, 1) := by decide +kernel
theorem dX5_push_1 : decode cX5_push 1 = .ok (.istore_n 3, 1) := by decide +kernel
theorem dX5_push_2 : decode cX5_push 2 = .ok (.iload_n 3, 1) := by decide +kernel
theorem dX5_push_3 : decode cX5_push 3 = .ok (.bipush 22, 2) := by decide +kernel
theorem dX5_push_5 : decode cX5_push 5 = .ok (.if_icmp .ge 23, 3) := by decide +kernel
theorem dX5_push_8 : decode cX5_push 8 = .ok (.aload_n 0, 1) := by decide +kernel
theorem dX5_push_9 : decode cX5_push 9 = .ok (.getfield 21, 3) := by decide +kernel
theorem dX5_push_12 : decode cX5_push 12 = .ok (.iload_n 3, 1) := by decide +kernel
theorem dX5_push_13 : decode cX5_push 13 = .ok (.aload_n 0, 1) := by decide +kernel
theorem dX5_push_14 : decode cX5_push 14 = .ok (.getfield 21, 3) := by decide +kernel
theorem dX5_push_17 : decode cX5_push 17 = .ok (.iload_n 3, 1) := by decide +kernel
theorem dX5_push_18 : decode cX5_push 18 = .ok (.iconst 2, 1) := by decide +kernel
theorem dX5_push_19 : decode cX5_push 19 = .ok (.iadd, 1) := by decide +kernel
theorem dX5_push_20 : decode cX5_push 20 = .ok (.iaload, 1) := by decide +kernel
theorem dX5_push_21 : decode cX5_push 21 = .ok (.iastore, 1) := by decide +kernel
theorem dX5_push_22 : decode cX5_push 22 = .ok (.iinc 3 1, 3) := by decide +kernel
theorem dX5_push_25 : decode cX5_push 25 = .ok (.goto (-23), 3) := by decide +kernel
theorem dX5_push_28 : decode cX5_push 28 = .ok (.aload_n 0, 1) := by decide +kernel
theorem dX5_push_29 : decode cX5_push 29 = .ok (.getfield 21, 3) := by decide +kernel
theorem dX5_push_32 : decode cX5_push 32 = .ok (.bipush 22, 2) := by decide +kernel
theorem dX5_push_34 : decode cX5_push 34 = .ok (.iload_n 1, 1) := by decide +kernel
theorem dX5_push_35 : decode cX5_push 35 = .ok (.iastore, 1) := by decide +kernel
theorem dX5_push_36 : decode cX5_push 36 = .ok (.aload_n 0, 1) := by decide +kernel
theorem dX5_push_37 : decode cX5_push 37 = .ok (.getfield 21, 3) := by decide +kernel
theorem dX5_push_40 : decode cX5_push 40 = .ok (.bipush 23, 2) := by decide +kernel
theorem dX5_push_42 : decode cX5_push 42 = .ok (.iload_n 2, 1) := by decide +kernel
theorem dX5_push_43 : decode cX5_push 43 = .ok (.iastore, 1) := by decide +kernel
theorem dX5_push_44 : decode cX5_push 44 = .ok (.return_, 1) := by decide +kernel
theorem dX5_evenSum_0 : decode cX5_evenSum 0 = .ok (.iconst 0, 1) := by decide +kernel
theorem dX5_evenSum_1 : decode cX5_evenSum 1 = .ok (.istore_n 1, 1) := by decide +kernel
theorem dX5_evenSum_2 : decode cX5_evenSum 2 = .ok (.iconst 0, 1) := by decide +kernel
theorem dX5_evenSum_3 : decode cX5_evenSum 3 = .ok (.istore_n 2, 1) := by decide +kernel
theorem dX5_evenSum_4 : decode cX5_evenSum 4 = .ok (.iload_n 2, 1) := by decide +kernel
theorem dX5_evenSum_5 : decode cX5_evenSum 5 = .ok (.bipush 12, 2) := by decide +kernel
theorem dX5_evenSum_7 : decode cX5_evenSum 7 = .ok (.if_icmp .ge 26, 3) := by decide +kernel
theorem dX5_evenSum_10 : decode cX5_evenSum 10 = .ok (.iload_n 1, 1) := by decide +kernel
theorem dX5_evenSum_11 : decode cX5_evenSum 11 = .ok (.aload_n 0, 1) := by decide +kernel
theorem dX5_evenSum_12 : decode cX5_evenSum 12 = .ok (.getfield 21, 3) := by decide +kernel
theorem dX5_evenSum_15 : decode cX5_evenSum 15 = .ok (.iconst 2, 1) := by decide +kernel
theorem dX5_evenSum_16 : decode cX5_evenSum 16 = .ok (.iload_n 2, 1) := by decide +kernel
theorem dX5_evenSum_17 : decode cX5_evenSum 17 = .ok (.imul, 1) := by decide +kernel
theorem dX5_evenSum_18 : decode cX5_evenSum 18 = .ok (.iaload, 1) := by decide +kernel
theorem dX5_evenSum_19 : decode cX5_evenSum 19 = .ok (.getstatic 74, 3) := by decide +kernel
theorem dX5_evenSum_22 : decode cX5_evenSum 22 = .ok (.iload_n 2, 1) := by decide +kernel
theorem dX5_evenSum_23 : decode cX5_evenSum 23 = .ok (.iaload, 1) := by decide +kernel
theorem dX5_evenSum_24 : decode cX5_evenSum 24 = .ok (.imul, 1) := by decide +kernel
theorem dX5_evenSum_25 : decode cX5_evenSum 25 = .ok (.iadd, 1) := by decide +kernel
theorem dX5_evenSum_26 : decode cX5_evenSum 26 = .ok (.istore_n 1, 1) := by decide +kernel
theorem dX5_evenSum_27 : decode cX5_evenSum 27 = .ok (.iinc 2 1, 3) := by decide +kernel
theorem dX5_evenSum_30 : decode cX5_evenSum 30 = .ok (.goto (-26), 3) := by decide +kernel
theorem dX5_evenSum_33 : decode cX5_evenSum 33 = .ok (.iload_n 1, 1) := by decide +kernel
theorem dX5_evenSum_34 : decode cX5_evenSum 34 = .ok (.ireturn, 1) := by decide +kernel
theorem dX5_oddSum_0 : decode cX5_oddSum 0 = .ok (.iconst 0, 1) := by decide +kernel
theorem dX5_oddSum_1 : decode cX5_oddSum 1 = .ok (.istore_n 1, 1) := by decide +kernel
theorem dX5_oddSum_2 : decode cX5_oddSum 2 = .ok (.iconst 0, 1) := by decide +kernel
theorem dX5_oddSum_3 : decode cX5_oddSum 3 = .ok (.istore_n 2, 1) := by decide +kernel
theorem dX5_oddSum_4 : decode cX5_oddSum 4 = .ok (.iload_n 2, 1) := by decide +kernel
theorem dX5_oddSum_5 : decode cX5_oddSum 5 = .ok (.bipush 12, 2) := by decide +kernel
theorem dX5_oddSum_7 : decode cX5_oddSum 7 = .ok (.if_icmp .ge 31, 3) := by decide +kernel
theorem dX5_oddSum_10 : decode cX5_oddSum 10 = .ok (.iload_n 1, 1) := by decide +kernel
theorem dX5_oddSum_11 : decode cX5_oddSum 11 = .ok (.aload_n 0, 1) := by decide +kernel
theorem dX5_oddSum_12 : decode cX5_oddSum 12 = .ok (.getfield 21, 3) := by decide +kernel
theorem dX5_oddSum_15 : decode cX5_oddSum 15 = .ok (.iconst 2, 1) := by decide +kernel
theorem dX5_oddSum_16 : decode cX5_oddSum 16 = .ok (.iload_n 2, 1) := by decide +kernel
theorem dX5_oddSum_17 : decode cX5_oddSum 17 = .ok (.imul, 1) := by decide +kernel
theorem dX5_oddSum_18 : decode cX5_oddSum 18 = .ok (.iconst 1, 1) := by decide +kernel
theorem dX5_oddSum_19 : decode cX5_oddSum 19 = .ok (.iadd, 1) := by decide +kernel
theorem dX5_oddSum_20 : decode cX5_oddSum 20 = .ok (.iaload, 1) := by decide +kernel
theorem dX5_oddSum_21 : decode cX5_oddSum 21 = .ok (.getstatic 74, 3) := by decide +kernel
theorem dX5_oddSum_24 : decode cX5_oddSum 24 = .ok (.bipush 11, 2) := by decide +kernel
theorem dX5_oddSum_26 : decode cX5_oddSum 26 = .ok (.iload_n 2, 1) := by decide +kernel
theorem dX5_oddSum_27 : decode cX5_oddSum 27 = .ok (.isub, 1) := by decide +kernel
theorem dX5_oddSum_28 : decode cX5_oddSum 28 = .ok (.iaload, 1) := by decide +kernel
theorem dX5_oddSum_29 : decode cX5_oddSum 29 = .ok (.imul, 1) := by decide +kernel
theorem dX5_oddSum_30 : decode cX5_oddSum 30 = .ok (.iadd, 1) := by decide +kernel
theorem dX5_oddSum_31 : decode cX5_oddSum 31 = .ok (.istore_n 1, 1) := by decide +kernel
theorem dX5_oddSum_32 : decode cX5_oddSum 32 = .ok (.iinc 2 1, 3) := by decide +kernel
theorem dX5_oddSum_35 : decode cX5_oddSum 35 = .ok (.goto (-31), 3) := by decide +kernel
theorem dX5_oddSum_38 : decode cX5_oddSum 38 = .ok (.iload_n 1, 1) := by decide +kernel
theorem dX5_oddSum_39 : decode cX5_oddSum 39 = .ok (.ireturn, 1) := by decide +kernel
theorem dX5_lowCode_0 : decode cX5_lowCode 0 = .ok (.iload_n 1, 1) := by decide +kernel
theorem dX5_lowCode_1 : decode cX5_lowCode 1 = .ok (.ifCond .ge 10, 3) := by decide +kernel
theorem dX5_lowCode_4 : decode cX5_lowCode 4 = .ok (.iload_n 1, 1) := by decide +kernel
theorem dX5_lowCode_5 : decode cX5_lowCode 5 = .ok (.iconst 1, 1) := by decide +kernel
theorem dX5_lowCode_6 : decode cX5_lowCode 6 = .ok (.iadd, 1) := by decide +kernel
theorem dX5_lowCode_7 : decode cX5_lowCode 7 = .ok (.ineg, 1) := by decide +kernel
theorem dX5_lowCode_8 : decode cX5_lowCode 8 = .ok (.goto 4, 3) := by decide +kernel
theorem dX5_lowCode_11 : decode cX5_lowCode 11 = .ok (.iload_n 1, 1) := by decide +kernel
theorem dX5_lowCode_12 : decode cX5_lowCode 12 = .ok (.istore_n 2, 1) := by decide +kernel
theorem dX5_lowCode_13 : decode cX5_lowCode 13 = .ok (.iconst 1, 1) := by decide +kernel
theorem dX5_lowCode_14 : decode cX5_lowCode 14 = .ok (.istore_n 3, 1) := by decide +kernel
theorem dX5_lowCode_15 : decode cX5_lowCode 15 = .ok (.iload_n 3, 1) := by decide +kernel
theorem dX5_lowCode_16 : decode cX5_lowCode 16 = .ok (.bipush 30, 2) := by decide +kernel
theorem dX5_lowCode_18 : decode cX5_lowCode 18 = .ok (.if_icmp .ge 27, 3) := by decide +kernel
theorem dX5_lowCode_21 : decode cX5_lowCode 21 = .ok (.iload_n 2, 1) := by decide +kernel
theorem dX5_lowCode_22 : decode cX5_lowCode 22 = .ok (.aload_n 0, 1) := by decide +kernel
theorem dX5_lowCode_23 : decode cX5_lowCode 23 = .ok (.getfield 12, 3) := by decide +kernel
theorem dX5_lowCode_26 : decode cX5_lowCode 26 = .ok (.getstatic 77, 3) := by decide +kernel
theorem dX5_lowCode_29 : decode cX5_lowCode 29 = .ok (.iload_n 3, 1) := by decide +kernel
theorem dX5_lowCode_30 : decode cX5_lowCode 30 = .ok (.iconst 1, 1) := by decide +kernel
theorem dX5_lowCode_31 : decode cX5_lowCode 31 = .ok (.isub, 1) := by decide +kernel
theorem dX5_lowCode_32 : decode cX5_lowCode 32 = .ok (.iaload, 1) := by decide +kernel
theorem dX5_lowCode_33 : decode cX5_lowCode 33 = .ok (.invokevirtual 80, 3) := by decide +kernel
theorem dX5_lowCode_36 : decode cX5_lowCode 36 = .ok (.if_icmp .lt 9, 3) := by decide +kernel
theorem dX5_lowCode_39 : decode cX5_lowCode 39 = .ok (.iinc 3 1, 3) := by decide +kernel
theorem dX5_lowCode_42 : decode cX5_lowCode 42 = .ok (.goto (-27), 3) := by decide +kernel
theorem dX5_lowCode_45 : decode cX5_lowCode 45 = .ok (.iload_n 1, 1) := by decide +kernel
theorem dX5_lowCode_46 : decode cX5_lowCode 46 = .ok (.ifCond .lt 8, 3) := by decide +kernel
theorem dX5_lowCode_49 : decode cX5_lowCode 49 = .ok (.bipush 62, 2) := by decide +kernel
theorem dX5_lowCode_51 : decode cX5_lowCode 51 = .ok (.iload_n 3, 1) := by decide +kernel
theorem dX5_lowCode_52 : decode cX5_lowCode 52 = .ok (.isub, 1) := by decide +kernel
theorem dX5_lowCode_53 : decode cX5_lowCode 53 = .ok (.ireturn, 1) := by decide +kernel
theorem dX5_lowCode_54 : decode cX5_lowCode 54 = .ok (.iload_n 3, 1) := by decide +kernel
theorem dX5_lowCode_55 : decode cX5_lowCode 55 = .ok (.iconst 3, 1) := by decide +kernel
theorem dX5_lowCode_56 : decode cX5_lowCode 56 = .ok (.if_icmp .ge 10, 3) := by decide +kernel
theorem dX5_lowCode_59 : decode cX5_lowCode 59 = .ok (.bipush 64, 2) := by decide +kernel
theorem dX5_lowCode_61 : decode cX5_lowCode 61 = .ok (.iload_n 3, 1) := by decide +kernel
theorem dX5_lowCode_62 : decode cX5_lowCode 62 = .ok (.isub, 1) := by decide +kernel
theorem dX5_lowCode_63 : decode cX5_lowCode 63 = .ok (.goto 7, 3) := by decide +kernel
theorem dX5_lowCode_66 : decode cX5_lowCode 66 = .ok (.bipush 34, 2) := by decide +kernel
theorem dX5_lowCode_68 : decode cX5_lowCode 68 = .ok (.iload_n 3, 1) := by decide +kernel
theorem dX5_lowCode_69 : decode cX5_lowCode 69 = .ok (.isub, 1) := by decide +kernel
theorem dX5_lowCode_70 : decode cX5_lowCode 70 = .ok (.ireturn, 1) := by decide +kernel
theorem dX5_highCode_0 : decode cX5_highCode 0 = .ok (.iload_n 1, 1) := by decide +kernel
theorem dX5_highCode_1 : decode cX5_highCode 1 = .ok (.ifCond .ge 10, 3) := by decide +kernel
theorem dX5_highCode_4 : decode cX5_highCode 4 = .ok (.iload_n 1, 1) := by decide +kernel
theorem dX5_highCode_5 : decode cX5_highCode 5 = .ok (.iconst 1, 1) := by decide +kernel
theorem dX5_highCode_6 : decode cX5_highCode 6 = .ok (.iadd, 1) := by decide +kernel
theorem dX5_highCode_7 : decode cX5_highCode 7 = .ok (.ineg, 1) := by decide +kernel
theorem dX5_highCode_8 : decode cX5_highCode 8 = .ok (.goto 4, 3) := by decide +kernel
theorem dX5_highCode_11 : decode cX5_highCode 11 = .ok (.iload_n 1, 1) := by decide +kernel
theorem dX5_highCode_12 : decode cX5_highCode 12 = .ok (.istore_n 2, 1) := by decide +kernel
theorem dX5_highCode_13 : decode cX5_highCode 13 = .ok (.iload_n 2, 1) := by decide +kernel
theorem dX5_highCode_14 : decode cX5_highCode 14 = .ok (.aload_n 0, 1) := by decide +kernel
theorem dX5_highCode_15 : decode cX5_highCode 15 = .ok (.getfield 18, 3) := by decide +kernel
theorem dX5_highCode_18 : decode cX5_highCode 18 = .ok (.sipush 564, 3) := by decide +kernel
theorem dX5_highCode_21 : decode cX5_highCode 21 = .ok (.invokevirtual 80, 3) := by decide +kernel
theorem dX5_highCode_24 : decode cX5_highCode 24 = .ok (.if_icmp .ge 7, 3) := by decide +kernel
theorem dX5_highCode_27 : decode cX5_highCode 27 = .ok (.iconst 1, 1) := by decide +kernel
theorem dX5_highCode_28 : decode cX5_highCode 28 = .ok (.goto 4, 3) := by decide +kernel
theorem dX5_highCode_31 : decode cX5_highCode 31 = .ok (.iconst 0, 1) := by decide +kernel
theorem dX5_highCode_32 : decode cX5_highCode 32 = .ok (.istore_n 3, 1) := by decide +kernel
theorem dX5_highCode_33 : decode cX5_highCode 33 = .ok (.iload_n 1, 1) := by decide +kernel
theorem dX5_highCode_34 : decode cX5_highCode 34 = .ok (.ifCond .ge 7, 3) := by decide +kernel
theorem dX5_highCode_37 : decode cX5_highCode 37 = .ok (.iload_n 3, 1) := by decide +kernel
theorem dX5_highCode_38 : decode cX5_highCode 38 = .ok (.goto 6, 3) := by decide +kernel
theorem dX5_highCode_41 : decode cX5_highCode 41 = .ok (.iconst 2, 1) := by decide +kernel
theorem dX5_highCode_42 : decode cX5_highCode 42 = .ok (.iload_n 3, 1) := by decide +kernel
theorem dX5_highCode_43 : decode cX5_highCode 43 = .ok (.iadd, 1) := by decide +kernel
theorem dX5_highCode_44 : decode cX5_highCode 44 = .ok (.ireturn, 1) := by decide +kernel
theorem dX5_lowFactor_0 : decode cX5_lowFactor 0 = .ok (.iload_n 1, 1) := by decide +kernel
theorem dX5_lowFactor_1 : decode cX5_lowFactor 1 = .ok (.bipush 6, 2) := by decide +kernel
theorem dX5_lowFactor_3 : decode cX5_lowFactor 3 = .ok (.if_icmp .ne 12, 3) := by decide +kernel
theorem dX5_lowFactor_6 : decode cX5_lowFactor 6 = .ok (.getstatic 83, 3) := by decide +kernel
theorem dX5_lowFactor_9 : decode cX5_lowFactor 9 = .ok (.iload_n 0, 1) := by decide +kernel
theorem dX5_lowFactor_10 : decode cX5_lowFactor 10 = .ok (.bipush 63, 2) := by decide +kernel
theorem dX5_lowFactor_12 : decode cX5_lowFactor 12 = .ok (.iand, 1) := by decide +kernel
theorem dX5_lowFactor_13 : decode cX5_lowFactor 13 = .ok (.iaload, 1) := by decide +kernel
theorem dX5_lowFactor_14 : decode cX5_lowFactor 14 = .ok (.ireturn, 1) := by decide +kernel
theorem dX5_lowFactor_15 : decode cX5_lowFactor 15 = .ok (.iload_n 1, 1) := by decide +kernel
theorem dX5_lowFactor_16 : decode cX5_lowFactor 16 = .ok (.bipush 7, 2) := by decide +kernel
theorem dX5_lowFactor_18 : decode cX5_lowFactor 18 = .ok (.if_icmp .ne 14, 3) := by decide +kernel
theorem dX5_lowFactor_21 : decode cX5_lowFactor 21 = .ok (.getstatic 86, 3) := by decide +kernel
theorem dX5_lowFactor_24 : decode cX5_lowFactor 24 = .ok (.iload_n 0, 1) := by decide +kernel
theorem dX5_lowFactor_25 : decode cX5_lowFactor 25 = .ok (.iconst 1, 1) := by decide +kernel
theorem dX5_lowFactor_26 : decode cX5_lowFactor 26 = .ok (.ishr, 1) := by decide +kernel
theorem dX5_lowFactor_27 : decode cX5_lowFactor 27 = .ok (.bipush 31, 2) := by decide +kernel
theorem dX5_lowFactor_29 : decode cX5_lowFactor 29 = .ok (.iand, 1) := by decide +kernel
theorem dX5_lowFactor_30 : decode cX5_lowFactor 30 = .ok (.iaload, 1) := by decide +kernel
theorem dX5_lowFactor_31 : decode cX5_lowFactor 31 = .ok (.ireturn, 1) := by decide +kernel
theorem dX5_lowFactor_32 : decode cX5_lowFactor 32 = .ok (.getstatic 89, 3) := by decide +kernel
theorem dX5_lowFactor_35 : decode cX5_lowFactor 35 = .ok (.iload_n 0, 1) := by decide +kernel
theorem dX5_lowFactor_36 : decode cX5_lowFactor 36 = .ok (.iconst 2, 1) := by decide +kernel
theorem dX5_lowFactor_37 : decode cX5_lowFactor 37 = .ok (.ishr, 1) := by decide +kernel
theorem dX5_lowFactor_38 : decode cX5_lowFactor 38 = .ok (.bipush 15, 2) := by decide +kernel
theorem dX5_lowFactor_40 : decode cX5_lowFactor 40 = .ok (.iand, 1) := by decide +kernel
theorem dX5_lowFactor_41 : decode cX5_lowFactor 41 = .ok (.iaload, 1) := by decide +kernel
theorem dX5_lowFactor_42 : decode cX5_lowFactor 42 = .ok (.ireturn, 1) := by decide +kernel
theorem dX5_settle_0 : decode cX5_settle 0 = .ok (.iload_n 1, 1) := by decide +kernel
theorem dX5_settle_1 : decode cX5_settle 1 = .ok (.iconst 2, 1) := by decide +kernel
theorem dX5_settle_2 : decode cX5_settle 2 = .ok (.ishr, 1) := by decide +kernel
theorem dX5_settle_3 : decode cX5_settle 3 = .ok (.bipush 15, 2) := by decide +kernel
theorem dX5_settle_5 : decode cX5_settle 5 = .ok (.iand, 1) := by decide +kernel
theorem dX5_settle_6 : decode cX5_settle 6 = .ok (.istore_n 3, 1) := by decide +kernel
theorem dX5_settle_7 : decode cX5_settle 7 = .ok (.aload_n 0, 1) := by decide +kernel
theorem dX5_settle_8 : decode cX5_settle 8 = .ok (.getfield 12, 3) := by decide +kernel
theorem dX5_settle_11 : decode cX5_settle 11 = .ok (.getstatic 89, 3) := by decide +kernel
theorem dX5_settle_14 : decode cX5_settle 14 = .ok (.iload_n 3, 1) := by decide +kernel
theorem dX5_settle_15 : decode cX5_settle 15 = .ok (.iaload, 1) := by decide +kernel
theorem dX5_settle_16 : decode cX5_settle 16 = .ok (.getstatic 92, 3) := by decide +kernel
theorem dX5_settle_19 : decode cX5_settle 19 = .ok (.iload_n 3, 1) := by decide +kernel
theorem dX5_settle_20 : decode cX5_settle 20 = .ok (.iaload, 1) := by decide +kernel
theorem dX5_settle_21 : decode cX5_settle 21 = .ok (.sipush 18432, 3) := by decide +kernel
theorem dX5_settle_24 : decode cX5_settle 24 = .ok (.bipush 8, 2) := by decide +kernel
theorem dX5_settle_26 : decode cX5_settle 26 = .ok (.invokevirtual 95, 3) := by decide +kernel
theorem dX5_settle_29 : decode cX5_settle 29 = .ok (.aload_n 0, 1) := by decide +kernel
theorem dX5_settle_30 : decode cX5_settle 30 = .ok (.getfield 18, 3) := by decide +kernel
theorem dX5_settle_33 : decode cX5_settle 33 = .ok (.getstatic 68, 3) := by decide +kernel
theorem dX5_settle_36 : decode cX5_settle 36 = .ok (.iload_n 2, 1) := by decide +kernel
theorem dX5_settle_37 : decode cX5_settle 37 = .ok (.iconst 3, 1) := by decide +kernel
theorem dX5_settle_38 : decode cX5_settle 38 = .ok (.iand, 1) := by decide +kernel
theorem dX5_settle_39 : decode cX5_settle 39 = .ok (.iaload, 1) := by decide +kernel
theorem dX5_settle_40 : decode cX5_settle 40 = .ok (.getstatic 98, 3) := by decide +kernel
theorem dX5_settle_43 : decode cX5_settle 43 = .ok (.iload_n 2, 1) := by decide +kernel
theorem dX5_settle_44 : decode cX5_settle 44 = .ok (.iconst 3, 1) := by decide +kernel
theorem dX5_settle_45 : decode cX5_settle 45 = .ok (.iand, 1) := by decide +kernel
theorem dX5_settle_46 : decode cX5_settle 46 = .ok (.iaload, 1) := by decide +kernel
theorem dX5_settle_47 : decode cX5_settle 47 = .ok (.sipush 22528, 3) := by decide +kernel
theorem dX5_settle_50 : decode cX5_settle 50 = .ok (.bipush 10, 2) := by decide +kernel
theorem dX5_settle_52 : decode cX5_settle 52 = .ok (.invokevirtual 95, 3) := by decide +kernel
theorem dX5_settle_55 : decode cX5_settle 55 = .ok (.return_, 1) := by decide +kernel
theorem dX6_init_0 : decode cX6_init 0 = .ok (.aload_n 0, 1) := by decide +kernel
theorem dX6_init_1 : decode cX6_init 1 = .ok (.invokespecial 1, 3) := by decide +kernel
theorem dX6_init_4 : decode cX6_init 4 = .ok (.aload_n 0, 1) := by decide +kernel
theorem dX6_init_5 : decode cX6_init 5 = .ok (.iconst 4, 1) := by decide +kernel
theorem dX6_init_6 : decode cX6_init 6 = .ok (.anewarray 9, 3) := by decide +kernel
theorem dX6_init_9 : decode cX6_init 9 = .ok (.putfield 11, 3) := by decide +kernel
theorem dX6_init_12 : decode cX6_init 12 = .ok (.iconst 0, 1) := by decide +kernel
theorem dX6_init_13 : decode cX6_init 13 = .ok (.istore_n 1, 1) := by decide +kernel
theorem dX6_init_14 : decode cX6_init 14 = .ok (.iload_n 1, 1) := by decide +kernel
theorem dX6_init_15 : decode cX6_init 15 = .ok (.iconst 4, 1) := by decide +kernel
theorem dX6_init_16 : decode cX6_init 16 = .ok (.if_icmp .ge 22, 3) := by decide +kernel
theorem dX6_init_19 : decode cX6_init 19 = .ok (.aload_n 0, 1) := by decide +kernel
theorem dX6_init_20 : decode cX6_init 20 = .ok (.getfield 11, 3) := by decide +kernel
theorem dX6_init_23 : decode cX6_init 23 = .ok (.iload_n 1, 1) := by decide +kernel
theorem dX6_init_24 : decode cX6_init 24 = .ok (.new 9, 3) := by decide +kernel
theorem dX6_init_27 : decode cX6_init 27 = .ok (.dup, 1) := by decide +kernel
theorem dX6_init_28 : decode cX6_init 28 = .ok (.invokespecial 15, 3) := by decide +kernel
theorem dX6_init_31 : decode cX6_init 31 = .ok (.aastore, 1) := by decide +kernel
theorem dX6_init_32 : decode cX6_init 32 = .ok (.iinc 1 1, 3) := by decide +kernel
theorem dX6_init_35 : decode cX6_init 35 = .ok (.goto (-21), 3) := by decide +kernel
theorem dX6_init_38 : decode cX6_init 38 = .ok (.aload_n 0, 1) := by decide +kernel
theorem dX6_init_39 : decode cX6_init 39 = .ok (.new 16, 3) := by decide +kernel
theorem dX6_init_42 : decode cX6_init 42 = .ok (.dup, 1) := by decide +kernel
theorem dX6_init_43 : decode cX6_init 43 = .ok (.invokespecial 18, 3) := by decide +kernel
theorem dX6_init_46 : decode cX6_init 46 = .ok (.putfield 19, 3) := by decide +kernel
theorem dX6_init_49 : decode cX6_init 49 = .ok (.aload_n 0, 1) := by decide +kernel
theorem dX6_init_50 : decode cX6_init 50 = .ok (.new 16, 3) := by decide +kernel
theorem dX6_init_53 : decode cX6_init 53 = .ok (.dup, 1) := by decide +kernel
theorem dX6_init_54 : decode cX6_init 54 = .ok (.invokespecial 18, 3) := by decide +kernel
theorem dX6_init_57 : decode cX6_init 57 = .ok (.putfield 23, 3) := by decide +kernel
theorem dX6_init_60 : decode cX6_init 60 = .ok (.return_, 1) := by decide +kernel
theorem dX6_open_0 : decode cX6_open 0 = .ok (.iload_n 1, 1) := by decide +kernel
theorem dX6_open_1 : decode cX6_open 1 = .ok (.ifCond .lt 18, 3) := by decide +kernel
theorem dX6_open_4 : decode cX6_open 4 = .ok (.iload_n 1, 1) := by decide +kernel
theorem dX6_open_5 : decode cX6_open 5 = .ok (.iconst 4, 1) := by decide +kernel
theorem dX6_open_6 : decode cX6_open 6 = .ok (.if_icmp .ge 13, 3) := by decide +kernel
theorem dX6_open_9 : decode cX6_open 9 = .ok (.iload_n 2, 1) := by decide +kernel
theorem dX6_open_10 : decode cX6_open 10 = .ok (.ifCond .lt 9, 3) := by decide +kernel
theorem dX6_open_13 : decode cX6_open 13 = .ok (.iload_n 2, 1) := by decide +kernel
theorem dX6_open_14 : decode cX6_open 14 = .ok (.bipush 8, 2) := by decide +kernel
theorem dX6_open_16 : decode cX6_open 16 = .ok (.if_icmp .le 5, 3) := by decide +kernel
theorem dX6_open_19 : decode cX6_open 19 = .ok (.iconst 0, 1) := by decide +kernel
theorem dX6_open_20 : decode cX6_open 20 = .ok (.ireturn, 1) := by decide +kernel
theorem dX6_open_21 : decode cX6_open 21 = .ok (.aload_n 0, 1) := by decide +kernel
theorem dX6_open_22 : decode cX6_open 22 = .ok (.getfield 11, 3) := by decide +kernel
theorem dX6_open_25 : decode cX6_open 25 = .ok (.iload_n 1, 1) := by decide +kernel
theorem dX6_open_26 : decode cX6_open 26 = .ok (.aaload, 1) := by decide +kernel
theorem dX6_open_27 : decode cX6_open 27 = .ok (.iload_n 2, 1) := by decide +kernel
theorem dX6_open_28 : decode cX6_open 28 = .ok (.invokevirtual 26, 3) := by decide +kernel
theorem dX6_open_31 : decode cX6_open 31 = .ok (.iconst 1, 1) := by decide +kernel
theorem dX6_open_32 : decode cX6_open 32 = .ok (.ireturn, 1) := by decide +kernel
theorem dX6_kind_0 : decode cX6_kind 0 = .ok (.aload_n 0, 1) := by decide +kernel
theorem dX6_kind_1 : decode cX6_kind 1 = .ok (.iload_n 1, 1) := by decide +kernel
theorem dX6_kind_2 : decode cX6_kind 2 = .ok (.invokevirtual 30, 3) := by decide +kernel
theorem dX6_kind_5 : decode cX6_kind 5 = .ok (.astore_n 2, 1) := by decide +kernel
theorem dX6_kind_6 : decode cX6_kind 6 = .ok (.aload_n 2, 1) := by decide +kernel
theorem dX6_kind_7 : decode cX6_kind 7 = .ok (.ifnonnull 8, 3) := by decide +kernel
theorem dX6_kind_10 : decode cX6_kind 10 = .ok (.ldc 34, 2) := by decide +kernel
theorem dX6_kind_12 : decode cX6_kind 12 = .ok (.goto 7, 3) := by decide +kernel
theorem dX6_kind_15 : decode cX6_kind 15 = .ok (.aload_n 2, 1) := by decide +kernel
theorem dX6_kind_16 : decode cX6_kind 16 = .ok (.getfield 35, 3) := by decide +kernel
theorem dX6_kind_19 : decode cX6_kind 19 = .ok (.ireturn, 1) := by decide +kernel
theorem dX6_say_0 : decode cX6_say 0 = .ok (.aload_n 0, 1) := by decide +kernel
theorem dX6_say_1 : decode cX6_say 1 = .ok (.iload_n 1, 1) := by decide +kernel
theorem dX6_say_2 : decode cX6_say 2 = .ok (.invokevirtual 30, 3) := by decide +kernel
theorem dX6_say_5 : decode cX6_say 5 = .ok (.astore_n 3, 1) := by decide +kernel
theorem dX6_say_6 : decode cX6_say 6 = .ok (.aload_n 3, 1) := by decide +kernel
theorem dX6_say_7 : decode cX6_say 7 = .ok (.ifnull 17, 3) := by decide +kernel
theorem dX6_say_10 : decode cX6_say 10 = .ok (.aload_n 3, 1) := by decide +kernel
theorem dX6_say_11 : decode cX6_say 11 = .ok (.invokevirtual 39, 3) := by decide +kernel
theorem dX6_say_14 : decode cX6_say 14 = .ok (.ifCond .ne 10, 3) := by decide +kernel
theorem dX6_say_17 : decode cX6_say 17 = .ok (.iload_n 2, 1) := by decide +kernel
theorem dX6_say_18 : decode cX6_say 18 = .ok (.invokestatic 43, 3) := by decide +kernel
theorem dX6_say_21 : decode cX6_say 21 = .ok (.ifCond .ne 6, 3) := by decide +kernel
theorem dX6_say_24 : decode cX6_say 24 = .ok (.ldc 34, 2) := by decide +kernel
theorem dX6_say_26 : decode cX6_say 26 = .ok (.ireturn, 1) := by decide +kernel
theorem dX6_say_27 : decode cX6_say 27 = .ok (.aload_n 3, 1) := by decide +kernel
theorem dX6_say_28 : decode cX6_say 28 = .ok (.iload_n 2, 1) := by decide +kernel
theorem dX6_say_29 : decode cX6_say 29 = .ok (.iconst 0, 1) := by decide +kernel
theorem dX6_say_30 : decode cX6_say 30 = .ok (.invokevirtual 47, 3) := by decide +kernel
theorem dX6_say_33 : decode cX6_say 33 = .ok (.ireturn, 1) := by decide +kernel
theorem dX6_pair_0 : decode cX6_pair 0 = .ok (.aload_n 0, 1) := by decide +kernel
theorem dX6_pair_1 : decode cX6_pair 1 = .ok (.iload_n 1, 1) := by decide +kernel
theorem dX6_pair_2 : decode cX6_pair 2 = .ok (.invokevirtual 30, 3) := by decide +kernel
theorem dX6_pair_5 : decode cX6_pair 5 = .ok (.astore 4, 2) := by decide +kernel
theorem dX6_pair_7 : decode cX6_pair 7 = .ok (.aload 4, 2) := by decide +kernel
theorem dX6_pair_9 : decode cX6_pair 9 = .ok (.ifnull 25, 3) := by decide +kernel
theorem dX6_pair_12 : decode cX6_pair 12 = .ok (.aload 4, 2) := by decide +kernel
theorem dX6_pair_14 : decode cX6_pair 14 = .ok (.invokevirtual 39, 3) := by decide +kernel
theorem dX6_pair_17 : decode cX6_pair 17 = .ok (.ifCond .eq 17, 3) := by decide +kernel
theorem dX6_pair_20 : decode cX6_pair 20 = .ok (.iload_n 2, 1) := by decide +kernel
theorem dX6_pair_21 : decode cX6_pair 21 = .ok (.invokestatic 43, 3) := by decide +kernel
theorem dX6_pair_24 : decode cX6_pair 24 = .ok (.ifCond .eq 10, 3) := by decide +kernel
theorem dX6_pair_27 : decode cX6_pair 27 = .ok (.iload_n 3, 1) := by decide +kernel
theorem dX6_pair_28 : decode cX6_pair 28 = .ok (.invokestatic 43, 3) := by decide +kernel
theorem dX6_pair_31 : decode cX6_pair 31 = .ok (.ifCond .ne 6, 3) := by decide +kernel
theorem dX6_pair_34 : decode cX6_pair 34 = .ok (.ldc 34, 2) := by decide +kernel
theorem dX6_pair_36 : decode cX6_pair 36 = .ok (.ireturn, 1) := by decide +kernel
theorem dX6_pair_37 : decode cX6_pair 37 = .ok (.aload 4, 2) := by decide +kernel
theorem dX6_pair_39 : decode cX6_pair 39 = .ok (.iload_n 2, 1) := by decide +kernel
theorem dX6_pair_40 : decode cX6_pair 40 = .ok (.iload_n 3, 1) := by decide +kernel
theorem dX6_pair_41 : decode cX6_pair 41 = .ok (.invokevirtual 47, 3) := by decide +kernel
theorem dX6_pair_44 : decode cX6_pair 44 = .ok (.ireturn, 1) := by decide +kernel
theorem dX6_hear_0 : decode cX6_hear 0 = .ok (.aload_n 0, 1) := by decide +kernel
theorem dX6_hear_1 : decode cX6_hear 1 = .ok (.iload_n 1, 1) := by decide +kernel
theorem dX6_hear_2 : decode cX6_hear 2 = .ok (.invokevirtual 30, 3) := by decide +kernel
theorem dX6_hear_5 : decode cX6_hear 5 = .ok (.astore_n 3, 1) := by decide +kernel
theorem dX6_hear_6 : decode cX6_hear 6 = .ok (.aload_n 3, 1) := by decide +kernel
theorem dX6_hear_7 : decode cX6_hear 7 = .ok (.ifnull 11, 3) := by decide +kernel
theorem dX6_hear_10 : decode cX6_hear 10 = .ok (.aload_n 3, 1) := by decide +kernel
theorem dX6_hear_11 : decode cX6_hear 11 = .ok (.iload_n 2, 1) := by decide +kernel
theorem dX6_hear_12 : decode cX6_hear 12 = .ok (.invokevirtual 51, 3) := by decide +kernel
theorem dX6_hear_15 : decode cX6_hear 15 = .ok (.ifCond .ne 6, 3) := by decide +kernel
theorem dX6_hear_18 : decode cX6_hear 18 = .ok (.ldc 34, 2) := by decide +kernel
theorem dX6_hear_20 : decode cX6_hear 20 = .ok (.ireturn, 1) := by decide +kernel
theorem dX6_hear_21 : decode cX6_hear 21 = .ok (.aload_n 3, 1) := by decide +kernel
theorem dX6_hear_22 : decode cX6_hear 22 = .ok (.iload_n 2, 1) := by decide +kernel
theorem dX6_hear_23 : decode cX6_hear 23 = .ok (.invokevirtual 54, 3) := by decide +kernel
theorem dX6_hear_26 : decode cX6_hear 26 = .ok (.ireturn, 1) := by decide +kernel
theorem dX6_second_0 : decode cX6_second 0 = .ok (.aload_n 0, 1) := by decide +kernel
theorem dX6_second_1 : decode cX6_second 1 = .ok (.iload_n 1, 1) := by decide +kernel
theorem dX6_second_2 : decode cX6_second 2 = .ok (.invokevirtual 30, 3) := by decide +kernel
theorem dX6_second_5 : decode cX6_second 5 = .ok (.astore_n 2, 1) := by decide +kernel
theorem dX6_second_6 : decode cX6_second 6 = .ok (.aload_n 2, 1) := by decide +kernel
theorem dX6_second_7 : decode cX6_second 7 = .ok (.ifnull 10, 3) := by decide +kernel
theorem dX6_second_10 : decode cX6_second 10 = .ok (.aload_n 2, 1) := by decide +kernel
theorem dX6_second_11 : decode cX6_second 11 = .ok (.invokevirtual 39, 3) := by decide +kernel
theorem dX6_second_14 : decode cX6_second 14 = .ok (.ifCond .ne 6, 3) := by decide +kernel
theorem dX6_second_17 : decode cX6_second 17 = .ok (.ldc 34, 2) := by decide +kernel
theorem dX6_second_19 : decode cX6_second 19 = .ok (.ireturn, 1) := by decide +kernel
theorem dX6_second_20 : decode cX6_second 20 = .ok (.aload_n 2, 1) := by decide +kernel
theorem dX6_second_21 : decode cX6_second 21 = .ok (.invokevirtual 58, 3) := by decide +kernel
theorem dX6_second_24 : decode cX6_second 24 = .ok (.ireturn, 1) := by decide +kernel
theorem dX6_inner_0 : decode cX6_inner 0 = .ok (.aload_n 0, 1) := by decide +kernel
theorem dX6_inner_1 : decode cX6_inner 1 = .ok (.iload_n 1, 1) := by decide +kernel
theorem dX6_inner_2 : decode cX6_inner 2 = .ok (.invokevirtual 30, 3) := by decide +kernel
theorem dX6_inner_5 : decode cX6_inner 5 = .ok (.astore 4, 2) := by decide +kernel
theorem dX6_inner_7 : decode cX6_inner 7 = .ok (.aload 4, 2) := by decide +kernel
theorem dX6_inner_9 : decode cX6_inner 9 = .ok (.ifnull 12, 3) := by decide +kernel
theorem dX6_inner_12 : decode cX6_inner 12 = .ok (.iload_n 2, 1) := by decide +kernel
theorem dX6_inner_13 : decode cX6_inner 13 = .ok (.ifCond .eq 11, 3) := by decide +kernel
theorem dX6_inner_16 : decode cX6_inner 16 = .ok (.iload_n 2, 1) := by decide +kernel
theorem dX6_inner_17 : decode cX6_inner 17 = .ok (.iconst 1, 1) := by decide +kernel
theorem dX6_inner_18 : decode cX6_inner 18 = .ok (.if_icmp .eq 6, 3) := by decide +kernel
theorem dX6_inner_21 : decode cX6_inner 21 = .ok (.ldc 34, 2) := by decide +kernel
theorem dX6_inner_23 : decode cX6_inner 23 = .ok (.ireturn, 1) := by decide +kernel
theorem dX6_inner_24 : decode cX6_inner 24 = .ok (.aload 4, 2) := by decide +kernel
theorem dX6_inner_26 : decode cX6_inner 26 = .ok (.iload_n 2, 1) := by decide +kernel
theorem dX6_inner_27 : decode cX6_inner 27 = .ok (.ifCond .ne 7, 3) := by decide +kernel
theorem dX6_inner_30 : decode cX6_inner 30 = .ok (.iconst 1, 1) := by decide +kernel
theorem dX6_inner_31 : decode cX6_inner 31 = .ok (.goto 4, 3) := by decide +kernel
theorem dX6_inner_34 : decode cX6_inner 34 = .ok (.iconst 0, 1) := by decide +kernel
theorem dX6_inner_35 : decode cX6_inner 35 = .ok (.iload_n 3, 1) := by decide +kernel
theorem dX6_inner_36 : decode cX6_inner 36 = .ok (.invokevirtual 62, 3) := by decide +kernel
theorem dX6_inner_39 : decode cX6_inner 39 = .ok (.ireturn, 1) := by decide +kernel
theorem dX6_feed_0 : decode cX6_feed 0 = .ok (.aload_n 0, 1) := by decide +kernel
theorem dX6_feed_1 : decode cX6_feed 1 = .ok (.getfield 19, 3) := by decide +kernel
theorem dX6_feed_4 : decode cX6_feed 4 = .ok (.getfield 66, 3) := by decide +kernel
theorem dX6_feed_7 : decode cX6_feed 7 = .ok (.sipush 980, 3) := by decide +kernel
theorem dX6_feed_10 : decode cX6_feed 10 = .ok (.if_icmp .le 6, 3) := by decide +kernel
theorem dX6_feed_13 : decode cX6_feed 13 = .ok (.ldc 34, 2) := by decide +kernel
theorem dX6_feed_15 : decode cX6_feed 15 = .ok (.ireturn, 1) := by decide +kernel
theorem dX6_feed_16 : decode cX6_feed 16 = .ok (.aload_n 0, 1) := by decide +kernel
theorem dX6_feed_17 : decode cX6_feed 17 = .ok (.getfield 19, 3) := by decide +kernel
theorem dX6_feed_20 : decode cX6_feed 20 = .ok (.iload_n 1, 1) := by decide +kernel
theorem dX6_feed_21 : decode cX6_feed 21 = .ok (.invokevirtual 69, 3) := by decide +kernel
theorem dX6_feed_24 : decode cX6_feed 24 = .ok (.aload_n 0, 1) := by decide +kernel
theorem dX6_feed_25 : decode cX6_feed 25 = .ok (.getfield 19, 3) := by decide +kernel
theorem dX6_feed_28 : decode cX6_feed 28 = .ok (.iload_n 2, 1) := by decide +kernel
theorem dX6_feed_29 : decode cX6_feed 29 = .ok (.invokevirtual 69, 3) := by decide +kernel
theorem dX6_feed_32 : decode cX6_feed 32 = .ok (.aload_n 0, 1) := by decide +kernel
theorem dX6_feed_33 : decode cX6_feed 33 = .ok (.getfield 19, 3) := by decide +kernel
theorem dX6_feed_36 : decode cX6_feed 36 = .ok (.iload_n 3, 1) := by decide +kernel
theorem dX6_feed_37 : decode cX6_feed 37 = .ok (.invokevirtual 69, 3) := by decide +kernel
theorem dX6_feed_40 : decode cX6_feed 40 = .ok (.aload_n 0, 1) := by decide +kernel
theorem dX6_feed_41 : decode cX6_feed 41 = .ok (.getfield 19, 3) := by decide +kernel
theorem dX6_feed_44 : decode cX6_feed 44 = .ok (.iload 4, 2) := by decide +kernel
theorem dX6_feed_46 : decode cX6_feed 46 = .ok (.invokevirtual 69, 3) := by decide +kernel
theorem dX6_feed_49 : decode cX6_feed 49 = .ok (.aload_n 0, 1) := by decide +kernel
theorem dX6_feed_50 : decode cX6_feed 50 = .ok (.getfield 19, 3) := by decide +kernel
theorem dX6_feed_53 : decode cX6_feed 53 = .ok (.iload 5, 2) := by decide +kernel
theorem dX6_feed_55 : decode cX6_feed 55 = .ok (.invokevirtual 69, 3) := by decide +kernel
theorem dX6_feed_58 : decode cX6_feed 58 = .ok (.aload_n 0, 1) := by decide +kernel
theorem dX6_feed_59 : decode cX6_feed 59 = .ok (.getfield 19, 3) := by decide +kernel
theorem dX6_feed_62 : decode cX6_feed 62 = .ok (.getfield 66, 3) := by decide +kernel
theorem dX6_feed_65 : decode cX6_feed 65 = .ok (.ireturn, 1) := by decide +kernel
theorem dX6_end_0 : decode cX6_end 0 = .ok (.iload_n 1, 1) := by decide +kernel
theorem dX6_end_1 : decode cX6_end 1 = .ok (.ifCond .lt 14, 3) := by decide +kernel
theorem dX6_end_4 : decode cX6_end 4 = .ok (.iload_n 1, 1) := by decide +kernel
theorem dX6_end_5 : decode cX6_end 5 = .ok (.aload_n 0, 1) := by decide +kernel
theorem dX6_end_6 : decode cX6_end 6 = .ok (.getfield 19, 3) := by decide +kernel
theorem dX6_end_9 : decode cX6_end 9 = .ok (.getfield 66, 3) := by decide +kernel
theorem dX6_end_12 : decode cX6_end 12 = .ok (.if_icmp .le 6, 3) := by decide +kernel
theorem dX6_end_15 : decode cX6_end 15 = .ok (.ldc 34, 2) := by decide +kernel
theorem dX6_end_17 : decode cX6_end 17 = .ok (.ireturn, 1) := by decide +kernel
theorem dX6_end_18 : decode cX6_end 18 = .ok (.aload_n 0, 1) := by decide +kernel
theorem dX6_end_19 : decode cX6_end 19 = .ok (.getfield 19, 3) := by decide +kernel
theorem dX6_end_22 : decode cX6_end 22 = .ok (.iload_n 1, 1) := by decide +kernel
theorem dX6_end_23 : decode cX6_end 23 = .ok (.putfield 66, 3) := by decide +kernel
theorem dX6_end_26 : decode cX6_end 26 = .ok (.iload_n 1, 1) := by decide +kernel
theorem dX6_end_27 : decode cX6_end 27 = .ok (.ireturn, 1) := by decide +kernel
theorem dX6_take_0 : decode cX6_take 0 = .ok (.aload_n 0, 1) := by decide +kernel
theorem dX6_take_1 : decode cX6_take 1 = .ok (.getfield 19, 3) := by decide +kernel
theorem dX6_take_4 : decode cX6_take 4 = .ok (.aload_n 0, 1) := by decide +kernel
theorem dX6_take_5 : decode cX6_take 5 = .ok (.getfield 23, 3) := by decide +kernel
theorem dX6_take_8 : decode cX6_take 8 = .ok (.invokevirtual 72, 3) := by decide +kernel
theorem dX6_take_11 : decode cX6_take 11 = .ok (.aload_n 0, 1) := by decide +kernel
theorem dX6_take_12 : decode cX6_take 12 = .ok (.getfield 19, 3) := by decide +kernel
theorem dX6_take_15 : decode cX6_take 15 = .ok (.getfield 66, 3) := by decide +kernel
theorem dX6_take_18 : decode cX6_take 18 = .ok (.ireturn, 1) := by decide +kernel
theorem dX6_out_0 : decode cX6_out 0 = .ok (.aload_n 0, 1) := by decide +kernel
theorem dX6_out_1 : decode cX6_out 1 = .ok (.getfield 23, 3) := by decide +kernel
theorem dX6_out_4 : decode cX6_out 4 = .ok (.iload_n 1, 1) := by decide +kernel
theorem dX6_out_5 : decode cX6_out 5 = .ok (.invokevirtual 76, 3) := by decide +kernel
theorem dX6_out_8 : decode cX6_out 8 = .ok (.ireturn, 1) := by decide +kernel
theorem dX6_pack_0 : decode cX6_pack 0 = .ok (.aload_n 0, 1) := by decide +kernel
theorem dX6_pack_1 : decode cX6_pack 1 = .ok (.iload_n 1, 1) := by decide +kernel
theorem dX6_pack_2 : decode cX6_pack 2 = .ok (.invokevirtual 30, 3) := by decide +kernel
theorem dX6_pack_5 : decode cX6_pack 5 = .ok (.astore_n 3, 1) := by decide +kernel
theorem dX6_pack_6 : decode cX6_pack 6 = .ok (.aload_n 3, 1) := by decide +kernel
theorem dX6_pack_7 : decode cX6_pack 7 = .ok (.ifnonnull 6, 3) := by decide +kernel
theorem dX6_pack_10 : decode cX6_pack 10 = .ok (.ldc 34, 2) := by decide +kernel
theorem dX6_pack_12 : decode cX6_pack 12 = .ok (.ireturn, 1) := by decide +kernel
theorem dX6_pack_13 : decode cX6_pack 13 = .ok (.aload_n 3, 1) := by decide +kernel
theorem dX6_pack_14 : decode cX6_pack 14 = .ok (.invokevirtual 39, 3) := by decide +kernel
theorem dX6_pack_17 : decode cX6_pack 17 = .ok (.ifCond .eq 7, 3) := by decide +kernel
theorem dX6_pack_20 : decode cX6_pack 20 = .ok (.iconst 2, 1) := by decide +kernel
theorem dX6_pack_21 : decode cX6_pack 21 = .ok (.goto 4, 3) := by decide +kernel
theorem dX6_pack_24 : decode cX6_pack 24 = .ok (.iconst 1, 1) := by decide +kernel
theorem dX6_pack_25 : decode cX6_pack 25 = .ok (.istore 4, 2) := by decide +kernel
theorem dX6_pack_27 : decode cX6_pack 27 = .ok (.aload_n 0, 1) := by decide +kernel
theorem dX6_pack_28 : decode cX6_pack 28 = .ok (.getfield 19, 3) := by decide +kernel
theorem dX6_pack_31 : decode cX6_pack 31 = .ok (.getfield 66, 3) := by decide +kernel
theorem dX6_pack_34 : decode cX6_pack 34 = .ok (.iload 4, 2) := by decide +kernel
theorem dX6_pack_36 : decode cX6_pack 36 = .ok (.ishr, 1) := by decide +kernel
theorem dX6_pack_37 : decode cX6_pack 37 = .ok (.istore 5, 2) := by decide +kernel
theorem dX6_pack_39 : decode cX6_pack 39 = .ok (.iload 5, 2) := by decide +kernel
theorem dX6_pack_41 : decode cX6_pack 41 = .ok (.iload 4, 2) := by decide +kernel
theorem dX6_pack_43 : decode cX6_pack 43 = .ok (.ishl, 1) := by decide +kernel
theorem dX6_pack_44 : decode cX6_pack 44 = .ok (.aload_n 0, 1) := by decide +kernel
theorem dX6_pack_45 : decode cX6_pack 45 = .ok (.getfield 19, 3) := by decide +kernel
theorem dX6_pack_48 : decode cX6_pack 48 = .ok (.getfield 66, 3) := by decide +kernel
theorem dX6_pack_51 : decode cX6_pack 51 = .ok (.if_icmp .eq 6, 3) := by decide +kernel
theorem dX6_pack_54 : decode cX6_pack 54 = .ok (.ldc 34, 2) := by decide +kernel
theorem dX6_pack_56 : decode cX6_pack 56 = .ok (.ireturn, 1) := by decide +kernel
theorem dX6_pack_57 : decode cX6_pack 57 = .ok (.aload_n 3, 1) := by decide +kernel
theorem dX6_pack_58 : decode cX6_pack 58 = .ok (.invokevirtual 79, 3) := by decide +kernel
theorem dX6_pack_61 : decode cX6_pack 61 = .ok (.istore 6, 2) := by decide +kernel
theorem dX6_pack_63 : decode cX6_pack 63 = .ok (.aload_n 0, 1) := by decide +kernel
theorem dX6_pack_64 : decode cX6_pack 64 = .ok (.getfield 23, 3) := by decide +kernel
theorem dX6_pack_67 : decode cX6_pack 67 = .ok (.iload 5, 2) := by decide +kernel
theorem dX6_pack_69 : decode cX6_pack 69 = .ok (.iload 6, 2) := by decide +kernel
theorem dX6_pack_71 : decode cX6_pack 71 = .ok (.imul, 1) := by decide +kernel
theorem dX6_pack_72 : decode cX6_pack 72 = .ok (.invokevirtual 82, 3) := by decide +kernel
theorem dX6_pack_75 : decode cX6_pack 75 = .ok (.iconst 0, 1) := by decide +kernel
theorem dX6_pack_76 : decode cX6_pack 76 = .ok (.istore 7, 2) := by decide +kernel
theorem dX6_pack_78 : decode cX6_pack 78 = .ok (.iload 7, 2) := by decide +kernel
theorem dX6_pack_80 : decode cX6_pack 80 = .ok (.iload 5, 2) := by decide +kernel
theorem dX6_pack_82 : decode cX6_pack 82 = .ok (.if_icmp .ge 71, 3) := by decide +kernel
theorem dX6_pack_85 : decode cX6_pack 85 = .ok (.iload 7, 2) := by decide +kernel
theorem dX6_pack_87 : decode cX6_pack 87 = .ok (.iload 4, 2) := by decide +kernel
theorem dX6_pack_89 : decode cX6_pack 89 = .ok (.ishl, 1) := by decide +kernel
theorem dX6_pack_90 : decode cX6_pack 90 = .ok (.istore 8, 2) := by decide +kernel
theorem dX6_pack_92 : decode cX6_pack 92 = .ok (.aload_n 3, 1) := by decide +kernel
theorem dX6_pack_93 : decode cX6_pack 93 = .ok (.invokevirtual 39, 3) := by decide +kernel
theorem dX6_pack_96 : decode cX6_pack 96 = .ok (.ifCond .eq 17, 3) := by decide +kernel
theorem dX6_pack_99 : decode cX6_pack 99 = .ok (.aload_n 0, 1) := by decide +kernel
theorem dX6_pack_100 : decode cX6_pack 100 = .ok (.getfield 19, 3) := by decide +kernel
theorem dX6_pack_103 : decode cX6_pack 103 = .ok (.iload 8, 2) := by decide +kernel
theorem dX6_pack_105 : decode cX6_pack 105 = .ok (.iconst 2, 1) := by decide +kernel
theorem dX6_pack_106 : decode cX6_pack 106 = .ok (.iadd, 1) := by decide +kernel
theorem dX6_pack_107 : decode cX6_pack 107 = .ok (.invokevirtual 85, 3) := by decide +kernel
theorem dX6_pack_110 : decode cX6_pack 110 = .ok (.goto 4, 3) := by decide +kernel
theorem dX6_pack_113 : decode cX6_pack 113 = .ok (.iconst 0, 1) := by decide +kernel
theorem dX6_pack_114 : decode cX6_pack 114 = .ok (.istore 9, 2) := by decide +kernel
theorem dX6_pack_116 : decode cX6_pack 116 = .ok (.aload_n 3, 1) := by decide +kernel
theorem dX6_pack_117 : decode cX6_pack 117 = .ok (.aload_n 0, 1) := by decide +kernel
theorem dX6_pack_118 : decode cX6_pack 118 = .ok (.getfield 19, 3) := by decide +kernel
theorem dX6_pack_121 : decode cX6_pack 121 = .ok (.iload 8, 2) := by decide +kernel
theorem dX6_pack_123 : decode cX6_pack 123 = .ok (.invokevirtual 85, 3) := by decide +kernel
theorem dX6_pack_126 : decode cX6_pack 126 = .ok (.iload 9, 2) := by decide +kernel
theorem dX6_pack_128 : decode cX6_pack 128 = .ok (.invokevirtual 47, 3) := by decide +kernel
theorem dX6_pack_131 : decode cX6_pack 131 = .ok (.istore 10, 2) := by decide +kernel
theorem dX6_pack_133 : decode cX6_pack 133 = .ok (.aload_n 0, 1) := by decide +kernel
theorem dX6_pack_134 : decode cX6_pack 134 = .ok (.getfield 23, 3) := by decide +kernel
theorem dX6_pack_137 : decode cX6_pack 137 = .ok (.iload 7, 2) := by decide +kernel
theorem dX6_pack_139 : decode cX6_pack 139 = .ok (.iload 6, 2) := by decide +kernel
theorem dX6_pack_141 : decode cX6_pack 141 = .ok (.iload_n 2, 1) := by decide +kernel
theorem dX6_pack_142 : decode cX6_pack 142 = .ok (.iload 10, 2) := by decide +kernel
theorem dX6_pack_144 : decode cX6_pack 144 = .ok (.invokevirtual 88, 3) := by decide +kernel
theorem dX6_pack_147 : decode cX6_pack 147 = .ok (.iinc 7 1, 3) := by decide +kernel
theorem dX6_pack_150 : decode cX6_pack 150 = .ok (.goto (-72), 3) := by decide +kernel
theorem dX6_pack_153 : decode cX6_pack 153 = .ok (.aload_n 0, 1) := by decide +kernel
theorem dX6_pack_154 : decode cX6_pack 154 = .ok (.getfield 19, 3) := by decide +kernel
theorem dX6_pack_157 : decode cX6_pack 157 = .ok (.iconst 0, 1) := by decide +kernel
theorem dX6_pack_158 : decode cX6_pack 158 = .ok (.putfield 66, 3) := by decide +kernel
theorem dX6_pack_161 : decode cX6_pack 161 = .ok (.iload 5, 2) := by decide +kernel
theorem dX6_pack_163 : decode cX6_pack 163 = .ok (.ireturn, 1) := by decide +kernel
theorem dX6_unpack_0 : decode cX6_unpack 0 = .ok (.aload_n 0, 1) := by decide +kernel
theorem dX6_unpack_1 : decode cX6_unpack 1 = .ok (.iload_n 1, 1) := by decide +kernel
theorem dX6_unpack_2 : decode cX6_unpack 2 = .ok (.invokevirtual 30, 3) := by decide +kernel
theorem dX6_unpack_5 : decode cX6_unpack 5 = .ok (.astore 4, 2) := by decide +kernel
theorem dX6_unpack_7 : decode cX6_unpack 7 = .ok (.aload 4, 2) := by decide +kernel
theorem dX6_unpack_9 : decode cX6_unpack 9 = .ok (.ifnull 14, 3) := by decide +kernel
theorem dX6_unpack_12 : decode cX6_unpack 12 = .ok (.iload_n 3, 1) := by decide +kernel
theorem dX6_unpack_13 : decode cX6_unpack 13 = .ok (.ifCond .lt 10, 3) := by decide +kernel
theorem dX6_unpack_16 : decode cX6_unpack 16 = .ok (.iload_n 3, 1) := by decide +kernel
theorem dX6_unpack_17 : decode cX6_unpack 17 = .ok (.sipush 250, 3) := by decide +kernel
theorem dX6_unpack_20 : decode cX6_unpack 20 = .ok (.if_icmp .le 6, 3) := by decide +kernel
theorem dX6_unpack_23 : decode cX6_unpack 23 = .ok (.ldc 34, 2) := by decide +kernel
theorem dX6_unpack_25 : decode cX6_unpack 25 = .ok (.ireturn, 1) := by decide +kernel
theorem dX6_unpack_26 : decode cX6_unpack 26 = .ok (.aload 4, 2) := by decide +kernel
theorem dX6_unpack_28 : decode cX6_unpack 28 = .ok (.invokevirtual 79, 3) := by decide +kernel
theorem dX6_unpack_31 : decode cX6_unpack 31 = .ok (.istore 5, 2) := by decide +kernel
theorem dX6_unpack_33 : decode cX6_unpack 33 = .ok (.aload_n 0, 1) := by decide +kernel
theorem dX6_unpack_34 : decode cX6_unpack 34 = .ok (.getfield 19, 3) := by decide +kernel
theorem dX6_unpack_37 : decode cX6_unpack 37 = .ok (.getfield 66, 3) := by decide +kernel
theorem dX6_unpack_40 : decode cX6_unpack 40 = .ok (.iload_n 3, 1) := by decide +kernel
theorem dX6_unpack_41 : decode cX6_unpack 41 = .ok (.iload 5, 2) := by decide +kernel
theorem dX6_unpack_43 : decode cX6_unpack 43 = .ok (.imul, 1) := by decide +kernel
theorem dX6_unpack_44 : decode cX6_unpack 44 = .ok (.invokestatic 92, 3) := by decide +kernel
theorem dX6_unpack_47 : decode cX6_unpack 47 = .ok (.if_icmp .eq 6, 3) := by decide +kernel
theorem dX6_unpack_50 : decode cX6_unpack 50 = .ok (.ldc 34, 2) := by decide +kernel
theorem dX6_unpack_52 : decode cX6_unpack 52 = .ok (.ireturn, 1) := by decide +kernel
theorem dX6_unpack_53 : decode cX6_unpack 53 = .ok (.aload_n 0, 1) := by decide +kernel
theorem dX6_unpack_54 : decode cX6_unpack 54 = .ok (.getfield 23, 3) := by decide +kernel
theorem dX6_unpack_57 : decode cX6_unpack 57 = .ok (.iconst 0, 1) := by decide +kernel
theorem dX6_unpack_58 : decode cX6_unpack 58 = .ok (.putfield 66, 3) := by decide +kernel
theorem dX6_unpack_61 : decode cX6_unpack 61 = .ok (.iconst 0, 1) := by decide +kernel
theorem dX6_unpack_62 : decode cX6_unpack 62 = .ok (.istore 6, 2) := by decide +kernel
theorem dX6_unpack_64 : decode cX6_unpack 64 = .ok (.iload 6, 2) := by decide +kernel
theorem dX6_unpack_66 : decode cX6_unpack 66 = .ok (.iload_n 3, 1) := by decide +kernel
theorem dX6_unpack_67 : decode cX6_unpack 67 = .ok (.if_icmp .ge 53, 3) := by decide +kernel
theorem dX6_unpack_70 : decode cX6_unpack 70 = .ok (.aload_n 0, 1) := by decide +kernel
theorem dX6_unpack_71 : decode cX6_unpack 71 = .ok (.getfield 23, 3) := by decide +kernel
theorem dX6_unpack_74 : decode cX6_unpack 74 = .ok (.aload 4, 2) := by decide +kernel
theorem dX6_unpack_76 : decode cX6_unpack 76 = .ok (.aload_n 0, 1) := by decide +kernel
theorem dX6_unpack_77 : decode cX6_unpack 77 = .ok (.getfield 19, 3) := by decide +kernel
theorem dX6_unpack_80 : decode cX6_unpack 80 = .ok (.iload 6, 2) := by decide +kernel
theorem dX6_unpack_82 : decode cX6_unpack 82 = .ok (.iload 5, 2) := by decide +kernel
theorem dX6_unpack_84 : decode cX6_unpack 84 = .ok (.iload_n 2, 1) := by decide +kernel
theorem dX6_unpack_85 : decode cX6_unpack 85 = .ok (.invokevirtual 95, 3) := by decide +kernel
theorem dX6_unpack_88 : decode cX6_unpack 88 = .ok (.invokevirtual 54, 3) := by decide +kernel
theorem dX6_unpack_91 : decode cX6_unpack 91 = .ok (.invokevirtual 99, 3) := by decide +kernel
theorem dX6_unpack_94 : decode cX6_unpack 94 = .ok (.aload 4, 2) := by decide +kernel
theorem dX6_unpack_96 : decode cX6_unpack 96 = .ok (.invokevirtual 39, 3) := by decide +kernel
theorem dX6_unpack_99 : decode cX6_unpack 99 = .ok (.ifCond .eq 15, 3) := by decide +kernel
theorem dX6_unpack_102 : decode cX6_unpack 102 = .ok (.aload_n 0, 1) := by decide +kernel
theorem dX6_unpack_103 : decode cX6_unpack 103 = .ok (.getfield 23, 3) := by decide +kernel
theorem dX6_unpack_106 : decode cX6_unpack 106 = .ok (.aload 4, 2) := by decide +kernel
theorem dX6_unpack_108 : decode cX6_unpack 108 = .ok (.invokevirtual 58, 3) := by decide +kernel
theorem dX6_unpack_111 : decode cX6_unpack 111 = .ok (.invokevirtual 99, 3) := by decide +kernel
theorem dX6_unpack_114 : decode cX6_unpack 114 = .ok (.iinc 6 1, 3) := by decide +kernel
theorem dX6_unpack_117 : decode cX6_unpack 117 = .ok (.goto (-53), 3) := by decide +kernel
theorem dX6_unpack_120 : decode cX6_unpack 120 = .ok (.aload_n 0, 1) := by decide +kernel
theorem dX6_unpack_121 : decode cX6_unpack 121 = .ok (.getfield 19, 3) := by decide +kernel
theorem dX6_unpack_124 : decode cX6_unpack 124 = .ok (.iconst 0, 1) := by decide +kernel
theorem dX6_unpack_125 : decode cX6_unpack 125 = .ok (.putfield 66, 3) := by decide +kernel
theorem dX6_unpack_128 : decode cX6_unpack 128 = .ok (.aload_n 0, 1) := by decide +kernel
theorem dX6_unpack_129 : decode cX6_unpack 129 = .ok (.getfield 23, 3) := by decide +kernel
theorem dX6_unpack_132 : decode cX6_unpack 132 = .ok (.getfield 66, 3) := by decide +kernel
theorem dX6_unpack_135 : decode cX6_unpack 135 = .ok (.ireturn, 1) := by decide +kernel
theorem dX6_pass_0 : decode cX6_pass 0 = .ok (.aload_n 0, 1) := by decide +kernel
theorem dX6_pass_1 : decode cX6_pass 1 = .ok (.iload_n 1, 1) := by decide +kernel
theorem dX6_pass_2 : decode cX6_pass 2 = .ok (.invokevirtual 30, 3) := by decide +kernel
theorem dX6_pass_5 : decode cX6_pass 5 = .ok (.astore 4, 2) := by decide +kernel
theorem dX6_pass_7 : decode cX6_pass 7 = .ok (.aload_n 0, 1) := by decide +kernel
theorem dX6_pass_8 : decode cX6_pass 8 = .ok (.iload_n 2, 1) := by decide +kernel
theorem dX6_pass_9 : decode cX6_pass 9 = .ok (.invokevirtual 30, 3) := by decide +kernel
theorem dX6_pass_12 : decode cX6_pass 12 = .ok (.astore 5, 2) := by decide +kernel
theorem dX6_pass_14 : decode cX6_pass 14 = .ok (.aload 4, 2) := by decide +kernel
theorem dX6_pass_16 : decode cX6_pass 16 = .ok (.ifnull 30, 3) := by decide +kernel
theorem dX6_pass_19 : decode cX6_pass 19 = .ok (.aload 5, 2) := by decide +kernel
theorem dX6_pass_21 : decode cX6_pass 21 = .ok (.ifnull 25, 3) := by decide +kernel
theorem dX6_pass_24 : decode cX6_pass 24 = .ok (.aload 4, 2) := by decide +kernel
theorem dX6_pass_26 : decode cX6_pass 26 = .ok (.iload_n 3, 1) := by decide +kernel
theorem dX6_pass_27 : decode cX6_pass 27 = .ok (.invokevirtual 51, 3) := by decide +kernel
theorem dX6_pass_30 : decode cX6_pass 30 = .ok (.ifCond .eq 16, 3) := by decide +kernel
theorem dX6_pass_33 : decode cX6_pass 33 = .ok (.aload 4, 2) := by decide +kernel
theorem dX6_pass_35 : decode cX6_pass 35 = .ok (.invokevirtual 39, 3) := by decide +kernel
theorem dX6_pass_38 : decode cX6_pass 38 = .ok (.aload 5, 2) := by decide +kernel
theorem dX6_pass_40 : decode cX6_pass 40 = .ok (.invokevirtual 39, 3) := by decide +kernel
theorem dX6_pass_43 : decode cX6_pass 43 = .ok (.if_icmp .eq 6, 3) := by decide +kernel
theorem dX6_pass_46 : decode cX6_pass 46 = .ok (.ldc 34, 2) := by decide +kernel
theorem dX6_pass_48 : decode cX6_pass 48 = .ok (.ireturn, 1) := by decide +kernel
theorem dX6_pass_49 : decode cX6_pass 49 = .ok (.aload 4, 2) := by decide +kernel
theorem dX6_pass_51 : decode cX6_pass 51 = .ok (.iload_n 3, 1) := by decide +kernel
theorem dX6_pass_52 : decode cX6_pass 52 = .ok (.invokevirtual 54, 3) := by decide +kernel
theorem dX6_pass_55 : decode cX6_pass 55 = .ok (.istore 6, 2) := by decide +kernel
theorem dX6_pass_57 : decode cX6_pass 57 = .ok (.aload 5, 2) := by decide +kernel
theorem dX6_pass_59 : decode cX6_pass 59 = .ok (.iload 6, 2) := by decide +kernel
theorem dX6_pass_61 : decode cX6_pass 61 = .ok (.aload 4, 2) := by decide +kernel
theorem dX6_pass_63 : decode cX6_pass 63 = .ok (.invokevirtual 58, 3) := by decide +kernel
theorem dX6_pass_66 : decode cX6_pass 66 = .ok (.invokevirtual 47, 3) := by decide +kernel
theorem dX6_pass_69 : decode cX6_pass 69 = .ok (.ireturn, 1) := by decide +kernel
theorem dX6_law_0 : decode cX6_law 0 = .ok (.iload_n 1, 1) := by decide +kernel
theorem dX6_law_1 : decode cX6_law 1 = .ok (.ifCond .eq 8, 3) := by decide +kernel
theorem dX6_law_4 : decode cX6_law 4 = .ok (.iload_n 1, 1) := by decide +kernel
theorem dX6_law_5 : decode cX6_law 5 = .ok (.iconst 1, 1) := by decide +kernel
theorem dX6_law_6 : decode cX6_law 6 = .ok (.if_icmp .ne 14, 3) := by decide +kernel
theorem dX6_law_9 : decode cX6_law 9 = .ok (.iload_n 2, 1) := by decide +kernel
theorem dX6_law_10 : decode cX6_law 10 = .ok (.ifCond .lt 10, 3) := by decide +kernel
theorem dX6_law_13 : decode cX6_law 13 = .ok (.iload_n 2, 1) := by decide +kernel
theorem dX6_law_14 : decode cX6_law 14 = .ok (.sipush 255, 3) := by decide +kernel
theorem dX6_law_17 : decode cX6_law 17 = .ok (.if_icmp .le 6, 3) := by decide +kernel
theorem dX6_law_20 : decode cX6_law 20 = .ok (.ldc 34, 2) := by decide +kernel
theorem dX6_law_22 : decode cX6_law 22 = .ok (.ireturn, 1) := by decide +kernel
theorem dX6_law_23 : decode cX6_law 23 = .ok (.iload_n 3, 1) := by decide +kernel
theorem dX6_law_24 : decode cX6_law 24 = .ok (.tableswitch 86 0 2 #[28, 46, 64], 28) := by decide +kernel
theorem dX6_law_52 : decode cX6_law 52 = .ok (.iload_n 1, 1) := by decide +kernel
theorem dX6_law_53 : decode cX6_law 53 = .ok (.ifCond .ne 11, 3) := by decide +kernel
theorem dX6_law_56 : decode cX6_law 56 = .ok (.iload_n 2, 1) := by decide +kernel
theorem dX6_law_57 : decode cX6_law 57 = .ok (.iconst 0, 1) := by decide +kernel
theorem dX6_law_58 : decode cX6_law 58 = .ok (.invokestatic 102, 3) := by decide +kernel
theorem dX6_law_61 : decode cX6_law 61 = .ok (.goto 8, 3) := by decide +kernel
theorem dX6_law_64 : decode cX6_law 64 = .ok (.iload_n 2, 1) := by decide +kernel
theorem dX6_law_65 : decode cX6_law 65 = .ok (.iconst 0, 1) := by decide +kernel
theorem dX6_law_66 : decode cX6_law 66 = .ok (.invokestatic 108, 3) := by decide +kernel
theorem dX6_law_69 : decode cX6_law 69 = .ok (.ireturn, 1) := by decide +kernel
theorem dX6_law_70 : decode cX6_law 70 = .ok (.iload_n 1, 1) := by decide +kernel
theorem dX6_law_71 : decode cX6_law 71 = .ok (.ifCond .ne 11, 3) := by decide +kernel
theorem dX6_law_74 : decode cX6_law 74 = .ok (.iload_n 2, 1) := by decide +kernel
theorem dX6_law_75 : decode cX6_law 75 = .ok (.iconst 1, 1) := by decide +kernel
theorem dX6_law_76 : decode cX6_law 76 = .ok (.invokestatic 102, 3) := by decide +kernel
theorem dX6_law_79 : decode cX6_law 79 = .ok (.goto 8, 3) := by decide +kernel
theorem dX6_law_82 : decode cX6_law 82 = .ok (.iload_n 2, 1) := by decide +kernel
theorem dX6_law_83 : decode cX6_law 83 = .ok (.iconst 1, 1) := by decide +kernel
theorem dX6_law_84 : decode cX6_law 84 = .ok (.invokestatic 108, 3) := by decide +kernel
theorem dX6_law_87 : decode cX6_law 87 = .ok (.ireturn, 1) := by decide +kernel
theorem dX6_law_88 : decode cX6_law 88 = .ok (.iload_n 1, 1) := by decide +kernel
theorem dX6_law_89 : decode cX6_law 89 = .ok (.ifCond .ne 13, 3) := by decide +kernel
theorem dX6_law_92 : decode cX6_law 92 = .ok (.iload_n 2, 1) := by decide +kernel
theorem dX6_law_93 : decode cX6_law 93 = .ok (.invokestatic 111, 3) := by decide +kernel
theorem dX6_law_96 : decode cX6_law 96 = .ok (.invokestatic 114, 3) := by decide +kernel
theorem dX6_law_99 : decode cX6_law 99 = .ok (.goto 10, 3) := by decide +kernel
theorem dX6_law_102 : decode cX6_law 102 = .ok (.iload_n 2, 1) := by decide +kernel
theorem dX6_law_103 : decode cX6_law 103 = .ok (.invokestatic 117, 3) := by decide +kernel
theorem dX6_law_106 : decode cX6_law 106 = .ok (.invokestatic 120, 3) := by decide +kernel
theorem dX6_law_109 : decode cX6_law 109 = .ok (.ireturn, 1) := by decide +kernel
theorem dX6_law_110 : decode cX6_law 110 = .ok (.ldc 34, 2) := by decide +kernel
theorem dX6_law_112 : decode cX6_law 112 = .ok (.ireturn, 1) := by decide +kernel
theorem dX6_openLine_0 : decode cX6_openLine 0 = .ok (.iload_n 1, 1) := by decide +kernel
theorem dX6_openLine_1 : decode cX6_openLine 1 = .ok (.ifCond .lt 8, 3) := by decide +kernel
theorem dX6_openLine_4 : decode cX6_openLine 4 = .ok (.iload_n 1, 1) := by decide +kernel
theorem dX6_openLine_5 : decode cX6_openLine 5 = .ok (.iconst 4, 1) := by decide +kernel
theorem dX6_openLine_6 : decode cX6_openLine 6 = .ok (.if_icmp .lt 5, 3) := by decide +kernel
theorem dX6_openLine_9 : decode cX6_openLine 9 = .ok (.aconst_null, 1) := by decide +kernel
theorem dX6_openLine_10 : decode cX6_openLine 10 = .ok (.areturn, 1) := by decide +kernel
theorem dX6_openLine_11 : decode cX6_openLine 11 = .ok (.aload_n 0, 1) := by decide +kernel
theorem dX6_openLine_12 : decode cX6_openLine 12 = .ok (.getfield 11, 3) := by decide +kernel
theorem dX6_openLine_15 : decode cX6_openLine 15 = .ok (.iload_n 1, 1) := by decide +kernel
theorem dX6_openLine_16 : decode cX6_openLine 16 = .ok (.aaload, 1) := by decide +kernel
theorem dX6_openLine_17 : decode cX6_openLine 17 = .ok (.astore_n 2, 1) := by decide +kernel
theorem dX6_openLine_18 : decode cX6_openLine 18 = .ok (.aload_n 2, 1) := by decide +kernel
theorem dX6_openLine_19 : decode cX6_openLine 19 = .ok (.getfield 35, 3) := by decide +kernel
theorem dX6_openLine_22 : decode cX6_openLine 22 = .ok (.ldc 34, 2) := by decide +kernel
theorem dX6_openLine_24 : decode cX6_openLine 24 = .ok (.if_icmp .ne 7, 3) := by decide +kernel
theorem dX6_openLine_27 : decode cX6_openLine 27 = .ok (.aconst_null, 1) := by decide +kernel
theorem dX6_openLine_28 : decode cX6_openLine 28 = .ok (.goto 4, 3) := by decide +kernel
theorem dX6_openLine_31 : decode cX6_openLine 31 = .ok (.aload_n 2, 1) := by decide +kernel
theorem dX6_openLine_32 : decode cX6_openLine 32 = .ok (.areturn, 1) := by decide +kernel
theorem dX6_isSample_0 : decode cX6_isSample 0 = .ok (.iload_n 0, 1) := by decide +kernel
theorem dX6_isSample_1 : decode cX6_isSample 1 = .ok (.sipush (-32768), 3) := by decide +kernel
theorem dX6_isSample_4 : decode cX6_isSample 4 = .ok (.if_icmp .lt 14, 3) := by decide +kernel
theorem dX6_isSample_7 : decode cX6_isSample 7 = .ok (.iload_n 0, 1) := by decide +kernel
theorem dX6_isSample_8 : decode cX6_isSample 8 = .ok (.sipush 32767, 3) := by decide +kernel
theorem dX6_isSample_11 : decode cX6_isSample 11 = .ok (.if_icmp .gt 7, 3) := by decide +kernel
theorem dX6_isSample_14 : decode cX6_isSample 14 = .ok (.iconst 1, 1) := by decide +kernel
theorem dX6_isSample_15 : decode cX6_isSample 15 = .ok (.goto 4, 3) := by decide +kernel
theorem dX6_isSample_18 : decode cX6_isSample 18 = .ok (.iconst 0, 1) := by decide +kernel
theorem dX6_isSample_19 : decode cX6_isSample 19 = .ok (.ireturn, 1) := by decide +kernel
theorem dX6_cut_0 : decode cX6_cut 0 = .ok (.iload_n 0, 1) := by decide +kernel
theorem dX6_cut_1 : decode cX6_cut 1 = .ok (.iload_n 1, 1) := by decide +kernel
theorem dX6_cut_2 : decode cX6_cut 2 = .ok (.if_icmp .ge 5, 3) := by decide +kernel
theorem dX6_cut_5 : decode cX6_cut 5 = .ok (.iload_n 1, 1) := by decide +kernel
theorem dX6_cut_6 : decode cX6_cut 6 = .ok (.ireturn, 1) := by decide +kernel
theorem dX6_cut_7 : decode cX6_cut 7 = .ok (.iload_n 0, 1) := by decide +kernel
theorem dX6_cut_8 : decode cX6_cut 8 = .ok (.iload_n 2, 1) := by decide +kernel
theorem dX6_cut_9 : decode cX6_cut 9 = .ok (.if_icmp .le 7, 3) := by decide +kernel
theorem dX6_cut_12 : decode cX6_cut 12 = .ok (.iload_n 2, 1) := by decide +kernel
theorem dX6_cut_13 : decode cX6_cut 13 = .ok (.goto 4, 3) := by decide +kernel
theorem dX6_cut_16 : decode cX6_cut 16 = .ok (.iload_n 0, 1) := by decide +kernel
theorem dX6_cut_17 : decode cX6_cut 17 = .ok (.ireturn, 1) := by decide +kernel
theorem dX6_limited_0 : decode cX6_limited 0 = .ok (.iload_n 0, 1) := by decide +kernel
theorem dX6_limited_1 : decode cX6_limited 1 = .ok (.sipush (-32768), 3) := by decide +kernel
theorem dX6_limited_4 : decode cX6_limited 4 = .ok (.if_icmp .ge 7, 3) := by decide +kernel
theorem dX6_limited_7 : decode cX6_limited 7 = .ok (.sipush (-32768), 3) := by decide +kernel
theorem dX6_limited_10 : decode cX6_limited 10 = .ok (.ireturn, 1) := by decide +kernel
theorem dX6_limited_11 : decode cX6_limited 11 = .ok (.iload_n 0, 1) := by decide +kernel
theorem dX6_limited_12 : decode cX6_limited 12 = .ok (.sipush 32767, 3) := by decide +kernel
theorem dX6_limited_15 : decode cX6_limited 15 = .ok (.if_icmp .le 9, 3) := by decide +kernel
theorem dX6_limited_18 : decode cX6_limited 18 = .ok (.sipush 32767, 3) := by decide +kernel
theorem dX6_limited_21 : decode cX6_limited 21 = .ok (.goto 4, 3) := by decide +kernel
theorem dX6_limited_24 : decode cX6_limited 24 = .ok (.iload_n 0, 1) := by decide +kernel
theorem dX6_limited_25 : decode cX6_limited 25 = .ok (.ireturn, 1) := by decide +kernel
theorem dX6_wrapped_0 : decode cX6_wrapped 0 = .ok (.iload_n 0, 1) := by decide +kernel
theorem dX6_wrapped_1 : decode cX6_wrapped 1 = .ok (.i2s, 1) := by decide +kernel
theorem dX6_wrapped_2 : decode cX6_wrapped 2 = .ok (.ireturn, 1) := by decide +kernel
theorem dX6_sign_0 : decode cX6_sign 0 = .ok (.iload_n 0, 1) := by decide +kernel
theorem dX6_sign_1 : decode cX6_sign 1 = .ok (.ifCond .ge 7, 3) := by decide +kernel
theorem dX6_sign_4 : decode cX6_sign 4 = .ok (.iconst 1, 1) := by decide +kernel
theorem dX6_sign_5 : decode cX6_sign 5 = .ok (.goto 4, 3) := by decide +kernel
theorem dX6_sign_8 : decode cX6_sign 8 = .ok (.iconst 0, 1) := by decide +kernel
theorem dX6_sign_9 : decode cX6_sign 9 = .ok (.ireturn, 1) := by decide +kernel
theorem dX7_init_0 : decode cX7_init 0 = .ok (.aload_n 0, 1) := by decide +kernel
theorem dX7_init_1 : decode cX7_init 1 = .ok (.invokespecial 1, 3) := by decide +kernel
theorem dX7_init_4 : decode cX7_init 4 = .ok (.aload_n 0, 1) := by decide +kernel
theorem dX7_init_5 : decode cX7_init 5 = .ok (.iconst 4, 1) := by decide +kernel
theorem dX7_init_6 : decode cX7_init 6 = .ok (.newarray .int, 2) := by decide +kernel
theorem dX7_init_8 : decode cX7_init 8 = .ok (.dup, 1) := by decide +kernel
theorem dX7_init_9 : decode cX7_init 9 = .ok (.iconst 0, 1) := by decide +kernel
theorem dX7_init_10 : decode cX7_init 10 = .ok (.ldc 9, 2) := by decide +kernel
theorem dX7_init_12 : decode cX7_init 12 = .ok (.iastore, 1) := by decide +kernel
theorem dX7_init_13 : decode cX7_init 13 = .ok (.dup, 1) := by decide +kernel
theorem dX7_init_14 : decode cX7_init 14 = .ok (.iconst 1, 1) := by decide +kernel
theorem dX7_init_15 : decode cX7_init 15 = .ok (.ldc 9, 2) := by decide +kernel
theorem dX7_init_17 : decode cX7_init 17 = .ok (.iastore, 1) := by decide +kernel
theorem dX7_init_18 : decode cX7_init 18 = .ok (.dup, 1) := by decide +kernel
theorem dX7_init_19 : decode cX7_init 19 = .ok (.iconst 2, 1) := by decide +kernel
theorem dX7_init_20 : decode cX7_init 20 = .ok (.ldc 9, 2) := by decide +kernel
theorem dX7_init_22 : decode cX7_init 22 = .ok (.iastore, 1) := by decide +kernel
theorem dX7_init_23 : decode cX7_init 23 = .ok (.dup, 1) := by decide +kernel
theorem dX7_init_24 : decode cX7_init 24 = .ok (.iconst 3, 1) := by decide +kernel
theorem dX7_init_25 : decode cX7_init 25 = .ok (.ldc 9, 2) := by decide +kernel
theorem dX7_init_27 : decode cX7_init 27 = .ok (.iastore, 1) := by decide +kernel
theorem dX7_init_28 : decode cX7_init 28 = .ok (.putfield 10, 3) := by decide +kernel
theorem dX7_init_31 : decode cX7_init 31 = .ok (.aload_n 0, 1) := by decide +kernel
theorem dX7_init_32 : decode cX7_init 32 = .ok (.iconst 4, 1) := by decide +kernel
theorem dX7_init_33 : decode cX7_init 33 = .ok (.newarray .int, 2) := by decide +kernel
theorem dX7_init_35 : decode cX7_init 35 = .ok (.putfield 14, 3) := by decide +kernel
theorem dX7_init_38 : decode cX7_init 38 = .ok (.aload_n 0, 1) := by decide +kernel
theorem dX7_init_39 : decode cX7_init 39 = .ok (.sipush 192, 3) := by decide +kernel
theorem dX7_init_42 : decode cX7_init 42 = .ok (.newarray .int, 2) := by decide +kernel
theorem dX7_init_44 : decode cX7_init 44 = .ok (.putfield 17, 3) := by decide +kernel
theorem dX7_init_47 : decode cX7_init 47 = .ok (.aload_n 0, 1) := by decide +kernel
theorem dX7_init_48 : decode cX7_init 48 = .ok (.iconst 1, 1) := by decide +kernel
theorem dX7_init_49 : decode cX7_init 49 = .ok (.newarray .int, 2) := by decide +kernel
theorem dX7_init_51 : decode cX7_init 51 = .ok (.dup, 1) := by decide +kernel
theorem dX7_init_52 : decode cX7_init 52 = .ok (.iconst 0, 1) := by decide +kernel
theorem dX7_init_53 : decode cX7_init 53 = .ok (.sipush 261, 3) := by decide +kernel
theorem dX7_init_56 : decode cX7_init 56 = .ok (.iastore, 1) := by decide +kernel
theorem dX7_init_57 : decode cX7_init 57 = .ok (.putfield 20, 3) := by decide +kernel
theorem dX7_init_60 : decode cX7_init 60 = .ok (.aload_n 0, 1) := by decide +kernel
theorem dX7_init_61 : decode cX7_init 61 = .ok (.iconst 3, 1) := by decide +kernel
theorem dX7_init_62 : decode cX7_init 62 = .ok (.newarray .int, 2) := by decide +kernel
theorem dX7_init_64 : decode cX7_init 64 = .ok (.dup, 1) := by decide +kernel
theorem dX7_init_65 : decode cX7_init 65 = .ok (.iconst 0, 1) := by decide +kernel
theorem dX7_init_66 : decode cX7_init 66 = .ok (.bipush 8, 2) := by decide +kernel
theorem dX7_init_68 : decode cX7_init 68 = .ok (.iastore, 1) := by decide +kernel
theorem dX7_init_69 : decode cX7_init 69 = .ok (.dup, 1) := by decide +kernel
theorem dX7_init_70 : decode cX7_init 70 = .ok (.iconst 1, 1) := by decide +kernel
theorem dX7_init_71 : decode cX7_init 71 = .ok (.sipush 218, 3) := by decide +kernel
theorem dX7_init_74 : decode cX7_init 74 = .ok (.iastore, 1) := by decide +kernel
theorem dX7_init_75 : decode cX7_init 75 = .ok (.dup, 1) := by decide +kernel
theorem dX7_init_76 : decode cX7_init 76 = .ok (.iconst 2, 1) := by decide +kernel
theorem dX7_init_77 : decode cX7_init 77 = .ok (.sipush 331, 3) := by decide +kernel
theorem dX7_init_80 : decode cX7_init 80 = .ok (.iastore, 1) := by decide +kernel
theorem dX7_init_81 : decode cX7_init 81 = .ok (.putfield 23, 3) := by decide +kernel
theorem dX7_init_84 : decode cX7_init 84 = .ok (.aload_n 0, 1) := by decide +kernel
theorem dX7_init_85 : decode cX7_init 85 = .ok (.bipush 7, 2) := by decide +kernel
theorem dX7_init_87 : decode cX7_init 87 = .ok (.newarray .int, 2) := by decide +kernel
theorem dX7_init_89 : decode cX7_init 89 = .ok (.dup, 1) := by decide +kernel
theorem dX7_init_90 : decode cX7_init 90 = .ok (.iconst 0, 1) := by decide +kernel
theorem dX7_init_91 : decode cX7_init 91 = .ok (.bipush (-124), 2) := by decide +kernel
theorem dX7_init_93 : decode cX7_init 93 = .ok (.iastore, 1) := by decide +kernel
theorem dX7_init_94 : decode cX7_init 94 = .ok (.dup, 1) := by decide +kernel
theorem dX7_init_95 : decode cX7_init 95 = .ok (.iconst 1, 1) := by decide +kernel
theorem dX7_init_96 : decode cX7_init 96 = .ok (.bipush 80, 2) := by decide +kernel
theorem dX7_init_98 : decode cX7_init 98 = .ok (.iastore, 1) := by decide +kernel
theorem dX7_init_99 : decode cX7_init 99 = .ok (.dup, 1) := by decide +kernel
theorem dX7_init_100 : decode cX7_init 100 = .ok (.iconst 2, 1) := by decide +kernel
theorem dX7_init_101 : decode cX7_init 101 = .ok (.sipush 178, 3) := by decide +kernel
theorem dX7_init_104 : decode cX7_init 104 = .ok (.iastore, 1) := by decide +kernel
theorem dX7_init_105 : decode cX7_init 105 = .ok (.dup, 1) := by decide +kernel
theorem dX7_init_106 : decode cX7_init 106 = .ok (.iconst 3, 1) := by decide +kernel
theorem dX7_init_107 : decode cX7_init 107 = .ok (.sipush 246, 3) := by decide +kernel
theorem dX7_init_110 : decode cX7_init 110 = .ok (.iastore, 1) := by decide +kernel
theorem dX7_init_111 : decode cX7_init 111 = .ok (.dup, 1) := by decide +kernel
theorem dX7_init_112 : decode cX7_init 112 = .ok (.iconst 4, 1) := by decide +kernel
theorem dX7_init_113 : decode cX7_init 113 = .ok (.sipush 300, 3) := by decide +kernel
theorem dX7_init_116 : decode cX7_init 116 = .ok (.iastore, 1) := by decide +kernel
theorem dX7_init_117 : decode cX7_init 117 = .ok (.dup, 1) := by decide +kernel
theorem dX7_init_118 : decode cX7_init 118 = .ok (.iconst 5, 1) := by decide +kernel
theorem dX7_init_119 : decode cX7_init 119 = .ok (.sipush 349, 3) := by decide +kernel
theorem dX7_init_122 : decode cX7_init 122 = .ok (.iastore, 1) := by decide +kernel
theorem dX7_init_123 : decode cX7_init 123 = .ok (.dup, 1) := by decide +kernel
theorem dX7_init_124 : decode cX7_init 124 = .ok (.bipush 6, 2) := by decide +kernel
theorem dX7_init_126 : decode cX7_init 126 = .ok (.sipush 400, 3) := by decide +kernel
theorem dX7_init_129 : decode cX7_init 129 = .ok (.iastore, 1) := by decide +kernel
theorem dX7_init_130 : decode cX7_init 130 = .ok (.putfield 26, 3) := by decide +kernel
theorem dX7_init_133 : decode cX7_init 133 = .ok (.aload_n 0, 1) := by decide +kernel
theorem dX7_init_134 : decode cX7_init 134 = .ok (.bipush 15, 2) := by decide +kernel
theorem dX7_init_136 : decode cX7_init 136 = .ok (.newarray .int, 2) := by decide +kernel
theorem dX7_init_138 : decode cX7_init 138 = .ok (.dup, 1) := by decide +kernel
theorem dX7_init_139 : decode cX7_init 139 = .ok (.iconst 0, 1) := by decide +kernel
theorem dX7_init_140 : decode cX7_init 140 = .ok (.bipush (-122), 2) := by decide +kernel
theorem dX7_init_142 : decode cX7_init 142 = .ok (.iastore, 1) := by decide +kernel
theorem dX7_init_143 : decode cX7_init 143 = .ok (.dup, 1) := by decide +kernel
theorem dX7_init_144 : decode cX7_init 144 = .ok (.iconst 1, 1) := by decide +kernel
theorem dX7_init_145 : decode cX7_init 145 = .ok (.bipush (-16), 2) := by decide +kernel
theorem dX7_init_147 : decode cX7_init 147 = .ok (.iastore, 1) := by decide +kernel
theorem dX7_init_148 : decode cX7_init 148 = .ok (.dup, 1) := by decide +kernel
theorem dX7_init_149 : decode cX7_init 149 = .ok (.iconst 2, 1) := by decide +kernel
theorem dX7_init_150 : decode cX7_init 150 = .ok (.bipush 68, 2) := by decide +kernel
theorem dX7_init_152 : decode cX7_init 152 = .ok (.iastore, 1) := by decide +kernel
theorem dX7_init_153 : decode cX7_init 153 = .ok (.dup, 1) := by decide +kernel
theorem dX7_init_154 : decode cX7_init 154 = .ok (.iconst 3, 1) := by decide +kernel
theorem dX7_init_155 : decode cX7_init 155 = .ok (.sipush 139, 3) := by decide +kernel
theorem dX7_init_158 : decode cX7_init 158 = .ok (.iastore, 1) := by decide +kernel
theorem dX7_init_159 : decode cX7_init 159 = .ok (.dup, 1) := by decide +kernel
theorem dX7_init_160 : decode cX7_init 160 = .ok (.iconst 4, 1) := by decide +kernel
theorem dX7_init_161 : decode cX7_init 161 = .ok (.sipush 198, 3) := by decide +kernel
theorem dX7_init_164 : decode cX7_init 164 = .ok (.iastore, 1) := by decide +kernel
theorem dX7_init_165 : decode cX7_init 165 = .ok (.dup, 1) := by decide +kernel
theorem dX7_init_166 : decode cX7_init 166 = .ok (.iconst 5, 1) := by decide +kernel
theorem dX7_init_167 : decode cX7_init 167 = .ok (.sipush 250, 3) := by decide +kernel
theorem dX7_init_170 : decode cX7_init 170 = .ok (.iastore, 1) := by decide +kernel
theorem dX7_init_171 : decode cX7_init 171 = .ok (.dup, 1) := by decide +kernel
theorem dX7_init_172 : decode cX7_init 172 = .ok (.bipush 6, 2) := by decide +kernel
theorem dX7_init_174 : decode cX7_init 174 = .ok (.sipush 298, 3) := by decide +kernel
theorem dX7_init_177 : decode cX7_init 177 = .ok (.iastore, 1) := by decide +kernel
theorem dX7_init_178 : decode cX7_init 178 = .ok (.dup, 1) := by decide +kernel
theorem dX7_init_179 : decode cX7_init 179 = .ok (.bipush 7, 2) := by decide +kernel
theorem dX7_init_181 : decode cX7_init 181 = .ok (.sipush 339, 3) := by decide +kernel
theorem dX7_init_184 : decode cX7_init 184 = .ok (.iastore, 1) := by decide +kernel
theorem dX7_init_185 : decode cX7_init 185 = .ok (.dup, 1) := by decide +kernel
theorem dX7_init_186 : decode cX7_init 186 = .ok (.bipush 8, 2) := by decide +kernel
theorem dX7_init_188 : decode cX7_init 188 = .ok (.sipush 378, 3) := by decide +kernel
theorem dX7_init_191 : decode cX7_init 191 = .ok (.iastore, 1) := by decide +kernel
end
section
theorem dX7_init_192 : decode cX7_init 192 = .ok (.dup, 1) := by decide +kernel
theorem dX7_init_193 : decode cX7_init 193 = .ok (.bipush 9, 2) := by decide +kernel
theorem dX7_init_195 : decode cX7_init 195 = .ok (.sipush 413, 3) := by decide +kernel
theorem dX7_init_198 : decode cX7_init 198 = .ok (.iastore, 1) := by decide +kernel
theorem dX7_init_199 : decode cX7_init 199 = .ok (.dup, 1) := by decide +kernel
theorem dX7_init_200 : decode cX7_init 200 = .ok (.bipush 10, 2) := by decide +kernel
theorem dX7_init_202 : decode cX7_init 202 = .ok (.sipush 445, 3) := by decide +kernel
theorem dX7_init_205 : decode cX7_init 205 = .ok (.iastore, 1) := by decide +kernel
theorem dX7_init_206 : decode cX7_init 206 = .ok (.dup, 1) := by decide +kernel
theorem dX7_init_207 : decode cX7_init 207 = .ok (.bipush 11, 2) := by decide +kernel
theorem dX7_init_209 : decode cX7_init 209 = .ok (.sipush 475, 3) := by decide +kernel
theorem dX7_init_212 : decode cX7_init 212 = .ok (.iastore, 1) := by decide +kernel
theorem dX7_init_213 : decode cX7_init 213 = .ok (.dup, 1) := by decide +kernel
theorem dX7_init_214 : decode cX7_init 214 = .ok (.bipush 12, 2) := by decide +kernel
theorem dX7_init_216 : decode cX7_init 216 = .ok (.sipush 502, 3) := by decide +kernel
theorem dX7_init_219 : decode cX7_init 219 = .ok (.iastore, 1) := by decide +kernel
theorem dX7_init_220 : decode cX7_init 220 = .ok (.dup, 1) := by decide +kernel
theorem dX7_init_221 : decode cX7_init 221 = .ok (.bipush 13, 2) := by decide +kernel
theorem dX7_init_223 : decode cX7_init 223 = .ok (.sipush 528, 3) := by decide +kernel
theorem dX7_init_226 : decode cX7_init 226 = .ok (.iastore, 1) := by decide +kernel
theorem dX7_init_227 : decode cX7_init 227 = .ok (.dup, 1) := by decide +kernel
theorem dX7_init_228 : decode cX7_init 228 = .ok (.bipush 14, 2) := by decide +kernel
theorem dX7_init_230 : decode cX7_init 230 = .ok (.sipush 553, 3) := by decide +kernel
theorem dX7_init_233 : decode cX7_init 233 = .ok (.iastore, 1) := by decide +kernel
theorem dX7_init_234 : decode cX7_init 234 = .ok (.putfield 29, 3) := by decide +kernel
theorem dX7_init_237 : decode cX7_init 237 = .ok (.aload_n 0, 1) := by decide +kernel
theorem dX7_init_238 : decode cX7_init 238 = .ok (.iconst 2, 1) := by decide +kernel
theorem dX7_init_239 : decode cX7_init 239 = .ok (.newarray .int, 2) := by decide +kernel
theorem dX7_init_241 : decode cX7_init 241 = .ok (.dup, 1) := by decide +kernel
theorem dX7_init_242 : decode cX7_init 242 = .ok (.iconst 0, 1) := by decide +kernel
theorem dX7_init_243 : decode cX7_init 243 = .ok (.bipush 116, 2) := by decide +kernel
theorem dX7_init_245 : decode cX7_init 245 = .ok (.iastore, 1) := by decide +kernel
theorem dX7_init_246 : decode cX7_init 246 = .ok (.dup, 1) := by decide +kernel
theorem dX7_init_247 : decode cX7_init 247 = .ok (.iconst 1, 1) := by decide +kernel
theorem dX7_init_248 : decode cX7_init 248 = .ok (.sipush 365, 3) := by decide +kernel
theorem dX7_init_251 : decode cX7_init 251 = .ok (.iastore, 1) := by decide +kernel
theorem dX7_init_252 : decode cX7_init 252 = .ok (.putfield 32, 3) := by decide +kernel
theorem dX7_init_255 : decode cX7_init 255 = .ok (.aload_n 0, 1) := by decide +kernel
theorem dX7_init_256 : decode cX7_init 256 = .ok (.iconst 4, 1) := by decide +kernel
theorem dX7_init_257 : decode cX7_init 257 = .ok (.newarray .int, 2) := by decide +kernel
theorem dX7_init_259 : decode cX7_init 259 = .ok (.dup, 1) := by decide +kernel
theorem dX7_init_260 : decode cX7_init 260 = .ok (.iconst 0, 1) := by decide +kernel
theorem dX7_init_261 : decode cX7_init 261 = .ok (.sipush (-2048), 3) := by decide +kernel
theorem dX7_init_264 : decode cX7_init 264 = .ok (.iastore, 1) := by decide +kernel
theorem dX7_init_265 : decode cX7_init 265 = .ok (.dup, 1) := by decide +kernel
theorem dX7_init_266 : decode cX7_init 266 = .ok (.iconst 1, 1) := by decide +kernel
theorem dX7_init_267 : decode cX7_init 267 = .ok (.sipush 135, 3) := by decide +kernel
theorem dX7_init_270 : decode cX7_init 270 = .ok (.iastore, 1) := by decide +kernel
theorem dX7_init_271 : decode cX7_init 271 = .ok (.dup, 1) := by decide +kernel
theorem dX7_init_272 : decode cX7_init 272 = .ok (.iconst 2, 1) := by decide +kernel
theorem dX7_init_273 : decode cX7_init 273 = .ok (.sipush 273, 3) := by decide +kernel
theorem dX7_init_276 : decode cX7_init 276 = .ok (.iastore, 1) := by decide +kernel
theorem dX7_init_277 : decode cX7_init 277 = .ok (.dup, 1) := by decide +kernel
theorem dX7_init_278 : decode cX7_init 278 = .ok (.iconst 3, 1) := by decide +kernel
theorem dX7_init_279 : decode cX7_init 279 = .ok (.sipush 373, 3) := by decide +kernel
theorem dX7_init_282 : decode cX7_init 282 = .ok (.iastore, 1) := by decide +kernel
theorem dX7_init_283 : decode cX7_init 283 = .ok (.putfield 35, 3) := by decide +kernel
theorem dX7_init_286 : decode cX7_init 286 = .ok (.aload_n 0, 1) := by decide +kernel
theorem dX7_init_287 : decode cX7_init 287 = .ok (.bipush 8, 2) := by decide +kernel
theorem dX7_init_289 : decode cX7_init 289 = .ok (.newarray .int, 2) := by decide +kernel
theorem dX7_init_291 : decode cX7_init 291 = .ok (.dup, 1) := by decide +kernel
theorem dX7_init_292 : decode cX7_init 292 = .ok (.iconst 0, 1) := by decide +kernel
theorem dX7_init_293 : decode cX7_init 293 = .ok (.sipush (-2048), 3) := by decide +kernel
theorem dX7_init_296 : decode cX7_init 296 = .ok (.iastore, 1) := by decide +kernel
theorem dX7_init_297 : decode cX7_init 297 = .ok (.dup, 1) := by decide +kernel
theorem dX7_init_298 : decode cX7_init 298 = .ok (.iconst 1, 1) := by decide +kernel
theorem dX7_init_299 : decode cX7_init 299 = .ok (.iconst 4, 1) := by decide +kernel
theorem dX7_init_300 : decode cX7_init 300 = .ok (.iastore, 1) := by decide +kernel
theorem dX7_init_301 : decode cX7_init 301 = .ok (.dup, 1) := by decide +kernel
theorem dX7_init_302 : decode cX7_init 302 = .ok (.iconst 2, 1) := by decide +kernel
theorem dX7_init_303 : decode cX7_init 303 = .ok (.sipush 135, 3) := by decide +kernel
theorem dX7_init_306 : decode cX7_init 306 = .ok (.iastore, 1) := by decide +kernel
theorem dX7_init_307 : decode cX7_init 307 = .ok (.dup, 1) := by decide +kernel
theorem dX7_init_308 : decode cX7_init 308 = .ok (.iconst 3, 1) := by decide +kernel
theorem dX7_init_309 : decode cX7_init 309 = .ok (.sipush 213, 3) := by decide +kernel
theorem dX7_init_312 : decode cX7_init 312 = .ok (.iastore, 1) := by decide +kernel
theorem dX7_init_313 : decode cX7_init 313 = .ok (.dup, 1) := by decide +kernel
theorem dX7_init_314 : decode cX7_init 314 = .ok (.iconst 4, 1) := by decide +kernel
theorem dX7_init_315 : decode cX7_init 315 = .ok (.sipush 273, 3) := by decide +kernel
theorem dX7_init_318 : decode cX7_init 318 = .ok (.iastore, 1) := by decide +kernel
theorem dX7_init_319 : decode cX7_init 319 = .ok (.dup, 1) := by decide +kernel
theorem dX7_init_320 : decode cX7_init 320 = .ok (.iconst 5, 1) := by decide +kernel
theorem dX7_init_321 : decode cX7_init 321 = .ok (.sipush 323, 3) := by decide +kernel
theorem dX7_init_324 : decode cX7_init 324 = .ok (.iastore, 1) := by decide +kernel
theorem dX7_init_325 : decode cX7_init 325 = .ok (.dup, 1) := by decide +kernel
theorem dX7_init_326 : decode cX7_init 326 = .ok (.bipush 6, 2) := by decide +kernel
theorem dX7_init_328 : decode cX7_init 328 = .ok (.sipush 373, 3) := by decide +kernel
theorem dX7_init_331 : decode cX7_init 331 = .ok (.iastore, 1) := by decide +kernel
theorem dX7_init_332 : decode cX7_init 332 = .ok (.dup, 1) := by decide +kernel
theorem dX7_init_333 : decode cX7_init 333 = .ok (.bipush 7, 2) := by decide +kernel
theorem dX7_init_335 : decode cX7_init 335 = .ok (.sipush 425, 3) := by decide +kernel
theorem dX7_init_338 : decode cX7_init 338 = .ok (.iastore, 1) := by decide +kernel
theorem dX7_init_339 : decode cX7_init 339 = .ok (.putfield 38, 3) := by decide +kernel
theorem dX7_init_342 : decode cX7_init 342 = .ok (.aload_n 0, 1) := by decide +kernel
theorem dX7_init_343 : decode cX7_init 343 = .ok (.bipush 16, 2) := by decide +kernel
theorem dX7_init_345 : decode cX7_init 345 = .ok (.newarray .int, 2) := by decide +kernel
theorem dX7_init_347 : decode cX7_init 347 = .ok (.dup, 1) := by decide +kernel
theorem dX7_init_348 : decode cX7_init 348 = .ok (.iconst 0, 1) := by decide +kernel
theorem dX7_init_349 : decode cX7_init 349 = .ok (.sipush (-2048), 3) := by decide +kernel
theorem dX7_init_352 : decode cX7_init 352 = .ok (.iastore, 1) := by decide +kernel
theorem dX7_init_353 : decode cX7_init 353 = .ok (.dup, 1) := by decide +kernel
theorem dX7_init_354 : decode cX7_init 354 = .ok (.iconst 1, 1) := by decide +kernel
theorem dX7_init_355 : decode cX7_init 355 = .ok (.bipush (-66), 2) := by decide +kernel
theorem dX7_init_357 : decode cX7_init 357 = .ok (.iastore, 1) := by decide +kernel
theorem dX7_init_358 : decode cX7_init 358 = .ok (.dup, 1) := by decide +kernel
theorem dX7_init_359 : decode cX7_init 359 = .ok (.iconst 2, 1) := by decide +kernel
theorem dX7_init_360 : decode cX7_init 360 = .ok (.bipush 28, 2) := by decide +kernel
theorem dX7_init_362 : decode cX7_init 362 = .ok (.iastore, 1) := by decide +kernel
theorem dX7_init_363 : decode cX7_init 363 = .ok (.dup, 1) := by decide +kernel
theorem dX7_init_364 : decode cX7_init 364 = .ok (.iconst 3, 1) := by decide +kernel
theorem dX7_init_365 : decode cX7_init 365 = .ok (.bipush 104, 2) := by decide +kernel
theorem dX7_init_367 : decode cX7_init 367 = .ok (.iastore, 1) := by decide +kernel
theorem dX7_init_368 : decode cX7_init 368 = .ok (.dup, 1) := by decide +kernel
theorem dX7_init_369 : decode cX7_init 369 = .ok (.iconst 4, 1) := by decide +kernel
theorem dX7_init_370 : decode cX7_init 370 = .ok (.sipush 169, 3) := by decide +kernel
theorem dX7_init_373 : decode cX7_init 373 = .ok (.iastore, 1) := by decide +kernel
theorem dX7_init_374 : decode cX7_init 374 = .ok (.dup, 1) := by decide +kernel
theorem dX7_init_375 : decode cX7_init 375 = .ok (.iconst 5, 1) := by decide +kernel
theorem dX7_init_376 : decode cX7_init 376 = .ok (.sipush 224, 3) := by decide +kernel
theorem dX7_init_379 : decode cX7_init 379 = .ok (.iastore, 1) := by decide +kernel
theorem dX7_init_380 : decode cX7_init 380 = .ok (.dup, 1) := by decide +kernel
theorem dX7_init_381 : decode cX7_init 381 = .ok (.bipush 6, 2) := by decide +kernel
theorem dX7_init_383 : decode cX7_init 383 = .ok (.sipush 274, 3) := by decide +kernel
theorem dX7_init_386 : decode cX7_init 386 = .ok (.iastore, 1) := by decide +kernel
theorem dX7_init_387 : decode cX7_init 387 = .ok (.dup, 1) := by decide +kernel
theorem dX7_init_388 : decode cX7_init 388 = .ok (.bipush 7, 2) := by decide +kernel
theorem dX7_init_390 : decode cX7_init 390 = .ok (.sipush 318, 3) := by decide +kernel
theorem dX7_init_393 : decode cX7_init 393 = .ok (.iastore, 1) := by decide +kernel
theorem dX7_init_394 : decode cX7_init 394 = .ok (.dup, 1) := by decide +kernel
theorem dX7_init_395 : decode cX7_init 395 = .ok (.bipush 8, 2) := by decide +kernel
theorem dX7_init_397 : decode cX7_init 397 = .ok (.sipush 358, 3) := by decide +kernel
theorem dX7_init_400 : decode cX7_init 400 = .ok (.iastore, 1) := by decide +kernel
theorem dX7_init_401 : decode cX7_init 401 = .ok (.dup, 1) := by decide +kernel
theorem dX7_init_402 : decode cX7_init 402 = .ok (.bipush 9, 2) := by decide +kernel
theorem dX7_init_404 : decode cX7_init 404 = .ok (.sipush 395, 3) := by decide +kernel
theorem dX7_init_407 : decode cX7_init 407 = .ok (.iastore, 1) := by decide +kernel
theorem dX7_init_408 : decode cX7_init 408 = .ok (.dup, 1) := by decide +kernel
theorem dX7_init_409 : decode cX7_init 409 = .ok (.bipush 10, 2) := by decide +kernel
theorem dX7_init_411 : decode cX7_init 411 = .ok (.sipush 429, 3) := by decide +kernel
theorem dX7_init_414 : decode cX7_init 414 = .ok (.iastore, 1) := by decide +kernel
theorem dX7_init_415 : decode cX7_init 415 = .ok (.dup, 1) := by decide +kernel
theorem dX7_init_416 : decode cX7_init 416 = .ok (.bipush 11, 2) := by decide +kernel
theorem dX7_init_418 : decode cX7_init 418 = .ok (.sipush 459, 3) := by decide +kernel
theorem dX7_init_421 : decode cX7_init 421 = .ok (.iastore, 1) := by decide +kernel
theorem dX7_init_422 : decode cX7_init 422 = .ok (.dup, 1) := by decide +kernel
theorem dX7_init_423 : decode cX7_init 423 = .ok (.bipush 12, 2) := by decide +kernel
theorem dX7_init_425 : decode cX7_init 425 = .ok (.sipush 488, 3) := by decide +kernel
theorem dX7_init_428 : decode cX7_init 428 = .ok (.iastore, 1) := by decide +kernel
theorem dX7_init_429 : decode cX7_init 429 = .ok (.dup, 1) := by decide +kernel
theorem dX7_init_430 : decode cX7_init 430 = .ok (.bipush 13, 2) := by decide +kernel
theorem dX7_init_432 : decode cX7_init 432 = .ok (.sipush 514, 3) := by decide +kernel
theorem dX7_init_435 : decode cX7_init 435 = .ok (.iastore, 1) := by decide +kernel
theorem dX7_init_436 : decode cX7_init 436 = .ok (.dup, 1) := by decide +kernel
theorem dX7_init_437 : decode cX7_init 437 = .ok (.bipush 14, 2) := by decide +kernel
theorem dX7_init_439 : decode cX7_init 439 = .ok (.sipush 539, 3) := by decide +kernel
theorem dX7_init_442 : decode cX7_init 442 = .ok (.iastore, 1) := by decide +kernel
theorem dX7_init_443 : decode cX7_init 443 = .ok (.dup, 1) := by decide +kernel
theorem dX7_init_444 : decode cX7_init 444 = .ok (.bipush 15, 2) := by decide +kernel
theorem dX7_init_446 : decode cX7_init 446 = .ok (.sipush 566, 3) := by decide +kernel
theorem dX7_init_449 : decode cX7_init 449 = .ok (.iastore, 1) := by decide +kernel
theorem dX7_init_450 : decode cX7_init 450 = .ok (.putfield 41, 3) := by decide +kernel
theorem dX7_init_453 : decode cX7_init 453 = .ok (.aload_n 0, 1) := by decide +kernel
theorem dX7_init_454 : decode cX7_init 454 = .ok (.iconst 2, 1) := by decide +kernel
theorem dX7_init_455 : decode cX7_init 455 = .ok (.newarray .int, 2) := by decide +kernel
theorem dX7_init_457 : decode cX7_init 457 = .ok (.dup, 1) := by decide +kernel
theorem dX7_init_458 : decode cX7_init 458 = .ok (.iconst 0, 1) := by decide +kernel
theorem dX7_init_459 : decode cX7_init 459 = .ok (.sipush (-704), 3) := by decide +kernel
theorem dX7_init_462 : decode cX7_init 462 = .ok (.iastore, 1) := by decide +kernel
theorem dX7_init_463 : decode cX7_init 463 = .ok (.dup, 1) := by decide +kernel
theorem dX7_init_464 : decode cX7_init 464 = .ok (.iconst 1, 1) := by decide +kernel
theorem dX7_init_465 : decode cX7_init 465 = .ok (.sipush 14048, 3) := by decide +kernel
theorem dX7_init_468 : decode cX7_init 468 = .ok (.iastore, 1) := by decide +kernel
theorem dX7_init_469 : decode cX7_init 469 = .ok (.putfield 44, 3) := by decide +kernel
theorem dX7_init_472 : decode cX7_init 472 = .ok (.aload_n 0, 1) := by decide +kernel
theorem dX7_init_473 : decode cX7_init 473 = .ok (.iconst 4, 1) := by decide +kernel
theorem dX7_init_474 : decode cX7_init 474 = .ok (.newarray .int, 2) := by decide +kernel
theorem dX7_init_476 : decode cX7_init 476 = .ok (.dup, 1) := by decide +kernel
theorem dX7_init_477 : decode cX7_init 477 = .ok (.iconst 0, 1) := by decide +kernel
theorem dX7_init_478 : decode cX7_init 478 = .ok (.bipush (-128), 2) := by decide +kernel
theorem dX7_init_480 : decode cX7_init 480 = .ok (.iastore, 1) := by decide +kernel
theorem dX7_init_481 : decode cX7_init 481 = .ok (.dup, 1) := by decide +kernel
theorem dX7_init_482 : decode cX7_init 482 = .ok (.iconst 1, 1) := by decide +kernel
theorem dX7_init_483 : decode cX7_init 483 = .ok (.sipush 960, 3) := by decide +kernel
theorem dX7_init_486 : decode cX7_init 486 = .ok (.iastore, 1) := by decide +kernel
theorem dX7_init_487 : decode cX7_init 487 = .ok (.dup, 1) := by decide +kernel
theorem dX7_init_488 : decode cX7_init 488 = .ok (.iconst 2, 1) := by decide +kernel
theorem dX7_init_489 : decode cX7_init 489 = .ok (.sipush 4384, 3) := by decide +kernel
theorem dX7_init_492 : decode cX7_init 492 = .ok (.iastore, 1) := by decide +kernel
theorem dX7_init_493 : decode cX7_init 493 = .ok (.dup, 1) := by decide +kernel
theorem dX7_init_494 : decode cX7_init 494 = .ok (.iconst 3, 1) := by decide +kernel
theorem dX7_init_495 : decode cX7_init 495 = .ok (.sipush 18624, 3) := by decide +kernel
theorem dX7_init_498 : decode cX7_init 498 = .ok (.iastore, 1) := by decide +kernel
theorem dX7_init_499 : decode cX7_init 499 = .ok (.putfield 47, 3) := by decide +kernel
theorem dX7_init_502 : decode cX7_init 502 = .ok (.aload_n 0, 1) := by decide +kernel
theorem dX7_init_503 : decode cX7_init 503 = .ok (.bipush 8, 2) := by decide +kernel
theorem dX7_init_505 : decode cX7_init 505 = .ok (.newarray .int, 2) := by decide +kernel
theorem dX7_init_507 : decode cX7_init 507 = .ok (.dup, 1) := by decide +kernel
theorem dX7_init_508 : decode cX7_init 508 = .ok (.iconst 0, 1) := by decide +kernel
theorem dX7_init_509 : decode cX7_init 509 = .ok (.sipush (-384), 3) := by decide +kernel
theorem dX7_init_512 : decode cX7_init 512 = .ok (.iastore, 1) := by decide +kernel
theorem dX7_init_513 : decode cX7_init 513 = .ok (.dup, 1) := by decide +kernel
theorem dX7_init_514 : decode cX7_init 514 = .ok (.iconst 1, 1) := by decide +kernel
theorem dX7_init_515 : decode cX7_init 515 = .ok (.sipush 576, 3) := by decide +kernel
theorem dX7_init_518 : decode cX7_init 518 = .ok (.iastore, 1) := by decide +kernel
theorem dX7_init_519 : decode cX7_init 519 = .ok (.dup, 1) := by decide +kernel
theorem dX7_init_520 : decode cX7_init 520 = .ok (.iconst 2, 1) := by decide +kernel
theorem dX7_init_521 : decode cX7_init 521 = .ok (.sipush 1312, 3) := by decide +kernel
theorem dX7_init_524 : decode cX7_init 524 = .ok (.iastore, 1) := by decide +kernel
theorem dX7_init_525 : decode cX7_init 525 = .ok (.dup, 1) := by decide +kernel
theorem dX7_init_526 : decode cX7_init 526 = .ok (.iconst 3, 1) := by decide +kernel
theorem dX7_init_527 : decode cX7_init 527 = .ok (.sipush 2048, 3) := by decide +kernel
theorem dX7_init_530 : decode cX7_init 530 = .ok (.iastore, 1) := by decide +kernel
theorem dX7_init_531 : decode cX7_init 531 = .ok (.dup, 1) := by decide +kernel
theorem dX7_init_532 : decode cX7_init 532 = .ok (.iconst 4, 1) := by decide +kernel
theorem dX7_init_533 : decode cX7_init 533 = .ok (.sipush 3584, 3) := by decide +kernel
theorem dX7_init_536 : decode cX7_init 536 = .ok (.iastore, 1) := by decide +kernel
theorem dX7_init_537 : decode cX7_init 537 = .ok (.dup, 1) := by decide +kernel
theorem dX7_init_538 : decode cX7_init 538 = .ok (.iconst 5, 1) := by decide +kernel
theorem dX7_init_539 : decode cX7_init 539 = .ok (.sipush 6336, 3) := by decide +kernel
theorem dX7_init_542 : decode cX7_init 542 = .ok (.iastore, 1) := by decide +kernel
theorem dX7_init_543 : decode cX7_init 543 = .ok (.dup, 1) := by decide +kernel
theorem dX7_init_544 : decode cX7_init 544 = .ok (.bipush 6, 2) := by decide +kernel
theorem dX7_init_546 : decode cX7_init 546 = .ok (.sipush 11360, 3) := by decide +kernel
theorem dX7_init_549 : decode cX7_init 549 = .ok (.iastore, 1) := by decide +kernel
theorem dX7_init_550 : decode cX7_init 550 = .ok (.dup, 1) := by decide +kernel
theorem dX7_init_551 : decode cX7_init 551 = .ok (.bipush 7, 2) := by decide +kernel
theorem dX7_init_553 : decode cX7_init 553 = .ok (.ldc 50, 2) := by decide +kernel
theorem dX7_init_555 : decode cX7_init 555 = .ok (.iastore, 1) := by decide +kernel
theorem dX7_init_556 : decode cX7_init 556 = .ok (.putfield 51, 3) := by decide +kernel
theorem dX7_init_559 : decode cX7_init 559 = .ok (.aload_n 0, 1) := by decide +kernel
theorem dX7_init_560 : decode cX7_init 560 = .ok (.bipush 16, 2) := by decide +kernel
theorem dX7_init_562 : decode cX7_init 562 = .ok (.newarray .int, 2) := by decide +kernel
theorem dX7_init_564 : decode cX7_init 564 = .ok (.dup, 1) := by decide +kernel
theorem dX7_init_565 : decode cX7_init 565 = .ok (.iconst 0, 1) := by decide +kernel
theorem dX7_init_566 : decode cX7_init 566 = .ok (.sipush 448, 3) := by decide +kernel
theorem dX7_init_569 : decode cX7_init 569 = .ok (.iastore, 1) := by decide +kernel
theorem dX7_init_570 : decode cX7_init 570 = .ok (.dup, 1) := by decide +kernel
theorem dX7_init_571 : decode cX7_init 571 = .ok (.iconst 1, 1) := by decide +kernel
theorem dX7_init_572 : decode cX7_init 572 = .ok (.sipush 448, 3) := by decide +kernel
theorem dX7_init_575 : decode cX7_init 575 = .ok (.iastore, 1) := by decide +kernel
theorem dX7_init_576 : decode cX7_init 576 = .ok (.dup, 1) := by decide +kernel
theorem dX7_init_577 : decode cX7_init 577 = .ok (.iconst 2, 1) := by decide +kernel
theorem dX7_init_578 : decode cX7_init 578 = .ok (.sipush 768, 3) := by decide +kernel
theorem dX7_init_581 : decode cX7_init 581 = .ok (.iastore, 1) := by decide +kernel
theorem dX7_init_582 : decode cX7_init 582 = .ok (.dup, 1) := by decide +kernel
theorem dX7_init_583 : decode cX7_init 583 = .ok (.iconst 3, 1) := by decide +kernel
theorem dX7_init_584 : decode cX7_init 584 = .ok (.sipush 1248, 3) := by decide +kernel
theorem dX7_init_587 : decode cX7_init 587 = .ok (.iastore, 1) := by decide +kernel
theorem dX7_init_588 : decode cX7_init 588 = .ok (.dup, 1) := by decide +kernel
theorem dX7_init_589 : decode cX7_init 589 = .ok (.iconst 4, 1) := by decide +kernel
theorem dX7_init_590 : decode cX7_init 590 = .ok (.sipush 1280, 3) := by decide +kernel
theorem dX7_init_593 : decode cX7_init 593 = .ok (.iastore, 1) := by decide +kernel
theorem dX7_init_594 : decode cX7_init 594 = .ok (.dup, 1) := by decide +kernel
theorem dX7_init_595 : decode cX7_init 595 = .ok (.iconst 5, 1) := by decide +kernel
theorem dX7_init_596 : decode cX7_init 596 = .ok (.sipush 1312, 3) := by decide +kernel
theorem dX7_init_599 : decode cX7_init 599 = .ok (.iastore, 1) := by decide +kernel
theorem dX7_init_600 : decode cX7_init 600 = .ok (.dup, 1) := by decide +kernel
theorem dX7_init_601 : decode cX7_init 601 = .ok (.bipush 6, 2) := by decide +kernel
theorem dX7_init_603 : decode cX7_init 603 = .ok (.sipush 1856, 3) := by decide +kernel
theorem dX7_init_606 : decode cX7_init 606 = .ok (.iastore, 1) := by decide +kernel
theorem dX7_init_607 : decode cX7_init 607 = .ok (.dup, 1) := by decide +kernel
theorem dX7_init_608 : decode cX7_init 608 = .ok (.bipush 7, 2) := by decide +kernel
theorem dX7_init_610 : decode cX7_init 610 = .ok (.sipush 3200, 3) := by decide +kernel
theorem dX7_init_613 : decode cX7_init 613 = .ok (.iastore, 1) := by decide +kernel
theorem dX7_init_614 : decode cX7_init 614 = .ok (.dup, 1) := by decide +kernel
theorem dX7_init_615 : decode cX7_init 615 = .ok (.bipush 8, 2) := by decide +kernel
theorem dX7_init_617 : decode cX7_init 617 = .ok (.sipush 4512, 3) := by decide +kernel
theorem dX7_init_620 : decode cX7_init 620 = .ok (.iastore, 1) := by decide +kernel
theorem dX7_init_621 : decode cX7_init 621 = .ok (.dup, 1) := by decide +kernel
theorem dX7_init_622 : decode cX7_init 622 = .ok (.bipush 9, 2) := by decide +kernel
theorem dX7_init_624 : decode cX7_init 624 = .ok (.sipush 5728, 3) := by decide +kernel
theorem dX7_init_627 : decode cX7_init 627 = .ok (.iastore, 1) := by decide +kernel
theorem dX7_init_628 : decode cX7_init 628 = .ok (.dup, 1) := by decide +kernel
theorem dX7_init_629 : decode cX7_init 629 = .ok (.bipush 10, 2) := by decide +kernel
theorem dX7_init_631 : decode cX7_init 631 = .ok (.sipush 7008, 3) := by decide +kernel
theorem dX7_init_634 : decode cX7_init 634 = .ok (.iastore, 1) := by decide +kernel
theorem dX7_init_635 : decode cX7_init 635 = .ok (.dup, 1) := by decide +kernel
theorem dX7_init_636 : decode cX7_init 636 = .ok (.bipush 11, 2) := by decide +kernel
theorem dX7_init_638 : decode cX7_init 638 = .ok (.sipush 8960, 3) := by decide +kernel
theorem dX7_init_641 : decode cX7_init 641 = .ok (.iastore, 1) := by decide +kernel
theorem dX7_init_642 : decode cX7_init 642 = .ok (.dup, 1) := by decide +kernel
theorem dX7_init_643 : decode cX7_init 643 = .ok (.bipush 12, 2) := by decide +kernel
theorem dX7_init_645 : decode cX7_init 645 = .ok (.sipush 11456, 3) := by decide +kernel
theorem dX7_init_648 : decode cX7_init 648 = .ok (.iastore, 1) := by decide +kernel
theorem dX7_init_649 : decode cX7_init 649 = .ok (.dup, 1) := by decide +kernel
theorem dX7_init_650 : decode cX7_init 650 = .ok (.bipush 13, 2) := by decide +kernel
theorem dX7_init_652 : decode cX7_init 652 = .ok (.sipush 14080, 3) := by decide +kernel
theorem dX7_init_655 : decode cX7_init 655 = .ok (.iastore, 1) := by decide +kernel
theorem dX7_init_656 : decode cX7_init 656 = .ok (.dup, 1) := by decide +kernel
theorem dX7_init_657 : decode cX7_init 657 = .ok (.bipush 14, 2) := by decide +kernel
theorem dX7_init_659 : decode cX7_init 659 = .ok (.sipush 16928, 3) := by decide +kernel
theorem dX7_init_662 : decode cX7_init 662 = .ok (.iastore, 1) := by decide +kernel
theorem dX7_init_663 : decode cX7_init 663 = .ok (.dup, 1) := by decide +kernel
theorem dX7_init_664 : decode cX7_init 664 = .ok (.bipush 15, 2) := by decide +kernel
theorem dX7_init_666 : decode cX7_init 666 = .ok (.sipush 22272, 3) := by decide +kernel
theorem dX7_init_669 : decode cX7_init 669 = .ok (.iastore, 1) := by decide +kernel
theorem dX7_init_670 : decode cX7_init 670 = .ok (.putfield 54, 3) := by decide +kernel
theorem dX7_init_673 : decode cX7_init 673 = .ok (.aload_n 0, 1) := by decide +kernel
theorem dX7_init_674 : decode cX7_init 674 = .ok (.iconst 2, 1) := by decide +kernel
theorem dX7_init_675 : decode cX7_init 675 = .ok (.newarray .int, 2) := by decide +kernel
theorem dX7_init_677 : decode cX7_init 677 = .ok (.dup, 1) := by decide +kernel
theorem dX7_init_678 : decode cX7_init 678 = .ok (.iconst 0, 1) := by decide +kernel
theorem dX7_init_679 : decode cX7_init 679 = .ok (.iconst 0, 1) := by decide +kernel
theorem dX7_init_680 : decode cX7_init 680 = .ok (.iastore, 1) := by decide +kernel
theorem dX7_init_681 : decode cX7_init 681 = .ok (.dup, 1) := by decide +kernel
theorem dX7_init_682 : decode cX7_init 682 = .ok (.iconst 1, 1) := by decide +kernel
theorem dX7_init_683 : decode cX7_init 683 = .ok (.sipush 3584, 3) := by decide +kernel
theorem dX7_init_686 : decode cX7_init 686 = .ok (.iastore, 1) := by decide +kernel
theorem dX7_init_687 : decode cX7_init 687 = .ok (.putfield 57, 3) := by decide +kernel
theorem dX7_init_690 : decode cX7_init 690 = .ok (.aload_n 0, 1) := by decide +kernel
theorem dX7_init_691 : decode cX7_init 691 = .ok (.iconst 4, 1) := by decide +kernel
theorem dX7_init_692 : decode cX7_init 692 = .ok (.newarray .int, 2) := by decide +kernel
theorem dX7_init_694 : decode cX7_init 694 = .ok (.dup, 1) := by decide +kernel
theorem dX7_init_695 : decode cX7_init 695 = .ok (.iconst 0, 1) := by decide +kernel
theorem dX7_init_696 : decode cX7_init 696 = .ok (.iconst 0, 1) := by decide +kernel
theorem dX7_init_697 : decode cX7_init 697 = .ok (.iastore, 1) := by decide +kernel
theorem dX7_init_698 : decode cX7_init 698 = .ok (.dup, 1) := by decide +kernel
theorem dX7_init_699 : decode cX7_init 699 = .ok (.iconst 1, 1) := by decide +kernel
theorem dX7_init_700 : decode cX7_init 700 = .ok (.sipush 512, 3) := by decide +kernel
theorem dX7_init_703 : decode cX7_init 703 = .ok (.iastore, 1) := by decide +kernel
theorem dX7_init_704 : decode cX7_init 704 = .ok (.dup, 1) := by decide +kernel
theorem dX7_init_705 : decode cX7_init 705 = .ok (.iconst 2, 1) := by decide +kernel
theorem dX7_init_706 : decode cX7_init 706 = .ok (.sipush 1024, 3) := by decide +kernel
theorem dX7_init_709 : decode cX7_init 709 = .ok (.iastore, 1) := by decide +kernel
theorem dX7_init_710 : decode cX7_init 710 = .ok (.dup, 1) := by decide +kernel
theorem dX7_init_711 : decode cX7_init 711 = .ok (.iconst 3, 1) := by decide +kernel
theorem dX7_init_712 : decode cX7_init 712 = .ok (.sipush 3584, 3) := by decide +kernel
theorem dX7_init_715 : decode cX7_init 715 = .ok (.iastore, 1) := by decide +kernel
theorem dX7_init_716 : decode cX7_init 716 = .ok (.putfield 60, 3) := by decide +kernel
theorem dX7_init_719 : decode cX7_init 719 = .ok (.aload_n 0, 1) := by decide +kernel
theorem dX7_init_720 : decode cX7_init 720 = .ok (.bipush 8, 2) := by decide +kernel
theorem dX7_init_722 : decode cX7_init 722 = .ok (.newarray .int, 2) := by decide +kernel
theorem dX7_init_724 : decode cX7_init 724 = .ok (.dup, 1) := by decide +kernel
theorem dX7_init_725 : decode cX7_init 725 = .ok (.iconst 0, 1) := by decide +kernel
theorem dX7_init_726 : decode cX7_init 726 = .ok (.iconst 0, 1) := by decide +kernel
theorem dX7_init_727 : decode cX7_init 727 = .ok (.iastore, 1) := by decide +kernel
theorem dX7_init_728 : decode cX7_init 728 = .ok (.dup, 1) := by decide +kernel
theorem dX7_init_729 : decode cX7_init 729 = .ok (.iconst 1, 1) := by decide +kernel
theorem dX7_init_730 : decode cX7_init 730 = .ok (.iconst 0, 1) := by decide +kernel
theorem dX7_init_731 : decode cX7_init 731 = .ok (.iastore, 1) := by decide +kernel
theorem dX7_init_732 : decode cX7_init 732 = .ok (.dup, 1) := by decide +kernel
theorem dX7_init_733 : decode cX7_init 733 = .ok (.iconst 2, 1) := by decide +kernel
theorem dX7_init_734 : decode cX7_init 734 = .ok (.iconst 0, 1) := by decide +kernel
theorem dX7_init_735 : decode cX7_init 735 = .ok (.iastore, 1) := by decide +kernel
theorem dX7_init_736 : decode cX7_init 736 = .ok (.dup, 1) := by decide +kernel
theorem dX7_init_737 : decode cX7_init 737 = .ok (.iconst 3, 1) := by decide +kernel
theorem dX7_init_738 : decode cX7_init 738 = .ok (.sipush 512, 3) := by decide +kernel
theorem dX7_init_741 : decode cX7_init 741 = .ok (.iastore, 1) := by decide +kernel
theorem dX7_init_742 : decode cX7_init 742 = .ok (.dup, 1) := by decide +kernel
theorem dX7_init_743 : decode cX7_init 743 = .ok (.iconst 4, 1) := by decide +kernel
theorem dX7_init_744 : decode cX7_init 744 = .ok (.sipush 512, 3) := by decide +kernel
theorem dX7_init_747 : decode cX7_init 747 = .ok (.iastore, 1) := by decide +kernel
theorem dX7_init_748 : decode cX7_init 748 = .ok (.dup, 1) := by decide +kernel
theorem dX7_init_749 : decode cX7_init 749 = .ok (.iconst 5, 1) := by decide +kernel
theorem dX7_init_750 : decode cX7_init 750 = .ok (.sipush 512, 3) := by decide +kernel
theorem dX7_init_753 : decode cX7_init 753 = .ok (.iastore, 1) := by decide +kernel
theorem dX7_init_754 : decode cX7_init 754 = .ok (.dup, 1) := by decide +kernel
theorem dX7_init_755 : decode cX7_init 755 = .ok (.bipush 6, 2) := by decide +kernel
theorem dX7_init_757 : decode cX7_init 757 = .ok (.sipush 1536, 3) := by decide +kernel
theorem dX7_init_760 : decode cX7_init 760 = .ok (.iastore, 1) := by decide +kernel
theorem dX7_init_761 : decode cX7_init 761 = .ok (.dup, 1) := by decide +kernel
theorem dX7_init_762 : decode cX7_init 762 = .ok (.bipush 7, 2) := by decide +kernel
theorem dX7_init_764 : decode cX7_init 764 = .ok (.sipush 3584, 3) := by decide +kernel
theorem dX7_init_767 : decode cX7_init 767 = .ok (.iastore, 1) := by decide +kernel
theorem dX7_init_768 : decode cX7_init 768 = .ok (.putfield 63, 3) := by decide +kernel
theorem dX7_init_771 : decode cX7_init 771 = .ok (.aload_n 0, 1) := by decide +kernel
theorem dX7_init_772 : decode cX7_init 772 = .ok (.bipush 16, 2) := by decide +kernel
theorem dX7_init_774 : decode cX7_init 774 = .ok (.newarray .int, 2) := by decide +kernel
theorem dX7_init_776 : decode cX7_init 776 = .ok (.dup, 1) := by decide +kernel
theorem dX7_init_777 : decode cX7_init 777 = .ok (.iconst 0, 1) := by decide +kernel
theorem dX7_init_778 : decode cX7_init 778 = .ok (.iconst 0, 1) := by decide +kernel
theorem dX7_init_779 : decode cX7_init 779 = .ok (.iastore, 1) := by decide +kernel
theorem dX7_init_780 : decode cX7_init 780 = .ok (.dup, 1) := by decide +kernel
theorem dX7_init_781 : decode cX7_init 781 = .ok (.iconst 1, 1) := by decide +kernel
theorem dX7_init_782 : decode cX7_init 782 = .ok (.iconst 0, 1) := by decide +kernel
theorem dX7_init_783 : decode cX7_init 783 = .ok (.iastore, 1) := by decide +kernel
theorem dX7_init_784 : decode cX7_init 784 = .ok (.dup, 1) := by decide +kernel
theorem dX7_init_785 : decode cX7_init 785 = .ok (.iconst 2, 1) := by decide +kernel
theorem dX7_init_786 : decode cX7_init 786 = .ok (.iconst 0, 1) := by decide +kernel
theorem dX7_init_787 : decode cX7_init 787 = .ok (.iastore, 1) := by decide +kernel
theorem dX7_init_788 : decode cX7_init 788 = .ok (.dup, 1) := by decide +kernel
theorem dX7_init_789 : decode cX7_init 789 = .ok (.iconst 3, 1) := by decide +kernel
theorem dX7_init_790 : decode cX7_init 790 = .ok (.iconst 0, 1) := by decide +kernel
theorem dX7_init_791 : decode cX7_init 791 = .ok (.iastore, 1) := by decide +kernel
theorem dX7_init_792 : decode cX7_init 792 = .ok (.dup, 1) := by decide +kernel
theorem dX7_init_793 : decode cX7_init 793 = .ok (.iconst 4, 1) := by decide +kernel
theorem dX7_init_794 : decode cX7_init 794 = .ok (.iconst 0, 1) := by decide +kernel
theorem dX7_init_795 : decode cX7_init 795 = .ok (.iastore, 1) := by decide +kernel
theorem dX7_init_796 : decode cX7_init 796 = .ok (.dup, 1) := by decide +kernel
theorem dX7_init_797 : decode cX7_init 797 = .ok (.iconst 5, 1) := by decide +kernel
theorem dX7_init_798 : decode cX7_init 798 = .ok (.sipush 512, 3) := by decide +kernel
theorem dX7_init_801 : decode cX7_init 801 = .ok (.iastore, 1) := by decide +kernel
theorem dX7_init_802 : decode cX7_init 802 = .ok (.dup, 1) := by decide +kernel
theorem dX7_init_803 : decode cX7_init 803 = .ok (.bipush 6, 2) := by decide +kernel
theorem dX7_init_805 : decode cX7_init 805 = .ok (.sipush 512, 3) := by decide +kernel
theorem dX7_init_808 : decode cX7_init 808 = .ok (.iastore, 1) := by decide +kernel
theorem dX7_init_809 : decode cX7_init 809 = .ok (.dup, 1) := by decide +kernel
theorem dX7_init_810 : decode cX7_init 810 = .ok (.bipush 7, 2) := by decide +kernel
theorem dX7_init_812 : decode cX7_init 812 = .ok (.sipush 512, 3) := by decide +kernel
theorem dX7_init_815 : decode cX7_init 815 = .ok (.iastore, 1) := by decide +kernel
theorem dX7_init_816 : decode cX7_init 816 = .ok (.dup, 1) := by decide +kernel
theorem dX7_init_817 : decode cX7_init 817 = .ok (.bipush 8, 2) := by decide +kernel
theorem dX7_init_819 : decode cX7_init 819 = .ok (.sipush 512, 3) := by decide +kernel
theorem dX7_init_822 : decode cX7_init 822 = .ok (.iastore, 1) := by decide +kernel
theorem dX7_init_823 : decode cX7_init 823 = .ok (.dup, 1) := by decide +kernel
theorem dX7_init_824 : decode cX7_init 824 = .ok (.bipush 9, 2) := by decide +kernel
theorem dX7_init_826 : decode cX7_init 826 = .ok (.sipush 512, 3) := by decide +kernel
theorem dX7_init_829 : decode cX7_init 829 = .ok (.iastore, 1) := by decide +kernel
theorem dX7_init_830 : decode cX7_init 830 = .ok (.dup, 1) := by decide +kernel
theorem dX7_init_831 : decode cX7_init 831 = .ok (.bipush 10, 2) := by decide +kernel
theorem dX7_init_833 : decode cX7_init 833 = .ok (.sipush 1024, 3) := by decide +kernel
theorem dX7_init_836 : decode cX7_init 836 = .ok (.iastore, 1) := by decide +kernel
theorem dX7_init_837 : decode cX7_init 837 = .ok (.dup, 1) := by decide +kernel
theorem dX7_init_838 : decode cX7_init 838 = .ok (.bipush 11, 2) := by decide +kernel
theorem dX7_init_840 : decode cX7_init 840 = .ok (.sipush 1536, 3) := by decide +kernel
theorem dX7_init_843 : decode cX7_init 843 = .ok (.iastore, 1) := by decide +kernel
theorem dX7_init_844 : decode cX7_init 844 = .ok (.dup, 1) := by decide +kernel
theorem dX7_init_845 : decode cX7_init 845 = .ok (.bipush 12, 2) := by decide +kernel
theorem dX7_init_847 : decode cX7_init 847 = .ok (.sipush 2048, 3) := by decide +kernel
theorem dX7_init_850 : decode cX7_init 850 = .ok (.iastore, 1) := by decide +kernel
theorem dX7_init_851 : decode cX7_init 851 = .ok (.dup, 1) := by decide +kernel
theorem dX7_init_852 : decode cX7_init 852 = .ok (.bipush 13, 2) := by decide +kernel
theorem dX7_init_854 : decode cX7_init 854 = .ok (.sipush 2560, 3) := by decide +kernel
theorem dX7_init_857 : decode cX7_init 857 = .ok (.iastore, 1) := by decide +kernel
theorem dX7_init_858 : decode cX7_init 858 = .ok (.dup, 1) := by decide +kernel
theorem dX7_init_859 : decode cX7_init 859 = .ok (.bipush 14, 2) := by decide +kernel
theorem dX7_init_861 : decode cX7_init 861 = .ok (.sipush 3072, 3) := by decide +kernel
theorem dX7_init_864 : decode cX7_init 864 = .ok (.iastore, 1) := by decide +kernel
theorem dX7_init_865 : decode cX7_init 865 = .ok (.dup, 1) := by decide +kernel
theorem dX7_init_866 : decode cX7_init 866 = .ok (.bipush 15, 2) := by decide +kernel
theorem dX7_init_868 : decode cX7_init 868 = .ok (.sipush 3072, 3) := by decide +kernel
theorem dX7_init_871 : decode cX7_init 871 = .ok (.iastore, 1) := by decide +kernel
theorem dX7_init_872 : decode cX7_init 872 = .ok (.putfield 66, 3) := by decide +kernel
theorem dX7_init_875 : decode cX7_init 875 = .ok (.aload_n 0, 1) := by decide +kernel
theorem dX7_init_876 : decode cX7_init 876 = .ok (.sipush 368, 3) := by decide +kernel
theorem dX7_init_879 : decode cX7_init 879 = .ok (.newarray .int, 2) := by decide +kernel
theorem dX7_init_881 : decode cX7_init 881 = .ok (.putfield 69, 3) := by decide +kernel
theorem dX7_init_884 : decode cX7_init 884 = .ok (.aload_n 0, 1) := by decide +kernel
theorem dX7_init_885 : decode cX7_init 885 = .ok (.sipush 192, 3) := by decide +kernel
theorem dX7_init_888 : decode cX7_init 888 = .ok (.newarray .int, 2) := by decide +kernel
theorem dX7_init_890 : decode cX7_init 890 = .ok (.putfield 72, 3) := by decide +kernel
theorem dX7_init_893 : decode cX7_init 893 = .ok (.aload_n 0, 1) := by decide +kernel
theorem dX7_init_894 : decode cX7_init 894 = .ok (.bipush 12, 2) := by decide +kernel
theorem dX7_init_896 : decode cX7_init 896 = .ok (.newarray .int, 2) := by decide +kernel
theorem dX7_init_898 : decode cX7_init 898 = .ok (.dup, 1) := by decide +kernel
theorem dX7_init_899 : decode cX7_init 899 = .ok (.iconst 0, 1) := by decide +kernel
theorem dX7_init_900 : decode cX7_init 900 = .ok (.iconst 3, 1) := by decide +kernel
theorem dX7_init_901 : decode cX7_init 901 = .ok (.iastore, 1) := by decide +kernel
theorem dX7_init_902 : decode cX7_init 902 = .ok (.dup, 1) := by decide +kernel
theorem dX7_init_903 : decode cX7_init 903 = .ok (.iconst 1, 1) := by decide +kernel
theorem dX7_init_904 : decode cX7_init 904 = .ok (.bipush (-11), 2) := by decide +kernel
theorem dX7_init_906 : decode cX7_init 906 = .ok (.iastore, 1) := by decide +kernel
theorem dX7_init_907 : decode cX7_init 907 = .ok (.dup, 1) := by decide +kernel
theorem dX7_init_908 : decode cX7_init 908 = .ok (.iconst 2, 1) := by decide +kernel
theorem dX7_init_909 : decode cX7_init 909 = .ok (.bipush 12, 2) := by decide +kernel
theorem dX7_init_911 : decode cX7_init 911 = .ok (.iastore, 1) := by decide +kernel
theorem dX7_init_912 : decode cX7_init 912 = .ok (.dup, 1) := by decide +kernel
theorem dX7_init_913 : decode cX7_init 913 = .ok (.iconst 3, 1) := by decide +kernel
theorem dX7_init_914 : decode cX7_init 914 = .ok (.bipush 32, 2) := by decide +kernel
theorem dX7_init_916 : decode cX7_init 916 = .ok (.iastore, 1) := by decide +kernel
theorem dX7_init_917 : decode cX7_init 917 = .ok (.dup, 1) := by decide +kernel
theorem dX7_init_918 : decode cX7_init 918 = .ok (.iconst 4, 1) := by decide +kernel
theorem dX7_init_919 : decode cX7_init 919 = .ok (.sipush (-210), 3) := by decide +kernel
theorem dX7_init_922 : decode cX7_init 922 = .ok (.iastore, 1) := by decide +kernel
theorem dX7_init_923 : decode cX7_init 923 = .ok (.dup, 1) := by decide +kernel
theorem dX7_init_924 : decode cX7_init 924 = .ok (.iconst 5, 1) := by decide +kernel
theorem dX7_init_925 : decode cX7_init 925 = .ok (.sipush 951, 3) := by decide +kernel
theorem dX7_init_928 : decode cX7_init 928 = .ok (.iastore, 1) := by decide +kernel
theorem dX7_init_929 : decode cX7_init 929 = .ok (.dup, 1) := by decide +kernel
theorem dX7_init_930 : decode cX7_init 930 = .ok (.bipush 6, 2) := by decide +kernel
theorem dX7_init_932 : decode cX7_init 932 = .ok (.sipush 3876, 3) := by decide +kernel
theorem dX7_init_935 : decode cX7_init 935 = .ok (.iastore, 1) := by decide +kernel
theorem dX7_init_936 : decode cX7_init 936 = .ok (.dup, 1) := by decide +kernel
theorem dX7_init_937 : decode cX7_init 937 = .ok (.bipush 7, 2) := by decide +kernel
theorem dX7_init_939 : decode cX7_init 939 = .ok (.sipush (-805), 3) := by decide +kernel
theorem dX7_init_942 : decode cX7_init 942 = .ok (.iastore, 1) := by decide +kernel
theorem dX7_init_943 : decode cX7_init 943 = .ok (.dup, 1) := by decide +kernel
theorem dX7_init_944 : decode cX7_init 944 = .ok (.bipush 8, 2) := by decide +kernel
theorem dX7_init_946 : decode cX7_init 946 = .ok (.sipush 362, 3) := by decide +kernel
theorem dX7_init_949 : decode cX7_init 949 = .ok (.iastore, 1) := by decide +kernel
theorem dX7_init_950 : decode cX7_init 950 = .ok (.dup, 1) := by decide +kernel
theorem dX7_init_951 : decode cX7_init 951 = .ok (.bipush 9, 2) := by decide +kernel
theorem dX7_init_953 : decode cX7_init 953 = .ok (.sipush (-156), 3) := by decide +kernel
theorem dX7_init_956 : decode cX7_init 956 = .ok (.iastore, 1) := by decide +kernel
theorem dX7_init_957 : decode cX7_init 957 = .ok (.dup, 1) := by decide +kernel
theorem dX7_init_958 : decode cX7_init 958 = .ok (.bipush 10, 2) := by decide +kernel
theorem dX7_init_960 : decode cX7_init 960 = .ok (.bipush 53, 2) := by decide +kernel
theorem dX7_init_962 : decode cX7_init 962 = .ok (.iastore, 1) := by decide +kernel
theorem dX7_init_963 : decode cX7_init 963 = .ok (.dup, 1) := by decide +kernel
theorem dX7_init_964 : decode cX7_init 964 = .ok (.bipush 11, 2) := by decide +kernel
theorem dX7_init_966 : decode cX7_init 966 = .ok (.bipush (-11), 2) := by decide +kernel
theorem dX7_init_968 : decode cX7_init 968 = .ok (.iastore, 1) := by decide +kernel
theorem dX7_init_969 : decode cX7_init 969 = .ok (.putfield 75, 3) := by decide +kernel
theorem dX7_init_972 : decode cX7_init 972 = .ok (.aload_n 0, 1) := by decide +kernel
theorem dX7_init_973 : decode cX7_init 973 = .ok (.bipush 29, 2) := by decide +kernel
theorem dX7_init_975 : decode cX7_init 975 = .ok (.newarray .int, 2) := by decide +kernel
theorem dX7_init_977 : decode cX7_init 977 = .ok (.dup, 1) := by decide +kernel
theorem dX7_init_978 : decode cX7_init 978 = .ok (.iconst 0, 1) := by decide +kernel
theorem dX7_init_979 : decode cX7_init 979 = .ok (.bipush 35, 2) := by decide +kernel
theorem dX7_init_981 : decode cX7_init 981 = .ok (.iastore, 1) := by decide +kernel
theorem dX7_init_982 : decode cX7_init 982 = .ok (.dup, 1) := by decide +kernel
theorem dX7_init_983 : decode cX7_init 983 = .ok (.iconst 1, 1) := by decide +kernel
theorem dX7_init_984 : decode cX7_init 984 = .ok (.bipush 72, 2) := by decide +kernel
theorem dX7_init_986 : decode cX7_init 986 = .ok (.iastore, 1) := by decide +kernel
theorem dX7_init_987 : decode cX7_init 987 = .ok (.dup, 1) := by decide +kernel
theorem dX7_init_988 : decode cX7_init 988 = .ok (.iconst 2, 1) := by decide +kernel
theorem dX7_init_989 : decode cX7_init 989 = .ok (.bipush 110, 2) := by decide +kernel
theorem dX7_init_991 : decode cX7_init 991 = .ok (.iastore, 1) := by decide +kernel
theorem dX7_init_992 : decode cX7_init 992 = .ok (.dup, 1) := by decide +kernel
theorem dX7_init_993 : decode cX7_init 993 = .ok (.iconst 3, 1) := by decide +kernel
theorem dX7_init_994 : decode cX7_init 994 = .ok (.sipush 150, 3) := by decide +kernel
theorem dX7_init_997 : decode cX7_init 997 = .ok (.iastore, 1) := by decide +kernel
theorem dX7_init_998 : decode cX7_init 998 = .ok (.dup, 1) := by decide +kernel
theorem dX7_init_999 : decode cX7_init 999 = .ok (.iconst 4, 1) := by decide +kernel
theorem dX7_init_1000 : decode cX7_init 1000 = .ok (.sipush 190, 3) := by decide +kernel
theorem dX7_init_1003 : decode cX7_init 1003 = .ok (.iastore, 1) := by decide +kernel
theorem dX7_init_1004 : decode cX7_init 1004 = .ok (.dup, 1) := by decide +kernel
theorem dX7_init_1005 : decode cX7_init 1005 = .ok (.iconst 5, 1) := by decide +kernel
theorem dX7_init_1006 : decode cX7_init 1006 = .ok (.sipush 233, 3) := by decide +kernel
theorem dX7_init_1009 : decode cX7_init 1009 = .ok (.iastore, 1) := by decide +kernel
theorem dX7_init_1010 : decode cX7_init 1010 = .ok (.dup, 1) := by decide +kernel
theorem dX7_init_1011 : decode cX7_init 1011 = .ok (.bipush 6, 2) := by decide +kernel
theorem dX7_init_1013 : decode cX7_init 1013 = .ok (.sipush 276, 3) := by decide +kernel
theorem dX7_init_1016 : decode cX7_init 1016 = .ok (.iastore, 1) := by decide +kernel
theorem dX7_init_1017 : decode cX7_init 1017 = .ok (.dup, 1) := by decide +kernel
theorem dX7_init_1018 : decode cX7_init 1018 = .ok (.bipush 7, 2) := by decide +kernel
theorem dX7_init_1020 : decode cX7_init 1020 = .ok (.sipush 323, 3) := by decide +kernel
theorem dX7_init_1023 : decode cX7_init 1023 = .ok (.iastore, 1) := by decide +kernel
theorem dX7_init_1024 : decode cX7_init 1024 = .ok (.dup, 1) := by decide +kernel
theorem dX7_init_1025 : decode cX7_init 1025 = .ok (.bipush 8, 2) := by decide +kernel
theorem dX7_init_1027 : decode cX7_init 1027 = .ok (.sipush 370, 3) := by decide +kernel
theorem dX7_init_1030 : decode cX7_init 1030 = .ok (.iastore, 1) := by decide +kernel
theorem dX7_init_1031 : decode cX7_init 1031 = .ok (.dup, 1) := by decide +kernel
theorem dX7_init_1032 : decode cX7_init 1032 = .ok (.bipush 9, 2) := by decide +kernel
theorem dX7_init_1034 : decode cX7_init 1034 = .ok (.sipush 422, 3) := by decide +kernel
theorem dX7_init_1037 : decode cX7_init 1037 = .ok (.iastore, 1) := by decide +kernel
theorem dX7_init_1038 : decode cX7_init 1038 = .ok (.dup, 1) := by decide +kernel
theorem dX7_init_1039 : decode cX7_init 1039 = .ok (.bipush 10, 2) := by decide +kernel
theorem dX7_init_1041 : decode cX7_init 1041 = .ok (.sipush 473, 3) := by decide +kernel
theorem dX7_init_1044 : decode cX7_init 1044 = .ok (.iastore, 1) := by decide +kernel
theorem dX7_init_1045 : decode cX7_init 1045 = .ok (.dup, 1) := by decide +kernel
theorem dX7_init_1046 : decode cX7_init 1046 = .ok (.bipush 11, 2) := by decide +kernel
theorem dX7_init_1048 : decode cX7_init 1048 = .ok (.sipush 530, 3) := by decide +kernel
theorem dX7_init_1051 : decode cX7_init 1051 = .ok (.iastore, 1) := by decide +kernel
theorem dX7_init_1052 : decode cX7_init 1052 = .ok (.dup, 1) := by decide +kernel
theorem dX7_init_1053 : decode cX7_init 1053 = .ok (.bipush 12, 2) := by decide +kernel
theorem dX7_init_1055 : decode cX7_init 1055 = .ok (.sipush 587, 3) := by decide +kernel
theorem dX7_init_1058 : decode cX7_init 1058 = .ok (.iastore, 1) := by decide +kernel
theorem dX7_init_1059 : decode cX7_init 1059 = .ok (.dup, 1) := by decide +kernel
theorem dX7_init_1060 : decode cX7_init 1060 = .ok (.bipush 13, 2) := by decide +kernel
theorem dX7_init_1062 : decode cX7_init 1062 = .ok (.sipush 650, 3) := by decide +kernel
theorem dX7_init_1065 : decode cX7_init 1065 = .ok (.iastore, 1) := by decide +kernel
theorem dX7_init_1066 : decode cX7_init 1066 = .ok (.dup, 1) := by decide +kernel
theorem dX7_init_1067 : decode cX7_init 1067 = .ok (.bipush 14, 2) := by decide +kernel
theorem dX7_init_1069 : decode cX7_init 1069 = .ok (.sipush 714, 3) := by decide +kernel
theorem dX7_init_1072 : decode cX7_init 1072 = .ok (.iastore, 1) := by decide +kernel
theorem dX7_init_1073 : decode cX7_init 1073 = .ok (.dup, 1) := by decide +kernel
theorem dX7_init_1074 : decode cX7_init 1074 = .ok (.bipush 15, 2) := by decide +kernel
theorem dX7_init_1076 : decode cX7_init 1076 = .ok (.sipush 786, 3) := by decide +kernel
theorem dX7_init_1079 : decode cX7_init 1079 = .ok (.iastore, 1) := by decide +kernel
theorem dX7_init_1080 : decode cX7_init 1080 = .ok (.dup, 1) := by decide +kernel
theorem dX7_init_1081 : decode cX7_init 1081 = .ok (.bipush 16, 2) := by decide +kernel
theorem dX7_init_1083 : decode cX7_init 1083 = .ok (.sipush 858, 3) := by decide +kernel
theorem dX7_init_1086 : decode cX7_init 1086 = .ok (.iastore, 1) := by decide +kernel
theorem dX7_init_1087 : decode cX7_init 1087 = .ok (.dup, 1) := by decide +kernel
theorem dX7_init_1088 : decode cX7_init 1088 = .ok (.bipush 17, 2) := by decide +kernel
theorem dX7_init_1090 : decode cX7_init 1090 = .ok (.sipush 940, 3) := by decide +kernel
theorem dX7_init_1093 : decode cX7_init 1093 = .ok (.iastore, 1) := by decide +kernel
theorem dX7_init_1094 : decode cX7_init 1094 = .ok (.dup, 1) := by decide +kernel
theorem dX7_init_1095 : decode cX7_init 1095 = .ok (.bipush 18, 2) := by decide +kernel
theorem dX7_init_1097 : decode cX7_init 1097 = .ok (.sipush 1023, 3) := by decide +kernel
theorem dX7_init_1100 : decode cX7_init 1100 = .ok (.iastore, 1) := by decide +kernel
theorem dX7_init_1101 : decode cX7_init 1101 = .ok (.dup, 1) := by decide +kernel
theorem dX7_init_1102 : decode cX7_init 1102 = .ok (.bipush 19, 2) := by decide +kernel
theorem dX7_init_1104 : decode cX7_init 1104 = .ok (.sipush 1121, 3) := by decide +kernel
theorem dX7_init_1107 : decode cX7_init 1107 = .ok (.iastore, 1) := by decide +kernel
theorem dX7_init_1108 : decode cX7_init 1108 = .ok (.dup, 1) := by decide +kernel
theorem dX7_init_1109 : decode cX7_init 1109 = .ok (.bipush 20, 2) := by decide +kernel
theorem dX7_init_1111 : decode cX7_init 1111 = .ok (.sipush 1219, 3) := by decide +kernel
theorem dX7_init_1114 : decode cX7_init 1114 = .ok (.iastore, 1) := by decide +kernel
theorem dX7_init_1115 : decode cX7_init 1115 = .ok (.dup, 1) := by decide +kernel
theorem dX7_init_1116 : decode cX7_init 1116 = .ok (.bipush 21, 2) := by decide +kernel
theorem dX7_init_1118 : decode cX7_init 1118 = .ok (.sipush 1339, 3) := by decide +kernel
theorem dX7_init_1121 : decode cX7_init 1121 = .ok (.iastore, 1) := by decide +kernel
theorem dX7_init_1122 : decode cX7_init 1122 = .ok (.dup, 1) := by decide +kernel
theorem dX7_init_1123 : decode cX7_init 1123 = .ok (.bipush 22, 2) := by decide +kernel
theorem dX7_init_1125 : decode cX7_init 1125 = .ok (.sipush 1458, 3) := by decide +kernel
theorem dX7_init_1128 : decode cX7_init 1128 = .ok (.iastore, 1) := by decide +kernel
theorem dX7_init_1129 : decode cX7_init 1129 = .ok (.dup, 1) := by decide +kernel
theorem dX7_init_1130 : decode cX7_init 1130 = .ok (.bipush 23, 2) := by decide +kernel
theorem dX7_init_1132 : decode cX7_init 1132 = .ok (.sipush 1612, 3) := by decide +kernel
theorem dX7_init_1135 : decode cX7_init 1135 = .ok (.iastore, 1) := by decide +kernel
theorem dX7_init_1136 : decode cX7_init 1136 = .ok (.dup, 1) := by decide +kernel
theorem dX7_init_1137 : decode cX7_init 1137 = .ok (.bipush 24, 2) := by decide +kernel
theorem dX7_init_1139 : decode cX7_init 1139 = .ok (.sipush 1765, 3) := by decide +kernel
theorem dX7_init_1142 : decode cX7_init 1142 = .ok (.iastore, 1) := by decide +kernel
theorem dX7_init_1143 : decode cX7_init 1143 = .ok (.dup, 1) := by decide +kernel
theorem dX7_init_1144 : decode cX7_init 1144 = .ok (.bipush 25, 2) := by decide +kernel
theorem dX7_init_1146 : decode cX7_init 1146 = .ok (.sipush 1980, 3) := by decide +kernel
theorem dX7_init_1149 : decode cX7_init 1149 = .ok (.iastore, 1) := by decide +kernel
theorem dX7_init_1150 : decode cX7_init 1150 = .ok (.dup, 1) := by decide +kernel
theorem dX7_init_1151 : decode cX7_init 1151 = .ok (.bipush 26, 2) := by decide +kernel
theorem dX7_init_1153 : decode cX7_init 1153 = .ok (.sipush 2195, 3) := by decide +kernel
theorem dX7_init_1156 : decode cX7_init 1156 = .ok (.iastore, 1) := by decide +kernel
theorem dX7_init_1157 : decode cX7_init 1157 = .ok (.dup, 1) := by decide +kernel
theorem dX7_init_1158 : decode cX7_init 1158 = .ok (.bipush 27, 2) := by decide +kernel
theorem dX7_init_1160 : decode cX7_init 1160 = .ok (.sipush 2557, 3) := by decide +kernel
theorem dX7_init_1163 : decode cX7_init 1163 = .ok (.iastore, 1) := by decide +kernel
theorem dX7_init_1164 : decode cX7_init 1164 = .ok (.dup, 1) := by decide +kernel
theorem dX7_init_1165 : decode cX7_init 1165 = .ok (.bipush 28, 2) := by decide +kernel
theorem dX7_init_1167 : decode cX7_init 1167 = .ok (.sipush 2919, 3) := by decide +kernel
theorem dX7_init_1170 : decode cX7_init 1170 = .ok (.iastore, 1) := by decide +kernel
theorem dX7_init_1171 : decode cX7_init 1171 = .ok (.putfield 78, 3) := by decide +kernel
theorem dX7_init_1174 : decode cX7_init 1174 = .ok (.aload_n 0, 1) := by decide +kernel
theorem dX7_init_1175 : decode cX7_init 1175 = .ok (.bipush 32, 2) := by decide +kernel
theorem dX7_init_1177 : decode cX7_init 1177 = .ok (.newarray .int, 2) := by decide +kernel
theorem dX7_init_1179 : decode cX7_init 1179 = .ok (.dup, 1) := by decide +kernel
theorem dX7_init_1180 : decode cX7_init 1180 = .ok (.iconst 0, 1) := by decide +kernel
theorem dX7_init_1181 : decode cX7_init 1181 = .ok (.sipush 2048, 3) := by decide +kernel
theorem dX7_init_1184 : decode cX7_init 1184 = .ok (.iastore, 1) := by decide +kernel
theorem dX7_init_1185 : decode cX7_init 1185 = .ok (.dup, 1) := by decide +kernel
theorem dX7_init_1186 : decode cX7_init 1186 = .ok (.iconst 1, 1) := by decide +kernel
theorem dX7_init_1187 : decode cX7_init 1187 = .ok (.sipush 2093, 3) := by decide +kernel
theorem dX7_init_1190 : decode cX7_init 1190 = .ok (.iastore, 1) := by decide +kernel
theorem dX7_init_1191 : decode cX7_init 1191 = .ok (.dup, 1) := by decide +kernel
theorem dX7_init_1192 : decode cX7_init 1192 = .ok (.iconst 2, 1) := by decide +kernel
theorem dX7_init_1193 : decode cX7_init 1193 = .ok (.sipush 2139, 3) := by decide +kernel
theorem dX7_init_1196 : decode cX7_init 1196 = .ok (.iastore, 1) := by decide +kernel
theorem dX7_init_1197 : decode cX7_init 1197 = .ok (.dup, 1) := by decide +kernel
theorem dX7_init_1198 : decode cX7_init 1198 = .ok (.iconst 3, 1) := by decide +kernel
theorem dX7_init_1199 : decode cX7_init 1199 = .ok (.sipush 2186, 3) := by decide +kernel
theorem dX7_init_1202 : decode cX7_init 1202 = .ok (.iastore, 1) := by decide +kernel
theorem dX7_init_1203 : decode cX7_init 1203 = .ok (.dup, 1) := by decide +kernel
theorem dX7_init_1204 : decode cX7_init 1204 = .ok (.iconst 4, 1) := by decide +kernel
theorem dX7_init_1205 : decode cX7_init 1205 = .ok (.sipush 2233, 3) := by decide +kernel
theorem dX7_init_1208 : decode cX7_init 1208 = .ok (.iastore, 1) := by decide +kernel
theorem dX7_init_1209 : decode cX7_init 1209 = .ok (.dup, 1) := by decide +kernel
theorem dX7_init_1210 : decode cX7_init 1210 = .ok (.iconst 5, 1) := by decide +kernel
theorem dX7_init_1211 : decode cX7_init 1211 = .ok (.sipush 2282, 3) := by decide +kernel
theorem dX7_init_1214 : decode cX7_init 1214 = .ok (.iastore, 1) := by decide +kernel
theorem dX7_init_1215 : decode cX7_init 1215 = .ok (.dup, 1) := by decide +kernel
theorem dX7_init_1216 : decode cX7_init 1216 = .ok (.bipush 6, 2) := by decide +kernel
theorem dX7_init_1218 : decode cX7_init 1218 = .ok (.sipush 2332, 3) := by decide +kernel
theorem dX7_init_1221 : decode cX7_init 1221 = .ok (.iastore, 1) := by decide +kernel
theorem dX7_init_1222 : decode cX7_init 1222 = .ok (.dup, 1) := by decide +kernel
theorem dX7_init_1223 : decode cX7_init 1223 = .ok (.bipush 7, 2) := by decide +kernel
theorem dX7_init_1225 : decode cX7_init 1225 = .ok (.sipush 2383, 3) := by decide +kernel
theorem dX7_init_1228 : decode cX7_init 1228 = .ok (.iastore, 1) := by decide +kernel
theorem dX7_init_1229 : decode cX7_init 1229 = .ok (.dup, 1) := by decide +kernel
theorem dX7_init_1230 : decode cX7_init 1230 = .ok (.bipush 8, 2) := by decide +kernel
theorem dX7_init_1232 : decode cX7_init 1232 = .ok (.sipush 2435, 3) := by decide +kernel
theorem dX7_init_1235 : decode cX7_init 1235 = .ok (.iastore, 1) := by decide +kernel
theorem dX7_init_1236 : decode cX7_init 1236 = .ok (.dup, 1) := by decide +kernel
theorem dX7_init_1237 : decode cX7_init 1237 = .ok (.bipush 9, 2) := by decide +kernel
theorem dX7_init_1239 : decode cX7_init 1239 = .ok (.sipush 2489, 3) := by decide +kernel
theorem dX7_init_1242 : decode cX7_init 1242 = .ok (.iastore, 1) := by decide +kernel
theorem dX7_init_1243 : decode cX7_init 1243 = .ok (.dup, 1) := by decide +kernel
theorem dX7_init_1244 : decode cX7_init 1244 = .ok (.bipush 10, 2) := by decide +kernel
theorem dX7_init_1246 : decode cX7_init 1246 = .ok (.sipush 2543, 3) := by decide +kernel
theorem dX7_init_1249 : decode cX7_init 1249 = .ok (.iastore, 1) := by decide +kernel
theorem dX7_init_1250 : decode cX7_init 1250 = .ok (.dup, 1) := by decide +kernel
theorem dX7_init_1251 : decode cX7_init 1251 = .ok (.bipush 11, 2) := by decide +kernel
theorem dX7_init_1253 : decode cX7_init 1253 = .ok (.sipush 2599, 3) := by decide +kernel
theorem dX7_init_1256 : decode cX7_init 1256 = .ok (.iastore, 1) := by decide +kernel
theorem dX7_init_1257 : decode cX7_init 1257 = .ok (.dup, 1) := by decide +kernel
theorem dX7_init_1258 : decode cX7_init 1258 = .ok (.bipush 12, 2) := by decide +kernel
theorem dX7_init_1260 : decode cX7_init 1260 = .ok (.sipush 2656, 3) := by decide +kernel
theorem dX7_init_1263 : decode cX7_init 1263 = .ok (.iastore, 1) := by decide +kernel
theorem dX7_init_1264 : decode cX7_init 1264 = .ok (.dup, 1) := by decide +kernel
theorem dX7_init_1265 : decode cX7_init 1265 = .ok (.bipush 13, 2) := by decide +kernel
theorem dX7_init_1267 : decode cX7_init 1267 = .ok (.sipush 2714, 3) := by decide +kernel
theorem dX7_init_1270 : decode cX7_init 1270 = .ok (.iastore, 1) := by decide +kernel
theorem dX7_init_1271 : decode cX7_init 1271 = .ok (.dup, 1) := by decide +kernel
theorem dX7_init_1272 : decode cX7_init 1272 = .ok (.bipush 14, 2) := by decide +kernel
theorem dX7_init_1274 : decode cX7_init 1274 = .ok (.sipush 2774, 3) := by decide +kernel
theorem dX7_init_1277 : decode cX7_init 1277 = .ok (.iastore, 1) := by decide +kernel
theorem dX7_init_1278 : decode cX7_init 1278 = .ok (.dup, 1) := by decide +kernel
theorem dX7_init_1279 : decode cX7_init 1279 = .ok (.bipush 15, 2) := by decide +kernel
theorem dX7_init_1281 : decode cX7_init 1281 = .ok (.sipush 2834, 3) := by decide +kernel
theorem dX7_init_1284 : decode cX7_init 1284 = .ok (.iastore, 1) := by decide +kernel
theorem dX7_init_1285 : decode cX7_init 1285 = .ok (.dup, 1) := by decide +kernel
theorem dX7_init_1286 : decode cX7_init 1286 = .ok (.bipush 16, 2) := by decide +kernel
theorem dX7_init_1288 : decode cX7_init 1288 = .ok (.sipush 2896, 3) := by decide +kernel
theorem dX7_init_1291 : decode cX7_init 1291 = .ok (.iastore, 1) := by decide +kernel
theorem dX7_init_1292 : decode cX7_init 1292 = .ok (.dup, 1) := by decide +kernel
theorem dX7_init_1293 : decode cX7_init 1293 = .ok (.bipush 17, 2) := by decide +kernel
theorem dX7_init_1295 : decode cX7_init 1295 = .ok (.sipush 2960, 3) := by decide +kernel
theorem dX7_init_1298 : decode cX7_init 1298 = .ok (.iastore, 1) := by decide +kernel
theorem dX7_init_1299 : decode cX7_init 1299 = .ok (.dup, 1) := by decide +kernel
theorem dX7_init_1300 : decode cX7_init 1300 = .ok (.bipush 18, 2) := by decide +kernel
theorem dX7_init_1302 : decode cX7_init 1302 = .ok (.sipush 3025, 3) := by decide +kernel
theorem dX7_init_1305 : decode cX7_init 1305 = .ok (.iastore, 1) := by decide +kernel
theorem dX7_init_1306 : decode cX7_init 1306 = .ok (.dup, 1) := by decide +kernel
theorem dX7_init_1307 : decode cX7_init 1307 = .ok (.bipush 19, 2) := by decide +kernel
theorem dX7_init_1309 : decode cX7_init 1309 = .ok (.sipush 3091, 3) := by decide +kernel
theorem dX7_init_1312 : decode cX7_init 1312 = .ok (.iastore, 1) := by decide +kernel
theorem dX7_init_1313 : decode cX7_init 1313 = .ok (.dup, 1) := by decide +kernel
theorem dX7_init_1314 : decode cX7_init 1314 = .ok (.bipush 20, 2) := by decide +kernel
theorem dX7_init_1316 : decode cX7_init 1316 = .ok (.sipush 3158, 3) := by decide +kernel
theorem dX7_init_1319 : decode cX7_init 1319 = .ok (.iastore, 1) := by decide +kernel
theorem dX7_init_1320 : decode cX7_init 1320 = .ok (.dup, 1) := by decide +kernel
theorem dX7_init_1321 : decode cX7_init 1321 = .ok (.bipush 21, 2) := by decide +kernel
theorem dX7_init_1323 : decode cX7_init 1323 = .ok (.sipush 3228, 3) := by decide +kernel
theorem dX7_init_1326 : decode cX7_init 1326 = .ok (.iastore, 1) := by decide +kernel
theorem dX7_init_1327 : decode cX7_init 1327 = .ok (.dup, 1) := by decide +kernel
theorem dX7_init_1328 : decode cX7_init 1328 = .ok (.bipush 22, 2) := by decide +kernel
theorem dX7_init_1330 : decode cX7_init 1330 = .ok (.sipush 3298, 3) := by decide +kernel
theorem dX7_init_1333 : decode cX7_init 1333 = .ok (.iastore, 1) := by decide +kernel
theorem dX7_init_1334 : decode cX7_init 1334 = .ok (.dup, 1) := by decide +kernel
theorem dX7_init_1335 : decode cX7_init 1335 = .ok (.bipush 23, 2) := by decide +kernel
theorem dX7_init_1337 : decode cX7_init 1337 = .ok (.sipush 3371, 3) := by decide +kernel
theorem dX7_init_1340 : decode cX7_init 1340 = .ok (.iastore, 1) := by decide +kernel
theorem dX7_init_1341 : decode cX7_init 1341 = .ok (.dup, 1) := by decide +kernel
theorem dX7_init_1342 : decode cX7_init 1342 = .ok (.bipush 24, 2) := by decide +kernel
theorem dX7_init_1344 : decode cX7_init 1344 = .ok (.sipush 3444, 3) := by decide +kernel
theorem dX7_init_1347 : decode cX7_init 1347 = .ok (.iastore, 1) := by decide +kernel
theorem dX7_init_1348 : decode cX7_init 1348 = .ok (.dup, 1) := by decide +kernel
theorem dX7_init_1349 : decode cX7_init 1349 = .ok (.bipush 25, 2) := by decide +kernel
theorem dX7_init_1351 : decode cX7_init 1351 = .ok (.sipush 3520, 3) := by decide +kernel
theorem dX7_init_1354 : decode cX7_init 1354 = .ok (.iastore, 1) := by decide +kernel
theorem dX7_init_1355 : decode cX7_init 1355 = .ok (.dup, 1) := by decide +kernel
theorem dX7_init_1356 : decode cX7_init 1356 = .ok (.bipush 26, 2) := by decide +kernel
theorem dX7_init_1358 : decode cX7_init 1358 = .ok (.sipush 3597, 3) := by decide +kernel
theorem dX7_init_1361 : decode cX7_init 1361 = .ok (.iastore, 1) := by decide +kernel
theorem dX7_init_1362 : decode cX7_init 1362 = .ok (.dup, 1) := by decide +kernel
theorem dX7_init_1363 : decode cX7_init 1363 = .ok (.bipush 27, 2) := by decide +kernel
theorem dX7_init_1365 : decode cX7_init 1365 = .ok (.sipush 3676, 3) := by decide +kernel
theorem dX7_init_1368 : decode cX7_init 1368 = .ok (.iastore, 1) := by decide +kernel
theorem dX7_init_1369 : decode cX7_init 1369 = .ok (.dup, 1) := by decide +kernel
theorem dX7_init_1370 : decode cX7_init 1370 = .ok (.bipush 28, 2) := by decide +kernel
theorem dX7_init_1372 : decode cX7_init 1372 = .ok (.sipush 3756, 3) := by decide +kernel
theorem dX7_init_1375 : decode cX7_init 1375 = .ok (.iastore, 1) := by decide +kernel
theorem dX7_init_1376 : decode cX7_init 1376 = .ok (.dup, 1) := by decide +kernel
theorem dX7_init_1377 : decode cX7_init 1377 = .ok (.bipush 29, 2) := by decide +kernel
theorem dX7_init_1379 : decode cX7_init 1379 = .ok (.sipush 3838, 3) := by decide +kernel
theorem dX7_init_1382 : decode cX7_init 1382 = .ok (.iastore, 1) := by decide +kernel
theorem dX7_init_1383 : decode cX7_init 1383 = .ok (.dup, 1) := by decide +kernel
theorem dX7_init_1384 : decode cX7_init 1384 = .ok (.bipush 30, 2) := by decide +kernel
theorem dX7_init_1386 : decode cX7_init 1386 = .ok (.sipush 3922, 3) := by decide +kernel
theorem dX7_init_1389 : decode cX7_init 1389 = .ok (.iastore, 1) := by decide +kernel
theorem dX7_init_1390 : decode cX7_init 1390 = .ok (.dup, 1) := by decide +kernel
theorem dX7_init_1391 : decode cX7_init 1391 = .ok (.bipush 31, 2) := by decide +kernel
theorem dX7_init_1393 : decode cX7_init 1393 = .ok (.sipush 4008, 3) := by decide +kernel
theorem dX7_init_1396 : decode cX7_init 1396 = .ok (.iastore, 1) := by decide +kernel
theorem dX7_init_1397 : decode cX7_init 1397 = .ok (.putfield 81, 3) := by decide +kernel
theorem dX7_init_1400 : decode cX7_init 1400 = .ok (.aload_n 0, 1) := by decide +kernel
theorem dX7_init_1401 : decode cX7_init 1401 = .ok (.bipush 16, 2) := by decide +kernel
theorem dX7_init_1403 : decode cX7_init 1403 = .ok (.newarray .int, 2) := by decide +kernel
theorem dX7_init_1405 : decode cX7_init 1405 = .ok (.dup, 1) := by decide +kernel
theorem dX7_init_1406 : decode cX7_init 1406 = .ok (.iconst 0, 1) := by decide +kernel
theorem dX7_init_1407 : decode cX7_init 1407 = .ok (.iconst 0, 1) := by decide +kernel
theorem dX7_init_1408 : decode cX7_init 1408 = .ok (.iastore, 1) := by decide +kernel
theorem dX7_init_1409 : decode cX7_init 1409 = .ok (.dup, 1) := by decide +kernel
theorem dX7_init_1410 : decode cX7_init 1410 = .ok (.iconst 1, 1) := by decide +kernel
theorem dX7_init_1411 : decode cX7_init 1411 = .ok (.sipush (-20456), 3) := by decide +kernel
theorem dX7_init_1414 : decode cX7_init 1414 = .ok (.iastore, 1) := by decide +kernel
theorem dX7_init_1415 : decode cX7_init 1415 = .ok (.dup, 1) := by decide +kernel
theorem dX7_init_1416 : decode cX7_init 1416 = .ok (.iconst 2, 1) := by decide +kernel
theorem dX7_init_1417 : decode cX7_init 1417 = .ok (.sipush (-12896), 3) := by decide +kernel
theorem dX7_init_1420 : decode cX7_init 1420 = .ok (.iastore, 1) := by decide +kernel
theorem dX7_init_1421 : decode cX7_init 1421 = .ok (.dup, 1) := by decide +kernel
theorem dX7_init_1422 : decode cX7_init 1422 = .ok (.iconst 3, 1) := by decide +kernel
theorem dX7_init_1423 : decode cX7_init 1423 = .ok (.sipush (-8968), 3) := by decide +kernel
theorem dX7_init_1426 : decode cX7_init 1426 = .ok (.iastore, 1) := by decide +kernel
theorem dX7_init_1427 : decode cX7_init 1427 = .ok (.dup, 1) := by decide +kernel
theorem dX7_init_1428 : decode cX7_init 1428 = .ok (.iconst 4, 1) := by decide +kernel
theorem dX7_init_1429 : decode cX7_init 1429 = .ok (.sipush (-6288), 3) := by decide +kernel
theorem dX7_init_1432 : decode cX7_init 1432 = .ok (.iastore, 1) := by decide +kernel
theorem dX7_init_1433 : decode cX7_init 1433 = .ok (.dup, 1) := by decide +kernel
theorem dX7_init_1434 : decode cX7_init 1434 = .ok (.iconst 5, 1) := by decide +kernel
theorem dX7_init_1435 : decode cX7_init 1435 = .ok (.sipush (-4240), 3) := by decide +kernel
theorem dX7_init_1438 : decode cX7_init 1438 = .ok (.iastore, 1) := by decide +kernel
theorem dX7_init_1439 : decode cX7_init 1439 = .ok (.dup, 1) := by decide +kernel
theorem dX7_init_1440 : decode cX7_init 1440 = .ok (.bipush 6, 2) := by decide +kernel
theorem dX7_init_1442 : decode cX7_init 1442 = .ok (.sipush (-2584), 3) := by decide +kernel
theorem dX7_init_1445 : decode cX7_init 1445 = .ok (.iastore, 1) := by decide +kernel
theorem dX7_init_1446 : decode cX7_init 1446 = .ok (.dup, 1) := by decide +kernel
theorem dX7_init_1447 : decode cX7_init 1447 = .ok (.bipush 7, 2) := by decide +kernel
theorem dX7_init_1449 : decode cX7_init 1449 = .ok (.sipush (-1200), 3) := by decide +kernel
theorem dX7_init_1452 : decode cX7_init 1452 = .ok (.iastore, 1) := by decide +kernel
theorem dX7_init_1453 : decode cX7_init 1453 = .ok (.dup, 1) := by decide +kernel
theorem dX7_init_1454 : decode cX7_init 1454 = .ok (.bipush 8, 2) := by decide +kernel
theorem dX7_init_1456 : decode cX7_init 1456 = .ok (.sipush 20456, 3) := by decide +kernel
theorem dX7_init_1459 : decode cX7_init 1459 = .ok (.iastore, 1) := by decide +kernel
theorem dX7_init_1460 : decode cX7_init 1460 = .ok (.dup, 1) := by decide +kernel
theorem dX7_init_1461 : decode cX7_init 1461 = .ok (.bipush 9, 2) := by decide +kernel
theorem dX7_init_1463 : decode cX7_init 1463 = .ok (.sipush 12896, 3) := by decide +kernel
theorem dX7_init_1466 : decode cX7_init 1466 = .ok (.iastore, 1) := by decide +kernel
theorem dX7_init_1467 : decode cX7_init 1467 = .ok (.dup, 1) := by decide +kernel
theorem dX7_init_1468 : decode cX7_init 1468 = .ok (.bipush 10, 2) := by decide +kernel
theorem dX7_init_1470 : decode cX7_init 1470 = .ok (.sipush 8968, 3) := by decide +kernel
theorem dX7_init_1473 : decode cX7_init 1473 = .ok (.iastore, 1) := by decide +kernel
theorem dX7_init_1474 : decode cX7_init 1474 = .ok (.dup, 1) := by decide +kernel
theorem dX7_init_1475 : decode cX7_init 1475 = .ok (.bipush 11, 2) := by decide +kernel
theorem dX7_init_1477 : decode cX7_init 1477 = .ok (.sipush 6288, 3) := by decide +kernel
theorem dX7_init_1480 : decode cX7_init 1480 = .ok (.iastore, 1) := by decide +kernel
theorem dX7_init_1481 : decode cX7_init 1481 = .ok (.dup, 1) := by decide +kernel
theorem dX7_init_1482 : decode cX7_init 1482 = .ok (.bipush 12, 2) := by decide +kernel
theorem dX7_init_1484 : decode cX7_init 1484 = .ok (.sipush 4240, 3) := by decide +kernel
theorem dX7_init_1487 : decode cX7_init 1487 = .ok (.iastore, 1) := by decide +kernel
theorem dX7_init_1488 : decode cX7_init 1488 = .ok (.dup, 1) := by decide +kernel
theorem dX7_init_1489 : decode cX7_init 1489 = .ok (.bipush 13, 2) := by decide +kernel
theorem dX7_init_1491 : decode cX7_init 1491 = .ok (.sipush 2584, 3) := by decide +kernel
theorem dX7_init_1494 : decode cX7_init 1494 = .ok (.iastore, 1) := by decide +kernel
theorem dX7_init_1495 : decode cX7_init 1495 = .ok (.dup, 1) := by decide +kernel
theorem dX7_init_1496 : decode cX7_init 1496 = .ok (.bipush 14, 2) := by decide +kernel
theorem dX7_init_1498 : decode cX7_init 1498 = .ok (.sipush 1200, 3) := by decide +kernel
theorem dX7_init_1501 : decode cX7_init 1501 = .ok (.iastore, 1) := by decide +kernel
theorem dX7_init_1502 : decode cX7_init 1502 = .ok (.dup, 1) := by decide +kernel
theorem dX7_init_1503 : decode cX7_init 1503 = .ok (.bipush 15, 2) := by decide +kernel
theorem dX7_init_1505 : decode cX7_init 1505 = .ok (.iconst 0, 1) := by decide +kernel
theorem dX7_init_1506 : decode cX7_init 1506 = .ok (.iastore, 1) := by decide +kernel
theorem dX7_init_1507 : decode cX7_init 1507 = .ok (.putfield 84, 3) := by decide +kernel
theorem dX7_init_1510 : decode cX7_init 1510 = .ok (.aload_n 0, 1) := by decide +kernel
theorem dX7_init_1511 : decode cX7_init 1511 = .ok (.iconst 4, 1) := by decide +kernel
theorem dX7_init_1512 : decode cX7_init 1512 = .ok (.newarray .int, 2) := by decide +kernel
theorem dX7_init_1514 : decode cX7_init 1514 = .ok (.dup, 1) := by decide +kernel
theorem dX7_init_1515 : decode cX7_init 1515 = .ok (.iconst 0, 1) := by decide +kernel
theorem dX7_init_1516 : decode cX7_init 1516 = .ok (.sipush (-7408), 3) := by decide +kernel
theorem dX7_init_1519 : decode cX7_init 1519 = .ok (.iastore, 1) := by decide +kernel
theorem dX7_init_1520 : decode cX7_init 1520 = .ok (.dup, 1) := by decide +kernel
theorem dX7_init_1521 : decode cX7_init 1521 = .ok (.iconst 1, 1) := by decide +kernel
theorem dX7_init_1522 : decode cX7_init 1522 = .ok (.sipush (-1616), 3) := by decide +kernel
theorem dX7_init_1525 : decode cX7_init 1525 = .ok (.iastore, 1) := by decide +kernel
theorem dX7_init_1526 : decode cX7_init 1526 = .ok (.dup, 1) := by decide +kernel
theorem dX7_init_1527 : decode cX7_init 1527 = .ok (.iconst 2, 1) := by decide +kernel
theorem dX7_init_1528 : decode cX7_init 1528 = .ok (.sipush 7408, 3) := by decide +kernel
theorem dX7_init_1531 : decode cX7_init 1531 = .ok (.iastore, 1) := by decide +kernel
theorem dX7_init_1532 : decode cX7_init 1532 = .ok (.dup, 1) := by decide +kernel
theorem dX7_init_1533 : decode cX7_init 1533 = .ok (.iconst 3, 1) := by decide +kernel
theorem dX7_init_1534 : decode cX7_init 1534 = .ok (.sipush 1616, 3) := by decide +kernel
theorem dX7_init_1537 : decode cX7_init 1537 = .ok (.iastore, 1) := by decide +kernel
theorem dX7_init_1538 : decode cX7_init 1538 = .ok (.putfield 87, 3) := by decide +kernel
theorem dX7_init_1541 : decode cX7_init 1541 = .ok (.aload_n 0, 1) := by decide +kernel
theorem dX7_init_1542 : decode cX7_init 1542 = .ok (.bipush 16, 2) := by decide +kernel
theorem dX7_init_1544 : decode cX7_init 1544 = .ok (.newarray .int, 2) := by decide +kernel
theorem dX7_init_1546 : decode cX7_init 1546 = .ok (.dup, 1) := by decide +kernel
theorem dX7_init_1547 : decode cX7_init 1547 = .ok (.iconst 0, 1) := by decide +kernel
theorem dX7_init_1548 : decode cX7_init 1548 = .ok (.bipush (-60), 2) := by decide +kernel
theorem dX7_init_1550 : decode cX7_init 1550 = .ok (.iastore, 1) := by decide +kernel
theorem dX7_init_1551 : decode cX7_init 1551 = .ok (.dup, 1) := by decide +kernel
theorem dX7_init_1552 : decode cX7_init 1552 = .ok (.iconst 1, 1) := by decide +kernel
theorem dX7_init_1553 : decode cX7_init 1553 = .ok (.sipush 3042, 3) := by decide +kernel
theorem dX7_init_1556 : decode cX7_init 1556 = .ok (.iastore, 1) := by decide +kernel
theorem dX7_init_1557 : decode cX7_init 1557 = .ok (.dup, 1) := by decide +kernel
theorem dX7_init_1558 : decode cX7_init 1558 = .ok (.iconst 2, 1) := by decide +kernel
theorem dX7_init_1559 : decode cX7_init 1559 = .ok (.sipush 1198, 3) := by decide +kernel
theorem dX7_init_1562 : decode cX7_init 1562 = .ok (.iastore, 1) := by decide +kernel
theorem dX7_init_1563 : decode cX7_init 1563 = .ok (.dup, 1) := by decide +kernel
theorem dX7_init_1564 : decode cX7_init 1564 = .ok (.iconst 3, 1) := by decide +kernel
theorem dX7_init_1565 : decode cX7_init 1565 = .ok (.sipush 538, 3) := by decide +kernel
theorem dX7_init_1568 : decode cX7_init 1568 = .ok (.iastore, 1) := by decide +kernel
theorem dX7_init_1569 : decode cX7_init 1569 = .ok (.dup, 1) := by decide +kernel
theorem dX7_init_1570 : decode cX7_init 1570 = .ok (.iconst 4, 1) := by decide +kernel
theorem dX7_init_1571 : decode cX7_init 1571 = .ok (.sipush 334, 3) := by decide +kernel
theorem dX7_init_1574 : decode cX7_init 1574 = .ok (.iastore, 1) := by decide +kernel
theorem dX7_init_1575 : decode cX7_init 1575 = .ok (.dup, 1) := by decide +kernel
theorem dX7_init_1576 : decode cX7_init 1576 = .ok (.iconst 5, 1) := by decide +kernel
theorem dX7_init_1577 : decode cX7_init 1577 = .ok (.sipush 172, 3) := by decide +kernel
theorem dX7_init_1580 : decode cX7_init 1580 = .ok (.iastore, 1) := by decide +kernel
theorem dX7_init_1581 : decode cX7_init 1581 = .ok (.dup, 1) := by decide +kernel
theorem dX7_init_1582 : decode cX7_init 1582 = .ok (.bipush 6, 2) := by decide +kernel
theorem dX7_init_1584 : decode cX7_init 1584 = .ok (.bipush 58, 2) := by decide +kernel
theorem dX7_init_1586 : decode cX7_init 1586 = .ok (.iastore, 1) := by decide +kernel
theorem dX7_init_1587 : decode cX7_init 1587 = .ok (.dup, 1) := by decide +kernel
theorem dX7_init_1588 : decode cX7_init 1588 = .ok (.bipush 7, 2) := by decide +kernel
theorem dX7_init_1590 : decode cX7_init 1590 = .ok (.bipush (-30), 2) := by decide +kernel
theorem dX7_init_1592 : decode cX7_init 1592 = .ok (.iastore, 1) := by decide +kernel
theorem dX7_init_1593 : decode cX7_init 1593 = .ok (.dup, 1) := by decide +kernel
theorem dX7_init_1594 : decode cX7_init 1594 = .ok (.bipush 8, 2) := by decide +kernel
theorem dX7_init_1596 : decode cX7_init 1596 = .ok (.sipush 3042, 3) := by decide +kernel
theorem dX7_init_1599 : decode cX7_init 1599 = .ok (.iastore, 1) := by decide +kernel
theorem dX7_init_1600 : decode cX7_init 1600 = .ok (.dup, 1) := by decide +kernel
theorem dX7_init_1601 : decode cX7_init 1601 = .ok (.bipush 9, 2) := by decide +kernel
theorem dX7_init_1603 : decode cX7_init 1603 = .ok (.sipush 1198, 3) := by decide +kernel
theorem dX7_init_1606 : decode cX7_init 1606 = .ok (.iastore, 1) := by decide +kernel
theorem dX7_init_1607 : decode cX7_init 1607 = .ok (.dup, 1) := by decide +kernel
theorem dX7_init_1608 : decode cX7_init 1608 = .ok (.bipush 10, 2) := by decide +kernel
theorem dX7_init_1610 : decode cX7_init 1610 = .ok (.sipush 538, 3) := by decide +kernel
theorem dX7_init_1613 : decode cX7_init 1613 = .ok (.iastore, 1) := by decide +kernel
theorem dX7_init_1614 : decode cX7_init 1614 = .ok (.dup, 1) := by decide +kernel
theorem dX7_init_1615 : decode cX7_init 1615 = .ok (.bipush 11, 2) := by decide +kernel
theorem dX7_init_1617 : decode cX7_init 1617 = .ok (.sipush 334, 3) := by decide +kernel
theorem dX7_init_1620 : decode cX7_init 1620 = .ok (.iastore, 1) := by decide +kernel
theorem dX7_init_1621 : decode cX7_init 1621 = .ok (.dup, 1) := by decide +kernel
theorem dX7_init_1622 : decode cX7_init 1622 = .ok (.bipush 12, 2) := by decide +kernel
theorem dX7_init_1624 : decode cX7_init 1624 = .ok (.sipush 172, 3) := by decide +kernel
theorem dX7_init_1627 : decode cX7_init 1627 = .ok (.iastore, 1) := by decide +kernel
theorem dX7_init_1628 : decode cX7_init 1628 = .ok (.dup, 1) := by decide +kernel
theorem dX7_init_1629 : decode cX7_init 1629 = .ok (.bipush 13, 2) := by decide +kernel
theorem dX7_init_1631 : decode cX7_init 1631 = .ok (.bipush 58, 2) := by decide +kernel
theorem dX7_init_1633 : decode cX7_init 1633 = .ok (.iastore, 1) := by decide +kernel
theorem dX7_init_1634 : decode cX7_init 1634 = .ok (.dup, 1) := by decide +kernel
theorem dX7_init_1635 : decode cX7_init 1635 = .ok (.bipush 14, 2) := by decide +kernel
theorem dX7_init_1637 : decode cX7_init 1637 = .ok (.bipush (-30), 2) := by decide +kernel
theorem dX7_init_1639 : decode cX7_init 1639 = .ok (.iastore, 1) := by decide +kernel
theorem dX7_init_1640 : decode cX7_init 1640 = .ok (.dup, 1) := by decide +kernel
theorem dX7_init_1641 : decode cX7_init 1641 = .ok (.bipush 15, 2) := by decide +kernel
theorem dX7_init_1643 : decode cX7_init 1643 = .ok (.bipush (-60), 2) := by decide +kernel
theorem dX7_init_1645 : decode cX7_init 1645 = .ok (.iastore, 1) := by decide +kernel
theorem dX7_init_1646 : decode cX7_init 1646 = .ok (.putfield 90, 3) := by decide +kernel
theorem dX7_init_1649 : decode cX7_init 1649 = .ok (.aload_n 0, 1) := by decide +kernel
theorem dX7_init_1650 : decode cX7_init 1650 = .ok (.iconst 4, 1) := by decide +kernel
theorem dX7_init_1651 : decode cX7_init 1651 = .ok (.newarray .int, 2) := by decide +kernel
theorem dX7_init_1653 : decode cX7_init 1653 = .ok (.dup, 1) := by decide +kernel
theorem dX7_init_1654 : decode cX7_init 1654 = .ok (.iconst 0, 1) := by decide +kernel
theorem dX7_init_1655 : decode cX7_init 1655 = .ok (.sipush 798, 3) := by decide +kernel
theorem dX7_init_1658 : decode cX7_init 1658 = .ok (.iastore, 1) := by decide +kernel
theorem dX7_init_1659 : decode cX7_init 1659 = .ok (.dup, 1) := by decide +kernel
theorem dX7_init_1660 : decode cX7_init 1660 = .ok (.iconst 1, 1) := by decide +kernel
theorem dX7_init_1661 : decode cX7_init 1661 = .ok (.sipush (-214), 3) := by decide +kernel
theorem dX7_init_1664 : decode cX7_init 1664 = .ok (.iastore, 1) := by decide +kernel
theorem dX7_init_1665 : decode cX7_init 1665 = .ok (.dup, 1) := by decide +kernel
theorem dX7_init_1666 : decode cX7_init 1666 = .ok (.iconst 2, 1) := by decide +kernel
theorem dX7_init_1667 : decode cX7_init 1667 = .ok (.sipush 798, 3) := by decide +kernel
theorem dX7_init_1670 : decode cX7_init 1670 = .ok (.iastore, 1) := by decide +kernel
theorem dX7_init_1671 : decode cX7_init 1671 = .ok (.dup, 1) := by decide +kernel
theorem dX7_init_1672 : decode cX7_init 1672 = .ok (.iconst 3, 1) := by decide +kernel
theorem dX7_init_1673 : decode cX7_init 1673 = .ok (.sipush (-214), 3) := by decide +kernel
theorem dX7_init_1676 : decode cX7_init 1676 = .ok (.iastore, 1) := by decide +kernel
theorem dX7_init_1677 : decode cX7_init 1677 = .ok (.putfield 93, 3) := by decide +kernel
theorem dX7_init_1680 : decode cX7_init 1680 = .ok (.aload_n 0, 1) := by decide +kernel
theorem dX7_init_1681 : decode cX7_init 1681 = .ok (.bipush 16, 2) := by decide +kernel
theorem dX7_init_1683 : decode cX7_init 1683 = .ok (.newarray .int, 2) := by decide +kernel
theorem dX7_init_1685 : decode cX7_init 1685 = .ok (.dup, 1) := by decide +kernel
theorem dX7_init_1686 : decode cX7_init 1686 = .ok (.iconst 0, 1) := by decide +kernel
theorem dX7_init_1687 : decode cX7_init 1687 = .ok (.sipush (-280), 3) := by decide +kernel
theorem dX7_init_1690 : decode cX7_init 1690 = .ok (.iastore, 1) := by decide +kernel
theorem dX7_init_1691 : decode cX7_init 1691 = .ok (.dup, 1) := by decide +kernel
theorem dX7_init_1692 : decode cX7_init 1692 = .ok (.iconst 1, 1) := by decide +kernel
theorem dX7_init_1693 : decode cX7_init 1693 = .ok (.sipush (-280), 3) := by decide +kernel
theorem dX7_init_1696 : decode cX7_init 1696 = .ok (.iastore, 1) := by decide +kernel
theorem dX7_init_1697 : decode cX7_init 1697 = .ok (.dup, 1) := by decide +kernel
theorem dX7_init_1698 : decode cX7_init 1698 = .ok (.iconst 2, 1) := by decide +kernel
theorem dX7_init_1699 : decode cX7_init 1699 = .ok (.sipush (-23352), 3) := by decide +kernel
theorem dX7_init_1702 : decode cX7_init 1702 = .ok (.iastore, 1) := by decide +kernel
theorem dX7_init_1703 : decode cX7_init 1703 = .ok (.dup, 1) := by decide +kernel
theorem dX7_init_1704 : decode cX7_init 1704 = .ok (.iconst 3, 1) := by decide +kernel
theorem dX7_init_1705 : decode cX7_init 1705 = .ok (.sipush (-17560), 3) := by decide +kernel
theorem dX7_init_1708 : decode cX7_init 1708 = .ok (.iastore, 1) := by decide +kernel
theorem dX7_init_1709 : decode cX7_init 1709 = .ok (.dup, 1) := by decide +kernel
theorem dX7_init_1710 : decode cX7_init 1710 = .ok (.iconst 4, 1) := by decide +kernel
theorem dX7_init_1711 : decode cX7_init 1711 = .ok (.sipush (-14120), 3) := by decide +kernel
theorem dX7_init_1714 : decode cX7_init 1714 = .ok (.iastore, 1) := by decide +kernel
theorem dX7_init_1715 : decode cX7_init 1715 = .ok (.dup, 1) := by decide +kernel
theorem dX7_init_1716 : decode cX7_init 1716 = .ok (.iconst 5, 1) := by decide +kernel
theorem dX7_init_1717 : decode cX7_init 1717 = .ok (.sipush (-11664), 3) := by decide +kernel
theorem dX7_init_1720 : decode cX7_init 1720 = .ok (.iastore, 1) := by decide +kernel
theorem dX7_init_1721 : decode cX7_init 1721 = .ok (.dup, 1) := by decide +kernel
theorem dX7_init_1722 : decode cX7_init 1722 = .ok (.bipush 6, 2) := by decide +kernel
theorem dX7_init_1724 : decode cX7_init 1724 = .ok (.sipush (-9752), 3) := by decide +kernel
theorem dX7_init_1727 : decode cX7_init 1727 = .ok (.iastore, 1) := by decide +kernel
theorem dX7_init_1728 : decode cX7_init 1728 = .ok (.dup, 1) := by decide +kernel
theorem dX7_init_1729 : decode cX7_init 1729 = .ok (.bipush 7, 2) := by decide +kernel
theorem dX7_init_1731 : decode cX7_init 1731 = .ok (.sipush (-8184), 3) := by decide +kernel
theorem dX7_init_1734 : decode cX7_init 1734 = .ok (.iastore, 1) := by decide +kernel
theorem dX7_init_1735 : decode cX7_init 1735 = .ok (.dup, 1) := by decide +kernel
theorem dX7_init_1736 : decode cX7_init 1736 = .ok (.bipush 8, 2) := by decide +kernel
theorem dX7_init_1738 : decode cX7_init 1738 = .ok (.sipush (-6864), 3) := by decide +kernel
theorem dX7_init_1741 : decode cX7_init 1741 = .ok (.iastore, 1) := by decide +kernel
theorem dX7_init_1742 : decode cX7_init 1742 = .ok (.dup, 1) := by decide +kernel
theorem dX7_init_1743 : decode cX7_init 1743 = .ok (.bipush 9, 2) := by decide +kernel
theorem dX7_init_1745 : decode cX7_init 1745 = .ok (.sipush (-5712), 3) := by decide +kernel
theorem dX7_init_1748 : decode cX7_init 1748 = .ok (.iastore, 1) := by decide +kernel
theorem dX7_init_1749 : decode cX7_init 1749 = .ok (.dup, 1) := by decide +kernel
theorem dX7_init_1750 : decode cX7_init 1750 = .ok (.bipush 10, 2) := by decide +kernel
theorem dX7_init_1752 : decode cX7_init 1752 = .ok (.sipush (-4696), 3) := by decide +kernel
theorem dX7_init_1755 : decode cX7_init 1755 = .ok (.iastore, 1) := by decide +kernel
theorem dX7_init_1756 : decode cX7_init 1756 = .ok (.dup, 1) := by decide +kernel
theorem dX7_init_1757 : decode cX7_init 1757 = .ok (.bipush 11, 2) := by decide +kernel
theorem dX7_init_1759 : decode cX7_init 1759 = .ok (.sipush (-3784), 3) := by decide +kernel
theorem dX7_init_1762 : decode cX7_init 1762 = .ok (.iastore, 1) := by decide +kernel
theorem dX7_init_1763 : decode cX7_init 1763 = .ok (.dup, 1) := by decide +kernel
theorem dX7_init_1764 : decode cX7_init 1764 = .ok (.bipush 12, 2) := by decide +kernel
theorem dX7_init_1766 : decode cX7_init 1766 = .ok (.sipush (-2960), 3) := by decide +kernel
theorem dX7_init_1769 : decode cX7_init 1769 = .ok (.iastore, 1) := by decide +kernel
theorem dX7_init_1770 : decode cX7_init 1770 = .ok (.dup, 1) := by decide +kernel
theorem dX7_init_1771 : decode cX7_init 1771 = .ok (.bipush 13, 2) := by decide +kernel
theorem dX7_init_1773 : decode cX7_init 1773 = .ok (.sipush (-2208), 3) := by decide +kernel
theorem dX7_init_1776 : decode cX7_init 1776 = .ok (.iastore, 1) := by decide +kernel
theorem dX7_init_1777 : decode cX7_init 1777 = .ok (.dup, 1) := by decide +kernel
theorem dX7_init_1778 : decode cX7_init 1778 = .ok (.bipush 14, 2) := by decide +kernel
theorem dX7_init_1780 : decode cX7_init 1780 = .ok (.sipush (-1520), 3) := by decide +kernel
theorem dX7_init_1783 : decode cX7_init 1783 = .ok (.iastore, 1) := by decide +kernel
theorem dX7_init_1784 : decode cX7_init 1784 = .ok (.dup, 1) := by decide +kernel
theorem dX7_init_1785 : decode cX7_init 1785 = .ok (.bipush 15, 2) := by decide +kernel
theorem dX7_init_1787 : decode cX7_init 1787 = .ok (.sipush (-880), 3) := by decide +kernel
theorem dX7_init_1790 : decode cX7_init 1790 = .ok (.iastore, 1) := by decide +kernel
theorem dX7_init_1791 : decode cX7_init 1791 = .ok (.putfield 96, 3) := by decide +kernel
theorem dX7_init_1794 : decode cX7_init 1794 = .ok (.aload_n 0, 1) := by decide +kernel
theorem dX7_init_1795 : decode cX7_init 1795 = .ok (.bipush 32, 2) := by decide +kernel
theorem dX7_init_1797 : decode cX7_init 1797 = .ok (.newarray .int, 2) := by decide +kernel
theorem dX7_init_1799 : decode cX7_init 1799 = .ok (.dup, 1) := by decide +kernel
theorem dX7_init_1800 : decode cX7_init 1800 = .ok (.iconst 0, 1) := by decide +kernel
theorem dX7_init_1801 : decode cX7_init 1801 = .ok (.sipush (-136), 3) := by decide +kernel
theorem dX7_init_1804 : decode cX7_init 1804 = .ok (.iastore, 1) := by decide +kernel
theorem dX7_init_1805 : decode cX7_init 1805 = .ok (.dup, 1) := by decide +kernel
theorem dX7_init_1806 : decode cX7_init 1806 = .ok (.iconst 1, 1) := by decide +kernel
theorem dX7_init_1807 : decode cX7_init 1807 = .ok (.sipush (-136), 3) := by decide +kernel
theorem dX7_init_1810 : decode cX7_init 1810 = .ok (.iastore, 1) := by decide +kernel
theorem dX7_init_1811 : decode cX7_init 1811 = .ok (.dup, 1) := by decide +kernel
theorem dX7_init_1812 : decode cX7_init 1812 = .ok (.iconst 2, 1) := by decide +kernel
theorem dX7_init_1813 : decode cX7_init 1813 = .ok (.sipush (-136), 3) := by decide +kernel
theorem dX7_init_1816 : decode cX7_init 1816 = .ok (.iastore, 1) := by decide +kernel
theorem dX7_init_1817 : decode cX7_init 1817 = .ok (.dup, 1) := by decide +kernel
theorem dX7_init_1818 : decode cX7_init 1818 = .ok (.iconst 3, 1) := by decide +kernel
theorem dX7_init_1819 : decode cX7_init 1819 = .ok (.sipush (-136), 3) := by decide +kernel
theorem dX7_init_1822 : decode cX7_init 1822 = .ok (.iastore, 1) := by decide +kernel
theorem dX7_init_1823 : decode cX7_init 1823 = .ok (.dup, 1) := by decide +kernel
theorem dX7_init_1824 : decode cX7_init 1824 = .ok (.iconst 4, 1) := by decide +kernel
theorem dX7_init_1825 : decode cX7_init 1825 = .ok (.sipush (-24808), 3) := by decide +kernel
theorem dX7_init_1828 : decode cX7_init 1828 = .ok (.iastore, 1) := by decide +kernel
theorem dX7_init_1829 : decode cX7_init 1829 = .ok (.dup, 1) := by decide +kernel
theorem dX7_init_1830 : decode cX7_init 1830 = .ok (.iconst 5, 1) := by decide +kernel
theorem dX7_init_1831 : decode cX7_init 1831 = .ok (.sipush (-21904), 3) := by decide +kernel
theorem dX7_init_1834 : decode cX7_init 1834 = .ok (.iastore, 1) := by decide +kernel
theorem dX7_init_1835 : decode cX7_init 1835 = .ok (.dup, 1) := by decide +kernel
theorem dX7_init_1836 : decode cX7_init 1836 = .ok (.bipush 6, 2) := by decide +kernel
theorem dX7_init_1838 : decode cX7_init 1838 = .ok (.sipush (-19008), 3) := by decide +kernel
theorem dX7_init_1841 : decode cX7_init 1841 = .ok (.iastore, 1) := by decide +kernel
theorem dX7_init_1842 : decode cX7_init 1842 = .ok (.dup, 1) := by decide +kernel
theorem dX7_init_1843 : decode cX7_init 1843 = .ok (.bipush 7, 2) := by decide +kernel
theorem dX7_init_1845 : decode cX7_init 1845 = .ok (.sipush (-16704), 3) := by decide +kernel
theorem dX7_init_1848 : decode cX7_init 1848 = .ok (.iastore, 1) := by decide +kernel
theorem dX7_init_1849 : decode cX7_init 1849 = .ok (.dup, 1) := by decide +kernel
theorem dX7_init_1850 : decode cX7_init 1850 = .ok (.bipush 8, 2) := by decide +kernel
theorem dX7_init_1852 : decode cX7_init 1852 = .ok (.sipush (-14984), 3) := by decide +kernel
theorem dX7_init_1855 : decode cX7_init 1855 = .ok (.iastore, 1) := by decide +kernel
theorem dX7_init_1856 : decode cX7_init 1856 = .ok (.dup, 1) := by decide +kernel
theorem dX7_init_1857 : decode cX7_init 1857 = .ok (.bipush 9, 2) := by decide +kernel
theorem dX7_init_1859 : decode cX7_init 1859 = .ok (.sipush (-13512), 3) := by decide +kernel
theorem dX7_init_1862 : decode cX7_init 1862 = .ok (.iastore, 1) := by decide +kernel
theorem dX7_init_1863 : decode cX7_init 1863 = .ok (.dup, 1) := by decide +kernel
theorem dX7_init_1864 : decode cX7_init 1864 = .ok (.bipush 10, 2) := by decide +kernel
theorem dX7_init_1866 : decode cX7_init 1866 = .ok (.sipush (-12280), 3) := by decide +kernel
theorem dX7_init_1869 : decode cX7_init 1869 = .ok (.iastore, 1) := by decide +kernel
theorem dX7_init_1870 : decode cX7_init 1870 = .ok (.dup, 1) := by decide +kernel
theorem dX7_init_1871 : decode cX7_init 1871 = .ok (.bipush 11, 2) := by decide +kernel
theorem dX7_init_1873 : decode cX7_init 1873 = .ok (.sipush (-11192), 3) := by decide +kernel
theorem dX7_init_1876 : decode cX7_init 1876 = .ok (.iastore, 1) := by decide +kernel
theorem dX7_init_1877 : decode cX7_init 1877 = .ok (.dup, 1) := by decide +kernel
theorem dX7_init_1878 : decode cX7_init 1878 = .ok (.bipush 12, 2) := by decide +kernel
theorem dX7_init_1880 : decode cX7_init 1880 = .ok (.sipush (-10232), 3) := by decide +kernel
theorem dX7_init_1883 : decode cX7_init 1883 = .ok (.iastore, 1) := by decide +kernel
theorem dX7_init_1884 : decode cX7_init 1884 = .ok (.dup, 1) := by decide +kernel
theorem dX7_init_1885 : decode cX7_init 1885 = .ok (.bipush 13, 2) := by decide +kernel
theorem dX7_init_1887 : decode cX7_init 1887 = .ok (.sipush (-9360), 3) := by decide +kernel
theorem dX7_init_1890 : decode cX7_init 1890 = .ok (.iastore, 1) := by decide +kernel
theorem dX7_init_1891 : decode cX7_init 1891 = .ok (.dup, 1) := by decide +kernel
theorem dX7_init_1892 : decode cX7_init 1892 = .ok (.bipush 14, 2) := by decide +kernel
theorem dX7_init_1894 : decode cX7_init 1894 = .ok (.sipush (-8576), 3) := by decide +kernel
theorem dX7_init_1897 : decode cX7_init 1897 = .ok (.iastore, 1) := by decide +kernel
theorem dX7_init_1898 : decode cX7_init 1898 = .ok (.dup, 1) := by decide +kernel
theorem dX7_init_1899 : decode cX7_init 1899 = .ok (.bipush 15, 2) := by decide +kernel
theorem dX7_init_1901 : decode cX7_init 1901 = .ok (.sipush (-7856), 3) := by decide +kernel
theorem dX7_init_1904 : decode cX7_init 1904 = .ok (.iastore, 1) := by decide +kernel
theorem dX7_init_1905 : decode cX7_init 1905 = .ok (.dup, 1) := by decide +kernel
theorem dX7_init_1906 : decode cX7_init 1906 = .ok (.bipush 16, 2) := by decide +kernel
theorem dX7_init_1908 : decode cX7_init 1908 = .ok (.sipush (-7192), 3) := by decide +kernel
theorem dX7_init_1911 : decode cX7_init 1911 = .ok (.iastore, 1) := by decide +kernel
theorem dX7_init_1912 : decode cX7_init 1912 = .ok (.dup, 1) := by decide +kernel
theorem dX7_init_1913 : decode cX7_init 1913 = .ok (.bipush 17, 2) := by decide +kernel
theorem dX7_init_1915 : decode cX7_init 1915 = .ok (.sipush (-6576), 3) := by decide +kernel
theorem dX7_init_1918 : decode cX7_init 1918 = .ok (.iastore, 1) := by decide +kernel
theorem dX7_init_1919 : decode cX7_init 1919 = .ok (.dup, 1) := by decide +kernel
theorem dX7_init_1920 : decode cX7_init 1920 = .ok (.bipush 18, 2) := by decide +kernel
theorem dX7_init_1922 : decode cX7_init 1922 = .ok (.sipush (-6000), 3) := by decide +kernel
theorem dX7_init_1925 : decode cX7_init 1925 = .ok (.iastore, 1) := by decide +kernel
theorem dX7_init_1926 : decode cX7_init 1926 = .ok (.dup, 1) := by decide +kernel
theorem dX7_init_1927 : decode cX7_init 1927 = .ok (.bipush 19, 2) := by decide +kernel
theorem dX7_init_1929 : decode cX7_init 1929 = .ok (.sipush (-5456), 3) := by decide +kernel
theorem dX7_init_1932 : decode cX7_init 1932 = .ok (.iastore, 1) := by decide +kernel
theorem dX7_init_1933 : decode cX7_init 1933 = .ok (.dup, 1) := by decide +kernel
theorem dX7_init_1934 : decode cX7_init 1934 = .ok (.bipush 20, 2) := by decide +kernel
theorem dX7_init_1936 : decode cX7_init 1936 = .ok (.sipush (-4944), 3) := by decide +kernel
theorem dX7_init_1939 : decode cX7_init 1939 = .ok (.iastore, 1) := by decide +kernel
theorem dX7_init_1940 : decode cX7_init 1940 = .ok (.dup, 1) := by decide +kernel
theorem dX7_init_1941 : decode cX7_init 1941 = .ok (.bipush 21, 2) := by decide +kernel
theorem dX7_init_1943 : decode cX7_init 1943 = .ok (.sipush (-4464), 3) := by decide +kernel
theorem dX7_init_1946 : decode cX7_init 1946 = .ok (.iastore, 1) := by decide +kernel
theorem dX7_init_1947 : decode cX7_init 1947 = .ok (.dup, 1) := by decide +kernel
theorem dX7_init_1948 : decode cX7_init 1948 = .ok (.bipush 22, 2) := by decide +kernel
theorem dX7_init_1950 : decode cX7_init 1950 = .ok (.sipush (-4008), 3) := by decide +kernel
theorem dX7_init_1953 : decode cX7_init 1953 = .ok (.iastore, 1) := by decide +kernel
theorem dX7_init_1954 : decode cX7_init 1954 = .ok (.dup, 1) := by decide +kernel
theorem dX7_init_1955 : decode cX7_init 1955 = .ok (.bipush 23, 2) := by decide +kernel
theorem dX7_init_1957 : decode cX7_init 1957 = .ok (.sipush (-3576), 3) := by decide +kernel
theorem dX7_init_1960 : decode cX7_init 1960 = .ok (.iastore, 1) := by decide +kernel
theorem dX7_init_1961 : decode cX7_init 1961 = .ok (.dup, 1) := by decide +kernel
theorem dX7_init_1962 : decode cX7_init 1962 = .ok (.bipush 24, 2) := by decide +kernel
theorem dX7_init_1964 : decode cX7_init 1964 = .ok (.sipush (-3168), 3) := by decide +kernel
theorem dX7_init_1967 : decode cX7_init 1967 = .ok (.iastore, 1) := by decide +kernel
theorem dX7_init_1968 : decode cX7_init 1968 = .ok (.dup, 1) := by decide +kernel
theorem dX7_init_1969 : decode cX7_init 1969 = .ok (.bipush 25, 2) := by decide +kernel
theorem dX7_init_1971 : decode cX7_init 1971 = .ok (.sipush (-2776), 3) := by decide +kernel
theorem dX7_init_1974 : decode cX7_init 1974 = .ok (.iastore, 1) := by decide +kernel
theorem dX7_init_1975 : decode cX7_init 1975 = .ok (.dup, 1) := by decide +kernel
theorem dX7_init_1976 : decode cX7_init 1976 = .ok (.bipush 26, 2) := by decide +kernel
theorem dX7_init_1978 : decode cX7_init 1978 = .ok (.sipush (-2400), 3) := by decide +kernel
theorem dX7_init_1981 : decode cX7_init 1981 = .ok (.iastore, 1) := by decide +kernel
theorem dX7_init_1982 : decode cX7_init 1982 = .ok (.dup, 1) := by decide +kernel
theorem dX7_init_1983 : decode cX7_init 1983 = .ok (.bipush 27, 2) := by decide +kernel
theorem dX7_init_1985 : decode cX7_init 1985 = .ok (.sipush (-2032), 3) := by decide +kernel
theorem dX7_init_1988 : decode cX7_init 1988 = .ok (.iastore, 1) := by decide +kernel
theorem dX7_init_1989 : decode cX7_init 1989 = .ok (.dup, 1) := by decide +kernel
theorem dX7_init_1990 : decode cX7_init 1990 = .ok (.bipush 28, 2) := by decide +kernel
theorem dX7_init_1992 : decode cX7_init 1992 = .ok (.sipush (-1688), 3) := by decide +kernel
theorem dX7_init_1995 : decode cX7_init 1995 = .ok (.iastore, 1) := by decide +kernel
theorem dX7_init_1996 : decode cX7_init 1996 = .ok (.dup, 1) := by decide +kernel
theorem dX7_init_1997 : decode cX7_init 1997 = .ok (.bipush 29, 2) := by decide +kernel
theorem dX7_init_1999 : decode cX7_init 1999 = .ok (.sipush (-1360), 3) := by decide +kernel
theorem dX7_init_2002 : decode cX7_init 2002 = .ok (.iastore, 1) := by decide +kernel
theorem dX7_init_2003 : decode cX7_init 2003 = .ok (.dup, 1) := by decide +kernel
theorem dX7_init_2004 : decode cX7_init 2004 = .ok (.bipush 30, 2) := by decide +kernel
theorem dX7_init_2006 : decode cX7_init 2006 = .ok (.sipush (-1040), 3) := by decide +kernel
theorem dX7_init_2009 : decode cX7_init 2009 = .ok (.iastore, 1) := by decide +kernel
theorem dX7_init_2010 : decode cX7_init 2010 = .ok (.dup, 1) := by decide +kernel
theorem dX7_init_2011 : decode cX7_init 2011 = .ok (.bipush 31, 2) := by decide +kernel
theorem dX7_init_2013 : decode cX7_init 2013 = .ok (.sipush (-728), 3) := by decide +kernel
theorem dX7_init_2016 : decode cX7_init 2016 = .ok (.iastore, 1) := by decide +kernel
theorem dX7_init_2017 : decode cX7_init 2017 = .ok (.putfield 99, 3) := by decide +kernel
theorem dX7_init_2020 : decode cX7_init 2020 = .ok (.aload_n 0, 1) := by decide +kernel
theorem dX7_init_2021 : decode cX7_init 2021 = .ok (.sipush 1000, 3) := by decide +kernel
theorem dX7_init_2024 : decode cX7_init 2024 = .ok (.newarray .int, 2) := by decide +kernel
theorem dX7_init_2026 : decode cX7_init 2026 = .ok (.putfield 102, 3) := by decide +kernel
theorem dX7_init_2029 : decode cX7_init 2029 = .ok (.aload_n 0, 1) := by decide +kernel
theorem dX7_init_2030 : decode cX7_init 2030 = .ok (.sipush 2000, 3) := by decide +kernel
theorem dX7_init_2033 : decode cX7_init 2033 = .ok (.newarray .int, 2) := by decide +kernel
theorem dX7_init_2035 : decode cX7_init 2035 = .ok (.putfield 105, 3) := by decide +kernel
theorem dX7_init_2038 : decode cX7_init 2038 = .ok (.aload_n 0, 1) := by decide +kernel
theorem dX7_init_2039 : decode cX7_init 2039 = .ok (.sipush 512, 3) := by decide +kernel
theorem dX7_init_2042 : decode cX7_init 2042 = .ok (.newarray .int, 2) := by decide +kernel
theorem dX7_init_2044 : decode cX7_init 2044 = .ok (.putfield 108, 3) := by decide +kernel
theorem dX7_init_2047 : decode cX7_init 2047 = .ok (.aload_n 0, 1) := by decide +kernel
theorem dX7_init_2048 : decode cX7_init 2048 = .ok (.sipush 512, 3) := by decide +kernel
theorem dX7_init_2051 : decode cX7_init 2051 = .ok (.newarray .int, 2) := by decide +kernel
theorem dX7_init_2053 : decode cX7_init 2053 = .ok (.putfield 111, 3) := by decide +kernel
theorem dX7_init_2056 : decode cX7_init 2056 = .ok (.return_, 1) := by decide +kernel
theorem dX7_isLine_0 : decode cX7_isLine 0 = .ok (.iload_n 1, 1) := by decide +kernel
theorem dX7_isLine_1 : decode cX7_isLine 1 = .ok (.ifCond .lt 12, 3) := by decide +kernel
theorem dX7_isLine_4 : decode cX7_isLine 4 = .ok (.iload_n 1, 1) := by decide +kernel
theorem dX7_isLine_5 : decode cX7_isLine 5 = .ok (.iconst 4, 1) := by decide +kernel
theorem dX7_isLine_6 : decode cX7_isLine 6 = .ok (.if_icmp .ge 7, 3) := by decide +kernel
theorem dX7_isLine_9 : decode cX7_isLine 9 = .ok (.iconst 1, 1) := by decide +kernel
theorem dX7_isLine_10 : decode cX7_isLine 10 = .ok (.goto 4, 3) := by decide +kernel
theorem dX7_isLine_13 : decode cX7_isLine 13 = .ok (.iconst 0, 1) := by decide +kernel
theorem dX7_isLine_14 : decode cX7_isLine 14 = .ok (.ireturn, 1) := by decide +kernel
theorem dX7_isOpen_0 : decode cX7_isOpen 0 = .ok (.aload_n 0, 1) := by decide +kernel
theorem dX7_isOpen_1 : decode cX7_isOpen 1 = .ok (.iload_n 1, 1) := by decide +kernel
theorem dX7_isOpen_2 : decode cX7_isOpen 2 = .ok (.invokevirtual 118, 3) := by decide +kernel
theorem dX7_isOpen_5 : decode cX7_isOpen 5 = .ok (.ifCond .eq 18, 3) := by decide +kernel
theorem dX7_isOpen_8 : decode cX7_isOpen 8 = .ok (.aload_n 0, 1) := by decide +kernel
theorem dX7_isOpen_9 : decode cX7_isOpen 9 = .ok (.getfield 10, 3) := by decide +kernel
theorem dX7_isOpen_12 : decode cX7_isOpen 12 = .ok (.iload_n 1, 1) := by decide +kernel
theorem dX7_isOpen_13 : decode cX7_isOpen 13 = .ok (.iaload, 1) := by decide +kernel
theorem dX7_isOpen_14 : decode cX7_isOpen 14 = .ok (.ldc 9, 2) := by decide +kernel
theorem dX7_isOpen_16 : decode cX7_isOpen 16 = .ok (.if_icmp .eq 7, 3) := by decide +kernel
theorem dX7_isOpen_19 : decode cX7_isOpen 19 = .ok (.iconst 1, 1) := by decide +kernel
theorem dX7_isOpen_20 : decode cX7_isOpen 20 = .ok (.goto 4, 3) := by decide +kernel
theorem dX7_isOpen_23 : decode cX7_isOpen 23 = .ok (.iconst 0, 1) := by decide +kernel
theorem dX7_isOpen_24 : decode cX7_isOpen 24 = .ok (.ireturn, 1) := by decide +kernel
theorem dX7_isPaired_0 : decode cX7_isPaired 0 = .ok (.aload_n 0, 1) := by decide +kernel
theorem dX7_isPaired_1 : decode cX7_isPaired 1 = .ok (.getfield 10, 3) := by decide +kernel
theorem dX7_isPaired_4 : decode cX7_isPaired 4 = .ok (.iload_n 1, 1) := by decide +kernel
theorem dX7_isPaired_5 : decode cX7_isPaired 5 = .ok (.iaload, 1) := by decide +kernel
theorem dX7_isPaired_6 : decode cX7_isPaired 6 = .ok (.bipush 6, 2) := by decide +kernel
theorem dX7_isPaired_8 : decode cX7_isPaired 8 = .ok (.if_icmp .lt 7, 3) := by decide +kernel
theorem dX7_isPaired_11 : decode cX7_isPaired 11 = .ok (.iconst 1, 1) := by decide +kernel
theorem dX7_isPaired_12 : decode cX7_isPaired 12 = .ok (.goto 4, 3) := by decide +kernel
theorem dX7_isPaired_15 : decode cX7_isPaired 15 = .ok (.iconst 0, 1) := by decide +kernel
theorem dX7_isPaired_16 : decode cX7_isPaired 16 = .ok (.ireturn, 1) := by decide +kernel
theorem dX7_limited_0 : decode cX7_limited 0 = .ok (.iload_n 1, 1) := by decide +kernel
theorem dX7_limited_1 : decode cX7_limited 1 = .ok (.sipush 32767, 3) := by decide +kernel
theorem dX7_limited_4 : decode cX7_limited 4 = .ok (.if_icmp .le 7, 3) := by decide +kernel
theorem dX7_limited_7 : decode cX7_limited 7 = .ok (.sipush 32767, 3) := by decide +kernel
theorem dX7_limited_10 : decode cX7_limited 10 = .ok (.ireturn, 1) := by decide +kernel
theorem dX7_limited_11 : decode cX7_limited 11 = .ok (.iload_n 1, 1) := by decide +kernel
theorem dX7_limited_12 : decode cX7_limited 12 = .ok (.sipush (-32768), 3) := by decide +kernel
theorem dX7_limited_15 : decode cX7_limited 15 = .ok (.if_icmp .ge 9, 3) := by decide +kernel
theorem dX7_limited_18 : decode cX7_limited 18 = .ok (.sipush (-32768), 3) := by decide +kernel
theorem dX7_limited_21 : decode cX7_limited 21 = .ok (.goto 4, 3) := by decide +kernel
theorem dX7_limited_24 : decode cX7_limited 24 = .ok (.iload_n 1, 1) := by decide +kernel
theorem dX7_limited_25 : decode cX7_limited 25 = .ok (.ireturn, 1) := by decide +kernel
theorem dX7_wrapped_0 : decode cX7_wrapped 0 = .ok (.iload_n 1, 1) := by decide +kernel
theorem dX7_wrapped_1 : decode cX7_wrapped 1 = .ok (.bipush 16, 2) := by decide +kernel
theorem dX7_wrapped_3 : decode cX7_wrapped 3 = .ok (.ishl, 1) := by decide +kernel
theorem dX7_wrapped_4 : decode cX7_wrapped 4 = .ok (.bipush 16, 2) := by decide +kernel
theorem dX7_wrapped_6 : decode cX7_wrapped 6 = .ok (.ishr, 1) := by decide +kernel
theorem dX7_wrapped_7 : decode cX7_wrapped 7 = .ok (.ireturn, 1) := by decide +kernel
theorem dX7_cut_0 : decode cX7_cut 0 = .ok (.iload_n 1, 1) := by decide +kernel
theorem dX7_cut_1 : decode cX7_cut 1 = .ok (.iload_n 3, 1) := by decide +kernel
theorem dX7_cut_2 : decode cX7_cut 2 = .ok (.if_icmp .le 5, 3) := by decide +kernel
theorem dX7_cut_5 : decode cX7_cut 5 = .ok (.iload_n 3, 1) := by decide +kernel
theorem dX7_cut_6 : decode cX7_cut 6 = .ok (.ireturn, 1) := by decide +kernel
theorem dX7_cut_7 : decode cX7_cut 7 = .ok (.iload_n 1, 1) := by decide +kernel
theorem dX7_cut_8 : decode cX7_cut 8 = .ok (.iload_n 2, 1) := by decide +kernel
theorem dX7_cut_9 : decode cX7_cut 9 = .ok (.if_icmp .ge 7, 3) := by decide +kernel
theorem dX7_cut_12 : decode cX7_cut 12 = .ok (.iload_n 2, 1) := by decide +kernel
theorem dX7_cut_13 : decode cX7_cut 13 = .ok (.goto 4, 3) := by decide +kernel
theorem dX7_cut_16 : decode cX7_cut 16 = .ok (.iload_n 1, 1) := by decide +kernel
theorem dX7_cut_17 : decode cX7_cut 17 = .ok (.ireturn, 1) := by decide +kernel
theorem dX7_amount_0 : decode cX7_amount 0 = .ok (.iload_n 1, 1) := by decide +kernel
theorem dX7_amount_1 : decode cX7_amount 1 = .ok (.ifCond .ge 8, 3) := by decide +kernel
theorem dX7_amount_4 : decode cX7_amount 4 = .ok (.iload_n 1, 1) := by decide +kernel
theorem dX7_amount_5 : decode cX7_amount 5 = .ok (.ineg, 1) := by decide +kernel
theorem dX7_amount_6 : decode cX7_amount 6 = .ok (.goto 4, 3) := by decide +kernel
theorem dX7_amount_9 : decode cX7_amount 9 = .ok (.iload_n 1, 1) := by decide +kernel
theorem dX7_amount_10 : decode cX7_amount 10 = .ok (.ireturn, 1) := by decide +kernel
theorem dX7_sign_0 : decode cX7_sign 0 = .ok (.iload_n 1, 1) := by decide +kernel
theorem dX7_sign_1 : decode cX7_sign 1 = .ok (.ifCond .ge 7, 3) := by decide +kernel
theorem dX7_sign_4 : decode cX7_sign 4 = .ok (.iconst 1, 1) := by decide +kernel
theorem dX7_sign_5 : decode cX7_sign 5 = .ok (.goto 4, 3) := by decide +kernel
theorem dX7_sign_8 : decode cX7_sign 8 = .ok (.iconst 0, 1) := by decide +kernel
theorem dX7_sign_9 : decode cX7_sign 9 = .ok (.ireturn, 1) := by decide +kernel
theorem dX7_size_0 : decode cX7_size 0 = .ok (.iconst 0, 1) := by decide +kernel
theorem dX7_size_1 : decode cX7_size 1 = .ok (.istore_n 2, 1) := by decide +kernel
theorem dX7_size_2 : decode cX7_size 2 = .ok (.iload_n 2, 1) := by decide +kernel
theorem dX7_size_3 : decode cX7_size 3 = .ok (.bipush 15, 2) := by decide +kernel
theorem dX7_size_5 : decode cX7_size 5 = .ok (.if_icmp .ge 17, 3) := by decide +kernel
theorem dX7_size_8 : decode cX7_size 8 = .ok (.iload_n 1, 1) := by decide +kernel
theorem dX7_size_9 : decode cX7_size 9 = .ok (.iconst 1, 1) := by decide +kernel
theorem dX7_size_10 : decode cX7_size 10 = .ok (.iload_n 2, 1) := by decide +kernel
theorem dX7_size_11 : decode cX7_size 11 = .ok (.ishl, 1) := by decide +kernel
theorem dX7_size_12 : decode cX7_size 12 = .ok (.if_icmp .lt 10, 3) := by decide +kernel
theorem dX7_size_15 : decode cX7_size 15 = .ok (.iload_n 2, 1) := by decide +kernel
theorem dX7_size_16 : decode cX7_size 16 = .ok (.iconst 1, 1) := by decide +kernel
theorem dX7_size_17 : decode cX7_size 17 = .ok (.iadd, 1) := by decide +kernel
theorem dX7_size_18 : decode cX7_size 18 = .ok (.istore_n 2, 1) := by decide +kernel
theorem dX7_size_19 : decode cX7_size 19 = .ok (.goto (-17), 3) := by decide +kernel
theorem dX7_size_22 : decode cX7_size 22 = .ok (.iload_n 2, 1) := by decide +kernel
theorem dX7_size_23 : decode cX7_size 23 = .ok (.ireturn, 1) := by decide +kernel
theorem dX7_open_0 : decode cX7_open 0 = .ok (.aload_n 0, 1) := by decide +kernel
theorem dX7_open_1 : decode cX7_open 1 = .ok (.iconst 0, 1) := by decide +kernel
theorem dX7_open_2 : decode cX7_open 2 = .ok (.putfield 114, 3) := by decide +kernel
theorem dX7_open_5 : decode cX7_open 5 = .ok (.aload_n 0, 1) := by decide +kernel
theorem dX7_open_6 : decode cX7_open 6 = .ok (.iload_n 1, 1) := by decide +kernel
theorem dX7_open_7 : decode cX7_open 7 = .ok (.invokevirtual 118, 3) := by decide +kernel
theorem dX7_open_10 : decode cX7_open 10 = .ok (.ifCond .eq 13, 3) := by decide +kernel
theorem dX7_open_13 : decode cX7_open 13 = .ok (.iload_n 2, 1) := by decide +kernel
theorem dX7_open_14 : decode cX7_open 14 = .ok (.ifCond .lt 9, 3) := by decide +kernel
theorem dX7_open_17 : decode cX7_open 17 = .ok (.iload_n 2, 1) := by decide +kernel
theorem dX7_open_18 : decode cX7_open 18 = .ok (.bipush 8, 2) := by decide +kernel
theorem dX7_open_20 : decode cX7_open 20 = .ok (.if_icmp .le 5, 3) := by decide +kernel
theorem dX7_open_23 : decode cX7_open 23 = .ok (.iconst 0, 1) := by decide +kernel
theorem dX7_open_24 : decode cX7_open 24 = .ok (.ireturn, 1) := by decide +kernel
theorem dX7_open_25 : decode cX7_open 25 = .ok (.aload_n 0, 1) := by decide +kernel
theorem dX7_open_26 : decode cX7_open 26 = .ok (.getfield 10, 3) := by decide +kernel
theorem dX7_open_29 : decode cX7_open 29 = .ok (.iload_n 1, 1) := by decide +kernel
theorem dX7_open_30 : decode cX7_open 30 = .ok (.iload_n 2, 1) := by decide +kernel
theorem dX7_open_31 : decode cX7_open 31 = .ok (.iastore, 1) := by decide +kernel
theorem dX7_open_32 : decode cX7_open 32 = .ok (.aload_n 0, 1) := by decide +kernel
theorem dX7_open_33 : decode cX7_open 33 = .ok (.getfield 14, 3) := by decide +kernel
theorem dX7_open_36 : decode cX7_open 36 = .ok (.iload_n 1, 1) := by decide +kernel
theorem dX7_open_37 : decode cX7_open 37 = .ok (.iconst 0, 1) := by decide +kernel
theorem dX7_open_38 : decode cX7_open 38 = .ok (.iastore, 1) := by decide +kernel
theorem dX7_open_39 : decode cX7_open 39 = .ok (.iconst 2, 1) := by decide +kernel
theorem dX7_open_40 : decode cX7_open 40 = .ok (.iload_n 1, 1) := by decide +kernel
theorem dX7_open_41 : decode cX7_open 41 = .ok (.imul, 1) := by decide +kernel
theorem dX7_open_42 : decode cX7_open 42 = .ok (.istore_n 3, 1) := by decide +kernel
theorem dX7_open_43 : decode cX7_open 43 = .ok (.iload_n 3, 1) := by decide +kernel
theorem dX7_open_44 : decode cX7_open 44 = .ok (.iconst 2, 1) := by decide +kernel
theorem dX7_open_45 : decode cX7_open 45 = .ok (.iload_n 1, 1) := by decide +kernel
theorem dX7_open_46 : decode cX7_open 46 = .ok (.imul, 1) := by decide +kernel
theorem dX7_open_47 : decode cX7_open 47 = .ok (.iconst 2, 1) := by decide +kernel
theorem dX7_open_48 : decode cX7_open 48 = .ok (.iadd, 1) := by decide +kernel
theorem dX7_open_49 : decode cX7_open 49 = .ok (.if_icmp .ge 163, 3) := by decide +kernel
theorem dX7_open_52 : decode cX7_open 52 = .ok (.iconst 0, 1) := by decide +kernel
theorem dX7_open_53 : decode cX7_open 53 = .ok (.istore 4, 2) := by decide +kernel
theorem dX7_open_55 : decode cX7_open 55 = .ok (.iload 4, 2) := by decide +kernel
theorem dX7_open_57 : decode cX7_open 57 = .ok (.bipush 24, 2) := by decide +kernel
theorem dX7_open_59 : decode cX7_open 59 = .ok (.if_icmp .ge 35, 3) := by decide +kernel
theorem dX7_open_62 : decode cX7_open 62 = .ok (.aload_n 0, 1) := by decide +kernel
theorem dX7_open_63 : decode cX7_open 63 = .ok (.getfield 17, 3) := by decide +kernel
theorem dX7_open_66 : decode cX7_open 66 = .ok (.bipush 24, 2) := by decide +kernel
theorem dX7_open_68 : decode cX7_open 68 = .ok (.iload_n 3, 1) := by decide +kernel
theorem dX7_open_69 : decode cX7_open 69 = .ok (.imul, 1) := by decide +kernel
theorem dX7_open_70 : decode cX7_open 70 = .ok (.iload 4, 2) := by decide +kernel
theorem dX7_open_72 : decode cX7_open 72 = .ok (.iadd, 1) := by decide +kernel
theorem dX7_open_73 : decode cX7_open 73 = .ok (.iconst 0, 1) := by decide +kernel
theorem dX7_open_74 : decode cX7_open 74 = .ok (.iastore, 1) := by decide +kernel
theorem dX7_open_75 : decode cX7_open 75 = .ok (.aload_n 0, 1) := by decide +kernel
theorem dX7_open_76 : decode cX7_open 76 = .ok (.getfield 72, 3) := by decide +kernel
theorem dX7_open_79 : decode cX7_open 79 = .ok (.bipush 24, 2) := by decide +kernel
theorem dX7_open_81 : decode cX7_open 81 = .ok (.iload_n 3, 1) := by decide +kernel
theorem dX7_open_82 : decode cX7_open 82 = .ok (.imul, 1) := by decide +kernel
theorem dX7_open_83 : decode cX7_open 83 = .ok (.iload 4, 2) := by decide +kernel
theorem dX7_open_85 : decode cX7_open 85 = .ok (.iadd, 1) := by decide +kernel
theorem dX7_open_86 : decode cX7_open 86 = .ok (.iconst 0, 1) := by decide +kernel
theorem dX7_open_87 : decode cX7_open 87 = .ok (.iastore, 1) := by decide +kernel
theorem dX7_open_88 : decode cX7_open 88 = .ok (.iinc 4 1, 3) := by decide +kernel
theorem dX7_open_91 : decode cX7_open 91 = .ok (.goto (-36), 3) := by decide +kernel
theorem dX7_open_94 : decode cX7_open 94 = .ok (.aload_n 0, 1) := by decide +kernel
theorem dX7_open_95 : decode cX7_open 95 = .ok (.getfield 17, 3) := by decide +kernel
theorem dX7_open_98 : decode cX7_open 98 = .ok (.bipush 24, 2) := by decide +kernel
theorem dX7_open_100 : decode cX7_open 100 = .ok (.iload_n 3, 1) := by decide +kernel
theorem dX7_open_101 : decode cX7_open 101 = .ok (.imul, 1) := by decide +kernel
theorem dX7_open_102 : decode cX7_open 102 = .ok (.ldc 122, 2) := by decide +kernel
theorem dX7_open_104 : decode cX7_open 104 = .ok (.iastore, 1) := by decide +kernel
theorem dX7_open_105 : decode cX7_open 105 = .ok (.aload_n 0, 1) := by decide +kernel
theorem dX7_open_106 : decode cX7_open 106 = .ok (.getfield 17, 3) := by decide +kernel
theorem dX7_open_109 : decode cX7_open 109 = .ok (.bipush 24, 2) := by decide +kernel
theorem dX7_open_111 : decode cX7_open 111 = .ok (.iload_n 3, 1) := by decide +kernel
theorem dX7_open_112 : decode cX7_open 112 = .ok (.imul, 1) := by decide +kernel
theorem dX7_open_113 : decode cX7_open 113 = .ok (.iconst 1, 1) := by decide +kernel
theorem dX7_open_114 : decode cX7_open 114 = .ok (.iadd, 1) := by decide +kernel
theorem dX7_open_115 : decode cX7_open 115 = .ok (.sipush 544, 3) := by decide +kernel
theorem dX7_open_118 : decode cX7_open 118 = .ok (.iastore, 1) := by decide +kernel
theorem dX7_open_119 : decode cX7_open 119 = .ok (.bipush 14, 2) := by decide +kernel
theorem dX7_open_121 : decode cX7_open 121 = .ok (.istore 4, 2) := by decide +kernel
theorem dX7_open_123 : decode cX7_open 123 = .ok (.iload 4, 2) := by decide +kernel
theorem dX7_open_125 : decode cX7_open 125 = .ok (.bipush 22, 2) := by decide +kernel
theorem dX7_open_127 : decode cX7_open 127 = .ok (.if_icmp .ge 23, 3) := by decide +kernel
theorem dX7_open_130 : decode cX7_open 130 = .ok (.aload_n 0, 1) := by decide +kernel
theorem dX7_open_131 : decode cX7_open 131 = .ok (.getfield 17, 3) := by decide +kernel
theorem dX7_open_134 : decode cX7_open 134 = .ok (.bipush 24, 2) := by decide +kernel
theorem dX7_open_136 : decode cX7_open 136 = .ok (.iload_n 3, 1) := by decide +kernel
theorem dX7_open_137 : decode cX7_open 137 = .ok (.imul, 1) := by decide +kernel
theorem dX7_open_138 : decode cX7_open 138 = .ok (.iload 4, 2) := by decide +kernel
theorem dX7_open_140 : decode cX7_open 140 = .ok (.iadd, 1) := by decide +kernel
theorem dX7_open_141 : decode cX7_open 141 = .ok (.bipush 32, 2) := by decide +kernel
theorem dX7_open_143 : decode cX7_open 143 = .ok (.iastore, 1) := by decide +kernel
theorem dX7_open_144 : decode cX7_open 144 = .ok (.iinc 4 1, 3) := by decide +kernel
theorem dX7_open_147 : decode cX7_open 147 = .ok (.goto (-24), 3) := by decide +kernel
theorem dX7_open_150 : decode cX7_open 150 = .ok (.iconst 0, 1) := by decide +kernel
theorem dX7_open_151 : decode cX7_open 151 = .ok (.istore 4, 2) := by decide +kernel
theorem dX7_open_153 : decode cX7_open 153 = .ok (.iload 4, 2) := by decide +kernel
theorem dX7_open_155 : decode cX7_open 155 = .ok (.bipush 46, 2) := by decide +kernel
theorem dX7_open_157 : decode cX7_open 157 = .ok (.if_icmp .ge 22, 3) := by decide +kernel
theorem dX7_open_160 : decode cX7_open 160 = .ok (.aload_n 0, 1) := by decide +kernel
theorem dX7_open_161 : decode cX7_open 161 = .ok (.getfield 69, 3) := by decide +kernel
theorem dX7_open_164 : decode cX7_open 164 = .ok (.bipush 46, 2) := by decide +kernel
theorem dX7_open_166 : decode cX7_open 166 = .ok (.iload_n 3, 1) := by decide +kernel
theorem dX7_open_167 : decode cX7_open 167 = .ok (.imul, 1) := by decide +kernel
theorem dX7_open_168 : decode cX7_open 168 = .ok (.iload 4, 2) := by decide +kernel
theorem dX7_open_170 : decode cX7_open 170 = .ok (.iadd, 1) := by decide +kernel
theorem dX7_open_171 : decode cX7_open 171 = .ok (.iconst 0, 1) := by decide +kernel
theorem dX7_open_172 : decode cX7_open 172 = .ok (.iastore, 1) := by decide +kernel
theorem dX7_open_173 : decode cX7_open 173 = .ok (.iinc 4 1, 3) := by decide +kernel
theorem dX7_open_176 : decode cX7_open 176 = .ok (.goto (-23), 3) := by decide +kernel
theorem dX7_open_179 : decode cX7_open 179 = .ok (.aload_n 0, 1) := by decide +kernel
theorem dX7_open_180 : decode cX7_open 180 = .ok (.getfield 69, 3) := by decide +kernel
theorem dX7_open_183 : decode cX7_open 183 = .ok (.bipush 46, 2) := by decide +kernel
theorem dX7_open_185 : decode cX7_open 185 = .ok (.iload_n 3, 1) := by decide +kernel
theorem dX7_open_186 : decode cX7_open 186 = .ok (.imul, 1) := by decide +kernel
theorem dX7_open_187 : decode cX7_open 187 = .ok (.iconst 1, 1) := by decide +kernel
theorem dX7_open_188 : decode cX7_open 188 = .ok (.iadd, 1) := by decide +kernel
theorem dX7_open_189 : decode cX7_open 189 = .ok (.bipush 32, 2) := by decide +kernel
theorem dX7_open_191 : decode cX7_open 191 = .ok (.iastore, 1) := by decide +kernel
theorem dX7_open_192 : decode cX7_open 192 = .ok (.aload_n 0, 1) := by decide +kernel
theorem dX7_open_193 : decode cX7_open 193 = .ok (.getfield 69, 3) := by decide +kernel
theorem dX7_open_196 : decode cX7_open 196 = .ok (.bipush 46, 2) := by decide +kernel
theorem dX7_open_198 : decode cX7_open 198 = .ok (.iload_n 3, 1) := by decide +kernel
theorem dX7_open_199 : decode cX7_open 199 = .ok (.imul, 1) := by decide +kernel
theorem dX7_open_200 : decode cX7_open 200 = .ok (.bipush 24, 2) := by decide +kernel
theorem dX7_open_202 : decode cX7_open 202 = .ok (.iadd, 1) := by decide +kernel
theorem dX7_open_203 : decode cX7_open 203 = .ok (.bipush 8, 2) := by decide +kernel
theorem dX7_open_205 : decode cX7_open 205 = .ok (.iastore, 1) := by decide +kernel
theorem dX7_open_206 : decode cX7_open 206 = .ok (.iinc 3 1, 3) := by decide +kernel
theorem dX7_open_209 : decode cX7_open 209 = .ok (.goto (-166), 3) := by decide +kernel
theorem dX7_open_212 : decode cX7_open 212 = .ok (.iconst 1, 1) := by decide +kernel
theorem dX7_open_213 : decode cX7_open 213 = .ok (.ireturn, 1) := by decide +kernel
theorem dX7_kind_0 : decode cX7_kind 0 = .ok (.aload_n 0, 1) := by decide +kernel
theorem dX7_kind_1 : decode cX7_kind 1 = .ok (.iconst 0, 1) := by decide +kernel
theorem dX7_kind_2 : decode cX7_kind 2 = .ok (.putfield 114, 3) := by decide +kernel
theorem dX7_kind_5 : decode cX7_kind 5 = .ok (.aload_n 0, 1) := by decide +kernel
theorem dX7_kind_6 : decode cX7_kind 6 = .ok (.iload_n 1, 1) := by decide +kernel
theorem dX7_kind_7 : decode cX7_kind 7 = .ok (.invokevirtual 118, 3) := by decide +kernel
theorem dX7_kind_10 : decode cX7_kind 10 = .ok (.ifCond .eq 12, 3) := by decide +kernel
theorem dX7_kind_13 : decode cX7_kind 13 = .ok (.aload_n 0, 1) := by decide +kernel
theorem dX7_kind_14 : decode cX7_kind 14 = .ok (.getfield 10, 3) := by decide +kernel
theorem dX7_kind_17 : decode cX7_kind 17 = .ok (.iload_n 1, 1) := by decide +kernel
theorem dX7_kind_18 : decode cX7_kind 18 = .ok (.iaload, 1) := by decide +kernel
theorem dX7_kind_19 : decode cX7_kind 19 = .ok (.goto 5, 3) := by decide +kernel
theorem dX7_kind_22 : decode cX7_kind 22 = .ok (.ldc 9, 2) := by decide +kernel
theorem dX7_kind_24 : decode cX7_kind 24 = .ok (.ireturn, 1) := by decide +kernel
theorem dX7_muSays_0 : decode cX7_muSays 0 = .ok (.iload_n 1, 1) := by decide +kernel
theorem dX7_muSays_1 : decode cX7_muSays 1 = .ok (.iconst 2, 1) := by decide +kernel
theorem dX7_muSays_2 : decode cX7_muSays 2 = .ok (.ishr, 1) := by decide +kernel
theorem dX7_muSays_3 : decode cX7_muSays 3 = .ok (.istore_n 2, 1) := by decide +kernel
theorem dX7_muSays_4 : decode cX7_muSays 4 = .ok (.aload_n 0, 1) := by decide +kernel
theorem dX7_muSays_5 : decode cX7_muSays 5 = .ok (.iload_n 2, 1) := by decide +kernel
theorem dX7_muSays_6 : decode cX7_muSays 6 = .ok (.invokevirtual 123, 3) := by decide +kernel
theorem dX7_muSays_9 : decode cX7_muSays 9 = .ok (.istore_n 3, 1) := by decide +kernel
theorem dX7_muSays_10 : decode cX7_muSays 10 = .ok (.aload_n 0, 1) := by decide +kernel
theorem dX7_muSays_11 : decode cX7_muSays 11 = .ok (.iload_n 2, 1) := by decide +kernel
theorem dX7_muSays_12 : decode cX7_muSays 12 = .ok (.invokevirtual 127, 3) := by decide +kernel
theorem dX7_muSays_15 : decode cX7_muSays 15 = .ok (.istore_n 2, 1) := by decide +kernel
theorem dX7_muSays_16 : decode cX7_muSays 16 = .ok (.iload_n 2, 1) := by decide +kernel
theorem dX7_muSays_17 : decode cX7_muSays 17 = .ok (.sipush 8158, 3) := by decide +kernel
theorem dX7_muSays_20 : decode cX7_muSays 20 = .ok (.if_icmp .le 7, 3) := by decide +kernel
theorem dX7_muSays_23 : decode cX7_muSays 23 = .ok (.sipush 8158, 3) := by decide +kernel
theorem dX7_muSays_26 : decode cX7_muSays 26 = .ok (.istore_n 2, 1) := by decide +kernel
theorem dX7_muSays_27 : decode cX7_muSays 27 = .ok (.iload_n 2, 1) := by decide +kernel
theorem dX7_muSays_28 : decode cX7_muSays 28 = .ok (.bipush 33, 2) := by decide +kernel
theorem dX7_muSays_30 : decode cX7_muSays 30 = .ok (.iadd, 1) := by decide +kernel
theorem dX7_muSays_31 : decode cX7_muSays 31 = .ok (.istore_n 2, 1) := by decide +kernel
theorem dX7_muSays_32 : decode cX7_muSays 32 = .ok (.iconst 0, 1) := by decide +kernel
theorem dX7_muSays_33 : decode cX7_muSays 33 = .ok (.istore 4, 2) := by decide +kernel
theorem dX7_muSays_35 : decode cX7_muSays 35 = .ok (.iload_n 2, 1) := by decide +kernel
theorem dX7_muSays_36 : decode cX7_muSays 36 = .ok (.bipush 64, 2) := by decide +kernel
theorem dX7_muSays_38 : decode cX7_muSays 38 = .ok (.iload 4, 2) := by decide +kernel
theorem dX7_muSays_40 : decode cX7_muSays 40 = .ok (.ishl, 1) := by decide +kernel
theorem dX7_muSays_41 : decode cX7_muSays 41 = .ok (.if_icmp .lt 12, 3) := by decide +kernel
theorem dX7_muSays_44 : decode cX7_muSays 44 = .ok (.iload 4, 2) := by decide +kernel
theorem dX7_muSays_46 : decode cX7_muSays 46 = .ok (.iconst 1, 1) := by decide +kernel
theorem dX7_muSays_47 : decode cX7_muSays 47 = .ok (.iadd, 1) := by decide +kernel
theorem dX7_muSays_48 : decode cX7_muSays 48 = .ok (.istore 4, 2) := by decide +kernel
theorem dX7_muSays_50 : decode cX7_muSays 50 = .ok (.goto (-15), 3) := by decide +kernel
theorem dX7_muSays_53 : decode cX7_muSays 53 = .ok (.iload_n 3, 1) := by decide +kernel
theorem dX7_muSays_54 : decode cX7_muSays 54 = .ok (.iconst 1, 1) := by decide +kernel
theorem dX7_muSays_55 : decode cX7_muSays 55 = .ok (.if_icmp .ne 8, 3) := by decide +kernel
theorem dX7_muSays_58 : decode cX7_muSays 58 = .ok (.bipush 127, 2) := by decide +kernel
theorem dX7_muSays_60 : decode cX7_muSays 60 = .ok (.goto 6, 3) := by decide +kernel
theorem dX7_muSays_63 : decode cX7_muSays 63 = .ok (.sipush 255, 3) := by decide +kernel
theorem dX7_muSays_66 : decode cX7_muSays 66 = .ok (.bipush 16, 2) := by decide +kernel
theorem dX7_muSays_68 : decode cX7_muSays 68 = .ok (.iload 4, 2) := by decide +kernel
theorem dX7_muSays_70 : decode cX7_muSays 70 = .ok (.imul, 1) := by decide +kernel
theorem dX7_muSays_71 : decode cX7_muSays 71 = .ok (.iload_n 2, 1) := by decide +kernel
theorem dX7_muSays_72 : decode cX7_muSays 72 = .ok (.iload 4, 2) := by decide +kernel
theorem dX7_muSays_74 : decode cX7_muSays 74 = .ok (.iconst 1, 1) := by decide +kernel
theorem dX7_muSays_75 : decode cX7_muSays 75 = .ok (.iadd, 1) := by decide +kernel
theorem dX7_muSays_76 : decode cX7_muSays 76 = .ok (.ishr, 1) := by decide +kernel
theorem dX7_muSays_77 : decode cX7_muSays 77 = .ok (.bipush 15, 2) := by decide +kernel
theorem dX7_muSays_79 : decode cX7_muSays 79 = .ok (.iand, 1) := by decide +kernel
theorem dX7_muSays_80 : decode cX7_muSays 80 = .ok (.iadd, 1) := by decide +kernel
theorem dX7_muSays_81 : decode cX7_muSays 81 = .ok (.isub, 1) := by decide +kernel
theorem dX7_muSays_82 : decode cX7_muSays 82 = .ok (.ireturn, 1) := by decide +kernel
theorem dX7_muHears_0 : decode cX7_muHears 0 = .ok (.sipush 255, 3) := by decide +kernel
theorem dX7_muHears_3 : decode cX7_muHears 3 = .ok (.iload_n 1, 1) := by decide +kernel
theorem dX7_muHears_4 : decode cX7_muHears 4 = .ok (.isub, 1) := by decide +kernel
theorem dX7_muHears_5 : decode cX7_muHears 5 = .ok (.istore_n 2, 1) := by decide +kernel
theorem dX7_muHears_6 : decode cX7_muHears 6 = .ok (.bipush 8, 2) := by decide +kernel
theorem dX7_muHears_8 : decode cX7_muHears 8 = .ok (.iload_n 2, 1) := by decide +kernel
theorem dX7_muHears_9 : decode cX7_muHears 9 = .ok (.bipush 15, 2) := by decide +kernel
theorem dX7_muHears_11 : decode cX7_muHears 11 = .ok (.iand, 1) := by decide +kernel
theorem dX7_muHears_12 : decode cX7_muHears 12 = .ok (.imul, 1) := by decide +kernel
theorem dX7_muHears_13 : decode cX7_muHears 13 = .ok (.sipush 132, 3) := by decide +kernel
theorem dX7_muHears_16 : decode cX7_muHears 16 = .ok (.iadd, 1) := by decide +kernel
theorem dX7_muHears_17 : decode cX7_muHears 17 = .ok (.iload_n 2, 1) := by decide +kernel
theorem dX7_muHears_18 : decode cX7_muHears 18 = .ok (.iconst 4, 1) := by decide +kernel
theorem dX7_muHears_19 : decode cX7_muHears 19 = .ok (.ishr, 1) := by decide +kernel
theorem dX7_muHears_20 : decode cX7_muHears 20 = .ok (.bipush 7, 2) := by decide +kernel
theorem dX7_muHears_22 : decode cX7_muHears 22 = .ok (.iand, 1) := by decide +kernel
theorem dX7_muHears_23 : decode cX7_muHears 23 = .ok (.ishl, 1) := by decide +kernel
theorem dX7_muHears_24 : decode cX7_muHears 24 = .ok (.sipush 132, 3) := by decide +kernel
theorem dX7_muHears_27 : decode cX7_muHears 27 = .ok (.isub, 1) := by decide +kernel
theorem dX7_muHears_28 : decode cX7_muHears 28 = .ok (.istore_n 3, 1) := by decide +kernel
theorem dX7_muHears_29 : decode cX7_muHears 29 = .ok (.iload_n 2, 1) := by decide +kernel
theorem dX7_muHears_30 : decode cX7_muHears 30 = .ok (.bipush 127, 2) := by decide +kernel
theorem dX7_muHears_32 : decode cX7_muHears 32 = .ok (.if_icmp .le 8, 3) := by decide +kernel
theorem dX7_muHears_35 : decode cX7_muHears 35 = .ok (.iload_n 3, 1) := by decide +kernel
theorem dX7_muHears_36 : decode cX7_muHears 36 = .ok (.ineg, 1) := by decide +kernel
theorem dX7_muHears_37 : decode cX7_muHears 37 = .ok (.goto 4, 3) := by decide +kernel
theorem dX7_muHears_40 : decode cX7_muHears 40 = .ok (.iload_n 3, 1) := by decide +kernel
theorem dX7_muHears_41 : decode cX7_muHears 41 = .ok (.ireturn, 1) := by decide +kernel
theorem dX7_aSays_0 : decode cX7_aSays 0 = .ok (.iload_n 1, 1) := by decide +kernel
theorem dX7_aSays_1 : decode cX7_aSays 1 = .ok (.iconst 3, 1) := by decide +kernel
theorem dX7_aSays_2 : decode cX7_aSays 2 = .ok (.ishr, 1) := by decide +kernel
theorem dX7_aSays_3 : decode cX7_aSays 3 = .ok (.istore_n 2, 1) := by decide +kernel
theorem dX7_aSays_4 : decode cX7_aSays 4 = .ok (.iload_n 2, 1) := by decide +kernel
theorem dX7_aSays_5 : decode cX7_aSays 5 = .ok (.ifCond .ge 8, 3) := by decide +kernel
theorem dX7_aSays_8 : decode cX7_aSays 8 = .ok (.iload_n 2, 1) := by decide +kernel
theorem dX7_aSays_9 : decode cX7_aSays 9 = .ok (.ineg, 1) := by decide +kernel
theorem dX7_aSays_10 : decode cX7_aSays 10 = .ok (.iconst 1, 1) := by decide +kernel
theorem dX7_aSays_11 : decode cX7_aSays 11 = .ok (.isub, 1) := by decide +kernel
theorem dX7_aSays_12 : decode cX7_aSays 12 = .ok (.istore_n 2, 1) := by decide +kernel
theorem dX7_aSays_13 : decode cX7_aSays 13 = .ok (.iconst 0, 1) := by decide +kernel
theorem dX7_aSays_14 : decode cX7_aSays 14 = .ok (.istore_n 3, 1) := by decide +kernel
theorem dX7_aSays_15 : decode cX7_aSays 15 = .ok (.iload_n 2, 1) := by decide +kernel
theorem dX7_aSays_16 : decode cX7_aSays 16 = .ok (.bipush 32, 2) := by decide +kernel
theorem dX7_aSays_18 : decode cX7_aSays 18 = .ok (.iload_n 3, 1) := by decide +kernel
theorem dX7_aSays_19 : decode cX7_aSays 19 = .ok (.ishl, 1) := by decide +kernel
theorem dX7_aSays_20 : decode cX7_aSays 20 = .ok (.if_icmp .lt 10, 3) := by decide +kernel
theorem dX7_aSays_23 : decode cX7_aSays 23 = .ok (.iload_n 3, 1) := by decide +kernel
theorem dX7_aSays_24 : decode cX7_aSays 24 = .ok (.iconst 1, 1) := by decide +kernel
theorem dX7_aSays_25 : decode cX7_aSays 25 = .ok (.iadd, 1) := by decide +kernel
theorem dX7_aSays_26 : decode cX7_aSays 26 = .ok (.istore_n 3, 1) := by decide +kernel
theorem dX7_aSays_27 : decode cX7_aSays 27 = .ok (.goto (-12), 3) := by decide +kernel
theorem dX7_aSays_30 : decode cX7_aSays 30 = .ok (.iload_n 3, 1) := by decide +kernel
theorem dX7_aSays_31 : decode cX7_aSays 31 = .ok (.iconst 2, 1) := by decide +kernel
theorem dX7_aSays_32 : decode cX7_aSays 32 = .ok (.if_icmp .ge 9, 3) := by decide +kernel
theorem dX7_aSays_35 : decode cX7_aSays 35 = .ok (.iload_n 2, 1) := by decide +kernel
theorem dX7_aSays_36 : decode cX7_aSays 36 = .ok (.iconst 1, 1) := by decide +kernel
theorem dX7_aSays_37 : decode cX7_aSays 37 = .ok (.ishr, 1) := by decide +kernel
theorem dX7_aSays_38 : decode cX7_aSays 38 = .ok (.goto 6, 3) := by decide +kernel
theorem dX7_aSays_41 : decode cX7_aSays 41 = .ok (.iload_n 2, 1) := by decide +kernel
theorem dX7_aSays_42 : decode cX7_aSays 42 = .ok (.iload_n 3, 1) := by decide +kernel
theorem dX7_aSays_43 : decode cX7_aSays 43 = .ok (.ishr, 1) := by decide +kernel
theorem dX7_aSays_44 : decode cX7_aSays 44 = .ok (.istore 4, 2) := by decide +kernel
theorem dX7_aSays_46 : decode cX7_aSays 46 = .ok (.bipush 16, 2) := by decide +kernel
theorem dX7_aSays_48 : decode cX7_aSays 48 = .ok (.iload_n 3, 1) := by decide +kernel
theorem dX7_aSays_49 : decode cX7_aSays 49 = .ok (.imul, 1) := by decide +kernel
theorem dX7_aSays_50 : decode cX7_aSays 50 = .ok (.iload 4, 2) := by decide +kernel
theorem dX7_aSays_52 : decode cX7_aSays 52 = .ok (.bipush 15, 2) := by decide +kernel
theorem dX7_aSays_54 : decode cX7_aSays 54 = .ok (.iand, 1) := by decide +kernel
theorem dX7_aSays_55 : decode cX7_aSays 55 = .ok (.iadd, 1) := by decide +kernel
theorem dX7_aSays_56 : decode cX7_aSays 56 = .ok (.iload_n 1, 1) := by decide +kernel
theorem dX7_aSays_57 : decode cX7_aSays 57 = .ok (.ifCond .lt 9, 3) := by decide +kernel
theorem dX7_aSays_60 : decode cX7_aSays 60 = .ok (.sipush 213, 3) := by decide +kernel
theorem dX7_aSays_63 : decode cX7_aSays 63 = .ok (.goto 5, 3) := by decide +kernel
theorem dX7_aSays_66 : decode cX7_aSays 66 = .ok (.bipush 85, 2) := by decide +kernel
theorem dX7_aSays_68 : decode cX7_aSays 68 = .ok (.ixor, 1) := by decide +kernel
theorem dX7_aSays_69 : decode cX7_aSays 69 = .ok (.ireturn, 1) := by decide +kernel
theorem dX7_aHears_0 : decode cX7_aHears 0 = .ok (.iload_n 1, 1) := by decide +kernel
theorem dX7_aHears_1 : decode cX7_aHears 1 = .ok (.bipush 85, 2) := by decide +kernel
theorem dX7_aHears_3 : decode cX7_aHears 3 = .ok (.ixor, 1) := by decide +kernel
theorem dX7_aHears_4 : decode cX7_aHears 4 = .ok (.istore_n 2, 1) := by decide +kernel
theorem dX7_aHears_5 : decode cX7_aHears 5 = .ok (.bipush 16, 2) := by decide +kernel
theorem dX7_aHears_7 : decode cX7_aHears 7 = .ok (.iload_n 2, 1) := by decide +kernel
theorem dX7_aHears_8 : decode cX7_aHears 8 = .ok (.bipush 15, 2) := by decide +kernel
theorem dX7_aHears_10 : decode cX7_aHears 10 = .ok (.iand, 1) := by decide +kernel
theorem dX7_aHears_11 : decode cX7_aHears 11 = .ok (.imul, 1) := by decide +kernel
theorem dX7_aHears_12 : decode cX7_aHears 12 = .ok (.bipush 8, 2) := by decide +kernel
theorem dX7_aHears_14 : decode cX7_aHears 14 = .ok (.iadd, 1) := by decide +kernel
theorem dX7_aHears_15 : decode cX7_aHears 15 = .ok (.istore_n 3, 1) := by decide +kernel
theorem dX7_aHears_16 : decode cX7_aHears 16 = .ok (.iload_n 2, 1) := by decide +kernel
theorem dX7_aHears_17 : decode cX7_aHears 17 = .ok (.iconst 4, 1) := by decide +kernel
theorem dX7_aHears_18 : decode cX7_aHears 18 = .ok (.ishr, 1) := by decide +kernel
theorem dX7_aHears_19 : decode cX7_aHears 19 = .ok (.bipush 7, 2) := by decide +kernel
theorem dX7_aHears_21 : decode cX7_aHears 21 = .ok (.iand, 1) := by decide +kernel
theorem dX7_aHears_22 : decode cX7_aHears 22 = .ok (.istore 4, 2) := by decide +kernel
theorem dX7_aHears_24 : decode cX7_aHears 24 = .ok (.iload 4, 2) := by decide +kernel
theorem dX7_aHears_26 : decode cX7_aHears 26 = .ok (.ifCond .le 14, 3) := by decide +kernel
theorem dX7_aHears_29 : decode cX7_aHears 29 = .ok (.iload_n 3, 1) := by decide +kernel
theorem dX7_aHears_30 : decode cX7_aHears 30 = .ok (.sipush 256, 3) := by decide +kernel
theorem dX7_aHears_33 : decode cX7_aHears 33 = .ok (.iadd, 1) := by decide +kernel
theorem dX7_aHears_34 : decode cX7_aHears 34 = .ok (.iload 4, 2) := by decide +kernel
theorem dX7_aHears_36 : decode cX7_aHears 36 = .ok (.iconst 1, 1) := by decide +kernel
theorem dX7_aHears_37 : decode cX7_aHears 37 = .ok (.isub, 1) := by decide +kernel
theorem dX7_aHears_38 : decode cX7_aHears 38 = .ok (.ishl, 1) := by decide +kernel
theorem dX7_aHears_39 : decode cX7_aHears 39 = .ok (.istore_n 3, 1) := by decide +kernel
theorem dX7_aHears_40 : decode cX7_aHears 40 = .ok (.iload_n 2, 1) := by decide +kernel
theorem dX7_aHears_41 : decode cX7_aHears 41 = .ok (.bipush 127, 2) := by decide +kernel
theorem dX7_aHears_43 : decode cX7_aHears 43 = .ok (.if_icmp .le 7, 3) := by decide +kernel
theorem dX7_aHears_46 : decode cX7_aHears 46 = .ok (.iload_n 3, 1) := by decide +kernel
theorem dX7_aHears_47 : decode cX7_aHears 47 = .ok (.goto 5, 3) := by decide +kernel
theorem dX7_aHears_50 : decode cX7_aHears 50 = .ok (.iload_n 3, 1) := by decide +kernel
theorem dX7_aHears_51 : decode cX7_aHears 51 = .ok (.ineg, 1) := by decide +kernel
theorem dX7_aHears_52 : decode cX7_aHears 52 = .ok (.ireturn, 1) := by decide +kernel
theorem dX7_bound_0 : decode cX7_bound 0 = .ok (.iload_n 1, 1) := by decide +kernel
theorem dX7_bound_1 : decode cX7_bound 1 = .ok (.iconst 2, 1) := by decide +kernel
theorem dX7_bound_2 : decode cX7_bound 2 = .ok (.if_icmp .ne 10, 3) := by decide +kernel
theorem dX7_bound_5 : decode cX7_bound 5 = .ok (.aload_n 0, 1) := by decide +kernel
theorem dX7_bound_6 : decode cX7_bound 6 = .ok (.getfield 20, 3) := by decide +kernel
theorem dX7_bound_9 : decode cX7_bound 9 = .ok (.iload_n 2, 1) := by decide +kernel
theorem dX7_bound_10 : decode cX7_bound 10 = .ok (.iaload, 1) := by decide +kernel
theorem dX7_bound_11 : decode cX7_bound 11 = .ok (.ireturn, 1) := by decide +kernel
theorem dX7_bound_12 : decode cX7_bound 12 = .ok (.iload_n 1, 1) := by decide +kernel
theorem dX7_bound_13 : decode cX7_bound 13 = .ok (.iconst 3, 1) := by decide +kernel
theorem dX7_bound_14 : decode cX7_bound 14 = .ok (.if_icmp .ne 10, 3) := by decide +kernel
theorem dX7_bound_17 : decode cX7_bound 17 = .ok (.aload_n 0, 1) := by decide +kernel
theorem dX7_bound_18 : decode cX7_bound 18 = .ok (.getfield 23, 3) := by decide +kernel
theorem dX7_bound_21 : decode cX7_bound 21 = .ok (.iload_n 2, 1) := by decide +kernel
theorem dX7_bound_22 : decode cX7_bound 22 = .ok (.iaload, 1) := by decide +kernel
theorem dX7_bound_23 : decode cX7_bound 23 = .ok (.ireturn, 1) := by decide +kernel
theorem dX7_bound_24 : decode cX7_bound 24 = .ok (.iload_n 1, 1) := by decide +kernel
theorem dX7_bound_25 : decode cX7_bound 25 = .ok (.iconst 4, 1) := by decide +kernel
theorem dX7_bound_26 : decode cX7_bound 26 = .ok (.if_icmp .ne 12, 3) := by decide +kernel
theorem dX7_bound_29 : decode cX7_bound 29 = .ok (.aload_n 0, 1) := by decide +kernel
theorem dX7_bound_30 : decode cX7_bound 30 = .ok (.getfield 26, 3) := by decide +kernel
theorem dX7_bound_33 : decode cX7_bound 33 = .ok (.iload_n 2, 1) := by decide +kernel
theorem dX7_bound_34 : decode cX7_bound 34 = .ok (.iaload, 1) := by decide +kernel
theorem dX7_bound_35 : decode cX7_bound 35 = .ok (.goto 9, 3) := by decide +kernel
theorem dX7_bound_38 : decode cX7_bound 38 = .ok (.aload_n 0, 1) := by decide +kernel
theorem dX7_bound_39 : decode cX7_bound 39 = .ok (.getfield 29, 3) := by decide +kernel
theorem dX7_bound_42 : decode cX7_bound 42 = .ok (.iload_n 2, 1) := by decide +kernel
theorem dX7_bound_43 : decode cX7_bound 43 = .ok (.iaload, 1) := by decide +kernel
theorem dX7_bound_44 : decode cX7_bound 44 = .ok (.ireturn, 1) := by decide +kernel
theorem dX7_half_0 : decode cX7_half 0 = .ok (.iload_n 2, 1) := by decide +kernel
theorem dX7_half_1 : decode cX7_half 1 = .ok (.iload_n 1, 1) := by decide +kernel
theorem dX7_half_2 : decode cX7_half 2 = .ok (.iconst 1, 1) := by decide +kernel
theorem dX7_half_3 : decode cX7_half 3 = .ok (.isub, 1) := by decide +kernel
theorem dX7_half_4 : decode cX7_half 4 = .ok (.ishr, 1) := by decide +kernel
theorem dX7_half_5 : decode cX7_half 5 = .ok (.ifCond .ne 7, 3) := by decide +kernel
theorem dX7_half_8 : decode cX7_half 8 = .ok (.iload_n 2, 1) := by decide +kernel
theorem dX7_half_9 : decode cX7_half 9 = .ok (.goto 10, 3) := by decide +kernel
theorem dX7_half_12 : decode cX7_half 12 = .ok (.iconst 1, 1) := by decide +kernel
theorem dX7_half_13 : decode cX7_half 13 = .ok (.iload_n 1, 1) := by decide +kernel
theorem dX7_half_14 : decode cX7_half 14 = .ok (.ishl, 1) := by decide +kernel
theorem dX7_half_15 : decode cX7_half 15 = .ok (.iconst 1, 1) := by decide +kernel
theorem dX7_half_16 : decode cX7_half 16 = .ok (.isub, 1) := by decide +kernel
theorem dX7_half_17 : decode cX7_half 17 = .ok (.iload_n 2, 1) := by decide +kernel
theorem dX7_half_18 : decode cX7_half 18 = .ok (.isub, 1) := by decide +kernel
theorem dX7_half_19 : decode cX7_half 19 = .ok (.ireturn, 1) := by decide +kernel
theorem dX7_table_0 : decode cX7_table 0 = .ok (.aload_n 0, 1) := by decide +kernel
theorem dX7_table_1 : decode cX7_table 1 = .ok (.iload_n 1, 1) := by decide +kernel
theorem dX7_table_2 : decode cX7_table 2 = .ok (.iload_n 2, 1) := by decide +kernel
theorem dX7_table_3 : decode cX7_table 3 = .ok (.invokevirtual 130, 3) := by decide +kernel
theorem dX7_table_6 : decode cX7_table 6 = .ok (.istore_n 3, 1) := by decide +kernel
theorem dX7_table_7 : decode cX7_table 7 = .ok (.iload_n 1, 1) := by decide +kernel
theorem dX7_table_8 : decode cX7_table 8 = .ok (.iconst 2, 1) := by decide +kernel
theorem dX7_table_9 : decode cX7_table 9 = .ok (.if_icmp .ne 10, 3) := by decide +kernel
theorem dX7_table_12 : decode cX7_table 12 = .ok (.aload_n 0, 1) := by decide +kernel
theorem dX7_table_13 : decode cX7_table 13 = .ok (.getfield 32, 3) := by decide +kernel
theorem dX7_table_16 : decode cX7_table 16 = .ok (.iload_n 3, 1) := by decide +kernel
theorem dX7_table_17 : decode cX7_table 17 = .ok (.iaload, 1) := by decide +kernel
theorem dX7_table_18 : decode cX7_table 18 = .ok (.ireturn, 1) := by decide +kernel
theorem dX7_table_19 : decode cX7_table 19 = .ok (.iload_n 1, 1) := by decide +kernel
theorem dX7_table_20 : decode cX7_table 20 = .ok (.iconst 3, 1) := by decide +kernel
theorem dX7_table_21 : decode cX7_table 21 = .ok (.if_icmp .ne 10, 3) := by decide +kernel
end
section
theorem dX7_table_24 : decode cX7_table 24 = .ok (.aload_n 0, 1) := by decide +kernel
theorem dX7_table_25 : decode cX7_table 25 = .ok (.getfield 35, 3) := by decide +kernel
theorem dX7_table_28 : decode cX7_table 28 = .ok (.iload_n 3, 1) := by decide +kernel
theorem dX7_table_29 : decode cX7_table 29 = .ok (.iaload, 1) := by decide +kernel
theorem dX7_table_30 : decode cX7_table 30 = .ok (.ireturn, 1) := by decide +kernel
theorem dX7_table_31 : decode cX7_table 31 = .ok (.iload_n 1, 1) := by decide +kernel
theorem dX7_table_32 : decode cX7_table 32 = .ok (.iconst 4, 1) := by decide +kernel
theorem dX7_table_33 : decode cX7_table 33 = .ok (.if_icmp .ne 12, 3) := by decide +kernel
theorem dX7_table_36 : decode cX7_table 36 = .ok (.aload_n 0, 1) := by decide +kernel
theorem dX7_table_37 : decode cX7_table 37 = .ok (.getfield 38, 3) := by decide +kernel
theorem dX7_table_40 : decode cX7_table 40 = .ok (.iload_n 3, 1) := by decide +kernel
theorem dX7_table_41 : decode cX7_table 41 = .ok (.iaload, 1) := by decide +kernel
theorem dX7_table_42 : decode cX7_table 42 = .ok (.goto 9, 3) := by decide +kernel
theorem dX7_table_45 : decode cX7_table 45 = .ok (.aload_n 0, 1) := by decide +kernel
theorem dX7_table_46 : decode cX7_table 46 = .ok (.getfield 41, 3) := by decide +kernel
theorem dX7_table_49 : decode cX7_table 49 = .ok (.iload_n 3, 1) := by decide +kernel
theorem dX7_table_50 : decode cX7_table 50 = .ok (.iaload, 1) := by decide +kernel
theorem dX7_table_51 : decode cX7_table 51 = .ok (.ireturn, 1) := by decide +kernel
theorem dX7_weight_0 : decode cX7_weight 0 = .ok (.aload_n 0, 1) := by decide +kernel
theorem dX7_weight_1 : decode cX7_weight 1 = .ok (.iload_n 1, 1) := by decide +kernel
theorem dX7_weight_2 : decode cX7_weight 2 = .ok (.iload_n 2, 1) := by decide +kernel
theorem dX7_weight_3 : decode cX7_weight 3 = .ok (.invokevirtual 130, 3) := by decide +kernel
theorem dX7_weight_6 : decode cX7_weight 6 = .ok (.istore_n 3, 1) := by decide +kernel
theorem dX7_weight_7 : decode cX7_weight 7 = .ok (.iload_n 1, 1) := by decide +kernel
theorem dX7_weight_8 : decode cX7_weight 8 = .ok (.iconst 2, 1) := by decide +kernel
theorem dX7_weight_9 : decode cX7_weight 9 = .ok (.if_icmp .ne 10, 3) := by decide +kernel
theorem dX7_weight_12 : decode cX7_weight 12 = .ok (.aload_n 0, 1) := by decide +kernel
theorem dX7_weight_13 : decode cX7_weight 13 = .ok (.getfield 44, 3) := by decide +kernel
theorem dX7_weight_16 : decode cX7_weight 16 = .ok (.iload_n 3, 1) := by decide +kernel
theorem dX7_weight_17 : decode cX7_weight 17 = .ok (.iaload, 1) := by decide +kernel
theorem dX7_weight_18 : decode cX7_weight 18 = .ok (.ireturn, 1) := by decide +kernel
theorem dX7_weight_19 : decode cX7_weight 19 = .ok (.iload_n 1, 1) := by decide +kernel
theorem dX7_weight_20 : decode cX7_weight 20 = .ok (.iconst 3, 1) := by decide +kernel
theorem dX7_weight_21 : decode cX7_weight 21 = .ok (.if_icmp .ne 10, 3) := by decide +kernel
theorem dX7_weight_24 : decode cX7_weight 24 = .ok (.aload_n 0, 1) := by decide +kernel
theorem dX7_weight_25 : decode cX7_weight 25 = .ok (.getfield 47, 3) := by decide +kernel
theorem dX7_weight_28 : decode cX7_weight 28 = .ok (.iload_n 3, 1) := by decide +kernel
theorem dX7_weight_29 : decode cX7_weight 29 = .ok (.iaload, 1) := by decide +kernel
theorem dX7_weight_30 : decode cX7_weight 30 = .ok (.ireturn, 1) := by decide +kernel
theorem dX7_weight_31 : decode cX7_weight 31 = .ok (.iload_n 1, 1) := by decide +kernel
theorem dX7_weight_32 : decode cX7_weight 32 = .ok (.iconst 4, 1) := by decide +kernel
theorem dX7_weight_33 : decode cX7_weight 33 = .ok (.if_icmp .ne 12, 3) := by decide +kernel
theorem dX7_weight_36 : decode cX7_weight 36 = .ok (.aload_n 0, 1) := by decide +kernel
theorem dX7_weight_37 : decode cX7_weight 37 = .ok (.getfield 51, 3) := by decide +kernel
theorem dX7_weight_40 : decode cX7_weight 40 = .ok (.iload_n 3, 1) := by decide +kernel
theorem dX7_weight_41 : decode cX7_weight 41 = .ok (.iaload, 1) := by decide +kernel
theorem dX7_weight_42 : decode cX7_weight 42 = .ok (.goto 9, 3) := by decide +kernel
theorem dX7_weight_45 : decode cX7_weight 45 = .ok (.aload_n 0, 1) := by decide +kernel
theorem dX7_weight_46 : decode cX7_weight 46 = .ok (.getfield 54, 3) := by decide +kernel
theorem dX7_weight_49 : decode cX7_weight 49 = .ok (.iload_n 3, 1) := by decide +kernel
theorem dX7_weight_50 : decode cX7_weight 50 = .ok (.iaload, 1) := by decide +kernel
theorem dX7_weight_51 : decode cX7_weight 51 = .ok (.ireturn, 1) := by decide +kernel
theorem dX7_pace_0 : decode cX7_pace 0 = .ok (.aload_n 0, 1) := by decide +kernel
theorem dX7_pace_1 : decode cX7_pace 1 = .ok (.iload_n 1, 1) := by decide +kernel
theorem dX7_pace_2 : decode cX7_pace 2 = .ok (.iload_n 2, 1) := by decide +kernel
theorem dX7_pace_3 : decode cX7_pace 3 = .ok (.invokevirtual 130, 3) := by decide +kernel
theorem dX7_pace_6 : decode cX7_pace 6 = .ok (.istore_n 3, 1) := by decide +kernel
theorem dX7_pace_7 : decode cX7_pace 7 = .ok (.iload_n 1, 1) := by decide +kernel
theorem dX7_pace_8 : decode cX7_pace 8 = .ok (.iconst 2, 1) := by decide +kernel
theorem dX7_pace_9 : decode cX7_pace 9 = .ok (.if_icmp .ne 10, 3) := by decide +kernel
theorem dX7_pace_12 : decode cX7_pace 12 = .ok (.aload_n 0, 1) := by decide +kernel
theorem dX7_pace_13 : decode cX7_pace 13 = .ok (.getfield 57, 3) := by decide +kernel
theorem dX7_pace_16 : decode cX7_pace 16 = .ok (.iload_n 3, 1) := by decide +kernel
theorem dX7_pace_17 : decode cX7_pace 17 = .ok (.iaload, 1) := by decide +kernel
theorem dX7_pace_18 : decode cX7_pace 18 = .ok (.ireturn, 1) := by decide +kernel
theorem dX7_pace_19 : decode cX7_pace 19 = .ok (.iload_n 1, 1) := by decide +kernel
theorem dX7_pace_20 : decode cX7_pace 20 = .ok (.iconst 3, 1) := by decide +kernel
theorem dX7_pace_21 : decode cX7_pace 21 = .ok (.if_icmp .ne 10, 3) := by decide +kernel
theorem dX7_pace_24 : decode cX7_pace 24 = .ok (.aload_n 0, 1) := by decide +kernel
theorem dX7_pace_25 : decode cX7_pace 25 = .ok (.getfield 60, 3) := by decide +kernel
theorem dX7_pace_28 : decode cX7_pace 28 = .ok (.iload_n 3, 1) := by decide +kernel
theorem dX7_pace_29 : decode cX7_pace 29 = .ok (.iaload, 1) := by decide +kernel
theorem dX7_pace_30 : decode cX7_pace 30 = .ok (.ireturn, 1) := by decide +kernel
theorem dX7_pace_31 : decode cX7_pace 31 = .ok (.iload_n 1, 1) := by decide +kernel
theorem dX7_pace_32 : decode cX7_pace 32 = .ok (.iconst 4, 1) := by decide +kernel
theorem dX7_pace_33 : decode cX7_pace 33 = .ok (.if_icmp .ne 12, 3) := by decide +kernel
theorem dX7_pace_36 : decode cX7_pace 36 = .ok (.aload_n 0, 1) := by decide +kernel
theorem dX7_pace_37 : decode cX7_pace 37 = .ok (.getfield 63, 3) := by decide +kernel
theorem dX7_pace_40 : decode cX7_pace 40 = .ok (.iload_n 3, 1) := by decide +kernel
theorem dX7_pace_41 : decode cX7_pace 41 = .ok (.iaload, 1) := by decide +kernel
theorem dX7_pace_42 : decode cX7_pace 42 = .ok (.goto 9, 3) := by decide +kernel
theorem dX7_pace_45 : decode cX7_pace 45 = .ok (.aload_n 0, 1) := by decide +kernel
theorem dX7_pace_46 : decode cX7_pace 46 = .ok (.getfield 66, 3) := by decide +kernel
theorem dX7_pace_49 : decode cX7_pace 49 = .ok (.iload_n 3, 1) := by decide +kernel
theorem dX7_pace_50 : decode cX7_pace 50 = .ok (.iaload, 1) := by decide +kernel
theorem dX7_pace_51 : decode cX7_pace 51 = .ok (.ireturn, 1) := by decide +kernel
theorem dX7_times_0 : decode cX7_times 0 = .ok (.aload_n 0, 1) := by decide +kernel
theorem dX7_times_1 : decode cX7_times 1 = .ok (.iload_n 1, 1) := by decide +kernel
theorem dX7_times_2 : decode cX7_times 2 = .ok (.invokevirtual 127, 3) := by decide +kernel
theorem dX7_times_5 : decode cX7_times 5 = .ok (.sipush 8191, 3) := by decide +kernel
theorem dX7_times_8 : decode cX7_times 8 = .ok (.iand, 1) := by decide +kernel
theorem dX7_times_9 : decode cX7_times 9 = .ok (.istore_n 3, 1) := by decide +kernel
theorem dX7_times_10 : decode cX7_times 10 = .ok (.aload_n 0, 1) := by decide +kernel
theorem dX7_times_11 : decode cX7_times 11 = .ok (.iload_n 3, 1) := by decide +kernel
theorem dX7_times_12 : decode cX7_times 12 = .ok (.invokevirtual 134, 3) := by decide +kernel
theorem dX7_times_15 : decode cX7_times 15 = .ok (.bipush 6, 2) := by decide +kernel
theorem dX7_times_17 : decode cX7_times 17 = .ok (.isub, 1) := by decide +kernel
theorem dX7_times_18 : decode cX7_times 18 = .ok (.istore 4, 2) := by decide +kernel
theorem dX7_times_20 : decode cX7_times 20 = .ok (.iload_n 3, 1) := by decide +kernel
theorem dX7_times_21 : decode cX7_times 21 = .ok (.ifCond .ne 8, 3) := by decide +kernel
theorem dX7_times_24 : decode cX7_times 24 = .ok (.bipush 32, 2) := by decide +kernel
theorem dX7_times_26 : decode cX7_times 26 = .ok (.goto 20, 3) := by decide +kernel
theorem dX7_times_29 : decode cX7_times 29 = .ok (.iload 4, 2) := by decide +kernel
theorem dX7_times_31 : decode cX7_times 31 = .ok (.ifCond .lt 10, 3) := by decide +kernel
theorem dX7_times_34 : decode cX7_times 34 = .ok (.iload_n 3, 1) := by decide +kernel
theorem dX7_times_35 : decode cX7_times 35 = .ok (.iload 4, 2) := by decide +kernel
theorem dX7_times_37 : decode cX7_times 37 = .ok (.ishr, 1) := by decide +kernel
theorem dX7_times_38 : decode cX7_times 38 = .ok (.goto 8, 3) := by decide +kernel
theorem dX7_times_41 : decode cX7_times 41 = .ok (.iload_n 3, 1) := by decide +kernel
theorem dX7_times_42 : decode cX7_times 42 = .ok (.iload 4, 2) := by decide +kernel
theorem dX7_times_44 : decode cX7_times 44 = .ok (.ineg, 1) := by decide +kernel
theorem dX7_times_45 : decode cX7_times 45 = .ok (.ishl, 1) := by decide +kernel
theorem dX7_times_46 : decode cX7_times 46 = .ok (.istore 5, 2) := by decide +kernel
theorem dX7_times_48 : decode cX7_times 48 = .ok (.iload 4, 2) := by decide +kernel
theorem dX7_times_50 : decode cX7_times 50 = .ok (.iload_n 2, 1) := by decide +kernel
theorem dX7_times_51 : decode cX7_times 51 = .ok (.bipush 6, 2) := by decide +kernel
theorem dX7_times_53 : decode cX7_times 53 = .ok (.ishr, 1) := by decide +kernel
theorem dX7_times_54 : decode cX7_times 54 = .ok (.bipush 15, 2) := by decide +kernel
theorem dX7_times_56 : decode cX7_times 56 = .ok (.iand, 1) := by decide +kernel
theorem dX7_times_57 : decode cX7_times 57 = .ok (.iadd, 1) := by decide +kernel
theorem dX7_times_58 : decode cX7_times 58 = .ok (.bipush 13, 2) := by decide +kernel
theorem dX7_times_60 : decode cX7_times 60 = .ok (.isub, 1) := by decide +kernel
theorem dX7_times_61 : decode cX7_times 61 = .ok (.istore 6, 2) := by decide +kernel
theorem dX7_times_63 : decode cX7_times 63 = .ok (.iload 5, 2) := by decide +kernel
theorem dX7_times_65 : decode cX7_times 65 = .ok (.iload_n 2, 1) := by decide +kernel
theorem dX7_times_66 : decode cX7_times 66 = .ok (.bipush 63, 2) := by decide +kernel
theorem dX7_times_68 : decode cX7_times 68 = .ok (.iand, 1) := by decide +kernel
theorem dX7_times_69 : decode cX7_times 69 = .ok (.imul, 1) := by decide +kernel
theorem dX7_times_70 : decode cX7_times 70 = .ok (.bipush 48, 2) := by decide +kernel
theorem dX7_times_72 : decode cX7_times 72 = .ok (.iadd, 1) := by decide +kernel
theorem dX7_times_73 : decode cX7_times 73 = .ok (.iconst 4, 1) := by decide +kernel
theorem dX7_times_74 : decode cX7_times 74 = .ok (.ishr, 1) := by decide +kernel
theorem dX7_times_75 : decode cX7_times 75 = .ok (.istore 7, 2) := by decide +kernel
theorem dX7_times_77 : decode cX7_times 77 = .ok (.iload 6, 2) := by decide +kernel
theorem dX7_times_79 : decode cX7_times 79 = .ok (.ifCond .lt 15, 3) := by decide +kernel
theorem dX7_times_82 : decode cX7_times 82 = .ok (.iload 7, 2) := by decide +kernel
theorem dX7_times_84 : decode cX7_times 84 = .ok (.iload 6, 2) := by decide +kernel
theorem dX7_times_86 : decode cX7_times 86 = .ok (.ishl, 1) := by decide +kernel
theorem dX7_times_87 : decode cX7_times 87 = .ok (.sipush 32767, 3) := by decide +kernel
theorem dX7_times_90 : decode cX7_times 90 = .ok (.iand, 1) := by decide +kernel
theorem dX7_times_91 : decode cX7_times 91 = .ok (.goto 9, 3) := by decide +kernel
theorem dX7_times_94 : decode cX7_times 94 = .ok (.iload 7, 2) := by decide +kernel
theorem dX7_times_96 : decode cX7_times 96 = .ok (.iload 6, 2) := by decide +kernel
theorem dX7_times_98 : decode cX7_times 98 = .ok (.ineg, 1) := by decide +kernel
theorem dX7_times_99 : decode cX7_times 99 = .ok (.ishr, 1) := by decide +kernel
theorem dX7_times_100 : decode cX7_times 100 = .ok (.istore 8, 2) := by decide +kernel
theorem dX7_times_102 : decode cX7_times 102 = .ok (.iload_n 1, 1) := by decide +kernel
theorem dX7_times_103 : decode cX7_times 103 = .ok (.ifCond .ge 7, 3) := by decide +kernel
theorem dX7_times_106 : decode cX7_times 106 = .ok (.iconst 1, 1) := by decide +kernel
theorem dX7_times_107 : decode cX7_times 107 = .ok (.goto 4, 3) := by decide +kernel
theorem dX7_times_110 : decode cX7_times 110 = .ok (.iconst 0, 1) := by decide +kernel
theorem dX7_times_111 : decode cX7_times 111 = .ok (.iload_n 2, 1) := by decide +kernel
theorem dX7_times_112 : decode cX7_times 112 = .ok (.ifCond .ge 7, 3) := by decide +kernel
theorem dX7_times_115 : decode cX7_times 115 = .ok (.iconst 1, 1) := by decide +kernel
theorem dX7_times_116 : decode cX7_times 116 = .ok (.goto 4, 3) := by decide +kernel
theorem dX7_times_119 : decode cX7_times 119 = .ok (.iconst 0, 1) := by decide +kernel
theorem dX7_times_120 : decode cX7_times 120 = .ok (.if_icmp .eq 9, 3) := by decide +kernel
theorem dX7_times_123 : decode cX7_times 123 = .ok (.iload 8, 2) := by decide +kernel
theorem dX7_times_125 : decode cX7_times 125 = .ok (.ineg, 1) := by decide +kernel
theorem dX7_times_126 : decode cX7_times 126 = .ok (.goto 5, 3) := by decide +kernel
theorem dX7_times_129 : decode cX7_times 129 = .ok (.iload 8, 2) := by decide +kernel
theorem dX7_times_131 : decode cX7_times 131 = .ok (.ireturn, 1) := by decide +kernel
theorem dX7_forehand_0 : decode cX7_forehand 0 = .ok (.bipush 24, 2) := by decide +kernel
theorem dX7_forehand_2 : decode cX7_forehand 2 = .ok (.iload_n 1, 1) := by decide +kernel
theorem dX7_forehand_3 : decode cX7_forehand 3 = .ok (.imul, 1) := by decide +kernel
theorem dX7_forehand_4 : decode cX7_forehand 4 = .ok (.istore_n 2, 1) := by decide +kernel
theorem dX7_forehand_5 : decode cX7_forehand 5 = .ok (.iconst 0, 1) := by decide +kernel
theorem dX7_forehand_6 : decode cX7_forehand 6 = .ok (.istore_n 3, 1) := by decide +kernel
theorem dX7_forehand_7 : decode cX7_forehand 7 = .ok (.iconst 0, 1) := by decide +kernel
theorem dX7_forehand_8 : decode cX7_forehand 8 = .ok (.istore 4, 2) := by decide +kernel
theorem dX7_forehand_10 : decode cX7_forehand 10 = .ok (.iload 4, 2) := by decide +kernel
theorem dX7_forehand_12 : decode cX7_forehand 12 = .ok (.bipush 6, 2) := by decide +kernel
theorem dX7_forehand_14 : decode cX7_forehand 14 = .ok (.if_icmp .ge 42, 3) := by decide +kernel
theorem dX7_forehand_17 : decode cX7_forehand 17 = .ok (.iload_n 3, 1) := by decide +kernel
theorem dX7_forehand_18 : decode cX7_forehand 18 = .ok (.aload_n 0, 1) := by decide +kernel
theorem dX7_forehand_19 : decode cX7_forehand 19 = .ok (.aload_n 0, 1) := by decide +kernel
theorem dX7_forehand_20 : decode cX7_forehand 20 = .ok (.getfield 17, 3) := by decide +kernel
theorem dX7_forehand_23 : decode cX7_forehand 23 = .ok (.iload_n 2, 1) := by decide +kernel
theorem dX7_forehand_24 : decode cX7_forehand 24 = .ok (.bipush 8, 2) := by decide +kernel
theorem dX7_forehand_26 : decode cX7_forehand 26 = .ok (.iadd, 1) := by decide +kernel
theorem dX7_forehand_27 : decode cX7_forehand 27 = .ok (.iload 4, 2) := by decide +kernel
theorem dX7_forehand_29 : decode cX7_forehand 29 = .ok (.iadd, 1) := by decide +kernel
theorem dX7_forehand_30 : decode cX7_forehand 30 = .ok (.iaload, 1) := by decide +kernel
theorem dX7_forehand_31 : decode cX7_forehand 31 = .ok (.iconst 2, 1) := by decide +kernel
theorem dX7_forehand_32 : decode cX7_forehand 32 = .ok (.ishr, 1) := by decide +kernel
theorem dX7_forehand_33 : decode cX7_forehand 33 = .ok (.aload_n 0, 1) := by decide +kernel
theorem dX7_forehand_34 : decode cX7_forehand 34 = .ok (.getfield 17, 3) := by decide +kernel
theorem dX7_forehand_37 : decode cX7_forehand 37 = .ok (.iload_n 2, 1) := by decide +kernel
theorem dX7_forehand_38 : decode cX7_forehand 38 = .ok (.bipush 16, 2) := by decide +kernel
theorem dX7_forehand_40 : decode cX7_forehand 40 = .ok (.iadd, 1) := by decide +kernel
theorem dX7_forehand_41 : decode cX7_forehand 41 = .ok (.iload 4, 2) := by decide +kernel
theorem dX7_forehand_43 : decode cX7_forehand 43 = .ok (.iadd, 1) := by decide +kernel
theorem dX7_forehand_44 : decode cX7_forehand 44 = .ok (.iaload, 1) := by decide +kernel
theorem dX7_forehand_45 : decode cX7_forehand 45 = .ok (.invokevirtual 137, 3) := by decide +kernel
theorem dX7_forehand_48 : decode cX7_forehand 48 = .ok (.iadd, 1) := by decide +kernel
theorem dX7_forehand_49 : decode cX7_forehand 49 = .ok (.istore_n 3, 1) := by decide +kernel
theorem dX7_forehand_50 : decode cX7_forehand 50 = .ok (.iinc 4 1, 3) := by decide +kernel
theorem dX7_forehand_53 : decode cX7_forehand 53 = .ok (.goto (-43), 3) := by decide +kernel
theorem dX7_forehand_56 : decode cX7_forehand 56 = .ok (.aload_n 0, 1) := by decide +kernel
theorem dX7_forehand_57 : decode cX7_forehand 57 = .ok (.iload_n 3, 1) := by decide +kernel
theorem dX7_forehand_58 : decode cX7_forehand 58 = .ok (.invokevirtual 140, 3) := by decide +kernel
theorem dX7_forehand_61 : decode cX7_forehand 61 = .ok (.istore_n 3, 1) := by decide +kernel
theorem dX7_forehand_62 : decode cX7_forehand 62 = .ok (.aload_n 0, 1) := by decide +kernel
theorem dX7_forehand_63 : decode cX7_forehand 63 = .ok (.iload_n 3, 1) := by decide +kernel
theorem dX7_forehand_64 : decode cX7_forehand 64 = .ok (.iconst 1, 1) := by decide +kernel
theorem dX7_forehand_65 : decode cX7_forehand 65 = .ok (.ishr, 1) := by decide +kernel
theorem dX7_forehand_66 : decode cX7_forehand 66 = .ok (.putfield 143, 3) := by decide +kernel
theorem dX7_forehand_69 : decode cX7_forehand 69 = .ok (.aload_n 0, 1) := by decide +kernel
theorem dX7_forehand_70 : decode cX7_forehand 70 = .ok (.aload_n 0, 1) := by decide +kernel
theorem dX7_forehand_71 : decode cX7_forehand 71 = .ok (.iload_n 3, 1) := by decide +kernel
theorem dX7_forehand_72 : decode cX7_forehand 72 = .ok (.aload_n 0, 1) := by decide +kernel
theorem dX7_forehand_73 : decode cX7_forehand 73 = .ok (.aload_n 0, 1) := by decide +kernel
theorem dX7_forehand_74 : decode cX7_forehand 74 = .ok (.getfield 17, 3) := by decide +kernel
theorem dX7_forehand_77 : decode cX7_forehand 77 = .ok (.iload_n 2, 1) := by decide +kernel
theorem dX7_forehand_78 : decode cX7_forehand 78 = .ok (.bipush 7, 2) := by decide +kernel
theorem dX7_forehand_80 : decode cX7_forehand 80 = .ok (.iadd, 1) := by decide +kernel
theorem dX7_forehand_81 : decode cX7_forehand 81 = .ok (.iaload, 1) := by decide +kernel
theorem dX7_forehand_82 : decode cX7_forehand 82 = .ok (.iconst 2, 1) := by decide +kernel
theorem dX7_forehand_83 : decode cX7_forehand 83 = .ok (.ishr, 1) := by decide +kernel
theorem dX7_forehand_84 : decode cX7_forehand 84 = .ok (.aload_n 0, 1) := by decide +kernel
theorem dX7_forehand_85 : decode cX7_forehand 85 = .ok (.getfield 17, 3) := by decide +kernel
theorem dX7_forehand_88 : decode cX7_forehand 88 = .ok (.iload_n 2, 1) := by decide +kernel
theorem dX7_forehand_89 : decode cX7_forehand 89 = .ok (.bipush 15, 2) := by decide +kernel
theorem dX7_forehand_91 : decode cX7_forehand 91 = .ok (.iadd, 1) := by decide +kernel
theorem dX7_forehand_92 : decode cX7_forehand 92 = .ok (.iaload, 1) := by decide +kernel
theorem dX7_forehand_93 : decode cX7_forehand 93 = .ok (.invokevirtual 137, 3) := by decide +kernel
theorem dX7_forehand_96 : decode cX7_forehand 96 = .ok (.iadd, 1) := by decide +kernel
theorem dX7_forehand_97 : decode cX7_forehand 97 = .ok (.aload_n 0, 1) := by decide +kernel
theorem dX7_forehand_98 : decode cX7_forehand 98 = .ok (.aload_n 0, 1) := by decide +kernel
theorem dX7_forehand_99 : decode cX7_forehand 99 = .ok (.getfield 17, 3) := by decide +kernel
theorem dX7_forehand_102 : decode cX7_forehand 102 = .ok (.iload_n 2, 1) := by decide +kernel
theorem dX7_forehand_103 : decode cX7_forehand 103 = .ok (.bipush 6, 2) := by decide +kernel
theorem dX7_forehand_105 : decode cX7_forehand 105 = .ok (.iadd, 1) := by decide +kernel
theorem dX7_forehand_106 : decode cX7_forehand 106 = .ok (.iaload, 1) := by decide +kernel
theorem dX7_forehand_107 : decode cX7_forehand 107 = .ok (.iconst 2, 1) := by decide +kernel
theorem dX7_forehand_108 : decode cX7_forehand 108 = .ok (.ishr, 1) := by decide +kernel
theorem dX7_forehand_109 : decode cX7_forehand 109 = .ok (.aload_n 0, 1) := by decide +kernel
theorem dX7_forehand_110 : decode cX7_forehand 110 = .ok (.getfield 17, 3) := by decide +kernel
theorem dX7_forehand_113 : decode cX7_forehand 113 = .ok (.iload_n 2, 1) := by decide +kernel
theorem dX7_forehand_114 : decode cX7_forehand 114 = .ok (.bipush 14, 2) := by decide +kernel
theorem dX7_forehand_116 : decode cX7_forehand 116 = .ok (.iadd, 1) := by decide +kernel
theorem dX7_forehand_117 : decode cX7_forehand 117 = .ok (.iaload, 1) := by decide +kernel
theorem dX7_forehand_118 : decode cX7_forehand 118 = .ok (.invokevirtual 137, 3) := by decide +kernel
theorem dX7_forehand_121 : decode cX7_forehand 121 = .ok (.iadd, 1) := by decide +kernel
theorem dX7_forehand_122 : decode cX7_forehand 122 = .ok (.invokevirtual 140, 3) := by decide +kernel
theorem dX7_forehand_125 : decode cX7_forehand 125 = .ok (.iconst 1, 1) := by decide +kernel
theorem dX7_forehand_126 : decode cX7_forehand 126 = .ok (.ishr, 1) := by decide +kernel
theorem dX7_forehand_127 : decode cX7_forehand 127 = .ok (.putfield 146, 3) := by decide +kernel
theorem dX7_forehand_130 : decode cX7_forehand 130 = .ok (.aload_n 0, 1) := by decide +kernel
theorem dX7_forehand_131 : decode cX7_forehand 131 = .ok (.getfield 17, 3) := by decide +kernel
theorem dX7_forehand_134 : decode cX7_forehand 134 = .ok (.iload_n 2, 1) := by decide +kernel
theorem dX7_forehand_135 : decode cX7_forehand 135 = .ok (.iaload, 1) := by decide +kernel
theorem dX7_forehand_136 : decode cX7_forehand 136 = .ok (.bipush 6, 2) := by decide +kernel
theorem dX7_forehand_138 : decode cX7_forehand 138 = .ok (.ishr, 1) := by decide +kernel
theorem dX7_forehand_139 : decode cX7_forehand 139 = .ok (.istore 4, 2) := by decide +kernel
theorem dX7_forehand_141 : decode cX7_forehand 141 = .ok (.aload_n 0, 1) := by decide +kernel
theorem dX7_forehand_142 : decode cX7_forehand 142 = .ok (.getfield 17, 3) := by decide +kernel
theorem dX7_forehand_145 : decode cX7_forehand 145 = .ok (.iload_n 2, 1) := by decide +kernel
theorem dX7_forehand_146 : decode cX7_forehand 146 = .ok (.iconst 1, 1) := by decide +kernel
theorem dX7_forehand_147 : decode cX7_forehand 147 = .ok (.iadd, 1) := by decide +kernel
theorem dX7_forehand_148 : decode cX7_forehand 148 = .ok (.iaload, 1) := by decide +kernel
theorem dX7_forehand_149 : decode cX7_forehand 149 = .ok (.iload 4, 2) := by decide +kernel
theorem dX7_forehand_151 : decode cX7_forehand 151 = .ok (.isub, 1) := by decide +kernel
theorem dX7_forehand_152 : decode cX7_forehand 152 = .ok (.istore 5, 2) := by decide +kernel
theorem dX7_forehand_154 : decode cX7_forehand 154 = .ok (.aload_n 0, 1) := by decide +kernel
theorem dX7_forehand_155 : decode cX7_forehand 155 = .ok (.getfield 17, 3) := by decide +kernel
theorem dX7_forehand_158 : decode cX7_forehand 158 = .ok (.iload_n 2, 1) := by decide +kernel
theorem dX7_forehand_159 : decode cX7_forehand 159 = .ok (.iconst 4, 1) := by decide +kernel
theorem dX7_forehand_160 : decode cX7_forehand 160 = .ok (.iadd, 1) := by decide +kernel
theorem dX7_forehand_161 : decode cX7_forehand 161 = .ok (.iaload, 1) := by decide +kernel
theorem dX7_forehand_162 : decode cX7_forehand 162 = .ok (.iconst 2, 1) := by decide +kernel
theorem dX7_forehand_163 : decode cX7_forehand 163 = .ok (.ishr, 1) := by decide +kernel
theorem dX7_forehand_164 : decode cX7_forehand 164 = .ok (.istore 6, 2) := by decide +kernel
theorem dX7_forehand_166 : decode cX7_forehand 166 = .ok (.aload_n 0, 1) := by decide +kernel
theorem dX7_forehand_167 : decode cX7_forehand 167 = .ok (.iload 4, 2) := by decide +kernel
theorem dX7_forehand_169 : decode cX7_forehand 169 = .ok (.putfield 149, 3) := by decide +kernel
theorem dX7_forehand_172 : decode cX7_forehand 172 = .ok (.aload_n 0, 1) := by decide +kernel
theorem dX7_forehand_173 : decode cX7_forehand 173 = .ok (.getfield 17, 3) := by decide +kernel
theorem dX7_forehand_176 : decode cX7_forehand 176 = .ok (.iload_n 2, 1) := by decide +kernel
theorem dX7_forehand_177 : decode cX7_forehand 177 = .ok (.iconst 4, 1) := by decide +kernel
theorem dX7_forehand_178 : decode cX7_forehand 178 = .ok (.iadd, 1) := by decide +kernel
theorem dX7_forehand_179 : decode cX7_forehand 179 = .ok (.iaload, 1) := by decide +kernel
theorem dX7_forehand_180 : decode cX7_forehand 180 = .ok (.sipush 256, 3) := by decide +kernel
theorem dX7_forehand_183 : decode cX7_forehand 183 = .ok (.if_icmp .lt 18, 3) := by decide +kernel
theorem dX7_forehand_186 : decode cX7_forehand 186 = .ok (.aload_n 0, 1) := by decide +kernel
theorem dX7_forehand_187 : decode cX7_forehand 187 = .ok (.aload_n 0, 1) := by decide +kernel
theorem dX7_forehand_188 : decode cX7_forehand 188 = .ok (.getfield 17, 3) := by decide +kernel
theorem dX7_forehand_191 : decode cX7_forehand 191 = .ok (.iload_n 2, 1) := by decide +kernel
theorem dX7_forehand_192 : decode cX7_forehand 192 = .ok (.iconst 1, 1) := by decide +kernel
theorem dX7_forehand_193 : decode cX7_forehand 193 = .ok (.iadd, 1) := by decide +kernel
theorem dX7_forehand_194 : decode cX7_forehand 194 = .ok (.iaload, 1) := by decide +kernel
theorem dX7_forehand_195 : decode cX7_forehand 195 = .ok (.putfield 149, 3) := by decide +kernel
theorem dX7_forehand_198 : decode cX7_forehand 198 = .ok (.goto 49, 3) := by decide +kernel
theorem dX7_forehand_201 : decode cX7_forehand 201 = .ok (.iload 5, 2) := by decide +kernel
theorem dX7_forehand_203 : decode cX7_forehand 203 = .ok (.ifCond .le 21, 3) := by decide +kernel
theorem dX7_forehand_206 : decode cX7_forehand 206 = .ok (.aload_n 0, 1) := by decide +kernel
theorem dX7_forehand_207 : decode cX7_forehand 207 = .ok (.iload 4, 2) := by decide +kernel
theorem dX7_forehand_209 : decode cX7_forehand 209 = .ok (.iload 5, 2) := by decide +kernel
theorem dX7_forehand_211 : decode cX7_forehand 211 = .ok (.iload 6, 2) := by decide +kernel
theorem dX7_forehand_213 : decode cX7_forehand 213 = .ok (.imul, 1) := by decide +kernel
theorem dX7_forehand_214 : decode cX7_forehand 214 = .ok (.bipush 6, 2) := by decide +kernel
theorem dX7_forehand_216 : decode cX7_forehand 216 = .ok (.ishr, 1) := by decide +kernel
theorem dX7_forehand_217 : decode cX7_forehand 217 = .ok (.iadd, 1) := by decide +kernel
theorem dX7_forehand_218 : decode cX7_forehand 218 = .ok (.putfield 149, 3) := by decide +kernel
theorem dX7_forehand_221 : decode cX7_forehand 221 = .ok (.goto 26, 3) := by decide +kernel
theorem dX7_forehand_224 : decode cX7_forehand 224 = .ok (.iload 5, 2) := by decide +kernel
theorem dX7_forehand_226 : decode cX7_forehand 226 = .ok (.ifCond .ge 21, 3) := by decide +kernel
theorem dX7_forehand_229 : decode cX7_forehand 229 = .ok (.aload_n 0, 1) := by decide +kernel
theorem dX7_forehand_230 : decode cX7_forehand 230 = .ok (.iload 4, 2) := by decide +kernel
theorem dX7_forehand_232 : decode cX7_forehand 232 = .ok (.iload 5, 2) := by decide +kernel
theorem dX7_forehand_234 : decode cX7_forehand 234 = .ok (.iload 6, 2) := by decide +kernel
theorem dX7_forehand_236 : decode cX7_forehand 236 = .ok (.imul, 1) := by decide +kernel
theorem dX7_forehand_237 : decode cX7_forehand 237 = .ok (.bipush 63, 2) := by decide +kernel
theorem dX7_forehand_239 : decode cX7_forehand 239 = .ok (.iadd, 1) := by decide +kernel
theorem dX7_forehand_240 : decode cX7_forehand 240 = .ok (.bipush 6, 2) := by decide +kernel
theorem dX7_forehand_242 : decode cX7_forehand 242 = .ok (.ishr, 1) := by decide +kernel
theorem dX7_forehand_243 : decode cX7_forehand 243 = .ok (.iadd, 1) := by decide +kernel
theorem dX7_forehand_244 : decode cX7_forehand 244 = .ok (.putfield 149, 3) := by decide +kernel
theorem dX7_forehand_247 : decode cX7_forehand 247 = .ok (.return_, 1) := by decide +kernel
theorem dX7_says726_0 : decode cX7_says726 0 = .ok (.aload_n 0, 1) := by decide +kernel
theorem dX7_says726_1 : decode cX7_says726 1 = .ok (.iload_n 1, 1) := by decide +kernel
theorem dX7_says726_2 : decode cX7_says726 2 = .ok (.invokevirtual 152, 3) := by decide +kernel
theorem dX7_says726_5 : decode cX7_says726 5 = .ok (.iload_n 3, 1) := by decide +kernel
theorem dX7_says726_6 : decode cX7_says726 6 = .ok (.iconst 2, 1) := by decide +kernel
theorem dX7_says726_7 : decode cX7_says726 7 = .ok (.ishr, 1) := by decide +kernel
theorem dX7_says726_8 : decode cX7_says726 8 = .ok (.aload_n 0, 1) := by decide +kernel
theorem dX7_says726_9 : decode cX7_says726 9 = .ok (.getfield 146, 3) := by decide +kernel
theorem dX7_says726_12 : decode cX7_says726 12 = .ok (.isub, 1) := by decide +kernel
theorem dX7_says726_13 : decode cX7_says726 13 = .ok (.istore 4, 2) := by decide +kernel
theorem dX7_says726_15 : decode cX7_says726 15 = .ok (.aload_n 0, 1) := by decide +kernel
theorem dX7_says726_16 : decode cX7_says726 16 = .ok (.iload 4, 2) := by decide +kernel
theorem dX7_says726_18 : decode cX7_says726 18 = .ok (.invokevirtual 127, 3) := by decide +kernel
theorem dX7_says726_21 : decode cX7_says726 21 = .ok (.istore 5, 2) := by decide +kernel
theorem dX7_says726_23 : decode cX7_says726 23 = .ok (.aload_n 0, 1) := by decide +kernel
theorem dX7_says726_24 : decode cX7_says726 24 = .ok (.iload 5, 2) := by decide +kernel
theorem dX7_says726_26 : decode cX7_says726 26 = .ok (.iconst 1, 1) := by decide +kernel
theorem dX7_says726_27 : decode cX7_says726 27 = .ok (.ishr, 1) := by decide +kernel
theorem dX7_says726_28 : decode cX7_says726 28 = .ok (.invokevirtual 134, 3) := by decide +kernel
theorem dX7_says726_31 : decode cX7_says726 31 = .ok (.istore 6, 2) := by decide +kernel
theorem dX7_says726_33 : decode cX7_says726 33 = .ok (.sipush 128, 3) := by decide +kernel
theorem dX7_says726_36 : decode cX7_says726 36 = .ok (.iload 6, 2) := by decide +kernel
theorem dX7_says726_38 : decode cX7_says726 38 = .ok (.imul, 1) := by decide +kernel
theorem dX7_says726_39 : decode cX7_says726 39 = .ok (.sipush 128, 3) := by decide +kernel
theorem dX7_says726_42 : decode cX7_says726 42 = .ok (.iload 5, 2) := by decide +kernel
theorem dX7_says726_44 : decode cX7_says726 44 = .ok (.imul, 1) := by decide +kernel
theorem dX7_says726_45 : decode cX7_says726 45 = .ok (.iload 6, 2) := by decide +kernel
theorem dX7_says726_47 : decode cX7_says726 47 = .ok (.ishr, 1) := by decide +kernel
theorem dX7_says726_48 : decode cX7_says726 48 = .ok (.bipush 127, 2) := by decide +kernel
theorem dX7_says726_50 : decode cX7_says726 50 = .ok (.iand, 1) := by decide +kernel
theorem dX7_says726_51 : decode cX7_says726 51 = .ok (.iadd, 1) := by decide +kernel
theorem dX7_says726_52 : decode cX7_says726 52 = .ok (.aload_n 0, 1) := by decide +kernel
theorem dX7_says726_53 : decode cX7_says726 53 = .ok (.getfield 149, 3) := by decide +kernel
theorem dX7_says726_56 : decode cX7_says726 56 = .ok (.iconst 2, 1) := by decide +kernel
theorem dX7_says726_57 : decode cX7_says726 57 = .ok (.ishr, 1) := by decide +kernel
theorem dX7_says726_58 : decode cX7_says726 58 = .ok (.isub, 1) := by decide +kernel
theorem dX7_says726_59 : decode cX7_says726 59 = .ok (.istore 7, 2) := by decide +kernel
theorem dX7_says726_61 : decode cX7_says726 61 = .ok (.iconst 1, 1) := by decide +kernel
theorem dX7_says726_62 : decode cX7_says726 62 = .ok (.iload_n 2, 1) := by decide +kernel
theorem dX7_says726_63 : decode cX7_says726 63 = .ok (.iconst 1, 1) := by decide +kernel
theorem dX7_says726_64 : decode cX7_says726 64 = .ok (.isub, 1) := by decide +kernel
theorem dX7_says726_65 : decode cX7_says726 65 = .ok (.ishl, 1) := by decide +kernel
theorem dX7_says726_66 : decode cX7_says726 66 = .ok (.iconst 1, 1) := by decide +kernel
theorem dX7_says726_67 : decode cX7_says726 67 = .ok (.isub, 1) := by decide +kernel
theorem dX7_says726_68 : decode cX7_says726 68 = .ok (.istore 8, 2) := by decide +kernel
theorem dX7_says726_70 : decode cX7_says726 70 = .ok (.iconst 0, 1) := by decide +kernel
theorem dX7_says726_71 : decode cX7_says726 71 = .ok (.istore 9, 2) := by decide +kernel
theorem dX7_says726_73 : decode cX7_says726 73 = .ok (.iload 9, 2) := by decide +kernel
theorem dX7_says726_75 : decode cX7_says726 75 = .ok (.iload 8, 2) := by decide +kernel
theorem dX7_says726_77 : decode cX7_says726 77 = .ok (.if_icmp .ge 24, 3) := by decide +kernel
theorem dX7_says726_80 : decode cX7_says726 80 = .ok (.iload 7, 2) := by decide +kernel
theorem dX7_says726_82 : decode cX7_says726 82 = .ok (.aload_n 0, 1) := by decide +kernel
theorem dX7_says726_83 : decode cX7_says726 83 = .ok (.iload_n 2, 1) := by decide +kernel
theorem dX7_says726_84 : decode cX7_says726 84 = .ok (.iload 9, 2) := by decide +kernel
theorem dX7_says726_86 : decode cX7_says726 86 = .ok (.invokevirtual 156, 3) := by decide +kernel
theorem dX7_says726_89 : decode cX7_says726 89 = .ok (.if_icmp .lt 12, 3) := by decide +kernel
theorem dX7_says726_92 : decode cX7_says726 92 = .ok (.iload 9, 2) := by decide +kernel
theorem dX7_says726_94 : decode cX7_says726 94 = .ok (.iconst 1, 1) := by decide +kernel
theorem dX7_says726_95 : decode cX7_says726 95 = .ok (.iadd, 1) := by decide +kernel
theorem dX7_says726_96 : decode cX7_says726 96 = .ok (.istore 9, 2) := by decide +kernel
theorem dX7_says726_98 : decode cX7_says726 98 = .ok (.goto (-25), 3) := by decide +kernel
theorem dX7_says726_101 : decode cX7_says726 101 = .ok (.iload 4, 2) := by decide +kernel
theorem dX7_says726_103 : decode cX7_says726 103 = .ok (.ifCond .ge 15, 3) := by decide +kernel
theorem dX7_says726_106 : decode cX7_says726 106 = .ok (.iconst 2, 1) := by decide +kernel
theorem dX7_says726_107 : decode cX7_says726 107 = .ok (.iload 8, 2) := by decide +kernel
theorem dX7_says726_109 : decode cX7_says726 109 = .ok (.imul, 1) := by decide +kernel
theorem dX7_says726_110 : decode cX7_says726 110 = .ok (.iconst 1, 1) := by decide +kernel
theorem dX7_says726_111 : decode cX7_says726 111 = .ok (.iadd, 1) := by decide +kernel
theorem dX7_says726_112 : decode cX7_says726 112 = .ok (.iload 9, 2) := by decide +kernel
theorem dX7_says726_114 : decode cX7_says726 114 = .ok (.isub, 1) := by decide +kernel
theorem dX7_says726_115 : decode cX7_says726 115 = .ok (.goto 5, 3) := by decide +kernel
theorem dX7_says726_118 : decode cX7_says726 118 = .ok (.iload 9, 2) := by decide +kernel
theorem dX7_says726_120 : decode cX7_says726 120 = .ok (.istore 10, 2) := by decide +kernel
theorem dX7_says726_122 : decode cX7_says726 122 = .ok (.iload 4, 2) := by decide +kernel
theorem dX7_says726_124 : decode cX7_says726 124 = .ok (.ifCond .lt 25, 3) := by decide +kernel
theorem dX7_says726_127 : decode cX7_says726 127 = .ok (.iload 9, 2) := by decide +kernel
theorem dX7_says726_129 : decode cX7_says726 129 = .ok (.ifCond .ne 20, 3) := by decide +kernel
theorem dX7_says726_132 : decode cX7_says726 132 = .ok (.iload_n 2, 1) := by decide +kernel
theorem dX7_says726_133 : decode cX7_says726 133 = .ok (.iconst 2, 1) := by decide +kernel
theorem dX7_says726_134 : decode cX7_says726 134 = .ok (.if_icmp .ne 7, 3) := by decide +kernel
theorem dX7_says726_137 : decode cX7_says726 137 = .ok (.iconst 0, 1) := by decide +kernel
theorem dX7_says726_138 : decode cX7_says726 138 = .ok (.goto 9, 3) := by decide +kernel
theorem dX7_says726_141 : decode cX7_says726 141 = .ok (.iconst 2, 1) := by decide +kernel
theorem dX7_says726_142 : decode cX7_says726 142 = .ok (.iload 8, 2) := by decide +kernel
theorem dX7_says726_144 : decode cX7_says726 144 = .ok (.imul, 1) := by decide +kernel
theorem dX7_says726_145 : decode cX7_says726 145 = .ok (.iconst 1, 1) := by decide +kernel
theorem dX7_says726_146 : decode cX7_says726 146 = .ok (.iadd, 1) := by decide +kernel
theorem dX7_says726_147 : decode cX7_says726 147 = .ok (.istore 10, 2) := by decide +kernel
theorem dX7_says726_149 : decode cX7_says726 149 = .ok (.aload_n 0, 1) := by decide +kernel
theorem dX7_says726_150 : decode cX7_says726 150 = .ok (.iload_n 1, 1) := by decide +kernel
theorem dX7_says726_151 : decode cX7_says726 151 = .ok (.iload_n 2, 1) := by decide +kernel
theorem dX7_says726_152 : decode cX7_says726 152 = .ok (.iload 10, 2) := by decide +kernel
theorem dX7_says726_154 : decode cX7_says726 154 = .ok (.invokevirtual 159, 3) := by decide +kernel
theorem dX7_says726_157 : decode cX7_says726 157 = .ok (.pop, 1) := by decide +kernel
theorem dX7_says726_158 : decode cX7_says726 158 = .ok (.iload 10, 2) := by decide +kernel
theorem dX7_says726_160 : decode cX7_says726 160 = .ok (.ireturn, 1) := by decide +kernel
theorem dX7_hears726_0 : decode cX7_hears726 0 = .ok (.aload_n 0, 1) := by decide +kernel
theorem dX7_hears726_1 : decode cX7_hears726 1 = .ok (.iload_n 1, 1) := by decide +kernel
theorem dX7_hears726_2 : decode cX7_hears726 2 = .ok (.invokevirtual 152, 3) := by decide +kernel
theorem dX7_hears726_5 : decode cX7_hears726 5 = .ok (.aload_n 0, 1) := by decide +kernel
theorem dX7_hears726_6 : decode cX7_hears726 6 = .ok (.iload_n 1, 1) := by decide +kernel
theorem dX7_hears726_7 : decode cX7_hears726 7 = .ok (.iload_n 2, 1) := by decide +kernel
theorem dX7_hears726_8 : decode cX7_hears726 8 = .ok (.iload_n 3, 1) := by decide +kernel
theorem dX7_hears726_9 : decode cX7_hears726 9 = .ok (.invokevirtual 159, 3) := by decide +kernel
theorem dX7_hears726_12 : decode cX7_hears726 12 = .ok (.ireturn, 1) := by decide +kernel
theorem dX7_floated_0 : decode cX7_floated 0 = .ok (.aload_n 0, 1) := by decide +kernel
theorem dX7_floated_1 : decode cX7_floated 1 = .ok (.iload_n 1, 1) := by decide +kernel
theorem dX7_floated_2 : decode cX7_floated 2 = .ok (.invokevirtual 134, 3) := by decide +kernel
theorem dX7_floated_5 : decode cX7_floated 5 = .ok (.istore_n 3, 1) := by decide +kernel
theorem dX7_floated_6 : decode cX7_floated 6 = .ok (.iload_n 1, 1) := by decide +kernel
theorem dX7_floated_7 : decode cX7_floated 7 = .ok (.ifCond .ne 8, 3) := by decide +kernel
theorem dX7_floated_10 : decode cX7_floated 10 = .ok (.bipush 32, 2) := by decide +kernel
theorem dX7_floated_12 : decode cX7_floated 12 = .ok (.goto 14, 3) := by decide +kernel
theorem dX7_floated_15 : decode cX7_floated 15 = .ok (.bipush 64, 2) := by decide +kernel
theorem dX7_floated_17 : decode cX7_floated 17 = .ok (.iload_n 3, 1) := by decide +kernel
theorem dX7_floated_18 : decode cX7_floated 18 = .ok (.imul, 1) := by decide +kernel
theorem dX7_floated_19 : decode cX7_floated 19 = .ok (.bipush 64, 2) := by decide +kernel
theorem dX7_floated_21 : decode cX7_floated 21 = .ok (.iload_n 1, 1) := by decide +kernel
theorem dX7_floated_22 : decode cX7_floated 22 = .ok (.imul, 1) := by decide +kernel
theorem dX7_floated_23 : decode cX7_floated 23 = .ok (.iload_n 3, 1) := by decide +kernel
theorem dX7_floated_24 : decode cX7_floated 24 = .ok (.ishr, 1) := by decide +kernel
theorem dX7_floated_25 : decode cX7_floated 25 = .ok (.iadd, 1) := by decide +kernel
theorem dX7_floated_26 : decode cX7_floated 26 = .ok (.istore 4, 2) := by decide +kernel
theorem dX7_floated_28 : decode cX7_floated 28 = .ok (.iload_n 2, 1) := by decide +kernel
theorem dX7_floated_29 : decode cX7_floated 29 = .ok (.ifCond .eq 12, 3) := by decide +kernel
theorem dX7_floated_32 : decode cX7_floated 32 = .ok (.iload 4, 2) := by decide +kernel
theorem dX7_floated_34 : decode cX7_floated 34 = .ok (.sipush 1024, 3) := by decide +kernel
theorem dX7_floated_37 : decode cX7_floated 37 = .ok (.isub, 1) := by decide +kernel
theorem dX7_floated_38 : decode cX7_floated 38 = .ok (.goto 5, 3) := by decide +kernel
theorem dX7_floated_41 : decode cX7_floated 41 = .ok (.iload 4, 2) := by decide +kernel
theorem dX7_floated_43 : decode cX7_floated 43 = .ok (.ireturn, 1) := by decide +kernel
theorem dX7_comes_0 : decode cX7_comes 0 = .ok (.bipush 24, 2) := by decide +kernel
theorem dX7_comes_2 : decode cX7_comes 2 = .ok (.iload_n 1, 1) := by decide +kernel
theorem dX7_comes_3 : decode cX7_comes 3 = .ok (.imul, 1) := by decide +kernel
theorem dX7_comes_4 : decode cX7_comes 4 = .ok (.istore 4, 2) := by decide +kernel
theorem dX7_comes_6 : decode cX7_comes 6 = .ok (.aload_n 0, 1) := by decide +kernel
theorem dX7_comes_7 : decode cX7_comes 7 = .ok (.getfield 149, 3) := by decide +kernel
theorem dX7_comes_10 : decode cX7_comes 10 = .ok (.istore 5, 2) := by decide +kernel
theorem dX7_comes_12 : decode cX7_comes 12 = .ok (.aload_n 0, 1) := by decide +kernel
theorem dX7_comes_13 : decode cX7_comes 13 = .ok (.iload_n 2, 1) := by decide +kernel
theorem dX7_comes_14 : decode cX7_comes 14 = .ok (.iload_n 3, 1) := by decide +kernel
theorem dX7_comes_15 : decode cX7_comes 15 = .ok (.invokevirtual 163, 3) := by decide +kernel
theorem dX7_comes_18 : decode cX7_comes 18 = .ok (.iload 5, 2) := by decide +kernel
theorem dX7_comes_20 : decode cX7_comes 20 = .ok (.iconst 2, 1) := by decide +kernel
theorem dX7_comes_21 : decode cX7_comes 21 = .ok (.ishr, 1) := by decide +kernel
theorem dX7_comes_22 : decode cX7_comes 22 = .ok (.iadd, 1) := by decide +kernel
theorem dX7_comes_23 : decode cX7_comes 23 = .ok (.istore 6, 2) := by decide +kernel
theorem dX7_comes_25 : decode cX7_comes 25 = .ok (.iload 6, 2) := by decide +kernel
theorem dX7_comes_27 : decode cX7_comes 27 = .ok (.ifCond .ge 7, 3) := by decide +kernel
theorem dX7_comes_30 : decode cX7_comes 30 = .ok (.iconst 0, 1) := by decide +kernel
theorem dX7_comes_31 : decode cX7_comes 31 = .ok (.goto 28, 3) := by decide +kernel
theorem dX7_comes_34 : decode cX7_comes 34 = .ok (.sipush 128, 3) := by decide +kernel
theorem dX7_comes_37 : decode cX7_comes 37 = .ok (.iload 6, 2) := by decide +kernel
theorem dX7_comes_39 : decode cX7_comes 39 = .ok (.bipush 127, 2) := by decide +kernel
theorem dX7_comes_41 : decode cX7_comes 41 = .ok (.iand, 1) := by decide +kernel
theorem dX7_comes_42 : decode cX7_comes 42 = .ok (.iadd, 1) := by decide +kernel
theorem dX7_comes_43 : decode cX7_comes 43 = .ok (.sipush 128, 3) := by decide +kernel
theorem dX7_comes_46 : decode cX7_comes 46 = .ok (.imul, 1) := by decide +kernel
theorem dX7_comes_47 : decode cX7_comes 47 = .ok (.bipush 14, 2) := by decide +kernel
theorem dX7_comes_49 : decode cX7_comes 49 = .ok (.iload 6, 2) := by decide +kernel
theorem dX7_comes_51 : decode cX7_comes 51 = .ok (.bipush 7, 2) := by decide +kernel
theorem dX7_comes_53 : decode cX7_comes 53 = .ok (.ishr, 1) := by decide +kernel
theorem dX7_comes_54 : decode cX7_comes 54 = .ok (.bipush 15, 2) := by decide +kernel
theorem dX7_comes_56 : decode cX7_comes 56 = .ok (.iand, 1) := by decide +kernel
theorem dX7_comes_57 : decode cX7_comes 57 = .ok (.isub, 1) := by decide +kernel
theorem dX7_comes_58 : decode cX7_comes 58 = .ok (.ishr, 1) := by decide +kernel
theorem dX7_comes_59 : decode cX7_comes 59 = .ok (.istore 7, 2) := by decide +kernel
theorem dX7_comes_61 : decode cX7_comes 61 = .ok (.iload_n 3, 1) := by decide +kernel
theorem dX7_comes_62 : decode cX7_comes 62 = .ok (.iload_n 2, 1) := by decide +kernel
theorem dX7_comes_63 : decode cX7_comes 63 = .ok (.iconst 1, 1) := by decide +kernel
theorem dX7_comes_64 : decode cX7_comes 64 = .ok (.isub, 1) := by decide +kernel
theorem dX7_comes_65 : decode cX7_comes 65 = .ok (.ishr, 1) := by decide +kernel
theorem dX7_comes_66 : decode cX7_comes 66 = .ok (.iconst 1, 1) := by decide +kernel
theorem dX7_comes_67 : decode cX7_comes 67 = .ok (.if_icmp .ne 7, 3) := by decide +kernel
theorem dX7_comes_70 : decode cX7_comes 70 = .ok (.iconst 1, 1) := by decide +kernel
theorem dX7_comes_71 : decode cX7_comes 71 = .ok (.goto 4, 3) := by decide +kernel
theorem dX7_comes_74 : decode cX7_comes 74 = .ok (.iconst 0, 1) := by decide +kernel
theorem dX7_comes_75 : decode cX7_comes 75 = .ok (.istore 8, 2) := by decide +kernel
theorem dX7_comes_77 : decode cX7_comes 77 = .ok (.aload_n 0, 1) := by decide +kernel
theorem dX7_comes_78 : decode cX7_comes 78 = .ok (.iload 8, 2) := by decide +kernel
theorem dX7_comes_80 : decode cX7_comes 80 = .ok (.ifCond .eq 13, 3) := by decide +kernel
theorem dX7_comes_83 : decode cX7_comes 83 = .ok (.aload_n 0, 1) := by decide +kernel
theorem dX7_comes_84 : decode cX7_comes 84 = .ok (.getfield 146, 3) := by decide +kernel
theorem dX7_comes_87 : decode cX7_comes 87 = .ok (.iload 7, 2) := by decide +kernel
theorem dX7_comes_89 : decode cX7_comes 89 = .ok (.isub, 1) := by decide +kernel
theorem dX7_comes_90 : decode cX7_comes 90 = .ok (.goto 10, 3) := by decide +kernel
theorem dX7_comes_93 : decode cX7_comes 93 = .ok (.aload_n 0, 1) := by decide +kernel
theorem dX7_comes_94 : decode cX7_comes 94 = .ok (.getfield 146, 3) := by decide +kernel
theorem dX7_comes_97 : decode cX7_comes 97 = .ok (.iload 7, 2) := by decide +kernel
theorem dX7_comes_99 : decode cX7_comes 99 = .ok (.iadd, 1) := by decide +kernel
theorem dX7_comes_100 : decode cX7_comes 100 = .ok (.invokevirtual 140, 3) := by decide +kernel
theorem dX7_comes_103 : decode cX7_comes 103 = .ok (.istore 9, 2) := by decide +kernel
theorem dX7_comes_105 : decode cX7_comes 105 = .ok (.aload_n 0, 1) := by decide +kernel
theorem dX7_comes_106 : decode cX7_comes 106 = .ok (.iload 9, 2) := by decide +kernel
theorem dX7_comes_108 : decode cX7_comes 108 = .ok (.aload_n 0, 1) := by decide +kernel
theorem dX7_comes_109 : decode cX7_comes 109 = .ok (.getfield 143, 3) := by decide +kernel
theorem dX7_comes_112 : decode cX7_comes 112 = .ok (.iadd, 1) := by decide +kernel
theorem dX7_comes_113 : decode cX7_comes 113 = .ok (.aload_n 0, 1) := by decide +kernel
theorem dX7_comes_114 : decode cX7_comes 114 = .ok (.getfield 146, 3) := by decide +kernel
theorem dX7_comes_117 : decode cX7_comes 117 = .ok (.isub, 1) := by decide +kernel
theorem dX7_comes_118 : decode cX7_comes 118 = .ok (.invokevirtual 140, 3) := by decide +kernel
theorem dX7_comes_121 : decode cX7_comes 121 = .ok (.istore 10, 2) := by decide +kernel
theorem dX7_comes_123 : decode cX7_comes 123 = .ok (.iconst 0, 1) := by decide +kernel
theorem dX7_comes_124 : decode cX7_comes 124 = .ok (.istore 11, 2) := by decide +kernel
theorem dX7_comes_126 : decode cX7_comes 126 = .ok (.aload_n 0, 1) := by decide +kernel
theorem dX7_comes_127 : decode cX7_comes 127 = .ok (.getfield 17, 3) := by decide +kernel
theorem dX7_comes_130 : decode cX7_comes 130 = .ok (.iload 4, 2) := by decide +kernel
theorem dX7_comes_132 : decode cX7_comes 132 = .ok (.iconst 5, 1) := by decide +kernel
theorem dX7_comes_133 : decode cX7_comes 133 = .ok (.iadd, 1) := by decide +kernel
theorem dX7_comes_134 : decode cX7_comes 134 = .ok (.iaload, 1) := by decide +kernel
theorem dX7_comes_135 : decode cX7_comes 135 = .ok (.iconst 1, 1) := by decide +kernel
theorem dX7_comes_136 : decode cX7_comes 136 = .ok (.if_icmp .ne 74, 3) := by decide +kernel
theorem dX7_comes_139 : decode cX7_comes 139 = .ok (.aload_n 0, 1) := by decide +kernel
theorem dX7_comes_140 : decode cX7_comes 140 = .ok (.getfield 17, 3) := by decide +kernel
theorem dX7_comes_143 : decode cX7_comes 143 = .ok (.iload 4, 2) := by decide +kernel
theorem dX7_comes_145 : decode cX7_comes 145 = .ok (.iaload, 1) := by decide +kernel
theorem dX7_comes_146 : decode cX7_comes 146 = .ok (.bipush 15, 2) := by decide +kernel
theorem dX7_comes_148 : decode cX7_comes 148 = .ok (.ishr, 1) := by decide +kernel
theorem dX7_comes_149 : decode cX7_comes 149 = .ok (.istore 12, 2) := by decide +kernel
theorem dX7_comes_151 : decode cX7_comes 151 = .ok (.iload 12, 2) := by decide +kernel
theorem dX7_comes_153 : decode cX7_comes 153 = .ok (.bipush 9, 2) := by decide +kernel
theorem dX7_comes_155 : decode cX7_comes 155 = .ok (.if_icmp .le 9, 3) := by decide +kernel
theorem dX7_comes_158 : decode cX7_comes 158 = .ok (.sipush 31744, 3) := by decide +kernel
theorem dX7_comes_161 : decode cX7_comes 161 = .ok (.goto 22, 3) := by decide +kernel
theorem dX7_comes_164 : decode cX7_comes 164 = .ok (.bipush 32, 2) := by decide +kernel
theorem dX7_comes_166 : decode cX7_comes 166 = .ok (.aload_n 0, 1) := by decide +kernel
theorem dX7_comes_167 : decode cX7_comes 167 = .ok (.getfield 17, 3) := by decide +kernel
theorem dX7_comes_170 : decode cX7_comes 170 = .ok (.iload 4, 2) := by decide +kernel
theorem dX7_comes_172 : decode cX7_comes 172 = .ok (.iaload, 1) := by decide +kernel
theorem dX7_comes_173 : decode cX7_comes 173 = .ok (.bipush 10, 2) := by decide +kernel
theorem dX7_comes_175 : decode cX7_comes 175 = .ok (.ishr, 1) := by decide +kernel
theorem dX7_comes_176 : decode cX7_comes 176 = .ok (.bipush 31, 2) := by decide +kernel
theorem dX7_comes_178 : decode cX7_comes 178 = .ok (.iand, 1) := by decide +kernel
theorem dX7_comes_179 : decode cX7_comes 179 = .ok (.iadd, 1) := by decide +kernel
theorem dX7_comes_180 : decode cX7_comes 180 = .ok (.iload 12, 2) := by decide +kernel
theorem dX7_comes_182 : decode cX7_comes 182 = .ok (.ishl, 1) := by decide +kernel
theorem dX7_comes_183 : decode cX7_comes 183 = .ok (.istore 13, 2) := by decide +kernel
theorem dX7_comes_185 : decode cX7_comes 185 = .ok (.iload 13, 2) := by decide +kernel
theorem dX7_comes_187 : decode cX7_comes 187 = .ok (.iload 13, 2) := by decide +kernel
theorem dX7_comes_189 : decode cX7_comes 189 = .ok (.iconst 1, 1) := by decide +kernel
theorem dX7_comes_190 : decode cX7_comes 190 = .ok (.ishr, 1) := by decide +kernel
theorem dX7_comes_191 : decode cX7_comes 191 = .ok (.iadd, 1) := by decide +kernel
theorem dX7_comes_192 : decode cX7_comes 192 = .ok (.iconst 1, 1) := by decide +kernel
theorem dX7_comes_193 : decode cX7_comes 193 = .ok (.ishr, 1) := by decide +kernel
theorem dX7_comes_194 : decode cX7_comes 194 = .ok (.istore 14, 2) := by decide +kernel
theorem dX7_comes_196 : decode cX7_comes 196 = .ok (.iload 7, 2) := by decide +kernel
theorem dX7_comes_198 : decode cX7_comes 198 = .ok (.iload 14, 2) := by decide +kernel
theorem dX7_comes_200 : decode cX7_comes 200 = .ok (.if_icmp .le 7, 3) := by decide +kernel
theorem dX7_comes_203 : decode cX7_comes 203 = .ok (.iconst 1, 1) := by decide +kernel
theorem dX7_comes_204 : decode cX7_comes 204 = .ok (.goto 4, 3) := by decide +kernel
theorem dX7_comes_207 : decode cX7_comes 207 = .ok (.iconst 0, 1) := by decide +kernel
theorem dX7_comes_208 : decode cX7_comes 208 = .ok (.istore 11, 2) := by decide +kernel
theorem dX7_comes_210 : decode cX7_comes 210 = .ok (.aload_n 0, 1) := by decide +kernel
theorem dX7_comes_211 : decode cX7_comes 211 = .ok (.getfield 17, 3) := by decide +kernel
theorem dX7_comes_214 : decode cX7_comes 214 = .ok (.iload 4, 2) := by decide +kernel
theorem dX7_comes_216 : decode cX7_comes 216 = .ok (.iconst 1, 1) := by decide +kernel
theorem dX7_comes_217 : decode cX7_comes 217 = .ok (.iadd, 1) := by decide +kernel
theorem dX7_comes_218 : decode cX7_comes 218 = .ok (.aload_n 0, 1) := by decide +kernel
theorem dX7_comes_219 : decode cX7_comes 219 = .ok (.iload 5, 2) := by decide +kernel
theorem dX7_comes_221 : decode cX7_comes 221 = .ok (.aload_n 0, 1) := by decide +kernel
theorem dX7_comes_222 : decode cX7_comes 222 = .ok (.iload_n 2, 1) := by decide +kernel
theorem dX7_comes_223 : decode cX7_comes 223 = .ok (.iload_n 3, 1) := by decide +kernel
theorem dX7_comes_224 : decode cX7_comes 224 = .ok (.invokevirtual 166, 3) := by decide +kernel
theorem dX7_comes_227 : decode cX7_comes 227 = .ok (.iload 5, 2) := by decide +kernel
theorem dX7_comes_229 : decode cX7_comes 229 = .ok (.isub, 1) := by decide +kernel
theorem dX7_comes_230 : decode cX7_comes 230 = .ok (.iconst 5, 1) := by decide +kernel
theorem dX7_comes_231 : decode cX7_comes 231 = .ok (.ishr, 1) := by decide +kernel
theorem dX7_comes_232 : decode cX7_comes 232 = .ok (.iadd, 1) := by decide +kernel
theorem dX7_comes_233 : decode cX7_comes 233 = .ok (.sipush 544, 3) := by decide +kernel
theorem dX7_comes_236 : decode cX7_comes 236 = .ok (.sipush 5120, 3) := by decide +kernel
theorem dX7_comes_239 : decode cX7_comes 239 = .ok (.invokevirtual 169, 3) := by decide +kernel
theorem dX7_comes_242 : decode cX7_comes 242 = .ok (.iastore, 1) := by decide +kernel
theorem dX7_comes_243 : decode cX7_comes 243 = .ok (.aload_n 0, 1) := by decide +kernel
theorem dX7_comes_244 : decode cX7_comes 244 = .ok (.getfield 17, 3) := by decide +kernel
theorem dX7_comes_247 : decode cX7_comes 247 = .ok (.iload 4, 2) := by decide +kernel
theorem dX7_comes_249 : decode cX7_comes 249 = .ok (.aload_n 0, 1) := by decide +kernel
theorem dX7_comes_250 : decode cX7_comes 250 = .ok (.getfield 17, 3) := by decide +kernel
theorem dX7_comes_253 : decode cX7_comes 253 = .ok (.iload 4, 2) := by decide +kernel
theorem dX7_comes_255 : decode cX7_comes 255 = .ok (.iaload, 1) := by decide +kernel
theorem dX7_comes_256 : decode cX7_comes 256 = .ok (.aload_n 0, 1) := by decide +kernel
theorem dX7_comes_257 : decode cX7_comes 257 = .ok (.getfield 17, 3) := by decide +kernel
theorem dX7_comes_260 : decode cX7_comes 260 = .ok (.iload 4, 2) := by decide +kernel
theorem dX7_comes_262 : decode cX7_comes 262 = .ok (.iconst 1, 1) := by decide +kernel
theorem dX7_comes_263 : decode cX7_comes 263 = .ok (.iadd, 1) := by decide +kernel
theorem dX7_comes_264 : decode cX7_comes 264 = .ok (.iaload, 1) := by decide +kernel
theorem dX7_comes_265 : decode cX7_comes 265 = .ok (.iadd, 1) := by decide +kernel
theorem dX7_comes_266 : decode cX7_comes 266 = .ok (.aload_n 0, 1) := by decide +kernel
theorem dX7_comes_267 : decode cX7_comes 267 = .ok (.getfield 17, 3) := by decide +kernel
theorem dX7_comes_270 : decode cX7_comes 270 = .ok (.iload 4, 2) := by decide +kernel
theorem dX7_comes_272 : decode cX7_comes 272 = .ok (.iaload, 1) := by decide +kernel
theorem dX7_comes_273 : decode cX7_comes 273 = .ok (.ineg, 1) := by decide +kernel
theorem dX7_comes_274 : decode cX7_comes 274 = .ok (.bipush 6, 2) := by decide +kernel
theorem dX7_comes_276 : decode cX7_comes 276 = .ok (.ishr, 1) := by decide +kernel
theorem dX7_comes_277 : decode cX7_comes 277 = .ok (.iadd, 1) := by decide +kernel
theorem dX7_comes_278 : decode cX7_comes 278 = .ok (.iastore, 1) := by decide +kernel
theorem dX7_comes_279 : decode cX7_comes 279 = .ok (.aload_n 0, 1) := by decide +kernel
theorem dX7_comes_280 : decode cX7_comes 280 = .ok (.iload 10, 2) := by decide +kernel
theorem dX7_comes_282 : decode cX7_comes 282 = .ok (.invokevirtual 123, 3) := by decide +kernel
theorem dX7_comes_285 : decode cX7_comes 285 = .ok (.istore 12, 2) := by decide +kernel
theorem dX7_comes_287 : decode cX7_comes 287 = .ok (.iconst 0, 1) := by decide +kernel
theorem dX7_comes_288 : decode cX7_comes 288 = .ok (.istore 13, 2) := by decide +kernel
theorem dX7_comes_290 : decode cX7_comes 290 = .ok (.iload 11, 2) := by decide +kernel
theorem dX7_comes_292 : decode cX7_comes 292 = .ok (.iconst 1, 1) := by decide +kernel
theorem dX7_comes_293 : decode cX7_comes 293 = .ok (.if_icmp .ne 34, 3) := by decide +kernel
theorem dX7_comes_296 : decode cX7_comes 296 = .ok (.bipush 6, 2) := by decide +kernel
theorem dX7_comes_298 : decode cX7_comes 298 = .ok (.istore 14, 2) := by decide +kernel
theorem dX7_comes_300 : decode cX7_comes 300 = .ok (.iload 14, 2) := by decide +kernel
theorem dX7_comes_302 : decode cX7_comes 302 = .ok (.bipush 14, 2) := by decide +kernel
theorem dX7_comes_304 : decode cX7_comes 304 = .ok (.if_icmp .ge 20, 3) := by decide +kernel
theorem dX7_comes_307 : decode cX7_comes 307 = .ok (.aload_n 0, 1) := by decide +kernel
theorem dX7_comes_308 : decode cX7_comes 308 = .ok (.getfield 17, 3) := by decide +kernel
theorem dX7_comes_311 : decode cX7_comes 311 = .ok (.iload 4, 2) := by decide +kernel
theorem dX7_comes_313 : decode cX7_comes 313 = .ok (.iload 14, 2) := by decide +kernel
theorem dX7_comes_315 : decode cX7_comes 315 = .ok (.iadd, 1) := by decide +kernel
theorem dX7_comes_316 : decode cX7_comes 316 = .ok (.iconst 0, 1) := by decide +kernel
theorem dX7_comes_317 : decode cX7_comes 317 = .ok (.iastore, 1) := by decide +kernel
theorem dX7_comes_318 : decode cX7_comes 318 = .ok (.iinc 14 1, 3) := by decide +kernel
theorem dX7_comes_321 : decode cX7_comes 321 = .ok (.goto (-21), 3) := by decide +kernel
theorem dX7_comes_324 : decode cX7_comes 324 = .ok (.goto 129, 3) := by decide +kernel
theorem dX7_comes_327 : decode cX7_comes 327 = .ok (.aload_n 0, 1) := by decide +kernel
theorem dX7_comes_328 : decode cX7_comes 328 = .ok (.iload 4, 2) := by decide +kernel
theorem dX7_comes_330 : decode cX7_comes 330 = .ok (.iload 12, 2) := by decide +kernel
theorem dX7_comes_332 : decode cX7_comes 332 = .ok (.iload 10, 2) := by decide +kernel
theorem dX7_comes_334 : decode cX7_comes 334 = .ok (.invokevirtual 172, 3) := by decide +kernel
theorem dX7_comes_337 : decode cX7_comes 337 = .ok (.istore 13, 2) := by decide +kernel
theorem dX7_comes_339 : decode cX7_comes 339 = .ok (.iconst 0, 1) := by decide +kernel
theorem dX7_comes_340 : decode cX7_comes 340 = .ok (.istore 14, 2) := by decide +kernel
theorem dX7_comes_342 : decode cX7_comes 342 = .ok (.iload 14, 2) := by decide +kernel
theorem dX7_comes_344 : decode cX7_comes 344 = .ok (.bipush 6, 2) := by decide +kernel
theorem dX7_comes_346 : decode cX7_comes 346 = .ok (.if_icmp .ge 107, 3) := by decide +kernel
theorem dX7_comes_349 : decode cX7_comes 349 = .ok (.aload_n 0, 1) := by decide +kernel
theorem dX7_comes_350 : decode cX7_comes 350 = .ok (.getfield 17, 3) := by decide +kernel
theorem dX7_comes_353 : decode cX7_comes 353 = .ok (.iload 4, 2) := by decide +kernel
theorem dX7_comes_355 : decode cX7_comes 355 = .ok (.bipush 8, 2) := by decide +kernel
theorem dX7_comes_357 : decode cX7_comes 357 = .ok (.iadd, 1) := by decide +kernel
theorem dX7_comes_358 : decode cX7_comes 358 = .ok (.iload 14, 2) := by decide +kernel
theorem dX7_comes_360 : decode cX7_comes 360 = .ok (.iadd, 1) := by decide +kernel
theorem dX7_comes_361 : decode cX7_comes 361 = .ok (.iaload, 1) := by decide +kernel
theorem dX7_comes_362 : decode cX7_comes 362 = .ok (.istore 15, 2) := by decide +kernel
theorem dX7_comes_364 : decode cX7_comes 364 = .ok (.iload 15, 2) := by decide +kernel
theorem dX7_comes_366 : decode cX7_comes 366 = .ok (.iload 15, 2) := by decide +kernel
theorem dX7_comes_368 : decode cX7_comes 368 = .ok (.iload_n 2, 1) := by decide +kernel
theorem dX7_comes_369 : decode cX7_comes 369 = .ok (.iconst 5, 1) := by decide +kernel
theorem dX7_comes_370 : decode cX7_comes 370 = .ok (.if_icmp .ne 8, 3) := by decide +kernel
theorem dX7_comes_373 : decode cX7_comes 373 = .ok (.bipush 9, 2) := by decide +kernel
theorem dX7_comes_375 : decode cX7_comes 375 = .ok (.goto 5, 3) := by decide +kernel
theorem dX7_comes_378 : decode cX7_comes 378 = .ok (.bipush 8, 2) := by decide +kernel
theorem dX7_comes_380 : decode cX7_comes 380 = .ok (.ishr, 1) := by decide +kernel
theorem dX7_comes_381 : decode cX7_comes 381 = .ok (.isub, 1) := by decide +kernel
theorem dX7_comes_382 : decode cX7_comes 382 = .ok (.istore 15, 2) := by decide +kernel
theorem dX7_comes_384 : decode cX7_comes 384 = .ok (.iload 7, 2) := by decide +kernel
theorem dX7_comes_386 : decode cX7_comes 386 = .ok (.ifCond .eq 42, 3) := by decide +kernel
theorem dX7_comes_389 : decode cX7_comes 389 = .ok (.iload 15, 2) := by decide +kernel
theorem dX7_comes_391 : decode cX7_comes 391 = .ok (.iload 8, 2) := by decide +kernel
theorem dX7_comes_393 : decode cX7_comes 393 = .ok (.aload_n 0, 1) := by decide +kernel
theorem dX7_comes_394 : decode cX7_comes 394 = .ok (.getfield 17, 3) := by decide +kernel
theorem dX7_comes_397 : decode cX7_comes 397 = .ok (.iload 4, 2) := by decide +kernel
theorem dX7_comes_399 : decode cX7_comes 399 = .ok (.bipush 16, 2) := by decide +kernel
theorem dX7_comes_401 : decode cX7_comes 401 = .ok (.iadd, 1) := by decide +kernel
theorem dX7_comes_402 : decode cX7_comes 402 = .ok (.iload 14, 2) := by decide +kernel
theorem dX7_comes_404 : decode cX7_comes 404 = .ok (.iadd, 1) := by decide +kernel
theorem dX7_comes_405 : decode cX7_comes 405 = .ok (.iaload, 1) := by decide +kernel
theorem dX7_comes_406 : decode cX7_comes 406 = .ok (.ifCond .ge 7, 3) := by decide +kernel
theorem dX7_comes_409 : decode cX7_comes 409 = .ok (.iconst 1, 1) := by decide +kernel
theorem dX7_comes_410 : decode cX7_comes 410 = .ok (.goto 4, 3) := by decide +kernel
theorem dX7_comes_413 : decode cX7_comes 413 = .ok (.iconst 0, 1) := by decide +kernel
theorem dX7_comes_414 : decode cX7_comes 414 = .ok (.if_icmp .ne 9, 3) := by decide +kernel
theorem dX7_comes_417 : decode cX7_comes 417 = .ok (.sipush 128, 3) := by decide +kernel
theorem dX7_comes_420 : decode cX7_comes 420 = .ok (.goto 5, 3) := by decide +kernel
theorem dX7_comes_423 : decode cX7_comes 423 = .ok (.bipush (-128), 2) := by decide +kernel
theorem dX7_comes_425 : decode cX7_comes 425 = .ok (.iadd, 1) := by decide +kernel
theorem dX7_comes_426 : decode cX7_comes 426 = .ok (.istore 15, 2) := by decide +kernel
theorem dX7_comes_428 : decode cX7_comes 428 = .ok (.aload_n 0, 1) := by decide +kernel
theorem dX7_comes_429 : decode cX7_comes 429 = .ok (.getfield 17, 3) := by decide +kernel
theorem dX7_comes_432 : decode cX7_comes 432 = .ok (.iload 4, 2) := by decide +kernel
theorem dX7_comes_434 : decode cX7_comes 434 = .ok (.bipush 8, 2) := by decide +kernel
theorem dX7_comes_436 : decode cX7_comes 436 = .ok (.iadd, 1) := by decide +kernel
theorem dX7_comes_437 : decode cX7_comes 437 = .ok (.iload 14, 2) := by decide +kernel
theorem dX7_comes_439 : decode cX7_comes 439 = .ok (.iadd, 1) := by decide +kernel
theorem dX7_comes_440 : decode cX7_comes 440 = .ok (.aload_n 0, 1) := by decide +kernel
theorem dX7_comes_441 : decode cX7_comes 441 = .ok (.iload 15, 2) := by decide +kernel
theorem dX7_comes_443 : decode cX7_comes 443 = .ok (.invokevirtual 140, 3) := by decide +kernel
theorem dX7_comes_446 : decode cX7_comes 446 = .ok (.iastore, 1) := by decide +kernel
theorem dX7_comes_447 : decode cX7_comes 447 = .ok (.iinc 14 1, 3) := by decide +kernel
theorem dX7_comes_450 : decode cX7_comes 450 = .ok (.goto (-108), 3) := by decide +kernel
theorem dX7_comes_453 : decode cX7_comes 453 = .ok (.iconst 5, 1) := by decide +kernel
theorem dX7_comes_454 : decode cX7_comes 454 = .ok (.istore 14, 2) := by decide +kernel
theorem dX7_comes_456 : decode cX7_comes 456 = .ok (.iload 14, 2) := by decide +kernel
theorem dX7_comes_458 : decode cX7_comes 458 = .ok (.ifCond .le 37, 3) := by decide +kernel
theorem dX7_comes_461 : decode cX7_comes 461 = .ok (.aload_n 0, 1) := by decide +kernel
theorem dX7_comes_462 : decode cX7_comes 462 = .ok (.getfield 17, 3) := by decide +kernel
theorem dX7_comes_465 : decode cX7_comes 465 = .ok (.iload 4, 2) := by decide +kernel
theorem dX7_comes_467 : decode cX7_comes 467 = .ok (.bipush 16, 2) := by decide +kernel
theorem dX7_comes_469 : decode cX7_comes 469 = .ok (.iadd, 1) := by decide +kernel
theorem dX7_comes_470 : decode cX7_comes 470 = .ok (.iload 14, 2) := by decide +kernel
theorem dX7_comes_472 : decode cX7_comes 472 = .ok (.iadd, 1) := by decide +kernel
theorem dX7_comes_473 : decode cX7_comes 473 = .ok (.aload_n 0, 1) := by decide +kernel
theorem dX7_comes_474 : decode cX7_comes 474 = .ok (.getfield 17, 3) := by decide +kernel
theorem dX7_comes_477 : decode cX7_comes 477 = .ok (.iload 4, 2) := by decide +kernel
theorem dX7_comes_479 : decode cX7_comes 479 = .ok (.bipush 16, 2) := by decide +kernel
theorem dX7_comes_481 : decode cX7_comes 481 = .ok (.iadd, 1) := by decide +kernel
theorem dX7_comes_482 : decode cX7_comes 482 = .ok (.iload 14, 2) := by decide +kernel
theorem dX7_comes_484 : decode cX7_comes 484 = .ok (.iadd, 1) := by decide +kernel
theorem dX7_comes_485 : decode cX7_comes 485 = .ok (.iconst 1, 1) := by decide +kernel
theorem dX7_comes_486 : decode cX7_comes 486 = .ok (.isub, 1) := by decide +kernel
theorem dX7_comes_487 : decode cX7_comes 487 = .ok (.iaload, 1) := by decide +kernel
theorem dX7_comes_488 : decode cX7_comes 488 = .ok (.iastore, 1) := by decide +kernel
theorem dX7_comes_489 : decode cX7_comes 489 = .ok (.iinc 14 (-1), 3) := by decide +kernel
theorem dX7_comes_492 : decode cX7_comes 492 = .ok (.goto (-36), 3) := by decide +kernel
theorem dX7_comes_495 : decode cX7_comes 495 = .ok (.aload_n 0, 1) := by decide +kernel
theorem dX7_comes_496 : decode cX7_comes 496 = .ok (.getfield 17, 3) := by decide +kernel
theorem dX7_comes_499 : decode cX7_comes 499 = .ok (.iload 4, 2) := by decide +kernel
theorem dX7_comes_501 : decode cX7_comes 501 = .ok (.bipush 16, 2) := by decide +kernel
theorem dX7_comes_503 : decode cX7_comes 503 = .ok (.iadd, 1) := by decide +kernel
theorem dX7_comes_504 : decode cX7_comes 504 = .ok (.aload_n 0, 1) := by decide +kernel
theorem dX7_comes_505 : decode cX7_comes 505 = .ok (.iload 7, 2) := by decide +kernel
theorem dX7_comes_507 : decode cX7_comes 507 = .ok (.iload 8, 2) := by decide +kernel
theorem dX7_comes_509 : decode cX7_comes 509 = .ok (.invokevirtual 175, 3) := by decide +kernel
theorem dX7_comes_512 : decode cX7_comes 512 = .ok (.iastore, 1) := by decide +kernel
theorem dX7_comes_513 : decode cX7_comes 513 = .ok (.aload_n 0, 1) := by decide +kernel
theorem dX7_comes_514 : decode cX7_comes 514 = .ok (.getfield 17, 3) := by decide +kernel
theorem dX7_comes_517 : decode cX7_comes 517 = .ok (.iload 4, 2) := by decide +kernel
theorem dX7_comes_519 : decode cX7_comes 519 = .ok (.bipush 15, 2) := by decide +kernel
theorem dX7_comes_521 : decode cX7_comes 521 = .ok (.iadd, 1) := by decide +kernel
theorem dX7_comes_522 : decode cX7_comes 522 = .ok (.aload_n 0, 1) := by decide +kernel
theorem dX7_comes_523 : decode cX7_comes 523 = .ok (.getfield 17, 3) := by decide +kernel
theorem dX7_comes_526 : decode cX7_comes 526 = .ok (.iload 4, 2) := by decide +kernel
theorem dX7_comes_528 : decode cX7_comes 528 = .ok (.bipush 14, 2) := by decide +kernel
theorem dX7_comes_530 : decode cX7_comes 530 = .ok (.iadd, 1) := by decide +kernel
theorem dX7_comes_531 : decode cX7_comes 531 = .ok (.iaload, 1) := by decide +kernel
theorem dX7_comes_532 : decode cX7_comes 532 = .ok (.iastore, 1) := by decide +kernel
theorem dX7_comes_533 : decode cX7_comes 533 = .ok (.aload_n 0, 1) := by decide +kernel
theorem dX7_comes_534 : decode cX7_comes 534 = .ok (.getfield 17, 3) := by decide +kernel
theorem dX7_comes_537 : decode cX7_comes 537 = .ok (.iload 4, 2) := by decide +kernel
theorem dX7_comes_539 : decode cX7_comes 539 = .ok (.bipush 14, 2) := by decide +kernel
theorem dX7_comes_541 : decode cX7_comes 541 = .ok (.iadd, 1) := by decide +kernel
theorem dX7_comes_542 : decode cX7_comes 542 = .ok (.iload 9, 2) := by decide +kernel
theorem dX7_comes_544 : decode cX7_comes 544 = .ok (.sipush (-32768), 3) := by decide +kernel
theorem dX7_comes_547 : decode cX7_comes 547 = .ok (.if_icmp .ne 9, 3) := by decide +kernel
theorem dX7_comes_550 : decode cX7_comes 550 = .ok (.sipush (-992), 3) := by decide +kernel
theorem dX7_comes_553 : decode cX7_comes 553 = .ok (.goto 23, 3) := by decide +kernel
theorem dX7_comes_556 : decode cX7_comes 556 = .ok (.aload_n 0, 1) := by decide +kernel
theorem dX7_comes_557 : decode cX7_comes 557 = .ok (.aload_n 0, 1) := by decide +kernel
theorem dX7_comes_558 : decode cX7_comes 558 = .ok (.iload 9, 2) := by decide +kernel
theorem dX7_comes_560 : decode cX7_comes 560 = .ok (.invokevirtual 127, 3) := by decide +kernel
theorem dX7_comes_563 : decode cX7_comes 563 = .ok (.iload 9, 2) := by decide +kernel
theorem dX7_comes_565 : decode cX7_comes 565 = .ok (.ifCond .ge 7, 3) := by decide +kernel
theorem dX7_comes_568 : decode cX7_comes 568 = .ok (.iconst 1, 1) := by decide +kernel
theorem dX7_comes_569 : decode cX7_comes 569 = .ok (.goto 4, 3) := by decide +kernel
theorem dX7_comes_572 : decode cX7_comes 572 = .ok (.iconst 0, 1) := by decide +kernel
theorem dX7_comes_573 : decode cX7_comes 573 = .ok (.invokevirtual 175, 3) := by decide +kernel
theorem dX7_comes_576 : decode cX7_comes 576 = .ok (.iastore, 1) := by decide +kernel
theorem dX7_comes_577 : decode cX7_comes 577 = .ok (.aload_n 0, 1) := by decide +kernel
theorem dX7_comes_578 : decode cX7_comes 578 = .ok (.getfield 17, 3) := by decide +kernel
theorem dX7_comes_581 : decode cX7_comes 581 = .ok (.iload 4, 2) := by decide +kernel
theorem dX7_comes_583 : decode cX7_comes 583 = .ok (.bipush 23, 2) := by decide +kernel
theorem dX7_comes_585 : decode cX7_comes 585 = .ok (.iadd, 1) := by decide +kernel
theorem dX7_comes_586 : decode cX7_comes 586 = .ok (.aload_n 0, 1) := by decide +kernel
theorem dX7_comes_587 : decode cX7_comes 587 = .ok (.getfield 17, 3) := by decide +kernel
theorem dX7_comes_590 : decode cX7_comes 590 = .ok (.iload 4, 2) := by decide +kernel
theorem dX7_comes_592 : decode cX7_comes 592 = .ok (.bipush 22, 2) := by decide +kernel
theorem dX7_comes_594 : decode cX7_comes 594 = .ok (.iadd, 1) := by decide +kernel
theorem dX7_comes_595 : decode cX7_comes 595 = .ok (.iaload, 1) := by decide +kernel
theorem dX7_comes_596 : decode cX7_comes 596 = .ok (.iastore, 1) := by decide +kernel
theorem dX7_comes_597 : decode cX7_comes 597 = .ok (.aload_n 0, 1) := by decide +kernel
theorem dX7_comes_598 : decode cX7_comes 598 = .ok (.getfield 17, 3) := by decide +kernel
theorem dX7_comes_601 : decode cX7_comes 601 = .ok (.iload 4, 2) := by decide +kernel
theorem dX7_comes_603 : decode cX7_comes 603 = .ok (.bipush 22, 2) := by decide +kernel
theorem dX7_comes_605 : decode cX7_comes 605 = .ok (.iadd, 1) := by decide +kernel
theorem dX7_comes_606 : decode cX7_comes 606 = .ok (.iload 12, 2) := by decide +kernel
theorem dX7_comes_608 : decode cX7_comes 608 = .ok (.iastore, 1) := by decide +kernel
theorem dX7_comes_609 : decode cX7_comes 609 = .ok (.aload_n 0, 1) := by decide +kernel
theorem dX7_comes_610 : decode cX7_comes 610 = .ok (.getfield 17, 3) := by decide +kernel
theorem dX7_comes_613 : decode cX7_comes 613 = .ok (.iload 4, 2) := by decide +kernel
theorem dX7_comes_615 : decode cX7_comes 615 = .ok (.iconst 5, 1) := by decide +kernel
theorem dX7_comes_616 : decode cX7_comes 616 = .ok (.iadd, 1) := by decide +kernel
theorem dX7_comes_617 : decode cX7_comes 617 = .ok (.iload 11, 2) := by decide +kernel
theorem dX7_comes_619 : decode cX7_comes 619 = .ok (.ifCond .ne 15, 3) := by decide +kernel
theorem dX7_comes_622 : decode cX7_comes 622 = .ok (.iload 13, 2) := by decide +kernel
theorem dX7_comes_624 : decode cX7_comes 624 = .ok (.sipush (-11776), 3) := by decide +kernel
theorem dX7_comes_627 : decode cX7_comes 627 = .ok (.if_icmp .ge 7, 3) := by decide +kernel
theorem dX7_comes_630 : decode cX7_comes 630 = .ok (.iconst 1, 1) := by decide +kernel
theorem dX7_comes_631 : decode cX7_comes 631 = .ok (.goto 4, 3) := by decide +kernel
theorem dX7_comes_634 : decode cX7_comes 634 = .ok (.iconst 0, 1) := by decide +kernel
theorem dX7_comes_635 : decode cX7_comes 635 = .ok (.iastore, 1) := by decide +kernel
theorem dX7_comes_636 : decode cX7_comes 636 = .ok (.aload_n 0, 1) := by decide +kernel
theorem dX7_comes_637 : decode cX7_comes 637 = .ok (.iload_n 2, 1) := by decide +kernel
theorem dX7_comes_638 : decode cX7_comes 638 = .ok (.iload_n 3, 1) := by decide +kernel
theorem dX7_comes_639 : decode cX7_comes 639 = .ok (.invokevirtual 179, 3) := by decide +kernel
theorem dX7_comes_642 : decode cX7_comes 642 = .ok (.istore 14, 2) := by decide +kernel
theorem dX7_comes_644 : decode cX7_comes 644 = .ok (.aload_n 0, 1) := by decide +kernel
theorem dX7_comes_645 : decode cX7_comes 645 = .ok (.getfield 17, 3) := by decide +kernel
theorem dX7_comes_648 : decode cX7_comes 648 = .ok (.iload 4, 2) := by decide +kernel
theorem dX7_comes_650 : decode cX7_comes 650 = .ok (.iconst 2, 1) := by decide +kernel
theorem dX7_comes_651 : decode cX7_comes 651 = .ok (.iadd, 1) := by decide +kernel
theorem dX7_comes_652 : decode cX7_comes 652 = .ok (.aload_n 0, 1) := by decide +kernel
theorem dX7_comes_653 : decode cX7_comes 653 = .ok (.getfield 17, 3) := by decide +kernel
theorem dX7_comes_656 : decode cX7_comes 656 = .ok (.iload 4, 2) := by decide +kernel
theorem dX7_comes_658 : decode cX7_comes 658 = .ok (.iconst 2, 1) := by decide +kernel
theorem dX7_comes_659 : decode cX7_comes 659 = .ok (.iadd, 1) := by decide +kernel
theorem dX7_comes_660 : decode cX7_comes 660 = .ok (.iaload, 1) := by decide +kernel
theorem dX7_comes_661 : decode cX7_comes 661 = .ok (.iload 14, 2) := by decide +kernel
theorem dX7_comes_663 : decode cX7_comes 663 = .ok (.aload_n 0, 1) := by decide +kernel
theorem dX7_comes_664 : decode cX7_comes 664 = .ok (.getfield 17, 3) := by decide +kernel
theorem dX7_comes_667 : decode cX7_comes 667 = .ok (.iload 4, 2) := by decide +kernel
theorem dX7_comes_669 : decode cX7_comes 669 = .ok (.iconst 2, 1) := by decide +kernel
theorem dX7_comes_670 : decode cX7_comes 670 = .ok (.iadd, 1) := by decide +kernel
theorem dX7_comes_671 : decode cX7_comes 671 = .ok (.iaload, 1) := by decide +kernel
theorem dX7_comes_672 : decode cX7_comes 672 = .ok (.isub, 1) := by decide +kernel
theorem dX7_comes_673 : decode cX7_comes 673 = .ok (.iconst 5, 1) := by decide +kernel
theorem dX7_comes_674 : decode cX7_comes 674 = .ok (.ishr, 1) := by decide +kernel
theorem dX7_comes_675 : decode cX7_comes 675 = .ok (.iadd, 1) := by decide +kernel
theorem dX7_comes_676 : decode cX7_comes 676 = .ok (.iastore, 1) := by decide +kernel
theorem dX7_comes_677 : decode cX7_comes 677 = .ok (.aload_n 0, 1) := by decide +kernel
theorem dX7_comes_678 : decode cX7_comes 678 = .ok (.getfield 17, 3) := by decide +kernel
theorem dX7_comes_681 : decode cX7_comes 681 = .ok (.iload 4, 2) := by decide +kernel
theorem dX7_comes_683 : decode cX7_comes 683 = .ok (.iconst 3, 1) := by decide +kernel
theorem dX7_comes_684 : decode cX7_comes 684 = .ok (.iadd, 1) := by decide +kernel
theorem dX7_comes_685 : decode cX7_comes 685 = .ok (.aload_n 0, 1) := by decide +kernel
theorem dX7_comes_686 : decode cX7_comes 686 = .ok (.getfield 17, 3) := by decide +kernel
theorem dX7_comes_689 : decode cX7_comes 689 = .ok (.iload 4, 2) := by decide +kernel
theorem dX7_comes_691 : decode cX7_comes 691 = .ok (.iconst 3, 1) := by decide +kernel
theorem dX7_comes_692 : decode cX7_comes 692 = .ok (.iadd, 1) := by decide +kernel
theorem dX7_comes_693 : decode cX7_comes 693 = .ok (.iaload, 1) := by decide +kernel
theorem dX7_comes_694 : decode cX7_comes 694 = .ok (.iconst 4, 1) := by decide +kernel
theorem dX7_comes_695 : decode cX7_comes 695 = .ok (.iload 14, 2) := by decide +kernel
theorem dX7_comes_697 : decode cX7_comes 697 = .ok (.imul, 1) := by decide +kernel
theorem dX7_comes_698 : decode cX7_comes 698 = .ok (.aload_n 0, 1) := by decide +kernel
theorem dX7_comes_699 : decode cX7_comes 699 = .ok (.getfield 17, 3) := by decide +kernel
theorem dX7_comes_702 : decode cX7_comes 702 = .ok (.iload 4, 2) := by decide +kernel
theorem dX7_comes_704 : decode cX7_comes 704 = .ok (.iconst 3, 1) := by decide +kernel
theorem dX7_comes_705 : decode cX7_comes 705 = .ok (.iadd, 1) := by decide +kernel
theorem dX7_comes_706 : decode cX7_comes 706 = .ok (.iaload, 1) := by decide +kernel
theorem dX7_comes_707 : decode cX7_comes 707 = .ok (.isub, 1) := by decide +kernel
theorem dX7_comes_708 : decode cX7_comes 708 = .ok (.bipush 7, 2) := by decide +kernel
theorem dX7_comes_710 : decode cX7_comes 710 = .ok (.ishr, 1) := by decide +kernel
theorem dX7_comes_711 : decode cX7_comes 711 = .ok (.iadd, 1) := by decide +kernel
theorem dX7_comes_712 : decode cX7_comes 712 = .ok (.iastore, 1) := by decide +kernel
theorem dX7_comes_713 : decode cX7_comes 713 = .ok (.iload 5, 2) := by decide +kernel
theorem dX7_comes_715 : decode cX7_comes 715 = .ok (.sipush 1536, 3) := by decide +kernel
theorem dX7_comes_718 : decode cX7_comes 718 = .ok (.if_icmp .lt 55, 3) := by decide +kernel
theorem dX7_comes_721 : decode cX7_comes 721 = .ok (.aload_n 0, 1) := by decide +kernel
theorem dX7_comes_722 : decode cX7_comes 722 = .ok (.getfield 17, 3) := by decide +kernel
theorem dX7_comes_725 : decode cX7_comes 725 = .ok (.iload 4, 2) := by decide +kernel
theorem dX7_comes_727 : decode cX7_comes 727 = .ok (.iconst 5, 1) := by decide +kernel
theorem dX7_comes_728 : decode cX7_comes 728 = .ok (.iadd, 1) := by decide +kernel
theorem dX7_comes_729 : decode cX7_comes 729 = .ok (.iaload, 1) := by decide +kernel
theorem dX7_comes_730 : decode cX7_comes 730 = .ok (.iconst 1, 1) := by decide +kernel
theorem dX7_comes_731 : decode cX7_comes 731 = .ok (.if_icmp .eq 42, 3) := by decide +kernel
theorem dX7_comes_734 : decode cX7_comes 734 = .ok (.aload_n 0, 1) := by decide +kernel
theorem dX7_comes_735 : decode cX7_comes 735 = .ok (.iconst 4, 1) := by decide +kernel
theorem dX7_comes_736 : decode cX7_comes 736 = .ok (.aload_n 0, 1) := by decide +kernel
theorem dX7_comes_737 : decode cX7_comes 737 = .ok (.getfield 17, 3) := by decide +kernel
theorem dX7_comes_740 : decode cX7_comes 740 = .ok (.iload 4, 2) := by decide +kernel
theorem dX7_comes_742 : decode cX7_comes 742 = .ok (.iconst 2, 1) := by decide +kernel
theorem dX7_comes_743 : decode cX7_comes 743 = .ok (.iadd, 1) := by decide +kernel
theorem dX7_comes_744 : decode cX7_comes 744 = .ok (.iaload, 1) := by decide +kernel
theorem dX7_comes_745 : decode cX7_comes 745 = .ok (.imul, 1) := by decide +kernel
theorem dX7_comes_746 : decode cX7_comes 746 = .ok (.aload_n 0, 1) := by decide +kernel
theorem dX7_comes_747 : decode cX7_comes 747 = .ok (.getfield 17, 3) := by decide +kernel
theorem dX7_comes_750 : decode cX7_comes 750 = .ok (.iload 4, 2) := by decide +kernel
theorem dX7_comes_752 : decode cX7_comes 752 = .ok (.iconst 3, 1) := by decide +kernel
theorem dX7_comes_753 : decode cX7_comes 753 = .ok (.iadd, 1) := by decide +kernel
theorem dX7_comes_754 : decode cX7_comes 754 = .ok (.iaload, 1) := by decide +kernel
theorem dX7_comes_755 : decode cX7_comes 755 = .ok (.isub, 1) := by decide +kernel
theorem dX7_comes_756 : decode cX7_comes 756 = .ok (.invokevirtual 127, 3) := by decide +kernel
theorem dX7_comes_759 : decode cX7_comes 759 = .ok (.aload_n 0, 1) := by decide +kernel
theorem dX7_comes_760 : decode cX7_comes 760 = .ok (.getfield 17, 3) := by decide +kernel
theorem dX7_comes_763 : decode cX7_comes 763 = .ok (.iload 4, 2) := by decide +kernel
theorem dX7_comes_765 : decode cX7_comes 765 = .ok (.iconst 3, 1) := by decide +kernel
theorem dX7_comes_766 : decode cX7_comes 766 = .ok (.iadd, 1) := by decide +kernel
theorem dX7_comes_767 : decode cX7_comes 767 = .ok (.iaload, 1) := by decide +kernel
theorem dX7_comes_768 : decode cX7_comes 768 = .ok (.iconst 3, 1) := by decide +kernel
theorem dX7_comes_769 : decode cX7_comes 769 = .ok (.ishr, 1) := by decide +kernel
theorem dX7_comes_770 : decode cX7_comes 770 = .ok (.if_icmp .lt 7, 3) := by decide +kernel
theorem dX7_comes_773 : decode cX7_comes 773 = .ok (.iconst 1, 1) := by decide +kernel
theorem dX7_comes_774 : decode cX7_comes 774 = .ok (.goto 4, 3) := by decide +kernel
theorem dX7_comes_777 : decode cX7_comes 777 = .ok (.iconst 0, 1) := by decide +kernel
theorem dX7_comes_778 : decode cX7_comes 778 = .ok (.istore 15, 2) := by decide +kernel
theorem dX7_comes_780 : decode cX7_comes 780 = .ok (.iload 11, 2) := by decide +kernel
theorem dX7_comes_782 : decode cX7_comes 782 = .ok (.iconst 1, 1) := by decide +kernel
theorem dX7_comes_783 : decode cX7_comes 783 = .ok (.if_icmp .ne 18, 3) := by decide +kernel
theorem dX7_comes_786 : decode cX7_comes 786 = .ok (.aload_n 0, 1) := by decide +kernel
theorem dX7_comes_787 : decode cX7_comes 787 = .ok (.getfield 17, 3) := by decide +kernel
theorem dX7_comes_790 : decode cX7_comes 790 = .ok (.iload 4, 2) := by decide +kernel
theorem dX7_comes_792 : decode cX7_comes 792 = .ok (.iconst 4, 1) := by decide +kernel
theorem dX7_comes_793 : decode cX7_comes 793 = .ok (.iadd, 1) := by decide +kernel
theorem dX7_comes_794 : decode cX7_comes 794 = .ok (.sipush 256, 3) := by decide +kernel
theorem dX7_comes_797 : decode cX7_comes 797 = .ok (.iastore, 1) := by decide +kernel
theorem dX7_comes_798 : decode cX7_comes 798 = .ok (.goto 46, 3) := by decide +kernel
theorem dX7_comes_801 : decode cX7_comes 801 = .ok (.aload_n 0, 1) := by decide +kernel
theorem dX7_comes_802 : decode cX7_comes 802 = .ok (.getfield 17, 3) := by decide +kernel
theorem dX7_comes_805 : decode cX7_comes 805 = .ok (.iload 4, 2) := by decide +kernel
theorem dX7_comes_807 : decode cX7_comes 807 = .ok (.iconst 4, 1) := by decide +kernel
theorem dX7_comes_808 : decode cX7_comes 808 = .ok (.iadd, 1) := by decide +kernel
theorem dX7_comes_809 : decode cX7_comes 809 = .ok (.aload_n 0, 1) := by decide +kernel
theorem dX7_comes_810 : decode cX7_comes 810 = .ok (.getfield 17, 3) := by decide +kernel
theorem dX7_comes_813 : decode cX7_comes 813 = .ok (.iload 4, 2) := by decide +kernel
theorem dX7_comes_815 : decode cX7_comes 815 = .ok (.iconst 4, 1) := by decide +kernel
theorem dX7_comes_816 : decode cX7_comes 816 = .ok (.iadd, 1) := by decide +kernel
theorem dX7_comes_817 : decode cX7_comes 817 = .ok (.iaload, 1) := by decide +kernel
theorem dX7_comes_818 : decode cX7_comes 818 = .ok (.iload 15, 2) := by decide +kernel
theorem dX7_comes_820 : decode cX7_comes 820 = .ok (.ifCond .eq 9, 3) := by decide +kernel
theorem dX7_comes_823 : decode cX7_comes 823 = .ok (.sipush 512, 3) := by decide +kernel
theorem dX7_comes_826 : decode cX7_comes 826 = .ok (.goto 4, 3) := by decide +kernel
theorem dX7_comes_829 : decode cX7_comes 829 = .ok (.iconst 0, 1) := by decide +kernel
theorem dX7_comes_830 : decode cX7_comes 830 = .ok (.aload_n 0, 1) := by decide +kernel
theorem dX7_comes_831 : decode cX7_comes 831 = .ok (.getfield 17, 3) := by decide +kernel
theorem dX7_comes_834 : decode cX7_comes 834 = .ok (.iload 4, 2) := by decide +kernel
theorem dX7_comes_836 : decode cX7_comes 836 = .ok (.iconst 4, 1) := by decide +kernel
theorem dX7_comes_837 : decode cX7_comes 837 = .ok (.iadd, 1) := by decide +kernel
theorem dX7_comes_838 : decode cX7_comes 838 = .ok (.iaload, 1) := by decide +kernel
theorem dX7_comes_839 : decode cX7_comes 839 = .ok (.isub, 1) := by decide +kernel
theorem dX7_comes_840 : decode cX7_comes 840 = .ok (.iconst 4, 1) := by decide +kernel
theorem dX7_comes_841 : decode cX7_comes 841 = .ok (.ishr, 1) := by decide +kernel
theorem dX7_comes_842 : decode cX7_comes 842 = .ok (.iadd, 1) := by decide +kernel
theorem dX7_comes_843 : decode cX7_comes 843 = .ok (.iastore, 1) := by decide +kernel
theorem dX7_comes_844 : decode cX7_comes 844 = .ok (.aload_n 0, 1) := by decide +kernel
theorem dX7_comes_845 : decode cX7_comes 845 = .ok (.iload 9, 2) := by decide +kernel
theorem dX7_comes_847 : decode cX7_comes 847 = .ok (.iconst 4, 1) := by decide +kernel
theorem dX7_comes_848 : decode cX7_comes 848 = .ok (.imul, 1) := by decide +kernel
theorem dX7_comes_849 : decode cX7_comes 849 = .ok (.invokevirtual 182, 3) := by decide +kernel
theorem dX7_comes_852 : decode cX7_comes 852 = .ok (.ireturn, 1) := by decide +kernel
theorem dX7_adapts_0 : decode cX7_adapts 0 = .ok (.aload_n 0, 1) := by decide +kernel
theorem dX7_adapts_1 : decode cX7_adapts 1 = .ok (.getfield 17, 3) := by decide +kernel
theorem dX7_adapts_4 : decode cX7_adapts 4 = .ok (.iload_n 1, 1) := by decide +kernel
theorem dX7_adapts_5 : decode cX7_adapts 5 = .ok (.bipush 6, 2) := by decide +kernel
theorem dX7_adapts_7 : decode cX7_adapts 7 = .ok (.iadd, 1) := by decide +kernel
theorem dX7_adapts_8 : decode cX7_adapts 8 = .ok (.iaload, 1) := by decide +kernel
theorem dX7_adapts_9 : decode cX7_adapts 9 = .ok (.istore 4, 2) := by decide +kernel
theorem dX7_adapts_11 : decode cX7_adapts 11 = .ok (.aload_n 0, 1) := by decide +kernel
theorem dX7_adapts_12 : decode cX7_adapts 12 = .ok (.getfield 17, 3) := by decide +kernel
theorem dX7_adapts_15 : decode cX7_adapts 15 = .ok (.iload_n 1, 1) := by decide +kernel
theorem dX7_adapts_16 : decode cX7_adapts 16 = .ok (.bipush 7, 2) := by decide +kernel
theorem dX7_adapts_18 : decode cX7_adapts 18 = .ok (.iadd, 1) := by decide +kernel
theorem dX7_adapts_19 : decode cX7_adapts 19 = .ok (.iaload, 1) := by decide +kernel
theorem dX7_adapts_20 : decode cX7_adapts 20 = .ok (.aload_n 0, 1) := by decide +kernel
theorem dX7_adapts_21 : decode cX7_adapts 21 = .ok (.getfield 17, 3) := by decide +kernel
theorem dX7_adapts_24 : decode cX7_adapts 24 = .ok (.iload_n 1, 1) := by decide +kernel
theorem dX7_adapts_25 : decode cX7_adapts 25 = .ok (.bipush 7, 2) := by decide +kernel
theorem dX7_adapts_27 : decode cX7_adapts 27 = .ok (.iadd, 1) := by decide +kernel
theorem dX7_adapts_28 : decode cX7_adapts 28 = .ok (.iaload, 1) := by decide +kernel
theorem dX7_adapts_29 : decode cX7_adapts 29 = .ok (.bipush 7, 2) := by decide +kernel
theorem dX7_adapts_31 : decode cX7_adapts 31 = .ok (.ishr, 1) := by decide +kernel
theorem dX7_adapts_32 : decode cX7_adapts 32 = .ok (.isub, 1) := by decide +kernel
theorem dX7_adapts_33 : decode cX7_adapts 33 = .ok (.istore 5, 2) := by decide +kernel
theorem dX7_adapts_35 : decode cX7_adapts 35 = .ok (.iload_n 3, 1) := by decide +kernel
theorem dX7_adapts_36 : decode cX7_adapts 36 = .ok (.ifCond .eq 167, 3) := by decide +kernel
theorem dX7_adapts_39 : decode cX7_adapts 39 = .ok (.iload_n 2, 1) := by decide +kernel
theorem dX7_adapts_40 : decode cX7_adapts 40 = .ok (.aload_n 0, 1) := by decide +kernel
theorem dX7_adapts_41 : decode cX7_adapts 41 = .ok (.getfield 17, 3) := by decide +kernel
theorem dX7_adapts_44 : decode cX7_adapts 44 = .ok (.iload_n 1, 1) := by decide +kernel
theorem dX7_adapts_45 : decode cX7_adapts 45 = .ok (.bipush 22, 2) := by decide +kernel
theorem dX7_adapts_47 : decode cX7_adapts 47 = .ok (.iadd, 1) := by decide +kernel
theorem dX7_adapts_48 : decode cX7_adapts 48 = .ok (.iaload, 1) := by decide +kernel
theorem dX7_adapts_49 : decode cX7_adapts 49 = .ok (.if_icmp .eq 8, 3) := by decide +kernel
theorem dX7_adapts_52 : decode cX7_adapts 52 = .ok (.iload 4, 2) := by decide +kernel
theorem dX7_adapts_54 : decode cX7_adapts 54 = .ok (.goto 6, 3) := by decide +kernel
theorem dX7_adapts_57 : decode cX7_adapts 57 = .ok (.iload 4, 2) := by decide +kernel
theorem dX7_adapts_59 : decode cX7_adapts 59 = .ok (.ineg, 1) := by decide +kernel
theorem dX7_adapts_60 : decode cX7_adapts 60 = .ok (.istore 6, 2) := by decide +kernel
theorem dX7_adapts_62 : decode cX7_adapts 62 = .ok (.iload 5, 2) := by decide +kernel
theorem dX7_adapts_64 : decode cX7_adapts 64 = .ok (.iload 6, 2) := by decide +kernel
theorem dX7_adapts_66 : decode cX7_adapts 66 = .ok (.sipush (-8191), 3) := by decide +kernel
theorem dX7_adapts_69 : decode cX7_adapts 69 = .ok (.if_icmp .ge 9, 3) := by decide +kernel
theorem dX7_adapts_72 : decode cX7_adapts 72 = .ok (.sipush (-256), 3) := by decide +kernel
theorem dX7_adapts_75 : decode cX7_adapts 75 = .ok (.goto 21, 3) := by decide +kernel
theorem dX7_adapts_78 : decode cX7_adapts 78 = .ok (.iload 6, 2) := by decide +kernel
theorem dX7_adapts_80 : decode cX7_adapts 80 = .ok (.sipush 8191, 3) := by decide +kernel
theorem dX7_adapts_83 : decode cX7_adapts 83 = .ok (.if_icmp .le 9, 3) := by decide +kernel
theorem dX7_adapts_86 : decode cX7_adapts 86 = .ok (.sipush 255, 3) := by decide +kernel
theorem dX7_adapts_89 : decode cX7_adapts 89 = .ok (.goto 7, 3) := by decide +kernel
theorem dX7_adapts_92 : decode cX7_adapts 92 = .ok (.iload 6, 2) := by decide +kernel
theorem dX7_adapts_94 : decode cX7_adapts 94 = .ok (.iconst 5, 1) := by decide +kernel
theorem dX7_adapts_95 : decode cX7_adapts 95 = .ok (.ishr, 1) := by decide +kernel
theorem dX7_adapts_96 : decode cX7_adapts 96 = .ok (.iadd, 1) := by decide +kernel
theorem dX7_adapts_97 : decode cX7_adapts 97 = .ok (.istore 5, 2) := by decide +kernel
theorem dX7_adapts_99 : decode cX7_adapts 99 = .ok (.iload_n 2, 1) := by decide +kernel
theorem dX7_adapts_100 : decode cX7_adapts 100 = .ok (.aload_n 0, 1) := by decide +kernel
theorem dX7_adapts_101 : decode cX7_adapts 101 = .ok (.getfield 17, 3) := by decide +kernel
theorem dX7_adapts_104 : decode cX7_adapts 104 = .ok (.iload_n 1, 1) := by decide +kernel
theorem dX7_adapts_105 : decode cX7_adapts 105 = .ok (.bipush 23, 2) := by decide +kernel
theorem dX7_adapts_107 : decode cX7_adapts 107 = .ok (.iadd, 1) := by decide +kernel
theorem dX7_adapts_108 : decode cX7_adapts 108 = .ok (.iaload, 1) := by decide +kernel
theorem dX7_adapts_109 : decode cX7_adapts 109 = .ok (.if_icmp .ne 7, 3) := by decide +kernel
theorem dX7_adapts_112 : decode cX7_adapts 112 = .ok (.iconst 1, 1) := by decide +kernel
theorem dX7_adapts_113 : decode cX7_adapts 113 = .ok (.goto 4, 3) := by decide +kernel
theorem dX7_adapts_116 : decode cX7_adapts 116 = .ok (.iconst 0, 1) := by decide +kernel
theorem dX7_adapts_117 : decode cX7_adapts 117 = .ok (.istore 7, 2) := by decide +kernel
theorem dX7_adapts_119 : decode cX7_adapts 119 = .ok (.iload 7, 2) := by decide +kernel
theorem dX7_adapts_121 : decode cX7_adapts 121 = .ok (.ifCond .eq 9, 3) := by decide +kernel
theorem dX7_adapts_124 : decode cX7_adapts 124 = .ok (.sipush (-12416), 3) := by decide +kernel
theorem dX7_adapts_127 : decode cX7_adapts 127 = .ok (.goto 6, 3) := by decide +kernel
theorem dX7_adapts_130 : decode cX7_adapts 130 = .ok (.sipush (-12160), 3) := by decide +kernel
theorem dX7_adapts_133 : decode cX7_adapts 133 = .ok (.istore 8, 2) := by decide +kernel
theorem dX7_adapts_135 : decode cX7_adapts 135 = .ok (.iload 7, 2) := by decide +kernel
theorem dX7_adapts_137 : decode cX7_adapts 137 = .ok (.ifCond .eq 9, 3) := by decide +kernel
theorem dX7_adapts_140 : decode cX7_adapts 140 = .ok (.sipush 12160, 3) := by decide +kernel
theorem dX7_adapts_143 : decode cX7_adapts 143 = .ok (.goto 6, 3) := by decide +kernel
theorem dX7_adapts_146 : decode cX7_adapts 146 = .ok (.sipush 12416, 3) := by decide +kernel
theorem dX7_adapts_149 : decode cX7_adapts 149 = .ok (.istore 9, 2) := by decide +kernel
theorem dX7_adapts_151 : decode cX7_adapts 151 = .ok (.iload 5, 2) := by decide +kernel
theorem dX7_adapts_153 : decode cX7_adapts 153 = .ok (.iload 8, 2) := by decide +kernel
theorem dX7_adapts_155 : decode cX7_adapts 155 = .ok (.if_icmp .gt 11, 3) := by decide +kernel
theorem dX7_adapts_158 : decode cX7_adapts 158 = .ok (.sipush (-12288), 3) := by decide +kernel
theorem dX7_adapts_161 : decode cX7_adapts 161 = .ok (.istore 5, 2) := by decide +kernel
theorem dX7_adapts_163 : decode cX7_adapts 163 = .ok (.goto 40, 3) := by decide +kernel
theorem dX7_adapts_166 : decode cX7_adapts 166 = .ok (.iload 5, 2) := by decide +kernel
theorem dX7_adapts_168 : decode cX7_adapts 168 = .ok (.iload 9, 2) := by decide +kernel
theorem dX7_adapts_170 : decode cX7_adapts 170 = .ok (.if_icmp .lt 11, 3) := by decide +kernel
theorem dX7_adapts_173 : decode cX7_adapts 173 = .ok (.sipush 12288, 3) := by decide +kernel
theorem dX7_adapts_176 : decode cX7_adapts 176 = .ok (.istore 5, 2) := by decide +kernel
theorem dX7_adapts_178 : decode cX7_adapts 178 = .ok (.goto 25, 3) := by decide +kernel
theorem dX7_adapts_181 : decode cX7_adapts 181 = .ok (.iload 7, 2) := by decide +kernel
theorem dX7_adapts_183 : decode cX7_adapts 183 = .ok (.ifCond .eq 12, 3) := by decide +kernel
theorem dX7_adapts_186 : decode cX7_adapts 186 = .ok (.iload 5, 2) := by decide +kernel
theorem dX7_adapts_188 : decode cX7_adapts 188 = .ok (.sipush 128, 3) := by decide +kernel
theorem dX7_adapts_191 : decode cX7_adapts 191 = .ok (.iadd, 1) := by decide +kernel
theorem dX7_adapts_192 : decode cX7_adapts 192 = .ok (.goto 9, 3) := by decide +kernel
theorem dX7_adapts_195 : decode cX7_adapts 195 = .ok (.iload 5, 2) := by decide +kernel
theorem dX7_adapts_197 : decode cX7_adapts 197 = .ok (.sipush 128, 3) := by decide +kernel
theorem dX7_adapts_200 : decode cX7_adapts 200 = .ok (.isub, 1) := by decide +kernel
theorem dX7_adapts_201 : decode cX7_adapts 201 = .ok (.istore 5, 2) := by decide +kernel
theorem dX7_adapts_203 : decode cX7_adapts 203 = .ok (.aload_n 0, 1) := by decide +kernel
theorem dX7_adapts_204 : decode cX7_adapts 204 = .ok (.getfield 17, 3) := by decide +kernel
theorem dX7_adapts_207 : decode cX7_adapts 207 = .ok (.iload_n 1, 1) := by decide +kernel
theorem dX7_adapts_208 : decode cX7_adapts 208 = .ok (.bipush 7, 2) := by decide +kernel
theorem dX7_adapts_210 : decode cX7_adapts 210 = .ok (.iadd, 1) := by decide +kernel
theorem dX7_adapts_211 : decode cX7_adapts 211 = .ok (.iload 5, 2) := by decide +kernel
theorem dX7_adapts_213 : decode cX7_adapts 213 = .ok (.iastore, 1) := by decide +kernel
theorem dX7_adapts_214 : decode cX7_adapts 214 = .ok (.iload 4, 2) := by decide +kernel
theorem dX7_adapts_216 : decode cX7_adapts 216 = .ok (.iload 4, 2) := by decide +kernel
theorem dX7_adapts_218 : decode cX7_adapts 218 = .ok (.bipush 8, 2) := by decide +kernel
theorem dX7_adapts_220 : decode cX7_adapts 220 = .ok (.ishr, 1) := by decide +kernel
theorem dX7_adapts_221 : decode cX7_adapts 221 = .ok (.isub, 1) := by decide +kernel
theorem dX7_adapts_222 : decode cX7_adapts 222 = .ok (.istore 4, 2) := by decide +kernel
theorem dX7_adapts_224 : decode cX7_adapts 224 = .ok (.iload_n 3, 1) := by decide +kernel
theorem dX7_adapts_225 : decode cX7_adapts 225 = .ok (.ifCond .eq 33, 3) := by decide +kernel
theorem dX7_adapts_228 : decode cX7_adapts 228 = .ok (.iload_n 2, 1) := by decide +kernel
theorem dX7_adapts_229 : decode cX7_adapts 229 = .ok (.aload_n 0, 1) := by decide +kernel
theorem dX7_adapts_230 : decode cX7_adapts 230 = .ok (.getfield 17, 3) := by decide +kernel
theorem dX7_adapts_233 : decode cX7_adapts 233 = .ok (.iload_n 1, 1) := by decide +kernel
theorem dX7_adapts_234 : decode cX7_adapts 234 = .ok (.bipush 22, 2) := by decide +kernel
theorem dX7_adapts_236 : decode cX7_adapts 236 = .ok (.iadd, 1) := by decide +kernel
theorem dX7_adapts_237 : decode cX7_adapts 237 = .ok (.iaload, 1) := by decide +kernel
theorem dX7_adapts_238 : decode cX7_adapts 238 = .ok (.if_icmp .ne 12, 3) := by decide +kernel
theorem dX7_adapts_241 : decode cX7_adapts 241 = .ok (.iload 4, 2) := by decide +kernel
theorem dX7_adapts_243 : decode cX7_adapts 243 = .ok (.sipush 192, 3) := by decide +kernel
theorem dX7_adapts_246 : decode cX7_adapts 246 = .ok (.iadd, 1) := by decide +kernel
theorem dX7_adapts_247 : decode cX7_adapts 247 = .ok (.goto 9, 3) := by decide +kernel
theorem dX7_adapts_250 : decode cX7_adapts 250 = .ok (.iload 4, 2) := by decide +kernel
theorem dX7_adapts_252 : decode cX7_adapts 252 = .ok (.sipush 192, 3) := by decide +kernel
theorem dX7_adapts_255 : decode cX7_adapts 255 = .ok (.isub, 1) := by decide +kernel
theorem dX7_adapts_256 : decode cX7_adapts 256 = .ok (.istore 4, 2) := by decide +kernel
theorem dX7_adapts_258 : decode cX7_adapts 258 = .ok (.aload_n 0, 1) := by decide +kernel
theorem dX7_adapts_259 : decode cX7_adapts 259 = .ok (.getfield 17, 3) := by decide +kernel
theorem dX7_adapts_262 : decode cX7_adapts 262 = .ok (.iload_n 1, 1) := by decide +kernel
theorem dX7_adapts_263 : decode cX7_adapts 263 = .ok (.bipush 6, 2) := by decide +kernel
theorem dX7_adapts_265 : decode cX7_adapts 265 = .ok (.iadd, 1) := by decide +kernel
theorem dX7_adapts_266 : decode cX7_adapts 266 = .ok (.aload_n 0, 1) := by decide +kernel
theorem dX7_adapts_267 : decode cX7_adapts 267 = .ok (.iload 4, 2) := by decide +kernel
theorem dX7_adapts_269 : decode cX7_adapts 269 = .ok (.iload 5, 2) := by decide +kernel
theorem dX7_adapts_271 : decode cX7_adapts 271 = .ok (.sipush 15360, 3) := by decide +kernel
theorem dX7_adapts_274 : decode cX7_adapts 274 = .ok (.isub, 1) := by decide +kernel
theorem dX7_adapts_275 : decode cX7_adapts 275 = .ok (.sipush 15360, 3) := by decide +kernel
theorem dX7_adapts_278 : decode cX7_adapts 278 = .ok (.iload 5, 2) := by decide +kernel
theorem dX7_adapts_280 : decode cX7_adapts 280 = .ok (.isub, 1) := by decide +kernel
theorem dX7_adapts_281 : decode cX7_adapts 281 = .ok (.invokevirtual 169, 3) := by decide +kernel
theorem dX7_adapts_284 : decode cX7_adapts 284 = .ok (.iastore, 1) := by decide +kernel
theorem dX7_adapts_285 : decode cX7_adapts 285 = .ok (.iload 5, 2) := by decide +kernel
theorem dX7_adapts_287 : decode cX7_adapts 287 = .ok (.ireturn, 1) := by decide +kernel
theorem dX7_heardBy_0 : decode cX7_heardBy 0 = .ok (.iload_n 1, 1) := by decide +kernel
theorem dX7_heardBy_1 : decode cX7_heardBy 1 = .ok (.bipush 8, 2) := by decide +kernel
theorem dX7_heardBy_3 : decode cX7_heardBy 3 = .ok (.if_icmp .ne 12, 3) := by decide +kernel
theorem dX7_heardBy_6 : decode cX7_heardBy 6 = .ok (.aload_n 0, 1) := by decide +kernel
theorem dX7_heardBy_7 : decode cX7_heardBy 7 = .ok (.getfield 84, 3) := by decide +kernel
theorem dX7_heardBy_10 : decode cX7_heardBy 10 = .ok (.iload_n 2, 1) := by decide +kernel
theorem dX7_heardBy_11 : decode cX7_heardBy 11 = .ok (.iconst 2, 1) := by decide +kernel
theorem dX7_heardBy_12 : decode cX7_heardBy 12 = .ok (.ishr, 1) := by decide +kernel
theorem dX7_heardBy_13 : decode cX7_heardBy 13 = .ok (.iaload, 1) := by decide +kernel
theorem dX7_heardBy_14 : decode cX7_heardBy 14 = .ok (.ireturn, 1) := by decide +kernel
theorem dX7_heardBy_15 : decode cX7_heardBy 15 = .ok (.iload_n 1, 1) := by decide +kernel
theorem dX7_heardBy_16 : decode cX7_heardBy 16 = .ok (.bipush 7, 2) := by decide +kernel
theorem dX7_heardBy_18 : decode cX7_heardBy 18 = .ok (.if_icmp .ne 53, 3) := by decide +kernel
theorem dX7_heardBy_21 : decode cX7_heardBy 21 = .ok (.iload_n 2, 1) := by decide +kernel
theorem dX7_heardBy_22 : decode cX7_heardBy 22 = .ok (.iconst 1, 1) := by decide +kernel
theorem dX7_heardBy_23 : decode cX7_heardBy 23 = .ok (.ishr, 1) := by decide +kernel
theorem dX7_heardBy_24 : decode cX7_heardBy 24 = .ok (.istore_n 3, 1) := by decide +kernel
theorem dX7_heardBy_25 : decode cX7_heardBy 25 = .ok (.iload_n 3, 1) := by decide +kernel
theorem dX7_heardBy_26 : decode cX7_heardBy 26 = .ok (.bipush 16, 2) := by decide +kernel
theorem dX7_heardBy_28 : decode cX7_heardBy 28 = .ok (.if_icmp .ge 10, 3) := by decide +kernel
theorem dX7_heardBy_31 : decode cX7_heardBy 31 = .ok (.aload_n 0, 1) := by decide +kernel
theorem dX7_heardBy_32 : decode cX7_heardBy 32 = .ok (.getfield 96, 3) := by decide +kernel
theorem dX7_heardBy_35 : decode cX7_heardBy 35 = .ok (.iload_n 3, 1) := by decide +kernel
theorem dX7_heardBy_36 : decode cX7_heardBy 36 = .ok (.iaload, 1) := by decide +kernel
theorem dX7_heardBy_37 : decode cX7_heardBy 37 = .ok (.ireturn, 1) := by decide +kernel
theorem dX7_heardBy_38 : decode cX7_heardBy 38 = .ok (.iload_n 3, 1) := by decide +kernel
theorem dX7_heardBy_39 : decode cX7_heardBy 39 = .ok (.bipush 30, 2) := by decide +kernel
theorem dX7_heardBy_41 : decode cX7_heardBy 41 = .ok (.if_icmp .ne 7, 3) := by decide +kernel
theorem dX7_heardBy_44 : decode cX7_heardBy 44 = .ok (.sipush 280, 3) := by decide +kernel
theorem dX7_heardBy_47 : decode cX7_heardBy 47 = .ok (.ireturn, 1) := by decide +kernel
theorem dX7_heardBy_48 : decode cX7_heardBy 48 = .ok (.iload_n 3, 1) := by decide +kernel
theorem dX7_heardBy_49 : decode cX7_heardBy 49 = .ok (.bipush 31, 2) := by decide +kernel
theorem dX7_heardBy_51 : decode cX7_heardBy 51 = .ok (.if_icmp .ne 9, 3) := by decide +kernel
theorem dX7_heardBy_54 : decode cX7_heardBy 54 = .ok (.sipush (-280), 3) := by decide +kernel
theorem dX7_heardBy_57 : decode cX7_heardBy 57 = .ok (.goto 13, 3) := by decide +kernel
theorem dX7_heardBy_60 : decode cX7_heardBy 60 = .ok (.aload_n 0, 1) := by decide +kernel
theorem dX7_heardBy_61 : decode cX7_heardBy 61 = .ok (.getfield 96, 3) := by decide +kernel
theorem dX7_heardBy_64 : decode cX7_heardBy 64 = .ok (.iload_n 3, 1) := by decide +kernel
theorem dX7_heardBy_65 : decode cX7_heardBy 65 = .ok (.bipush 14, 2) := by decide +kernel
theorem dX7_heardBy_67 : decode cX7_heardBy 67 = .ok (.isub, 1) := by decide +kernel
theorem dX7_heardBy_68 : decode cX7_heardBy 68 = .ok (.iaload, 1) := by decide +kernel
theorem dX7_heardBy_69 : decode cX7_heardBy 69 = .ok (.ineg, 1) := by decide +kernel
theorem dX7_heardBy_70 : decode cX7_heardBy 70 = .ok (.ireturn, 1) := by decide +kernel
theorem dX7_heardBy_71 : decode cX7_heardBy 71 = .ok (.iload_n 2, 1) := by decide +kernel
theorem dX7_heardBy_72 : decode cX7_heardBy 72 = .ok (.bipush 32, 2) := by decide +kernel
theorem dX7_heardBy_74 : decode cX7_heardBy 74 = .ok (.if_icmp .ge 10, 3) := by decide +kernel
theorem dX7_heardBy_77 : decode cX7_heardBy 77 = .ok (.aload_n 0, 1) := by decide +kernel
theorem dX7_heardBy_78 : decode cX7_heardBy 78 = .ok (.getfield 99, 3) := by decide +kernel
theorem dX7_heardBy_81 : decode cX7_heardBy 81 = .ok (.iload_n 2, 1) := by decide +kernel
theorem dX7_heardBy_82 : decode cX7_heardBy 82 = .ok (.iaload, 1) := by decide +kernel
theorem dX7_heardBy_83 : decode cX7_heardBy 83 = .ok (.ireturn, 1) := by decide +kernel
theorem dX7_heardBy_84 : decode cX7_heardBy 84 = .ok (.iload_n 2, 1) := by decide +kernel
theorem dX7_heardBy_85 : decode cX7_heardBy 85 = .ok (.bipush 60, 2) := by decide +kernel
theorem dX7_heardBy_87 : decode cX7_heardBy 87 = .ok (.if_icmp .ge 14, 3) := by decide +kernel
theorem dX7_heardBy_90 : decode cX7_heardBy 90 = .ok (.aload_n 0, 1) := by decide +kernel
theorem dX7_heardBy_91 : decode cX7_heardBy 91 = .ok (.getfield 99, 3) := by decide +kernel
theorem dX7_heardBy_94 : decode cX7_heardBy 94 = .ok (.iload_n 2, 1) := by decide +kernel
theorem dX7_heardBy_95 : decode cX7_heardBy 95 = .ok (.bipush 28, 2) := by decide +kernel
theorem dX7_heardBy_97 : decode cX7_heardBy 97 = .ok (.isub, 1) := by decide +kernel
theorem dX7_heardBy_98 : decode cX7_heardBy 98 = .ok (.iaload, 1) := by decide +kernel
theorem dX7_heardBy_99 : decode cX7_heardBy 99 = .ok (.ineg, 1) := by decide +kernel
theorem dX7_heardBy_100 : decode cX7_heardBy 100 = .ok (.ireturn, 1) := by decide +kernel
theorem dX7_heardBy_101 : decode cX7_heardBy 101 = .ok (.iload_n 2, 1) := by decide +kernel
theorem dX7_heardBy_102 : decode cX7_heardBy 102 = .ok (.bipush 60, 2) := by decide +kernel
theorem dX7_heardBy_104 : decode cX7_heardBy 104 = .ok (.if_icmp .ne 7, 3) := by decide +kernel
theorem dX7_heardBy_107 : decode cX7_heardBy 107 = .ok (.sipush 432, 3) := by decide +kernel
theorem dX7_heardBy_110 : decode cX7_heardBy 110 = .ok (.ireturn, 1) := by decide +kernel
theorem dX7_heardBy_111 : decode cX7_heardBy 111 = .ok (.iload_n 2, 1) := by decide +kernel
theorem dX7_heardBy_112 : decode cX7_heardBy 112 = .ok (.bipush 61, 2) := by decide +kernel
theorem dX7_heardBy_114 : decode cX7_heardBy 114 = .ok (.if_icmp .ne 7, 3) := by decide +kernel
theorem dX7_heardBy_117 : decode cX7_heardBy 117 = .ok (.sipush 136, 3) := by decide +kernel
theorem dX7_heardBy_120 : decode cX7_heardBy 120 = .ok (.ireturn, 1) := by decide +kernel
theorem dX7_heardBy_121 : decode cX7_heardBy 121 = .ok (.iload_n 2, 1) := by decide +kernel
theorem dX7_heardBy_122 : decode cX7_heardBy 122 = .ok (.bipush 62, 2) := by decide +kernel
theorem dX7_heardBy_124 : decode cX7_heardBy 124 = .ok (.if_icmp .ne 9, 3) := by decide +kernel
theorem dX7_heardBy_127 : decode cX7_heardBy 127 = .ok (.sipush (-432), 3) := by decide +kernel
theorem dX7_heardBy_130 : decode cX7_heardBy 130 = .ok (.goto 6, 3) := by decide +kernel
theorem dX7_heardBy_133 : decode cX7_heardBy 133 = .ok (.sipush (-136), 3) := by decide +kernel
theorem dX7_heardBy_136 : decode cX7_heardBy 136 = .ok (.ireturn, 1) := by decide +kernel
theorem dX7_sieves_0 : decode cX7_sieves 0 = .ok (.bipush 24, 2) := by decide +kernel
theorem dX7_sieves_2 : decode cX7_sieves 2 = .ok (.iload_n 1, 1) := by decide +kernel
theorem dX7_sieves_3 : decode cX7_sieves 3 = .ok (.imul, 1) := by decide +kernel
theorem dX7_sieves_4 : decode cX7_sieves 4 = .ok (.istore 4, 2) := by decide +kernel
theorem dX7_sieves_6 : decode cX7_sieves 6 = .ok (.iconst 0, 1) := by decide +kernel
theorem dX7_sieves_7 : decode cX7_sieves 7 = .ok (.istore 5, 2) := by decide +kernel
theorem dX7_sieves_9 : decode cX7_sieves 9 = .ok (.iload 5, 2) := by decide +kernel
theorem dX7_sieves_11 : decode cX7_sieves 11 = .ok (.bipush 22, 2) := by decide +kernel
theorem dX7_sieves_13 : decode cX7_sieves 13 = .ok (.if_icmp .ge 31, 3) := by decide +kernel
theorem dX7_sieves_16 : decode cX7_sieves 16 = .ok (.aload_n 0, 1) := by decide +kernel
theorem dX7_sieves_17 : decode cX7_sieves 17 = .ok (.getfield 72, 3) := by decide +kernel
theorem dX7_sieves_20 : decode cX7_sieves 20 = .ok (.iload 4, 2) := by decide +kernel
theorem dX7_sieves_22 : decode cX7_sieves 22 = .ok (.iload 5, 2) := by decide +kernel
theorem dX7_sieves_24 : decode cX7_sieves 24 = .ok (.iadd, 1) := by decide +kernel
theorem dX7_sieves_25 : decode cX7_sieves 25 = .ok (.aload_n 0, 1) := by decide +kernel
theorem dX7_sieves_26 : decode cX7_sieves 26 = .ok (.getfield 72, 3) := by decide +kernel
theorem dX7_sieves_29 : decode cX7_sieves 29 = .ok (.iload 4, 2) := by decide +kernel
theorem dX7_sieves_31 : decode cX7_sieves 31 = .ok (.iload 5, 2) := by decide +kernel
theorem dX7_sieves_33 : decode cX7_sieves 33 = .ok (.iadd, 1) := by decide +kernel
theorem dX7_sieves_34 : decode cX7_sieves 34 = .ok (.iconst 2, 1) := by decide +kernel
theorem dX7_sieves_35 : decode cX7_sieves 35 = .ok (.iadd, 1) := by decide +kernel
theorem dX7_sieves_36 : decode cX7_sieves 36 = .ok (.iaload, 1) := by decide +kernel
theorem dX7_sieves_37 : decode cX7_sieves 37 = .ok (.iastore, 1) := by decide +kernel
theorem dX7_sieves_38 : decode cX7_sieves 38 = .ok (.iinc 5 1, 3) := by decide +kernel
theorem dX7_sieves_41 : decode cX7_sieves 41 = .ok (.goto (-32), 3) := by decide +kernel
theorem dX7_sieves_44 : decode cX7_sieves 44 = .ok (.aload_n 0, 1) := by decide +kernel
theorem dX7_sieves_45 : decode cX7_sieves 45 = .ok (.getfield 72, 3) := by decide +kernel
theorem dX7_sieves_48 : decode cX7_sieves 48 = .ok (.iload 4, 2) := by decide +kernel
theorem dX7_sieves_50 : decode cX7_sieves 50 = .ok (.bipush 22, 2) := by decide +kernel
theorem dX7_sieves_52 : decode cX7_sieves 52 = .ok (.iadd, 1) := by decide +kernel
theorem dX7_sieves_53 : decode cX7_sieves 53 = .ok (.iload_n 2, 1) := by decide +kernel
theorem dX7_sieves_54 : decode cX7_sieves 54 = .ok (.iastore, 1) := by decide +kernel
theorem dX7_sieves_55 : decode cX7_sieves 55 = .ok (.aload_n 0, 1) := by decide +kernel
theorem dX7_sieves_56 : decode cX7_sieves 56 = .ok (.getfield 72, 3) := by decide +kernel
theorem dX7_sieves_59 : decode cX7_sieves 59 = .ok (.iload 4, 2) := by decide +kernel
theorem dX7_sieves_61 : decode cX7_sieves 61 = .ok (.bipush 23, 2) := by decide +kernel
theorem dX7_sieves_63 : decode cX7_sieves 63 = .ok (.iadd, 1) := by decide +kernel
theorem dX7_sieves_64 : decode cX7_sieves 64 = .ok (.iload_n 3, 1) := by decide +kernel
theorem dX7_sieves_65 : decode cX7_sieves 65 = .ok (.iastore, 1) := by decide +kernel
theorem dX7_sieves_66 : decode cX7_sieves 66 = .ok (.aload_n 0, 1) := by decide +kernel
theorem dX7_sieves_67 : decode cX7_sieves 67 = .ok (.iconst 0, 1) := by decide +kernel
theorem dX7_sieves_68 : decode cX7_sieves 68 = .ok (.putfield 185, 3) := by decide +kernel
theorem dX7_sieves_71 : decode cX7_sieves 71 = .ok (.aload_n 0, 1) := by decide +kernel
theorem dX7_sieves_72 : decode cX7_sieves 72 = .ok (.iconst 0, 1) := by decide +kernel
theorem dX7_sieves_73 : decode cX7_sieves 73 = .ok (.putfield 188, 3) := by decide +kernel
theorem dX7_sieves_76 : decode cX7_sieves 76 = .ok (.iconst 0, 1) := by decide +kernel
theorem dX7_sieves_77 : decode cX7_sieves 77 = .ok (.istore 5, 2) := by decide +kernel
theorem dX7_sieves_79 : decode cX7_sieves 79 = .ok (.iload 5, 2) := by decide +kernel
theorem dX7_sieves_81 : decode cX7_sieves 81 = .ok (.bipush 12, 2) := by decide +kernel
theorem dX7_sieves_83 : decode cX7_sieves 83 = .ok (.if_icmp .ge 72, 3) := by decide +kernel
theorem dX7_sieves_86 : decode cX7_sieves 86 = .ok (.aload_n 0, 1) := by decide +kernel
theorem dX7_sieves_87 : decode cX7_sieves 87 = .ok (.aload_n 0, 1) := by decide +kernel
theorem dX7_sieves_88 : decode cX7_sieves 88 = .ok (.getfield 185, 3) := by decide +kernel
theorem dX7_sieves_91 : decode cX7_sieves 91 = .ok (.aload_n 0, 1) := by decide +kernel
theorem dX7_sieves_92 : decode cX7_sieves 92 = .ok (.getfield 72, 3) := by decide +kernel
theorem dX7_sieves_95 : decode cX7_sieves 95 = .ok (.iload 4, 2) := by decide +kernel
theorem dX7_sieves_97 : decode cX7_sieves 97 = .ok (.iconst 2, 1) := by decide +kernel
theorem dX7_sieves_98 : decode cX7_sieves 98 = .ok (.iload 5, 2) := by decide +kernel
theorem dX7_sieves_100 : decode cX7_sieves 100 = .ok (.imul, 1) := by decide +kernel
theorem dX7_sieves_101 : decode cX7_sieves 101 = .ok (.iadd, 1) := by decide +kernel
theorem dX7_sieves_102 : decode cX7_sieves 102 = .ok (.iaload, 1) := by decide +kernel
theorem dX7_sieves_103 : decode cX7_sieves 103 = .ok (.aload_n 0, 1) := by decide +kernel
theorem dX7_sieves_104 : decode cX7_sieves 104 = .ok (.getfield 75, 3) := by decide +kernel
theorem dX7_sieves_107 : decode cX7_sieves 107 = .ok (.iload 5, 2) := by decide +kernel
theorem dX7_sieves_109 : decode cX7_sieves 109 = .ok (.iaload, 1) := by decide +kernel
theorem dX7_sieves_110 : decode cX7_sieves 110 = .ok (.imul, 1) := by decide +kernel
theorem dX7_sieves_111 : decode cX7_sieves 111 = .ok (.iadd, 1) := by decide +kernel
theorem dX7_sieves_112 : decode cX7_sieves 112 = .ok (.putfield 185, 3) := by decide +kernel
theorem dX7_sieves_115 : decode cX7_sieves 115 = .ok (.aload_n 0, 1) := by decide +kernel
theorem dX7_sieves_116 : decode cX7_sieves 116 = .ok (.aload_n 0, 1) := by decide +kernel
theorem dX7_sieves_117 : decode cX7_sieves 117 = .ok (.getfield 188, 3) := by decide +kernel
theorem dX7_sieves_120 : decode cX7_sieves 120 = .ok (.aload_n 0, 1) := by decide +kernel
theorem dX7_sieves_121 : decode cX7_sieves 121 = .ok (.getfield 72, 3) := by decide +kernel
theorem dX7_sieves_124 : decode cX7_sieves 124 = .ok (.iload 4, 2) := by decide +kernel
theorem dX7_sieves_126 : decode cX7_sieves 126 = .ok (.iconst 2, 1) := by decide +kernel
theorem dX7_sieves_127 : decode cX7_sieves 127 = .ok (.iload 5, 2) := by decide +kernel
theorem dX7_sieves_129 : decode cX7_sieves 129 = .ok (.imul, 1) := by decide +kernel
theorem dX7_sieves_130 : decode cX7_sieves 130 = .ok (.iadd, 1) := by decide +kernel
theorem dX7_sieves_131 : decode cX7_sieves 131 = .ok (.iconst 1, 1) := by decide +kernel
theorem dX7_sieves_132 : decode cX7_sieves 132 = .ok (.iadd, 1) := by decide +kernel
theorem dX7_sieves_133 : decode cX7_sieves 133 = .ok (.iaload, 1) := by decide +kernel
theorem dX7_sieves_134 : decode cX7_sieves 134 = .ok (.aload_n 0, 1) := by decide +kernel
theorem dX7_sieves_135 : decode cX7_sieves 135 = .ok (.getfield 75, 3) := by decide +kernel
theorem dX7_sieves_138 : decode cX7_sieves 138 = .ok (.bipush 11, 2) := by decide +kernel
theorem dX7_sieves_140 : decode cX7_sieves 140 = .ok (.iload 5, 2) := by decide +kernel
theorem dX7_sieves_142 : decode cX7_sieves 142 = .ok (.isub, 1) := by decide +kernel
theorem dX7_sieves_143 : decode cX7_sieves 143 = .ok (.iaload, 1) := by decide +kernel
theorem dX7_sieves_144 : decode cX7_sieves 144 = .ok (.imul, 1) := by decide +kernel
theorem dX7_sieves_145 : decode cX7_sieves 145 = .ok (.iadd, 1) := by decide +kernel
theorem dX7_sieves_146 : decode cX7_sieves 146 = .ok (.putfield 188, 3) := by decide +kernel
theorem dX7_sieves_149 : decode cX7_sieves 149 = .ok (.iinc 5 1, 3) := by decide +kernel
theorem dX7_sieves_152 : decode cX7_sieves 152 = .ok (.goto (-73), 3) := by decide +kernel
theorem dX7_sieves_155 : decode cX7_sieves 155 = .ok (.return_, 1) := by decide +kernel
theorem dX7_says722_0 : decode cX7_says722 0 = .ok (.aload_n 0, 1) := by decide +kernel
theorem dX7_says722_1 : decode cX7_says722 1 = .ok (.iload_n 1, 1) := by decide +kernel
theorem dX7_says722_2 : decode cX7_says722 2 = .ok (.iload_n 2, 1) := by decide +kernel
theorem dX7_says722_3 : decode cX7_says722 3 = .ok (.iload_n 3, 1) := by decide +kernel
theorem dX7_says722_4 : decode cX7_says722 4 = .ok (.invokevirtual 191, 3) := by decide +kernel
theorem dX7_says722_7 : decode cX7_says722 7 = .ok (.bipush 46, 2) := by decide +kernel
theorem dX7_says722_9 : decode cX7_says722 9 = .ok (.iload_n 1, 1) := by decide +kernel
theorem dX7_says722_10 : decode cX7_says722 10 = .ok (.imul, 1) := by decide +kernel
theorem dX7_says722_11 : decode cX7_says722 11 = .ok (.istore 4, 2) := by decide +kernel
theorem dX7_says722_13 : decode cX7_says722 13 = .ok (.aload_n 0, 1) := by decide +kernel
theorem dX7_says722_14 : decode cX7_says722 14 = .ok (.aload_n 0, 1) := by decide +kernel
theorem dX7_says722_15 : decode cX7_says722 15 = .ok (.getfield 188, 3) := by decide +kernel
theorem dX7_says722_18 : decode cX7_says722 18 = .ok (.aload_n 0, 1) := by decide +kernel
theorem dX7_says722_19 : decode cX7_says722 19 = .ok (.getfield 185, 3) := by decide +kernel
theorem dX7_says722_22 : decode cX7_says722 22 = .ok (.iadd, 1) := by decide +kernel
theorem dX7_says722_23 : decode cX7_says722 23 = .ok (.bipush 14, 2) := by decide +kernel
theorem dX7_says722_25 : decode cX7_says722 25 = .ok (.ishr, 1) := by decide +kernel
theorem dX7_says722_26 : decode cX7_says722 26 = .ok (.aload_n 0, 1) := by decide +kernel
theorem dX7_says722_27 : decode cX7_says722 27 = .ok (.getfield 69, 3) := by decide +kernel
theorem dX7_says722_30 : decode cX7_says722 30 = .ok (.iload 4, 2) := by decide +kernel
theorem dX7_says722_32 : decode cX7_says722 32 = .ok (.iconst 2, 1) := by decide +kernel
theorem dX7_says722_33 : decode cX7_says722 33 = .ok (.iadd, 1) := by decide +kernel
theorem dX7_says722_34 : decode cX7_says722 34 = .ok (.iaload, 1) := by decide +kernel
theorem dX7_says722_35 : decode cX7_says722 35 = .ok (.isub, 1) := by decide +kernel
theorem dX7_says722_36 : decode cX7_says722 36 = .ok (.invokevirtual 182, 3) := by decide +kernel
theorem dX7_says722_39 : decode cX7_says722 39 = .ok (.istore 5, 2) := by decide +kernel
theorem dX7_says722_41 : decode cX7_says722 41 = .ok (.iload 5, 2) := by decide +kernel
theorem dX7_says722_43 : decode cX7_says722 43 = .ok (.ifCond .ge 11, 3) := by decide +kernel
theorem dX7_says722_46 : decode cX7_says722 46 = .ok (.iload 5, 2) := by decide +kernel
theorem dX7_says722_48 : decode cX7_says722 48 = .ok (.iconst 1, 1) := by decide +kernel
theorem dX7_says722_49 : decode cX7_says722 49 = .ok (.iadd, 1) := by decide +kernel
theorem dX7_says722_50 : decode cX7_says722 50 = .ok (.ineg, 1) := by decide +kernel
theorem dX7_says722_51 : decode cX7_says722 51 = .ok (.goto 5, 3) := by decide +kernel
theorem dX7_says722_54 : decode cX7_says722 54 = .ok (.iload 5, 2) := by decide +kernel
theorem dX7_says722_56 : decode cX7_says722 56 = .ok (.istore 6, 2) := by decide +kernel
theorem dX7_says722_58 : decode cX7_says722 58 = .ok (.iconst 1, 1) := by decide +kernel
theorem dX7_says722_59 : decode cX7_says722 59 = .ok (.istore 7, 2) := by decide +kernel
theorem dX7_says722_61 : decode cX7_says722 61 = .ok (.iload 7, 2) := by decide +kernel
theorem dX7_says722_63 : decode cX7_says722 63 = .ok (.bipush 30, 2) := by decide +kernel
theorem dX7_says722_65 : decode cX7_says722 65 = .ok (.if_icmp .ge 39, 3) := by decide +kernel
theorem dX7_says722_68 : decode cX7_says722 68 = .ok (.iload 6, 2) := by decide +kernel
theorem dX7_says722_70 : decode cX7_says722 70 = .ok (.aload_n 0, 1) := by decide +kernel
theorem dX7_says722_71 : decode cX7_says722 71 = .ok (.getfield 78, 3) := by decide +kernel
theorem dX7_says722_74 : decode cX7_says722 74 = .ok (.iload 7, 2) := by decide +kernel
theorem dX7_says722_76 : decode cX7_says722 76 = .ok (.iconst 1, 1) := by decide +kernel
theorem dX7_says722_77 : decode cX7_says722 77 = .ok (.isub, 1) := by decide +kernel
theorem dX7_says722_78 : decode cX7_says722 78 = .ok (.iaload, 1) := by decide +kernel
theorem dX7_says722_79 : decode cX7_says722 79 = .ok (.aload_n 0, 1) := by decide +kernel
theorem dX7_says722_80 : decode cX7_says722 80 = .ok (.getfield 69, 3) := by decide +kernel
theorem dX7_says722_83 : decode cX7_says722 83 = .ok (.iload 4, 2) := by decide +kernel
theorem dX7_says722_85 : decode cX7_says722 85 = .ok (.iconst 1, 1) := by decide +kernel
theorem dX7_says722_86 : decode cX7_says722 86 = .ok (.iadd, 1) := by decide +kernel
theorem dX7_says722_87 : decode cX7_says722 87 = .ok (.iaload, 1) := by decide +kernel
theorem dX7_says722_88 : decode cX7_says722 88 = .ok (.imul, 1) := by decide +kernel
theorem dX7_says722_89 : decode cX7_says722 89 = .ok (.bipush 12, 2) := by decide +kernel
theorem dX7_says722_91 : decode cX7_says722 91 = .ok (.ishr, 1) := by decide +kernel
theorem dX7_says722_92 : decode cX7_says722 92 = .ok (.if_icmp .lt 12, 3) := by decide +kernel
theorem dX7_says722_95 : decode cX7_says722 95 = .ok (.iload 7, 2) := by decide +kernel
theorem dX7_says722_97 : decode cX7_says722 97 = .ok (.iconst 1, 1) := by decide +kernel
theorem dX7_says722_98 : decode cX7_says722 98 = .ok (.iadd, 1) := by decide +kernel
theorem dX7_says722_99 : decode cX7_says722 99 = .ok (.istore 7, 2) := by decide +kernel
theorem dX7_says722_101 : decode cX7_says722 101 = .ok (.goto (-40), 3) := by decide +kernel
theorem dX7_says722_104 : decode cX7_says722 104 = .ok (.iload 5, 2) := by decide +kernel
theorem dX7_says722_106 : decode cX7_says722 106 = .ok (.ifCond .lt 11, 3) := by decide +kernel
theorem dX7_says722_109 : decode cX7_says722 109 = .ok (.bipush 62, 2) := by decide +kernel
theorem dX7_says722_111 : decode cX7_says722 111 = .ok (.iload 7, 2) := by decide +kernel
theorem dX7_says722_113 : decode cX7_says722 113 = .ok (.isub, 1) := by decide +kernel
theorem dX7_says722_114 : decode cX7_says722 114 = .ok (.goto 22, 3) := by decide +kernel
theorem dX7_says722_117 : decode cX7_says722 117 = .ok (.iload 7, 2) := by decide +kernel
theorem dX7_says722_119 : decode cX7_says722 119 = .ok (.iconst 3, 1) := by decide +kernel
theorem dX7_says722_120 : decode cX7_says722 120 = .ok (.if_icmp .ge 11, 3) := by decide +kernel
theorem dX7_says722_123 : decode cX7_says722 123 = .ok (.bipush 64, 2) := by decide +kernel
theorem dX7_says722_125 : decode cX7_says722 125 = .ok (.iload 7, 2) := by decide +kernel
theorem dX7_says722_127 : decode cX7_says722 127 = .ok (.isub, 1) := by decide +kernel
theorem dX7_says722_128 : decode cX7_says722 128 = .ok (.goto 8, 3) := by decide +kernel
theorem dX7_says722_131 : decode cX7_says722 131 = .ok (.bipush 34, 2) := by decide +kernel
theorem dX7_says722_133 : decode cX7_says722 133 = .ok (.iload 7, 2) := by decide +kernel
theorem dX7_says722_135 : decode cX7_says722 135 = .ok (.isub, 1) := by decide +kernel
theorem dX7_says722_136 : decode cX7_says722 136 = .ok (.istore 8, 2) := by decide +kernel
theorem dX7_says722_138 : decode cX7_says722 138 = .ok (.aload_n 0, 1) := by decide +kernel
theorem dX7_says722_139 : decode cX7_says722 139 = .ok (.aload_n 0, 1) := by decide +kernel
theorem dX7_says722_140 : decode cX7_says722 140 = .ok (.getfield 188, 3) := by decide +kernel
theorem dX7_says722_143 : decode cX7_says722 143 = .ok (.aload_n 0, 1) := by decide +kernel
theorem dX7_says722_144 : decode cX7_says722 144 = .ok (.getfield 185, 3) := by decide +kernel
theorem dX7_says722_147 : decode cX7_says722 147 = .ok (.isub, 1) := by decide +kernel
theorem dX7_says722_148 : decode cX7_says722 148 = .ok (.bipush 14, 2) := by decide +kernel
theorem dX7_says722_150 : decode cX7_says722 150 = .ok (.ishr, 1) := by decide +kernel
theorem dX7_says722_151 : decode cX7_says722 151 = .ok (.aload_n 0, 1) := by decide +kernel
theorem dX7_says722_152 : decode cX7_says722 152 = .ok (.getfield 69, 3) := by decide +kernel
theorem dX7_says722_155 : decode cX7_says722 155 = .ok (.iload 4, 2) := by decide +kernel
theorem dX7_says722_157 : decode cX7_says722 157 = .ok (.bipush 25, 2) := by decide +kernel
theorem dX7_says722_159 : decode cX7_says722 159 = .ok (.iadd, 1) := by decide +kernel
theorem dX7_says722_160 : decode cX7_says722 160 = .ok (.iaload, 1) := by decide +kernel
theorem dX7_says722_161 : decode cX7_says722 161 = .ok (.isub, 1) := by decide +kernel
theorem dX7_says722_162 : decode cX7_says722 162 = .ok (.invokevirtual 182, 3) := by decide +kernel
theorem dX7_says722_165 : decode cX7_says722 165 = .ok (.istore 9, 2) := by decide +kernel
theorem dX7_says722_167 : decode cX7_says722 167 = .ok (.iload 9, 2) := by decide +kernel
theorem dX7_says722_169 : decode cX7_says722 169 = .ok (.ifCond .ge 11, 3) := by decide +kernel
theorem dX7_says722_172 : decode cX7_says722 172 = .ok (.iload 9, 2) := by decide +kernel
theorem dX7_says722_174 : decode cX7_says722 174 = .ok (.iconst 1, 1) := by decide +kernel
theorem dX7_says722_175 : decode cX7_says722 175 = .ok (.iadd, 1) := by decide +kernel
theorem dX7_says722_176 : decode cX7_says722 176 = .ok (.ineg, 1) := by decide +kernel
theorem dX7_says722_177 : decode cX7_says722 177 = .ok (.goto 5, 3) := by decide +kernel
theorem dX7_says722_180 : decode cX7_says722 180 = .ok (.iload 9, 2) := by decide +kernel
theorem dX7_says722_182 : decode cX7_says722 182 = .ok (.istore 10, 2) := by decide +kernel
theorem dX7_says722_184 : decode cX7_says722 184 = .ok (.iload 10, 2) := by decide +kernel
theorem dX7_says722_186 : decode cX7_says722 186 = .ok (.sipush 564, 3) := by decide +kernel
theorem dX7_says722_189 : decode cX7_says722 189 = .ok (.aload_n 0, 1) := by decide +kernel
theorem dX7_says722_190 : decode cX7_says722 190 = .ok (.getfield 69, 3) := by decide +kernel
theorem dX7_says722_193 : decode cX7_says722 193 = .ok (.iload 4, 2) := by decide +kernel
theorem dX7_says722_195 : decode cX7_says722 195 = .ok (.bipush 24, 2) := by decide +kernel
theorem dX7_says722_197 : decode cX7_says722 197 = .ok (.iadd, 1) := by decide +kernel
theorem dX7_says722_198 : decode cX7_says722 198 = .ok (.iaload, 1) := by decide +kernel
theorem dX7_says722_199 : decode cX7_says722 199 = .ok (.imul, 1) := by decide +kernel
theorem dX7_says722_200 : decode cX7_says722 200 = .ok (.bipush 12, 2) := by decide +kernel
theorem dX7_says722_202 : decode cX7_says722 202 = .ok (.ishr, 1) := by decide +kernel
theorem dX7_says722_203 : decode cX7_says722 203 = .ok (.if_icmp .ge 7, 3) := by decide +kernel
theorem dX7_says722_206 : decode cX7_says722 206 = .ok (.iconst 1, 1) := by decide +kernel
theorem dX7_says722_207 : decode cX7_says722 207 = .ok (.goto 4, 3) := by decide +kernel
theorem dX7_says722_210 : decode cX7_says722 210 = .ok (.iconst 0, 1) := by decide +kernel
theorem dX7_says722_211 : decode cX7_says722 211 = .ok (.istore 11, 2) := by decide +kernel
theorem dX7_says722_213 : decode cX7_says722 213 = .ok (.iload 9, 2) := by decide +kernel
theorem dX7_says722_215 : decode cX7_says722 215 = .ok (.ifCond .ge 16, 3) := by decide +kernel
theorem dX7_says722_218 : decode cX7_says722 218 = .ok (.iload 11, 2) := by decide +kernel
theorem dX7_says722_220 : decode cX7_says722 220 = .ok (.ifCond .eq 7, 3) := by decide +kernel
theorem dX7_says722_223 : decode cX7_says722 223 = .ok (.iconst 1, 1) := by decide +kernel
theorem dX7_says722_224 : decode cX7_says722 224 = .ok (.goto 17, 3) := by decide +kernel
theorem dX7_says722_227 : decode cX7_says722 227 = .ok (.iconst 0, 1) := by decide +kernel
theorem dX7_says722_228 : decode cX7_says722 228 = .ok (.goto 13, 3) := by decide +kernel
theorem dX7_says722_231 : decode cX7_says722 231 = .ok (.iload 11, 2) := by decide +kernel
theorem dX7_says722_233 : decode cX7_says722 233 = .ok (.ifCond .eq 7, 3) := by decide +kernel
theorem dX7_says722_236 : decode cX7_says722 236 = .ok (.iconst 3, 1) := by decide +kernel
theorem dX7_says722_237 : decode cX7_says722 237 = .ok (.goto 4, 3) := by decide +kernel
theorem dX7_says722_240 : decode cX7_says722 240 = .ok (.iconst 2, 1) := by decide +kernel
theorem dX7_says722_241 : decode cX7_says722 241 = .ok (.istore 12, 2) := by decide +kernel
theorem dX7_says722_243 : decode cX7_says722 243 = .ok (.aload_n 0, 1) := by decide +kernel
theorem dX7_says722_244 : decode cX7_says722 244 = .ok (.iload_n 1, 1) := by decide +kernel
theorem dX7_says722_245 : decode cX7_says722 245 = .ok (.iload 8, 2) := by decide +kernel
theorem dX7_says722_247 : decode cX7_says722 247 = .ok (.iload 12, 2) := by decide +kernel
theorem dX7_says722_249 : decode cX7_says722 249 = .ok (.invokevirtual 195, 3) := by decide +kernel
theorem dX7_says722_252 : decode cX7_says722 252 = .ok (.bipush 64, 2) := by decide +kernel
theorem dX7_says722_254 : decode cX7_says722 254 = .ok (.iload 12, 2) := by decide +kernel
theorem dX7_says722_256 : decode cX7_says722 256 = .ok (.imul, 1) := by decide +kernel
theorem dX7_says722_257 : decode cX7_says722 257 = .ok (.iload 8, 2) := by decide +kernel
theorem dX7_says722_259 : decode cX7_says722 259 = .ok (.iadd, 1) := by decide +kernel
theorem dX7_says722_260 : decode cX7_says722 260 = .ok (.ireturn, 1) := by decide +kernel
theorem dX7_root_0 : decode cX7_root 0 = .ok (.aload_n 0, 1) := by decide +kernel
theorem dX7_root_1 : decode cX7_root 1 = .ok (.getfield 81, 3) := by decide +kernel
theorem dX7_root_4 : decode cX7_root 4 = .ok (.iload_n 1, 1) := by decide +kernel
theorem dX7_root_5 : decode cX7_root 5 = .ok (.bipush 6, 2) := by decide +kernel
theorem dX7_root_7 : decode cX7_root 7 = .ok (.ishr, 1) := by decide +kernel
theorem dX7_root_8 : decode cX7_root 8 = .ok (.bipush 31, 2) := by decide +kernel
theorem dX7_root_10 : decode cX7_root 10 = .ok (.iand, 1) := by decide +kernel
theorem dX7_root_11 : decode cX7_root 11 = .ok (.iaload, 1) := by decide +kernel
theorem dX7_root_12 : decode cX7_root 12 = .ok (.istore_n 3, 1) := by decide +kernel
theorem dX7_root_13 : decode cX7_root 13 = .ok (.iload_n 2, 1) := by decide +kernel
theorem dX7_root_14 : decode cX7_root 14 = .ok (.iload_n 1, 1) := by decide +kernel
theorem dX7_root_15 : decode cX7_root 15 = .ok (.bipush 11, 2) := by decide +kernel
theorem dX7_root_17 : decode cX7_root 17 = .ok (.ishr, 1) := by decide +kernel
theorem dX7_root_18 : decode cX7_root 18 = .ok (.isub, 1) := by decide +kernel
theorem dX7_root_19 : decode cX7_root 19 = .ok (.istore 4, 2) := by decide +kernel
theorem dX7_root_21 : decode cX7_root 21 = .ok (.iconst 4, 1) := by decide +kernel
theorem dX7_root_22 : decode cX7_root 22 = .ok (.iload 4, 2) := by decide +kernel
theorem dX7_root_24 : decode cX7_root 24 = .ok (.ifCond .ge 11, 3) := by decide +kernel
theorem dX7_root_27 : decode cX7_root 27 = .ok (.iload_n 3, 1) := by decide +kernel
theorem dX7_root_28 : decode cX7_root 28 = .ok (.iload 4, 2) := by decide +kernel
theorem dX7_root_30 : decode cX7_root 30 = .ok (.ineg, 1) := by decide +kernel
theorem dX7_root_31 : decode cX7_root 31 = .ok (.ishl, 1) := by decide +kernel
theorem dX7_root_32 : decode cX7_root 32 = .ok (.goto 7, 3) := by decide +kernel
theorem dX7_root_35 : decode cX7_root 35 = .ok (.iload_n 3, 1) := by decide +kernel
theorem dX7_root_36 : decode cX7_root 36 = .ok (.iload 4, 2) := by decide +kernel
theorem dX7_root_38 : decode cX7_root 38 = .ok (.ishr, 1) := by decide +kernel
theorem dX7_root_39 : decode cX7_root 39 = .ok (.imul, 1) := by decide +kernel
theorem dX7_root_40 : decode cX7_root 40 = .ok (.ireturn, 1) := by decide +kernel
theorem dX7_both_0 : decode cX7_both 0 = .ok (.bipush 46, 2) := by decide +kernel
theorem dX7_both_2 : decode cX7_both 2 = .ok (.iload_n 1, 1) := by decide +kernel
theorem dX7_both_3 : decode cX7_both 3 = .ok (.imul, 1) := by decide +kernel
theorem dX7_both_4 : decode cX7_both 4 = .ok (.istore 4, 2) := by decide +kernel
theorem dX7_both_6 : decode cX7_both 6 = .ok (.iload_n 2, 1) := by decide +kernel
theorem dX7_both_7 : decode cX7_both 7 = .ok (.iconst 2, 1) := by decide +kernel
theorem dX7_both_8 : decode cX7_both 8 = .ok (.ishr, 1) := by decide +kernel
theorem dX7_both_9 : decode cX7_both 9 = .ok (.istore 5, 2) := by decide +kernel
theorem dX7_both_11 : decode cX7_both 11 = .ok (.aload_n 0, 1) := by decide +kernel
theorem dX7_both_12 : decode cX7_both 12 = .ok (.getfield 69, 3) := by decide +kernel
theorem dX7_both_15 : decode cX7_both 15 = .ok (.iload 4, 2) := by decide +kernel
theorem dX7_both_17 : decode cX7_both 17 = .ok (.iconst 1, 1) := by decide +kernel
theorem dX7_both_18 : decode cX7_both 18 = .ok (.iadd, 1) := by decide +kernel
theorem dX7_both_19 : decode cX7_both 19 = .ok (.iaload, 1) := by decide +kernel
theorem dX7_both_20 : decode cX7_both 20 = .ok (.aload_n 0, 1) := by decide +kernel
theorem dX7_both_21 : decode cX7_both 21 = .ok (.getfield 84, 3) := by decide +kernel
theorem dX7_both_24 : decode cX7_both 24 = .ok (.iload 5, 2) := by decide +kernel
theorem dX7_both_26 : decode cX7_both 26 = .ok (.iaload, 1) := by decide +kernel
theorem dX7_both_27 : decode cX7_both 27 = .ok (.imul, 1) := by decide +kernel
theorem dX7_both_28 : decode cX7_both 28 = .ok (.bipush 15, 2) := by decide +kernel
theorem dX7_both_30 : decode cX7_both 30 = .ok (.ishr, 1) := by decide +kernel
theorem dX7_both_31 : decode cX7_both 31 = .ok (.istore 6, 2) := by decide +kernel
theorem dX7_both_33 : decode cX7_both 33 = .ok (.aload_n 0, 1) := by decide +kernel
theorem dX7_both_34 : decode cX7_both 34 = .ok (.getfield 69, 3) := by decide +kernel
theorem dX7_both_37 : decode cX7_both 37 = .ok (.iload 4, 2) := by decide +kernel
theorem dX7_both_39 : decode cX7_both 39 = .ok (.aload_n 0, 1) := by decide +kernel
theorem dX7_both_40 : decode cX7_both 40 = .ok (.bipush 127, 2) := by decide +kernel
theorem dX7_both_42 : decode cX7_both 42 = .ok (.aload_n 0, 1) := by decide +kernel
theorem dX7_both_43 : decode cX7_both 43 = .ok (.getfield 69, 3) := by decide +kernel
theorem dX7_both_46 : decode cX7_both 46 = .ok (.iload 4, 2) := by decide +kernel
theorem dX7_both_48 : decode cX7_both 48 = .ok (.iaload, 1) := by decide +kernel
theorem dX7_both_49 : decode cX7_both 49 = .ok (.imul, 1) := by decide +kernel
theorem dX7_both_50 : decode cX7_both 50 = .ok (.bipush 7, 2) := by decide +kernel
theorem dX7_both_52 : decode cX7_both 52 = .ok (.ishr, 1) := by decide +kernel
theorem dX7_both_53 : decode cX7_both 53 = .ok (.aload_n 0, 1) := by decide +kernel
theorem dX7_both_54 : decode cX7_both 54 = .ok (.getfield 90, 3) := by decide +kernel
theorem dX7_both_57 : decode cX7_both 57 = .ok (.iload 5, 2) := by decide +kernel
theorem dX7_both_59 : decode cX7_both 59 = .ok (.iaload, 1) := by decide +kernel
theorem dX7_both_60 : decode cX7_both 60 = .ok (.iadd, 1) := by decide +kernel
theorem dX7_both_61 : decode cX7_both 61 = .ok (.iconst 0, 1) := by decide +kernel
theorem dX7_both_62 : decode cX7_both 62 = .ok (.sipush 18432, 3) := by decide +kernel
theorem dX7_both_65 : decode cX7_both 65 = .ok (.invokevirtual 169, 3) := by decide +kernel
theorem dX7_both_68 : decode cX7_both 68 = .ok (.iastore, 1) := by decide +kernel
theorem dX7_both_69 : decode cX7_both 69 = .ok (.aload_n 0, 1) := by decide +kernel
theorem dX7_both_70 : decode cX7_both 70 = .ok (.getfield 69, 3) := by decide +kernel
theorem dX7_both_73 : decode cX7_both 73 = .ok (.iload 4, 2) := by decide +kernel
theorem dX7_both_75 : decode cX7_both 75 = .ok (.iconst 1, 1) := by decide +kernel
theorem dX7_both_76 : decode cX7_both 76 = .ok (.iadd, 1) := by decide +kernel
theorem dX7_both_77 : decode cX7_both 77 = .ok (.aload_n 0, 1) := by decide +kernel
theorem dX7_both_78 : decode cX7_both 78 = .ok (.aload_n 0, 1) := by decide +kernel
theorem dX7_both_79 : decode cX7_both 79 = .ok (.getfield 69, 3) := by decide +kernel
theorem dX7_both_82 : decode cX7_both 82 = .ok (.iload 4, 2) := by decide +kernel
theorem dX7_both_84 : decode cX7_both 84 = .ok (.iaload, 1) := by decide +kernel
theorem dX7_both_85 : decode cX7_both 85 = .ok (.bipush 8, 2) := by decide +kernel
theorem dX7_both_87 : decode cX7_both 87 = .ok (.invokevirtual 198, 3) := by decide +kernel
theorem dX7_both_90 : decode cX7_both 90 = .ok (.iastore, 1) := by decide +kernel
theorem dX7_both_91 : decode cX7_both 91 = .ok (.aload_n 0, 1) := by decide +kernel
theorem dX7_both_92 : decode cX7_both 92 = .ok (.iload 4, 2) := by decide +kernel
theorem dX7_both_94 : decode cX7_both 94 = .ok (.iload 6, 2) := by decide +kernel
theorem dX7_both_96 : decode cX7_both 96 = .ok (.invokevirtual 201, 3) := by decide +kernel
theorem dX7_both_99 : decode cX7_both 99 = .ok (.aload_n 0, 1) := by decide +kernel
theorem dX7_both_100 : decode cX7_both 100 = .ok (.getfield 69, 3) := by decide +kernel
theorem dX7_both_103 : decode cX7_both 103 = .ok (.iload 4, 2) := by decide +kernel
theorem dX7_both_105 : decode cX7_both 105 = .ok (.bipush 24, 2) := by decide +kernel
theorem dX7_both_107 : decode cX7_both 107 = .ok (.iadd, 1) := by decide +kernel
theorem dX7_both_108 : decode cX7_both 108 = .ok (.iaload, 1) := by decide +kernel
theorem dX7_both_109 : decode cX7_both 109 = .ok (.aload_n 0, 1) := by decide +kernel
theorem dX7_both_110 : decode cX7_both 110 = .ok (.getfield 87, 3) := by decide +kernel
theorem dX7_both_113 : decode cX7_both 113 = .ok (.iload_n 3, 1) := by decide +kernel
theorem dX7_both_114 : decode cX7_both 114 = .ok (.iaload, 1) := by decide +kernel
theorem dX7_both_115 : decode cX7_both 115 = .ok (.imul, 1) := by decide +kernel
theorem dX7_both_116 : decode cX7_both 116 = .ok (.bipush 15, 2) := by decide +kernel
theorem dX7_both_118 : decode cX7_both 118 = .ok (.ishr, 1) := by decide +kernel
theorem dX7_both_119 : decode cX7_both 119 = .ok (.istore 7, 2) := by decide +kernel
theorem dX7_both_121 : decode cX7_both 121 = .ok (.aload_n 0, 1) := by decide +kernel
theorem dX7_both_122 : decode cX7_both 122 = .ok (.getfield 69, 3) := by decide +kernel
theorem dX7_both_125 : decode cX7_both 125 = .ok (.iload 4, 2) := by decide +kernel
theorem dX7_both_127 : decode cX7_both 127 = .ok (.bipush 23, 2) := by decide +kernel
theorem dX7_both_129 : decode cX7_both 129 = .ok (.iadd, 1) := by decide +kernel
theorem dX7_both_130 : decode cX7_both 130 = .ok (.aload_n 0, 1) := by decide +kernel
theorem dX7_both_131 : decode cX7_both 131 = .ok (.bipush 127, 2) := by decide +kernel
theorem dX7_both_133 : decode cX7_both 133 = .ok (.aload_n 0, 1) := by decide +kernel
theorem dX7_both_134 : decode cX7_both 134 = .ok (.getfield 69, 3) := by decide +kernel
theorem dX7_both_137 : decode cX7_both 137 = .ok (.iload 4, 2) := by decide +kernel
theorem dX7_both_139 : decode cX7_both 139 = .ok (.bipush 23, 2) := by decide +kernel
theorem dX7_both_141 : decode cX7_both 141 = .ok (.iadd, 1) := by decide +kernel
theorem dX7_both_142 : decode cX7_both 142 = .ok (.iaload, 1) := by decide +kernel
theorem dX7_both_143 : decode cX7_both 143 = .ok (.imul, 1) := by decide +kernel
theorem dX7_both_144 : decode cX7_both 144 = .ok (.bipush 7, 2) := by decide +kernel
theorem dX7_both_146 : decode cX7_both 146 = .ok (.ishr, 1) := by decide +kernel
theorem dX7_both_147 : decode cX7_both 147 = .ok (.aload_n 0, 1) := by decide +kernel
theorem dX7_both_148 : decode cX7_both 148 = .ok (.getfield 93, 3) := by decide +kernel
theorem dX7_both_151 : decode cX7_both 151 = .ok (.iload_n 3, 1) := by decide +kernel
theorem dX7_both_152 : decode cX7_both 152 = .ok (.iaload, 1) := by decide +kernel
theorem dX7_both_153 : decode cX7_both 153 = .ok (.iadd, 1) := by decide +kernel
theorem dX7_both_154 : decode cX7_both 154 = .ok (.iconst 0, 1) := by decide +kernel
theorem dX7_both_155 : decode cX7_both 155 = .ok (.sipush 22528, 3) := by decide +kernel
theorem dX7_both_158 : decode cX7_both 158 = .ok (.invokevirtual 169, 3) := by decide +kernel
theorem dX7_both_161 : decode cX7_both 161 = .ok (.iastore, 1) := by decide +kernel
theorem dX7_both_162 : decode cX7_both 162 = .ok (.aload_n 0, 1) := by decide +kernel
theorem dX7_both_163 : decode cX7_both 163 = .ok (.getfield 69, 3) := by decide +kernel
theorem dX7_both_166 : decode cX7_both 166 = .ok (.iload 4, 2) := by decide +kernel
theorem dX7_both_168 : decode cX7_both 168 = .ok (.bipush 24, 2) := by decide +kernel
theorem dX7_both_170 : decode cX7_both 170 = .ok (.iadd, 1) := by decide +kernel
theorem dX7_both_171 : decode cX7_both 171 = .ok (.aload_n 0, 1) := by decide +kernel
theorem dX7_both_172 : decode cX7_both 172 = .ok (.aload_n 0, 1) := by decide +kernel
theorem dX7_both_173 : decode cX7_both 173 = .ok (.getfield 69, 3) := by decide +kernel
theorem dX7_both_176 : decode cX7_both 176 = .ok (.iload 4, 2) := by decide +kernel
theorem dX7_both_178 : decode cX7_both 178 = .ok (.bipush 23, 2) := by decide +kernel
theorem dX7_both_180 : decode cX7_both 180 = .ok (.iadd, 1) := by decide +kernel
theorem dX7_both_181 : decode cX7_both 181 = .ok (.iaload, 1) := by decide +kernel
theorem dX7_both_182 : decode cX7_both 182 = .ok (.bipush 10, 2) := by decide +kernel
theorem dX7_both_184 : decode cX7_both 184 = .ok (.invokevirtual 198, 3) := by decide +kernel
theorem dX7_both_187 : decode cX7_both 187 = .ok (.iastore, 1) := by decide +kernel
theorem dX7_both_188 : decode cX7_both 188 = .ok (.aload_n 0, 1) := by decide +kernel
theorem dX7_both_189 : decode cX7_both 189 = .ok (.iload 4, 2) := by decide +kernel
theorem dX7_both_191 : decode cX7_both 191 = .ok (.bipush 23, 2) := by decide +kernel
theorem dX7_both_193 : decode cX7_both 193 = .ok (.iadd, 1) := by decide +kernel
theorem dX7_both_194 : decode cX7_both 194 = .ok (.iload 7, 2) := by decide +kernel
theorem dX7_both_196 : decode cX7_both 196 = .ok (.invokevirtual 201, 3) := by decide +kernel
theorem dX7_both_199 : decode cX7_both 199 = .ok (.return_, 1) := by decide +kernel
theorem dX7_goesOn_0 : decode cX7_goesOn 0 = .ok (.aload_n 0, 1) := by decide +kernel
theorem dX7_goesOn_1 : decode cX7_goesOn 1 = .ok (.aload_n 0, 1) := by decide +kernel
theorem dX7_goesOn_2 : decode cX7_goesOn 2 = .ok (.getfield 69, 3) := by decide +kernel
theorem dX7_goesOn_5 : decode cX7_goesOn 5 = .ok (.iload_n 1, 1) := by decide +kernel
theorem dX7_goesOn_6 : decode cX7_goesOn 6 = .ok (.iconst 2, 1) := by decide +kernel
theorem dX7_goesOn_7 : decode cX7_goesOn 7 = .ok (.iadd, 1) := by decide +kernel
theorem dX7_goesOn_8 : decode cX7_goesOn 8 = .ok (.iaload, 1) := by decide +kernel
theorem dX7_goesOn_9 : decode cX7_goesOn 9 = .ok (.iload_n 2, 1) := by decide +kernel
theorem dX7_goesOn_10 : decode cX7_goesOn 10 = .ok (.iadd, 1) := by decide +kernel
theorem dX7_goesOn_11 : decode cX7_goesOn 11 = .ok (.invokevirtual 182, 3) := by decide +kernel
theorem dX7_goesOn_14 : decode cX7_goesOn 14 = .ok (.istore_n 3, 1) := by decide +kernel
theorem dX7_goesOn_15 : decode cX7_goesOn 15 = .ok (.aload_n 0, 1) := by decide +kernel
theorem dX7_goesOn_16 : decode cX7_goesOn 16 = .ok (.aload_n 0, 1) := by decide +kernel
theorem dX7_goesOn_17 : decode cX7_goesOn 17 = .ok (.getfield 69, 3) := by decide +kernel
theorem dX7_goesOn_20 : decode cX7_goesOn 20 = .ok (.iload_n 1, 1) := by decide +kernel
theorem dX7_goesOn_21 : decode cX7_goesOn 21 = .ok (.iconst 4, 1) := by decide +kernel
theorem dX7_goesOn_22 : decode cX7_goesOn 22 = .ok (.iadd, 1) := by decide +kernel
theorem dX7_goesOn_23 : decode cX7_goesOn 23 = .ok (.iaload, 1) := by decide +kernel
theorem dX7_goesOn_24 : decode cX7_goesOn 24 = .ok (.iload_n 2, 1) := by decide +kernel
theorem dX7_goesOn_25 : decode cX7_goesOn 25 = .ok (.iadd, 1) := by decide +kernel
theorem dX7_goesOn_26 : decode cX7_goesOn 26 = .ok (.invokevirtual 182, 3) := by decide +kernel
theorem dX7_goesOn_29 : decode cX7_goesOn 29 = .ok (.istore 4, 2) := by decide +kernel
theorem dX7_goesOn_31 : decode cX7_goesOn 31 = .ok (.aload_n 0, 1) := by decide +kernel
theorem dX7_goesOn_32 : decode cX7_goesOn 32 = .ok (.getfield 69, 3) := by decide +kernel
theorem dX7_goesOn_35 : decode cX7_goesOn 35 = .ok (.iload_n 1, 1) := by decide +kernel
theorem dX7_goesOn_36 : decode cX7_goesOn 36 = .ok (.bipush 15, 2) := by decide +kernel
theorem dX7_goesOn_38 : decode cX7_goesOn 38 = .ok (.iadd, 1) := by decide +kernel
theorem dX7_goesOn_39 : decode cX7_goesOn 39 = .ok (.iaload, 1) := by decide +kernel
theorem dX7_goesOn_40 : decode cX7_goesOn 40 = .ok (.istore 5, 2) := by decide +kernel
theorem dX7_goesOn_42 : decode cX7_goesOn 42 = .ok (.aload_n 0, 1) := by decide +kernel
theorem dX7_goesOn_43 : decode cX7_goesOn 43 = .ok (.getfield 69, 3) := by decide +kernel
theorem dX7_goesOn_46 : decode cX7_goesOn 46 = .ok (.iload_n 1, 1) := by decide +kernel
theorem dX7_goesOn_47 : decode cX7_goesOn 47 = .ok (.bipush 16, 2) := by decide +kernel
theorem dX7_goesOn_49 : decode cX7_goesOn 49 = .ok (.iadd, 1) := by decide +kernel
theorem dX7_goesOn_50 : decode cX7_goesOn 50 = .ok (.iaload, 1) := by decide +kernel
theorem dX7_goesOn_51 : decode cX7_goesOn 51 = .ok (.istore 6, 2) := by decide +kernel
theorem dX7_goesOn_53 : decode cX7_goesOn 53 = .ok (.aload_n 0, 1) := by decide +kernel
theorem dX7_goesOn_54 : decode cX7_goesOn 54 = .ok (.iconst 4, 1) := by decide +kernel
theorem dX7_goesOn_55 : decode cX7_goesOn 55 = .ok (.aload_n 0, 1) := by decide +kernel
theorem dX7_goesOn_56 : decode cX7_goesOn 56 = .ok (.getfield 69, 3) := by decide +kernel
theorem dX7_goesOn_59 : decode cX7_goesOn 59 = .ok (.iload_n 1, 1) := by decide +kernel
theorem dX7_goesOn_60 : decode cX7_goesOn 60 = .ok (.iconst 5, 1) := by decide +kernel
theorem dX7_goesOn_61 : decode cX7_goesOn 61 = .ok (.iadd, 1) := by decide +kernel
end
section
theorem dX7_goesOn_62 : decode cX7_goesOn 62 = .ok (.iaload, 1) := by decide +kernel
theorem dX7_goesOn_63 : decode cX7_goesOn 63 = .ok (.imul, 1) := by decide +kernel
theorem dX7_goesOn_64 : decode cX7_goesOn 64 = .ok (.invokevirtual 182, 3) := by decide +kernel
theorem dX7_goesOn_67 : decode cX7_goesOn 67 = .ok (.istore 7, 2) := by decide +kernel
theorem dX7_goesOn_69 : decode cX7_goesOn 69 = .ok (.aload_n 0, 1) := by decide +kernel
theorem dX7_goesOn_70 : decode cX7_goesOn 70 = .ok (.iload 4, 2) := by decide +kernel
theorem dX7_goesOn_72 : decode cX7_goesOn 72 = .ok (.invokevirtual 123, 3) := by decide +kernel
theorem dX7_goesOn_75 : decode cX7_goesOn 75 = .ok (.aload_n 0, 1) := by decide +kernel
theorem dX7_goesOn_76 : decode cX7_goesOn 76 = .ok (.iload 5, 2) := by decide +kernel
theorem dX7_goesOn_78 : decode cX7_goesOn 78 = .ok (.invokevirtual 123, 3) := by decide +kernel
theorem dX7_goesOn_81 : decode cX7_goesOn 81 = .ok (.if_icmp .ne 8, 3) := by decide +kernel
theorem dX7_goesOn_84 : decode cX7_goesOn 84 = .ok (.iload 7, 2) := by decide +kernel
theorem dX7_goesOn_86 : decode cX7_goesOn 86 = .ok (.ineg, 1) := by decide +kernel
theorem dX7_goesOn_87 : decode cX7_goesOn 87 = .ok (.istore 7, 2) := by decide +kernel
theorem dX7_goesOn_89 : decode cX7_goesOn 89 = .ok (.iload 7, 2) := by decide +kernel
theorem dX7_goesOn_91 : decode cX7_goesOn 91 = .ok (.sipush 32767, 3) := by decide +kernel
theorem dX7_goesOn_94 : decode cX7_goesOn 94 = .ok (.if_icmp .le 8, 3) := by decide +kernel
theorem dX7_goesOn_97 : decode cX7_goesOn 97 = .ok (.sipush 32767, 3) := by decide +kernel
theorem dX7_goesOn_100 : decode cX7_goesOn 100 = .ok (.istore 7, 2) := by decide +kernel
theorem dX7_goesOn_102 : decode cX7_goesOn 102 = .ok (.aload_n 0, 1) := by decide +kernel
theorem dX7_goesOn_103 : decode cX7_goesOn 103 = .ok (.iload 4, 2) := by decide +kernel
theorem dX7_goesOn_105 : decode cX7_goesOn 105 = .ok (.invokevirtual 123, 3) := by decide +kernel
theorem dX7_goesOn_108 : decode cX7_goesOn 108 = .ok (.aload_n 0, 1) := by decide +kernel
theorem dX7_goesOn_109 : decode cX7_goesOn 109 = .ok (.iload 6, 2) := by decide +kernel
theorem dX7_goesOn_111 : decode cX7_goesOn 111 = .ok (.invokevirtual 123, 3) := by decide +kernel
theorem dX7_goesOn_114 : decode cX7_goesOn 114 = .ok (.if_icmp .ne 9, 3) := by decide +kernel
theorem dX7_goesOn_117 : decode cX7_goesOn 117 = .ok (.sipush 128, 3) := by decide +kernel
theorem dX7_goesOn_120 : decode cX7_goesOn 120 = .ok (.goto 5, 3) := by decide +kernel
theorem dX7_goesOn_123 : decode cX7_goesOn 123 = .ok (.bipush (-128), 2) := by decide +kernel
theorem dX7_goesOn_125 : decode cX7_goesOn 125 = .ok (.iload 7, 2) := by decide +kernel
theorem dX7_goesOn_127 : decode cX7_goesOn 127 = .ok (.bipush 7, 2) := by decide +kernel
theorem dX7_goesOn_129 : decode cX7_goesOn 129 = .ok (.ishr, 1) := by decide +kernel
theorem dX7_goesOn_130 : decode cX7_goesOn 130 = .ok (.iadd, 1) := by decide +kernel
theorem dX7_goesOn_131 : decode cX7_goesOn 131 = .ok (.aload_n 0, 1) := by decide +kernel
theorem dX7_goesOn_132 : decode cX7_goesOn 132 = .ok (.getfield 69, 3) := by decide +kernel
theorem dX7_goesOn_135 : decode cX7_goesOn 135 = .ok (.iload_n 1, 1) := by decide +kernel
theorem dX7_goesOn_136 : decode cX7_goesOn 136 = .ok (.bipush 6, 2) := by decide +kernel
theorem dX7_goesOn_138 : decode cX7_goesOn 138 = .ok (.iadd, 1) := by decide +kernel
theorem dX7_goesOn_139 : decode cX7_goesOn 139 = .ok (.iaload, 1) := by decide +kernel
theorem dX7_goesOn_140 : decode cX7_goesOn 140 = .ok (.sipush 32512, 3) := by decide +kernel
theorem dX7_goesOn_143 : decode cX7_goesOn 143 = .ok (.imul, 1) := by decide +kernel
theorem dX7_goesOn_144 : decode cX7_goesOn 144 = .ok (.bipush 15, 2) := by decide +kernel
theorem dX7_goesOn_146 : decode cX7_goesOn 146 = .ok (.ishr, 1) := by decide +kernel
theorem dX7_goesOn_147 : decode cX7_goesOn 147 = .ok (.iadd, 1) := by decide +kernel
theorem dX7_goesOn_148 : decode cX7_goesOn 148 = .ok (.istore 8, 2) := by decide +kernel
theorem dX7_goesOn_150 : decode cX7_goesOn 150 = .ok (.aload_n 0, 1) := by decide +kernel
theorem dX7_goesOn_151 : decode cX7_goesOn 151 = .ok (.getfield 69, 3) := by decide +kernel
theorem dX7_goesOn_154 : decode cX7_goesOn 154 = .ok (.iload_n 1, 1) := by decide +kernel
theorem dX7_goesOn_155 : decode cX7_goesOn 155 = .ok (.bipush 6, 2) := by decide +kernel
theorem dX7_goesOn_157 : decode cX7_goesOn 157 = .ok (.iadd, 1) := by decide +kernel
theorem dX7_goesOn_158 : decode cX7_goesOn 158 = .ok (.aload_n 0, 1) := by decide +kernel
theorem dX7_goesOn_159 : decode cX7_goesOn 159 = .ok (.iload 8, 2) := by decide +kernel
theorem dX7_goesOn_161 : decode cX7_goesOn 161 = .ok (.sipush (-12288), 3) := by decide +kernel
theorem dX7_goesOn_164 : decode cX7_goesOn 164 = .ok (.sipush 12288, 3) := by decide +kernel
theorem dX7_goesOn_167 : decode cX7_goesOn 167 = .ok (.invokevirtual 169, 3) := by decide +kernel
theorem dX7_goesOn_170 : decode cX7_goesOn 170 = .ok (.iastore, 1) := by decide +kernel
theorem dX7_goesOn_171 : decode cX7_goesOn 171 = .ok (.aload_n 0, 1) := by decide +kernel
theorem dX7_goesOn_172 : decode cX7_goesOn 172 = .ok (.aload_n 0, 1) := by decide +kernel
theorem dX7_goesOn_173 : decode cX7_goesOn 173 = .ok (.iload 4, 2) := by decide +kernel
theorem dX7_goesOn_175 : decode cX7_goesOn 175 = .ok (.invokevirtual 123, 3) := by decide +kernel
theorem dX7_goesOn_178 : decode cX7_goesOn 178 = .ok (.aload_n 0, 1) := by decide +kernel
theorem dX7_goesOn_179 : decode cX7_goesOn 179 = .ok (.iload 5, 2) := by decide +kernel
theorem dX7_goesOn_181 : decode cX7_goesOn 181 = .ok (.invokevirtual 123, 3) := by decide +kernel
theorem dX7_goesOn_184 : decode cX7_goesOn 184 = .ok (.if_icmp .ne 9, 3) := by decide +kernel
theorem dX7_goesOn_187 : decode cX7_goesOn 187 = .ok (.sipush 192, 3) := by decide +kernel
theorem dX7_goesOn_190 : decode cX7_goesOn 190 = .ok (.goto 6, 3) := by decide +kernel
theorem dX7_goesOn_193 : decode cX7_goesOn 193 = .ok (.sipush (-192), 3) := by decide +kernel
theorem dX7_goesOn_196 : decode cX7_goesOn 196 = .ok (.aload_n 0, 1) := by decide +kernel
theorem dX7_goesOn_197 : decode cX7_goesOn 197 = .ok (.getfield 69, 3) := by decide +kernel
theorem dX7_goesOn_200 : decode cX7_goesOn 200 = .ok (.iload_n 1, 1) := by decide +kernel
theorem dX7_goesOn_201 : decode cX7_goesOn 201 = .ok (.iconst 5, 1) := by decide +kernel
theorem dX7_goesOn_202 : decode cX7_goesOn 202 = .ok (.iadd, 1) := by decide +kernel
theorem dX7_goesOn_203 : decode cX7_goesOn 203 = .ok (.iaload, 1) := by decide +kernel
theorem dX7_goesOn_204 : decode cX7_goesOn 204 = .ok (.sipush 32640, 3) := by decide +kernel
theorem dX7_goesOn_207 : decode cX7_goesOn 207 = .ok (.imul, 1) := by decide +kernel
theorem dX7_goesOn_208 : decode cX7_goesOn 208 = .ok (.bipush 15, 2) := by decide +kernel
theorem dX7_goesOn_210 : decode cX7_goesOn 210 = .ok (.ishr, 1) := by decide +kernel
theorem dX7_goesOn_211 : decode cX7_goesOn 211 = .ok (.iadd, 1) := by decide +kernel
theorem dX7_goesOn_212 : decode cX7_goesOn 212 = .ok (.invokevirtual 182, 3) := by decide +kernel
theorem dX7_goesOn_215 : decode cX7_goesOn 215 = .ok (.istore 9, 2) := by decide +kernel
theorem dX7_goesOn_217 : decode cX7_goesOn 217 = .ok (.aload_n 0, 1) := by decide +kernel
theorem dX7_goesOn_218 : decode cX7_goesOn 218 = .ok (.getfield 69, 3) := by decide +kernel
theorem dX7_goesOn_221 : decode cX7_goesOn 221 = .ok (.iload_n 1, 1) := by decide +kernel
theorem dX7_goesOn_222 : decode cX7_goesOn 222 = .ok (.iconst 5, 1) := by decide +kernel
theorem dX7_goesOn_223 : decode cX7_goesOn 223 = .ok (.iadd, 1) := by decide +kernel
theorem dX7_goesOn_224 : decode cX7_goesOn 224 = .ok (.aload_n 0, 1) := by decide +kernel
theorem dX7_goesOn_225 : decode cX7_goesOn 225 = .ok (.iload 9, 2) := by decide +kernel
theorem dX7_goesOn_227 : decode cX7_goesOn 227 = .ok (.aload_n 0, 1) := by decide +kernel
theorem dX7_goesOn_228 : decode cX7_goesOn 228 = .ok (.getfield 69, 3) := by decide +kernel
theorem dX7_goesOn_231 : decode cX7_goesOn 231 = .ok (.iload_n 1, 1) := by decide +kernel
theorem dX7_goesOn_232 : decode cX7_goesOn 232 = .ok (.bipush 6, 2) := by decide +kernel
theorem dX7_goesOn_234 : decode cX7_goesOn 234 = .ok (.iadd, 1) := by decide +kernel
theorem dX7_goesOn_235 : decode cX7_goesOn 235 = .ok (.iaload, 1) := by decide +kernel
theorem dX7_goesOn_236 : decode cX7_goesOn 236 = .ok (.sipush 15360, 3) := by decide +kernel
theorem dX7_goesOn_239 : decode cX7_goesOn 239 = .ok (.isub, 1) := by decide +kernel
theorem dX7_goesOn_240 : decode cX7_goesOn 240 = .ok (.sipush 15360, 3) := by decide +kernel
theorem dX7_goesOn_243 : decode cX7_goesOn 243 = .ok (.aload_n 0, 1) := by decide +kernel
theorem dX7_goesOn_244 : decode cX7_goesOn 244 = .ok (.getfield 69, 3) := by decide +kernel
theorem dX7_goesOn_247 : decode cX7_goesOn 247 = .ok (.iload_n 1, 1) := by decide +kernel
theorem dX7_goesOn_248 : decode cX7_goesOn 248 = .ok (.bipush 6, 2) := by decide +kernel
theorem dX7_goesOn_250 : decode cX7_goesOn 250 = .ok (.iadd, 1) := by decide +kernel
theorem dX7_goesOn_251 : decode cX7_goesOn 251 = .ok (.iaload, 1) := by decide +kernel
theorem dX7_goesOn_252 : decode cX7_goesOn 252 = .ok (.isub, 1) := by decide +kernel
theorem dX7_goesOn_253 : decode cX7_goesOn 253 = .ok (.invokevirtual 169, 3) := by decide +kernel
theorem dX7_goesOn_256 : decode cX7_goesOn 256 = .ok (.iastore, 1) := by decide +kernel
theorem dX7_goesOn_257 : decode cX7_goesOn 257 = .ok (.iconst 0, 1) := by decide +kernel
theorem dX7_goesOn_258 : decode cX7_goesOn 258 = .ok (.istore 10, 2) := by decide +kernel
theorem dX7_goesOn_260 : decode cX7_goesOn 260 = .ok (.iload 10, 2) := by decide +kernel
theorem dX7_goesOn_262 : decode cX7_goesOn 262 = .ok (.bipush 6, 2) := by decide +kernel
theorem dX7_goesOn_264 : decode cX7_goesOn 264 = .ok (.if_icmp .ge 89, 3) := by decide +kernel
theorem dX7_goesOn_267 : decode cX7_goesOn 267 = .ok (.iload_n 2, 1) := by decide +kernel
theorem dX7_goesOn_268 : decode cX7_goesOn 268 = .ok (.ifCond .ne 7, 3) := by decide +kernel
theorem dX7_goesOn_271 : decode cX7_goesOn 271 = .ok (.iconst 0, 1) := by decide +kernel
theorem dX7_goesOn_272 : decode cX7_goesOn 272 = .ok (.goto 35, 3) := by decide +kernel
theorem dX7_goesOn_275 : decode cX7_goesOn 275 = .ok (.aload_n 0, 1) := by decide +kernel
theorem dX7_goesOn_276 : decode cX7_goesOn 276 = .ok (.iload_n 2, 1) := by decide +kernel
theorem dX7_goesOn_277 : decode cX7_goesOn 277 = .ok (.invokevirtual 123, 3) := by decide +kernel
theorem dX7_goesOn_280 : decode cX7_goesOn 280 = .ok (.aload_n 0, 1) := by decide +kernel
theorem dX7_goesOn_281 : decode cX7_goesOn 281 = .ok (.aload_n 0, 1) := by decide +kernel
theorem dX7_goesOn_282 : decode cX7_goesOn 282 = .ok (.getfield 69, 3) := by decide +kernel
theorem dX7_goesOn_285 : decode cX7_goesOn 285 = .ok (.iload_n 1, 1) := by decide +kernel
theorem dX7_goesOn_286 : decode cX7_goesOn 286 = .ok (.bipush 17, 2) := by decide +kernel
theorem dX7_goesOn_288 : decode cX7_goesOn 288 = .ok (.iadd, 1) := by decide +kernel
theorem dX7_goesOn_289 : decode cX7_goesOn 289 = .ok (.iload 10, 2) := by decide +kernel
theorem dX7_goesOn_291 : decode cX7_goesOn 291 = .ok (.iadd, 1) := by decide +kernel
theorem dX7_goesOn_292 : decode cX7_goesOn 292 = .ok (.iaload, 1) := by decide +kernel
theorem dX7_goesOn_293 : decode cX7_goesOn 293 = .ok (.invokevirtual 123, 3) := by decide +kernel
theorem dX7_goesOn_296 : decode cX7_goesOn 296 = .ok (.if_icmp .ne 9, 3) := by decide +kernel
theorem dX7_goesOn_299 : decode cX7_goesOn 299 = .ok (.sipush 128, 3) := by decide +kernel
theorem dX7_goesOn_302 : decode cX7_goesOn 302 = .ok (.goto 5, 3) := by decide +kernel
theorem dX7_goesOn_305 : decode cX7_goesOn 305 = .ok (.bipush (-128), 2) := by decide +kernel
theorem dX7_goesOn_307 : decode cX7_goesOn 307 = .ok (.istore 11, 2) := by decide +kernel
theorem dX7_goesOn_309 : decode cX7_goesOn 309 = .ok (.aload_n 0, 1) := by decide +kernel
theorem dX7_goesOn_310 : decode cX7_goesOn 310 = .ok (.getfield 69, 3) := by decide +kernel
theorem dX7_goesOn_313 : decode cX7_goesOn 313 = .ok (.iload_n 1, 1) := by decide +kernel
theorem dX7_goesOn_314 : decode cX7_goesOn 314 = .ok (.bipush 7, 2) := by decide +kernel
theorem dX7_goesOn_316 : decode cX7_goesOn 316 = .ok (.iadd, 1) := by decide +kernel
theorem dX7_goesOn_317 : decode cX7_goesOn 317 = .ok (.iload 10, 2) := by decide +kernel
theorem dX7_goesOn_319 : decode cX7_goesOn 319 = .ok (.iadd, 1) := by decide +kernel
theorem dX7_goesOn_320 : decode cX7_goesOn 320 = .ok (.aload_n 0, 1) := by decide +kernel
theorem dX7_goesOn_321 : decode cX7_goesOn 321 = .ok (.iload 11, 2) := by decide +kernel
theorem dX7_goesOn_323 : decode cX7_goesOn 323 = .ok (.aload_n 0, 1) := by decide +kernel
theorem dX7_goesOn_324 : decode cX7_goesOn 324 = .ok (.getfield 69, 3) := by decide +kernel
theorem dX7_goesOn_327 : decode cX7_goesOn 327 = .ok (.iload_n 1, 1) := by decide +kernel
theorem dX7_goesOn_328 : decode cX7_goesOn 328 = .ok (.bipush 7, 2) := by decide +kernel
theorem dX7_goesOn_330 : decode cX7_goesOn 330 = .ok (.iadd, 1) := by decide +kernel
theorem dX7_goesOn_331 : decode cX7_goesOn 331 = .ok (.iload 10, 2) := by decide +kernel
theorem dX7_goesOn_333 : decode cX7_goesOn 333 = .ok (.iadd, 1) := by decide +kernel
theorem dX7_goesOn_334 : decode cX7_goesOn 334 = .ok (.iaload, 1) := by decide +kernel
theorem dX7_goesOn_335 : decode cX7_goesOn 335 = .ok (.sipush 32640, 3) := by decide +kernel
theorem dX7_goesOn_338 : decode cX7_goesOn 338 = .ok (.imul, 1) := by decide +kernel
theorem dX7_goesOn_339 : decode cX7_goesOn 339 = .ok (.bipush 15, 2) := by decide +kernel
theorem dX7_goesOn_341 : decode cX7_goesOn 341 = .ok (.ishr, 1) := by decide +kernel
theorem dX7_goesOn_342 : decode cX7_goesOn 342 = .ok (.iadd, 1) := by decide +kernel
theorem dX7_goesOn_343 : decode cX7_goesOn 343 = .ok (.invokevirtual 182, 3) := by decide +kernel
theorem dX7_goesOn_346 : decode cX7_goesOn 346 = .ok (.iastore, 1) := by decide +kernel
theorem dX7_goesOn_347 : decode cX7_goesOn 347 = .ok (.iinc 10 1, 3) := by decide +kernel
theorem dX7_goesOn_350 : decode cX7_goesOn 350 = .ok (.goto (-90), 3) := by decide +kernel
theorem dX7_goesOn_353 : decode cX7_goesOn 353 = .ok (.iconst 5, 1) := by decide +kernel
theorem dX7_goesOn_354 : decode cX7_goesOn 354 = .ok (.istore 10, 2) := by decide +kernel
theorem dX7_goesOn_356 : decode cX7_goesOn 356 = .ok (.iload 10, 2) := by decide +kernel
theorem dX7_goesOn_358 : decode cX7_goesOn 358 = .ok (.ifCond .le 35, 3) := by decide +kernel
theorem dX7_goesOn_361 : decode cX7_goesOn 361 = .ok (.aload_n 0, 1) := by decide +kernel
theorem dX7_goesOn_362 : decode cX7_goesOn 362 = .ok (.getfield 69, 3) := by decide +kernel
theorem dX7_goesOn_365 : decode cX7_goesOn 365 = .ok (.iload_n 1, 1) := by decide +kernel
theorem dX7_goesOn_366 : decode cX7_goesOn 366 = .ok (.bipush 17, 2) := by decide +kernel
theorem dX7_goesOn_368 : decode cX7_goesOn 368 = .ok (.iadd, 1) := by decide +kernel
theorem dX7_goesOn_369 : decode cX7_goesOn 369 = .ok (.iload 10, 2) := by decide +kernel
theorem dX7_goesOn_371 : decode cX7_goesOn 371 = .ok (.iadd, 1) := by decide +kernel
theorem dX7_goesOn_372 : decode cX7_goesOn 372 = .ok (.aload_n 0, 1) := by decide +kernel
theorem dX7_goesOn_373 : decode cX7_goesOn 373 = .ok (.getfield 69, 3) := by decide +kernel
theorem dX7_goesOn_376 : decode cX7_goesOn 376 = .ok (.iload_n 1, 1) := by decide +kernel
theorem dX7_goesOn_377 : decode cX7_goesOn 377 = .ok (.bipush 17, 2) := by decide +kernel
theorem dX7_goesOn_379 : decode cX7_goesOn 379 = .ok (.iadd, 1) := by decide +kernel
theorem dX7_goesOn_380 : decode cX7_goesOn 380 = .ok (.iload 10, 2) := by decide +kernel
theorem dX7_goesOn_382 : decode cX7_goesOn 382 = .ok (.iadd, 1) := by decide +kernel
theorem dX7_goesOn_383 : decode cX7_goesOn 383 = .ok (.iconst 1, 1) := by decide +kernel
theorem dX7_goesOn_384 : decode cX7_goesOn 384 = .ok (.isub, 1) := by decide +kernel
theorem dX7_goesOn_385 : decode cX7_goesOn 385 = .ok (.iaload, 1) := by decide +kernel
theorem dX7_goesOn_386 : decode cX7_goesOn 386 = .ok (.iastore, 1) := by decide +kernel
theorem dX7_goesOn_387 : decode cX7_goesOn 387 = .ok (.iinc 10 (-1), 3) := by decide +kernel
theorem dX7_goesOn_390 : decode cX7_goesOn 390 = .ok (.goto (-34), 3) := by decide +kernel
theorem dX7_goesOn_393 : decode cX7_goesOn 393 = .ok (.aload_n 0, 1) := by decide +kernel
theorem dX7_goesOn_394 : decode cX7_goesOn 394 = .ok (.getfield 69, 3) := by decide +kernel
theorem dX7_goesOn_397 : decode cX7_goesOn 397 = .ok (.iload_n 1, 1) := by decide +kernel
theorem dX7_goesOn_398 : decode cX7_goesOn 398 = .ok (.bipush 17, 2) := by decide +kernel
theorem dX7_goesOn_400 : decode cX7_goesOn 400 = .ok (.iadd, 1) := by decide +kernel
theorem dX7_goesOn_401 : decode cX7_goesOn 401 = .ok (.iload_n 2, 1) := by decide +kernel
theorem dX7_goesOn_402 : decode cX7_goesOn 402 = .ok (.iastore, 1) := by decide +kernel
theorem dX7_goesOn_403 : decode cX7_goesOn 403 = .ok (.aload_n 0, 1) := by decide +kernel
theorem dX7_goesOn_404 : decode cX7_goesOn 404 = .ok (.getfield 69, 3) := by decide +kernel
theorem dX7_goesOn_407 : decode cX7_goesOn 407 = .ok (.iload_n 1, 1) := by decide +kernel
theorem dX7_goesOn_408 : decode cX7_goesOn 408 = .ok (.bipush 14, 2) := by decide +kernel
theorem dX7_goesOn_410 : decode cX7_goesOn 410 = .ok (.iadd, 1) := by decide +kernel
theorem dX7_goesOn_411 : decode cX7_goesOn 411 = .ok (.aload_n 0, 1) := by decide +kernel
theorem dX7_goesOn_412 : decode cX7_goesOn 412 = .ok (.getfield 69, 3) := by decide +kernel
theorem dX7_goesOn_415 : decode cX7_goesOn 415 = .ok (.iload_n 1, 1) := by decide +kernel
theorem dX7_goesOn_416 : decode cX7_goesOn 416 = .ok (.bipush 13, 2) := by decide +kernel
theorem dX7_goesOn_418 : decode cX7_goesOn 418 = .ok (.iadd, 1) := by decide +kernel
theorem dX7_goesOn_419 : decode cX7_goesOn 419 = .ok (.iaload, 1) := by decide +kernel
theorem dX7_goesOn_420 : decode cX7_goesOn 420 = .ok (.iastore, 1) := by decide +kernel
theorem dX7_goesOn_421 : decode cX7_goesOn 421 = .ok (.aload_n 0, 1) := by decide +kernel
theorem dX7_goesOn_422 : decode cX7_goesOn 422 = .ok (.getfield 69, 3) := by decide +kernel
theorem dX7_goesOn_425 : decode cX7_goesOn 425 = .ok (.iload_n 1, 1) := by decide +kernel
theorem dX7_goesOn_426 : decode cX7_goesOn 426 = .ok (.bipush 13, 2) := by decide +kernel
theorem dX7_goesOn_428 : decode cX7_goesOn 428 = .ok (.iadd, 1) := by decide +kernel
theorem dX7_goesOn_429 : decode cX7_goesOn 429 = .ok (.iload_n 3, 1) := by decide +kernel
theorem dX7_goesOn_430 : decode cX7_goesOn 430 = .ok (.iastore, 1) := by decide +kernel
theorem dX7_goesOn_431 : decode cX7_goesOn 431 = .ok (.aload_n 0, 1) := by decide +kernel
theorem dX7_goesOn_432 : decode cX7_goesOn 432 = .ok (.getfield 69, 3) := by decide +kernel
theorem dX7_goesOn_435 : decode cX7_goesOn 435 = .ok (.iload_n 1, 1) := by decide +kernel
theorem dX7_goesOn_436 : decode cX7_goesOn 436 = .ok (.bipush 16, 2) := by decide +kernel
theorem dX7_goesOn_438 : decode cX7_goesOn 438 = .ok (.iadd, 1) := by decide +kernel
theorem dX7_goesOn_439 : decode cX7_goesOn 439 = .ok (.iload 5, 2) := by decide +kernel
theorem dX7_goesOn_441 : decode cX7_goesOn 441 = .ok (.iastore, 1) := by decide +kernel
theorem dX7_goesOn_442 : decode cX7_goesOn 442 = .ok (.aload_n 0, 1) := by decide +kernel
theorem dX7_goesOn_443 : decode cX7_goesOn 443 = .ok (.getfield 69, 3) := by decide +kernel
theorem dX7_goesOn_446 : decode cX7_goesOn 446 = .ok (.iload_n 1, 1) := by decide +kernel
theorem dX7_goesOn_447 : decode cX7_goesOn 447 = .ok (.bipush 15, 2) := by decide +kernel
theorem dX7_goesOn_449 : decode cX7_goesOn 449 = .ok (.iadd, 1) := by decide +kernel
theorem dX7_goesOn_450 : decode cX7_goesOn 450 = .ok (.iload 4, 2) := by decide +kernel
theorem dX7_goesOn_452 : decode cX7_goesOn 452 = .ok (.iastore, 1) := by decide +kernel
theorem dX7_goesOn_453 : decode cX7_goesOn 453 = .ok (.aload_n 0, 1) := by decide +kernel
theorem dX7_goesOn_454 : decode cX7_goesOn 454 = .ok (.getfield 69, 3) := by decide +kernel
theorem dX7_goesOn_457 : decode cX7_goesOn 457 = .ok (.iload_n 1, 1) := by decide +kernel
theorem dX7_goesOn_458 : decode cX7_goesOn 458 = .ok (.iconst 5, 1) := by decide +kernel
theorem dX7_goesOn_459 : decode cX7_goesOn 459 = .ok (.iadd, 1) := by decide +kernel
theorem dX7_goesOn_460 : decode cX7_goesOn 460 = .ok (.iaload, 1) := by decide +kernel
theorem dX7_goesOn_461 : decode cX7_goesOn 461 = .ok (.aload_n 0, 1) := by decide +kernel
theorem dX7_goesOn_462 : decode cX7_goesOn 462 = .ok (.iconst 2, 1) := by decide +kernel
theorem dX7_goesOn_463 : decode cX7_goesOn 463 = .ok (.aload_n 0, 1) := by decide +kernel
theorem dX7_goesOn_464 : decode cX7_goesOn 464 = .ok (.getfield 69, 3) := by decide +kernel
theorem dX7_goesOn_467 : decode cX7_goesOn 467 = .ok (.iload_n 1, 1) := by decide +kernel
theorem dX7_goesOn_468 : decode cX7_goesOn 468 = .ok (.bipush 13, 2) := by decide +kernel
theorem dX7_goesOn_470 : decode cX7_goesOn 470 = .ok (.iadd, 1) := by decide +kernel
theorem dX7_goesOn_471 : decode cX7_goesOn 471 = .ok (.iaload, 1) := by decide +kernel
theorem dX7_goesOn_472 : decode cX7_goesOn 472 = .ok (.imul, 1) := by decide +kernel
theorem dX7_goesOn_473 : decode cX7_goesOn 473 = .ok (.invokevirtual 182, 3) := by decide +kernel
theorem dX7_goesOn_476 : decode cX7_goesOn 476 = .ok (.imul, 1) := by decide +kernel
theorem dX7_goesOn_477 : decode cX7_goesOn 477 = .ok (.bipush 15, 2) := by decide +kernel
theorem dX7_goesOn_479 : decode cX7_goesOn 479 = .ok (.ishr, 1) := by decide +kernel
theorem dX7_goesOn_480 : decode cX7_goesOn 480 = .ok (.istore 10, 2) := by decide +kernel
theorem dX7_goesOn_482 : decode cX7_goesOn 482 = .ok (.aload_n 0, 1) := by decide +kernel
theorem dX7_goesOn_483 : decode cX7_goesOn 483 = .ok (.getfield 69, 3) := by decide +kernel
theorem dX7_goesOn_486 : decode cX7_goesOn 486 = .ok (.iload_n 1, 1) := by decide +kernel
theorem dX7_goesOn_487 : decode cX7_goesOn 487 = .ok (.bipush 6, 2) := by decide +kernel
theorem dX7_goesOn_489 : decode cX7_goesOn 489 = .ok (.iadd, 1) := by decide +kernel
theorem dX7_goesOn_490 : decode cX7_goesOn 490 = .ok (.iaload, 1) := by decide +kernel
theorem dX7_goesOn_491 : decode cX7_goesOn 491 = .ok (.aload_n 0, 1) := by decide +kernel
theorem dX7_goesOn_492 : decode cX7_goesOn 492 = .ok (.iconst 2, 1) := by decide +kernel
theorem dX7_goesOn_493 : decode cX7_goesOn 493 = .ok (.aload_n 0, 1) := by decide +kernel
theorem dX7_goesOn_494 : decode cX7_goesOn 494 = .ok (.getfield 69, 3) := by decide +kernel
theorem dX7_goesOn_497 : decode cX7_goesOn 497 = .ok (.iload_n 1, 1) := by decide +kernel
theorem dX7_goesOn_498 : decode cX7_goesOn 498 = .ok (.bipush 14, 2) := by decide +kernel
theorem dX7_goesOn_500 : decode cX7_goesOn 500 = .ok (.iadd, 1) := by decide +kernel
theorem dX7_goesOn_501 : decode cX7_goesOn 501 = .ok (.iaload, 1) := by decide +kernel
theorem dX7_goesOn_502 : decode cX7_goesOn 502 = .ok (.imul, 1) := by decide +kernel
theorem dX7_goesOn_503 : decode cX7_goesOn 503 = .ok (.invokevirtual 182, 3) := by decide +kernel
theorem dX7_goesOn_506 : decode cX7_goesOn 506 = .ok (.imul, 1) := by decide +kernel
theorem dX7_goesOn_507 : decode cX7_goesOn 507 = .ok (.bipush 15, 2) := by decide +kernel
theorem dX7_goesOn_509 : decode cX7_goesOn 509 = .ok (.ishr, 1) := by decide +kernel
theorem dX7_goesOn_510 : decode cX7_goesOn 510 = .ok (.istore 11, 2) := by decide +kernel
theorem dX7_goesOn_512 : decode cX7_goesOn 512 = .ok (.aload_n 0, 1) := by decide +kernel
theorem dX7_goesOn_513 : decode cX7_goesOn 513 = .ok (.getfield 69, 3) := by decide +kernel
theorem dX7_goesOn_516 : decode cX7_goesOn 516 = .ok (.iload_n 1, 1) := by decide +kernel
theorem dX7_goesOn_517 : decode cX7_goesOn 517 = .ok (.iconst 3, 1) := by decide +kernel
theorem dX7_goesOn_518 : decode cX7_goesOn 518 = .ok (.iadd, 1) := by decide +kernel
theorem dX7_goesOn_519 : decode cX7_goesOn 519 = .ok (.aload_n 0, 1) := by decide +kernel
theorem dX7_goesOn_520 : decode cX7_goesOn 520 = .ok (.iload 10, 2) := by decide +kernel
theorem dX7_goesOn_522 : decode cX7_goesOn 522 = .ok (.iload 11, 2) := by decide +kernel
theorem dX7_goesOn_524 : decode cX7_goesOn 524 = .ok (.iadd, 1) := by decide +kernel
theorem dX7_goesOn_525 : decode cX7_goesOn 525 = .ok (.invokevirtual 182, 3) := by decide +kernel
theorem dX7_goesOn_528 : decode cX7_goesOn 528 = .ok (.iastore, 1) := by decide +kernel
theorem dX7_goesOn_529 : decode cX7_goesOn 529 = .ok (.iconst 0, 1) := by decide +kernel
theorem dX7_goesOn_530 : decode cX7_goesOn 530 = .ok (.istore 12, 2) := by decide +kernel
theorem dX7_goesOn_532 : decode cX7_goesOn 532 = .ok (.iconst 0, 1) := by decide +kernel
theorem dX7_goesOn_533 : decode cX7_goesOn 533 = .ok (.istore 13, 2) := by decide +kernel
theorem dX7_goesOn_535 : decode cX7_goesOn 535 = .ok (.iload 13, 2) := by decide +kernel
theorem dX7_goesOn_537 : decode cX7_goesOn 537 = .ok (.bipush 6, 2) := by decide +kernel
theorem dX7_goesOn_539 : decode cX7_goesOn 539 = .ok (.if_icmp .ge 48, 3) := by decide +kernel
theorem dX7_goesOn_542 : decode cX7_goesOn 542 = .ok (.iload 12, 2) := by decide +kernel
theorem dX7_goesOn_544 : decode cX7_goesOn 544 = .ok (.aload_n 0, 1) := by decide +kernel
theorem dX7_goesOn_545 : decode cX7_goesOn 545 = .ok (.getfield 69, 3) := by decide +kernel
theorem dX7_goesOn_548 : decode cX7_goesOn 548 = .ok (.iload_n 1, 1) := by decide +kernel
theorem dX7_goesOn_549 : decode cX7_goesOn 549 = .ok (.bipush 7, 2) := by decide +kernel
theorem dX7_goesOn_551 : decode cX7_goesOn 551 = .ok (.iadd, 1) := by decide +kernel
theorem dX7_goesOn_552 : decode cX7_goesOn 552 = .ok (.iload 13, 2) := by decide +kernel
theorem dX7_goesOn_554 : decode cX7_goesOn 554 = .ok (.iadd, 1) := by decide +kernel
theorem dX7_goesOn_555 : decode cX7_goesOn 555 = .ok (.iaload, 1) := by decide +kernel
theorem dX7_goesOn_556 : decode cX7_goesOn 556 = .ok (.aload_n 0, 1) := by decide +kernel
theorem dX7_goesOn_557 : decode cX7_goesOn 557 = .ok (.iconst 2, 1) := by decide +kernel
theorem dX7_goesOn_558 : decode cX7_goesOn 558 = .ok (.aload_n 0, 1) := by decide +kernel
theorem dX7_goesOn_559 : decode cX7_goesOn 559 = .ok (.getfield 69, 3) := by decide +kernel
theorem dX7_goesOn_562 : decode cX7_goesOn 562 = .ok (.iload_n 1, 1) := by decide +kernel
theorem dX7_goesOn_563 : decode cX7_goesOn 563 = .ok (.bipush 17, 2) := by decide +kernel
theorem dX7_goesOn_565 : decode cX7_goesOn 565 = .ok (.iadd, 1) := by decide +kernel
theorem dX7_goesOn_566 : decode cX7_goesOn 566 = .ok (.iload 13, 2) := by decide +kernel
theorem dX7_goesOn_568 : decode cX7_goesOn 568 = .ok (.iadd, 1) := by decide +kernel
theorem dX7_goesOn_569 : decode cX7_goesOn 569 = .ok (.iaload, 1) := by decide +kernel
theorem dX7_goesOn_570 : decode cX7_goesOn 570 = .ok (.imul, 1) := by decide +kernel
theorem dX7_goesOn_571 : decode cX7_goesOn 571 = .ok (.invokevirtual 182, 3) := by decide +kernel
theorem dX7_goesOn_574 : decode cX7_goesOn 574 = .ok (.imul, 1) := by decide +kernel
theorem dX7_goesOn_575 : decode cX7_goesOn 575 = .ok (.bipush 15, 2) := by decide +kernel
theorem dX7_goesOn_577 : decode cX7_goesOn 577 = .ok (.ishr, 1) := by decide +kernel
theorem dX7_goesOn_578 : decode cX7_goesOn 578 = .ok (.iadd, 1) := by decide +kernel
theorem dX7_goesOn_579 : decode cX7_goesOn 579 = .ok (.istore 12, 2) := by decide +kernel
theorem dX7_goesOn_581 : decode cX7_goesOn 581 = .ok (.iinc 13 1, 3) := by decide +kernel
theorem dX7_goesOn_584 : decode cX7_goesOn 584 = .ok (.goto (-49), 3) := by decide +kernel
theorem dX7_goesOn_587 : decode cX7_goesOn 587 = .ok (.aload_n 0, 1) := by decide +kernel
theorem dX7_goesOn_588 : decode cX7_goesOn 588 = .ok (.getfield 69, 3) := by decide +kernel
theorem dX7_goesOn_591 : decode cX7_goesOn 591 = .ok (.iload_n 1, 1) := by decide +kernel
theorem dX7_goesOn_592 : decode cX7_goesOn 592 = .ok (.iconst 4, 1) := by decide +kernel
theorem dX7_goesOn_593 : decode cX7_goesOn 593 = .ok (.iadd, 1) := by decide +kernel
theorem dX7_goesOn_594 : decode cX7_goesOn 594 = .ok (.aload_n 0, 1) := by decide +kernel
theorem dX7_goesOn_595 : decode cX7_goesOn 595 = .ok (.iload 12, 2) := by decide +kernel
theorem dX7_goesOn_597 : decode cX7_goesOn 597 = .ok (.invokevirtual 182, 3) := by decide +kernel
theorem dX7_goesOn_600 : decode cX7_goesOn 600 = .ok (.iastore, 1) := by decide +kernel
theorem dX7_goesOn_601 : decode cX7_goesOn 601 = .ok (.aload_n 0, 1) := by decide +kernel
theorem dX7_goesOn_602 : decode cX7_goesOn 602 = .ok (.getfield 69, 3) := by decide +kernel
theorem dX7_goesOn_605 : decode cX7_goesOn 605 = .ok (.iload_n 1, 1) := by decide +kernel
theorem dX7_goesOn_606 : decode cX7_goesOn 606 = .ok (.iconst 2, 1) := by decide +kernel
theorem dX7_goesOn_607 : decode cX7_goesOn 607 = .ok (.iadd, 1) := by decide +kernel
theorem dX7_goesOn_608 : decode cX7_goesOn 608 = .ok (.aload_n 0, 1) := by decide +kernel
theorem dX7_goesOn_609 : decode cX7_goesOn 609 = .ok (.aload_n 0, 1) := by decide +kernel
theorem dX7_goesOn_610 : decode cX7_goesOn 610 = .ok (.getfield 69, 3) := by decide +kernel
theorem dX7_goesOn_613 : decode cX7_goesOn 613 = .ok (.iload_n 1, 1) := by decide +kernel
theorem dX7_goesOn_614 : decode cX7_goesOn 614 = .ok (.iconst 3, 1) := by decide +kernel
theorem dX7_goesOn_615 : decode cX7_goesOn 615 = .ok (.iadd, 1) := by decide +kernel
theorem dX7_goesOn_616 : decode cX7_goesOn 616 = .ok (.iaload, 1) := by decide +kernel
theorem dX7_goesOn_617 : decode cX7_goesOn 617 = .ok (.aload_n 0, 1) := by decide +kernel
theorem dX7_goesOn_618 : decode cX7_goesOn 618 = .ok (.getfield 69, 3) := by decide +kernel
theorem dX7_goesOn_621 : decode cX7_goesOn 621 = .ok (.iload_n 1, 1) := by decide +kernel
theorem dX7_goesOn_622 : decode cX7_goesOn 622 = .ok (.iconst 4, 1) := by decide +kernel
theorem dX7_goesOn_623 : decode cX7_goesOn 623 = .ok (.iadd, 1) := by decide +kernel
theorem dX7_goesOn_624 : decode cX7_goesOn 624 = .ok (.iaload, 1) := by decide +kernel
theorem dX7_goesOn_625 : decode cX7_goesOn 625 = .ok (.iadd, 1) := by decide +kernel
theorem dX7_goesOn_626 : decode cX7_goesOn 626 = .ok (.invokevirtual 182, 3) := by decide +kernel
theorem dX7_goesOn_629 : decode cX7_goesOn 629 = .ok (.iastore, 1) := by decide +kernel
theorem dX7_goesOn_630 : decode cX7_goesOn 630 = .ok (.return_, 1) := by decide +kernel
theorem dX7_hears722_0 : decode cX7_hears722 0 = .ok (.iconst 2, 1) := by decide +kernel
theorem dX7_hears722_1 : decode cX7_hears722 1 = .ok (.iload_n 1, 1) := by decide +kernel
theorem dX7_hears722_2 : decode cX7_hears722 2 = .ok (.imul, 1) := by decide +kernel
theorem dX7_hears722_3 : decode cX7_hears722 3 = .ok (.iconst 1, 1) := by decide +kernel
theorem dX7_hears722_4 : decode cX7_hears722 4 = .ok (.iadd, 1) := by decide +kernel
theorem dX7_hears722_5 : decode cX7_hears722 5 = .ok (.istore_n 3, 1) := by decide +kernel
theorem dX7_hears722_6 : decode cX7_hears722 6 = .ok (.bipush 46, 2) := by decide +kernel
theorem dX7_hears722_8 : decode cX7_hears722 8 = .ok (.iload_n 3, 1) := by decide +kernel
theorem dX7_hears722_9 : decode cX7_hears722 9 = .ok (.imul, 1) := by decide +kernel
theorem dX7_hears722_10 : decode cX7_hears722 10 = .ok (.istore 4, 2) := by decide +kernel
theorem dX7_hears722_12 : decode cX7_hears722 12 = .ok (.iload_n 2, 1) := by decide +kernel
theorem dX7_hears722_13 : decode cX7_hears722 13 = .ok (.bipush 63, 2) := by decide +kernel
theorem dX7_hears722_15 : decode cX7_hears722 15 = .ok (.iand, 1) := by decide +kernel
theorem dX7_hears722_16 : decode cX7_hears722 16 = .ok (.istore 5, 2) := by decide +kernel
theorem dX7_hears722_18 : decode cX7_hears722 18 = .ok (.iload_n 2, 1) := by decide +kernel
theorem dX7_hears722_19 : decode cX7_hears722 19 = .ok (.bipush 6, 2) := by decide +kernel
theorem dX7_hears722_21 : decode cX7_hears722 21 = .ok (.ishr, 1) := by decide +kernel
theorem dX7_hears722_22 : decode cX7_hears722 22 = .ok (.istore 6, 2) := by decide +kernel
theorem dX7_hears722_24 : decode cX7_hears722 24 = .ok (.aload_n 0, 1) := by decide +kernel
theorem dX7_hears722_25 : decode cX7_hears722 25 = .ok (.aload_n 0, 1) := by decide +kernel
theorem dX7_hears722_26 : decode cX7_hears722 26 = .ok (.getfield 69, 3) := by decide +kernel
theorem dX7_hears722_29 : decode cX7_hears722 29 = .ok (.iload 4, 2) := by decide +kernel
theorem dX7_hears722_31 : decode cX7_hears722 31 = .ok (.iconst 2, 1) := by decide +kernel
theorem dX7_hears722_32 : decode cX7_hears722 32 = .ok (.iadd, 1) := by decide +kernel
theorem dX7_hears722_33 : decode cX7_hears722 33 = .ok (.iaload, 1) := by decide +kernel
theorem dX7_hears722_34 : decode cX7_hears722 34 = .ok (.aload_n 0, 1) := by decide +kernel
theorem dX7_hears722_35 : decode cX7_hears722 35 = .ok (.getfield 69, 3) := by decide +kernel
theorem dX7_hears722_38 : decode cX7_hears722 38 = .ok (.iload 4, 2) := by decide +kernel
theorem dX7_hears722_40 : decode cX7_hears722 40 = .ok (.iconst 1, 1) := by decide +kernel
theorem dX7_hears722_41 : decode cX7_hears722 41 = .ok (.iadd, 1) := by decide +kernel
theorem dX7_hears722_42 : decode cX7_hears722 42 = .ok (.iaload, 1) := by decide +kernel
theorem dX7_hears722_43 : decode cX7_hears722 43 = .ok (.aload_n 0, 1) := by decide +kernel
theorem dX7_hears722_44 : decode cX7_hears722 44 = .ok (.aload_n 0, 1) := by decide +kernel
theorem dX7_hears722_45 : decode cX7_hears722 45 = .ok (.getfield 10, 3) := by decide +kernel
theorem dX7_hears722_48 : decode cX7_hears722 48 = .ok (.iload_n 1, 1) := by decide +kernel
theorem dX7_hears722_49 : decode cX7_hears722 49 = .ok (.iaload, 1) := by decide +kernel
theorem dX7_hears722_50 : decode cX7_hears722 50 = .ok (.iload 5, 2) := by decide +kernel
theorem dX7_hears722_52 : decode cX7_hears722 52 = .ok (.invokevirtual 205, 3) := by decide +kernel
theorem dX7_hears722_55 : decode cX7_hears722 55 = .ok (.imul, 1) := by decide +kernel
theorem dX7_hears722_56 : decode cX7_hears722 56 = .ok (.bipush 15, 2) := by decide +kernel
theorem dX7_hears722_58 : decode cX7_hears722 58 = .ok (.ishr, 1) := by decide +kernel
theorem dX7_hears722_59 : decode cX7_hears722 59 = .ok (.iadd, 1) := by decide +kernel
theorem dX7_hears722_60 : decode cX7_hears722 60 = .ok (.sipush (-16384), 3) := by decide +kernel
theorem dX7_hears722_63 : decode cX7_hears722 63 = .ok (.sipush 16383, 3) := by decide +kernel
theorem dX7_hears722_66 : decode cX7_hears722 66 = .ok (.invokevirtual 169, 3) := by decide +kernel
theorem dX7_hears722_69 : decode cX7_hears722 69 = .ok (.istore 7, 2) := by decide +kernel
theorem dX7_hears722_71 : decode cX7_hears722 71 = .ok (.aload_n 0, 1) := by decide +kernel
theorem dX7_hears722_72 : decode cX7_hears722 72 = .ok (.aload_n 0, 1) := by decide +kernel
theorem dX7_hears722_73 : decode cX7_hears722 73 = .ok (.getfield 69, 3) := by decide +kernel
theorem dX7_hears722_76 : decode cX7_hears722 76 = .ok (.iload 4, 2) := by decide +kernel
theorem dX7_hears722_78 : decode cX7_hears722 78 = .ok (.bipush 25, 2) := by decide +kernel
theorem dX7_hears722_80 : decode cX7_hears722 80 = .ok (.iadd, 1) := by decide +kernel
theorem dX7_hears722_81 : decode cX7_hears722 81 = .ok (.iaload, 1) := by decide +kernel
theorem dX7_hears722_82 : decode cX7_hears722 82 = .ok (.aload_n 0, 1) := by decide +kernel
theorem dX7_hears722_83 : decode cX7_hears722 83 = .ok (.getfield 69, 3) := by decide +kernel
theorem dX7_hears722_86 : decode cX7_hears722 86 = .ok (.iload 4, 2) := by decide +kernel
theorem dX7_hears722_88 : decode cX7_hears722 88 = .ok (.bipush 24, 2) := by decide +kernel
theorem dX7_hears722_90 : decode cX7_hears722 90 = .ok (.iadd, 1) := by decide +kernel
theorem dX7_hears722_91 : decode cX7_hears722 91 = .ok (.iaload, 1) := by decide +kernel
theorem dX7_hears722_92 : decode cX7_hears722 92 = .ok (.aload_n 0, 1) := by decide +kernel
theorem dX7_hears722_93 : decode cX7_hears722 93 = .ok (.getfield 87, 3) := by decide +kernel
theorem dX7_hears722_96 : decode cX7_hears722 96 = .ok (.iload 6, 2) := by decide +kernel
theorem dX7_hears722_98 : decode cX7_hears722 98 = .ok (.iaload, 1) := by decide +kernel
theorem dX7_hears722_99 : decode cX7_hears722 99 = .ok (.imul, 1) := by decide +kernel
theorem dX7_hears722_100 : decode cX7_hears722 100 = .ok (.bipush 15, 2) := by decide +kernel
theorem dX7_hears722_102 : decode cX7_hears722 102 = .ok (.ishr, 1) := by decide +kernel
theorem dX7_hears722_103 : decode cX7_hears722 103 = .ok (.iadd, 1) := by decide +kernel
theorem dX7_hears722_104 : decode cX7_hears722 104 = .ok (.sipush (-16384), 3) := by decide +kernel
theorem dX7_hears722_107 : decode cX7_hears722 107 = .ok (.sipush 16383, 3) := by decide +kernel
theorem dX7_hears722_110 : decode cX7_hears722 110 = .ok (.invokevirtual 169, 3) := by decide +kernel
theorem dX7_hears722_113 : decode cX7_hears722 113 = .ok (.istore 8, 2) := by decide +kernel
theorem dX7_hears722_115 : decode cX7_hears722 115 = .ok (.aload_n 0, 1) := by decide +kernel
theorem dX7_hears722_116 : decode cX7_hears722 116 = .ok (.iload_n 3, 1) := by decide +kernel
theorem dX7_hears722_117 : decode cX7_hears722 117 = .ok (.iload 5, 2) := by decide +kernel
theorem dX7_hears722_119 : decode cX7_hears722 119 = .ok (.iload 6, 2) := by decide +kernel
theorem dX7_hears722_121 : decode cX7_hears722 121 = .ok (.invokevirtual 195, 3) := by decide +kernel
theorem dX7_hears722_124 : decode cX7_hears722 124 = .ok (.aload_n 0, 1) := by decide +kernel
theorem dX7_hears722_125 : decode cX7_hears722 125 = .ok (.iload_n 3, 1) := by decide +kernel
theorem dX7_hears722_126 : decode cX7_hears722 126 = .ok (.iload 7, 2) := by decide +kernel
theorem dX7_hears722_128 : decode cX7_hears722 128 = .ok (.iload 8, 2) := by decide +kernel
theorem dX7_hears722_130 : decode cX7_hears722 130 = .ok (.iadd, 1) := by decide +kernel
theorem dX7_hears722_131 : decode cX7_hears722 131 = .ok (.iload 7, 2) := by decide +kernel
theorem dX7_hears722_133 : decode cX7_hears722 133 = .ok (.iload 8, 2) := by decide +kernel
theorem dX7_hears722_135 : decode cX7_hears722 135 = .ok (.isub, 1) := by decide +kernel
theorem dX7_hears722_136 : decode cX7_hears722 136 = .ok (.invokevirtual 191, 3) := by decide +kernel
theorem dX7_hears722_139 : decode cX7_hears722 139 = .ok (.aload_n 0, 1) := by decide +kernel
theorem dX7_hears722_140 : decode cX7_hears722 140 = .ok (.getfield 14, 3) := by decide +kernel
theorem dX7_hears722_143 : decode cX7_hears722 143 = .ok (.iload_n 1, 1) := by decide +kernel
theorem dX7_hears722_144 : decode cX7_hears722 144 = .ok (.aload_n 0, 1) := by decide +kernel
theorem dX7_hears722_145 : decode cX7_hears722 145 = .ok (.aload_n 0, 1) := by decide +kernel
theorem dX7_hears722_146 : decode cX7_hears722 146 = .ok (.getfield 185, 3) := by decide +kernel
theorem dX7_hears722_149 : decode cX7_hears722 149 = .ok (.bipush 11, 2) := by decide +kernel
theorem dX7_hears722_151 : decode cX7_hears722 151 = .ok (.ishr, 1) := by decide +kernel
theorem dX7_hears722_152 : decode cX7_hears722 152 = .ok (.invokevirtual 182, 3) := by decide +kernel
theorem dX7_hears722_155 : decode cX7_hears722 155 = .ok (.iastore, 1) := by decide +kernel
theorem dX7_hears722_156 : decode cX7_hears722 156 = .ok (.aload_n 0, 1) := by decide +kernel
theorem dX7_hears722_157 : decode cX7_hears722 157 = .ok (.aload_n 0, 1) := by decide +kernel
theorem dX7_hears722_158 : decode cX7_hears722 158 = .ok (.getfield 188, 3) := by decide +kernel
theorem dX7_hears722_161 : decode cX7_hears722 161 = .ok (.bipush 11, 2) := by decide +kernel
theorem dX7_hears722_163 : decode cX7_hears722 163 = .ok (.ishr, 1) := by decide +kernel
theorem dX7_hears722_164 : decode cX7_hears722 164 = .ok (.invokevirtual 182, 3) := by decide +kernel
theorem dX7_hears722_167 : decode cX7_hears722 167 = .ok (.ireturn, 1) := by decide +kernel
theorem dX7_isSample_0 : decode cX7_isSample 0 = .ok (.iload_n 1, 1) := by decide +kernel
theorem dX7_isSample_1 : decode cX7_isSample 1 = .ok (.sipush (-32768), 3) := by decide +kernel
theorem dX7_isSample_4 : decode cX7_isSample 4 = .ok (.if_icmp .lt 14, 3) := by decide +kernel
theorem dX7_isSample_7 : decode cX7_isSample 7 = .ok (.iload_n 1, 1) := by decide +kernel
theorem dX7_isSample_8 : decode cX7_isSample 8 = .ok (.sipush 32767, 3) := by decide +kernel
theorem dX7_isSample_11 : decode cX7_isSample 11 = .ok (.if_icmp .gt 7, 3) := by decide +kernel
theorem dX7_isSample_14 : decode cX7_isSample 14 = .ok (.iconst 1, 1) := by decide +kernel
theorem dX7_isSample_15 : decode cX7_isSample 15 = .ok (.goto 4, 3) := by decide +kernel
theorem dX7_isSample_18 : decode cX7_isSample 18 = .ok (.iconst 0, 1) := by decide +kernel
theorem dX7_isSample_19 : decode cX7_isSample 19 = .ok (.ireturn, 1) := by decide +kernel
theorem dX7_bitsOf_0 : decode cX7_bitsOf 0 = .ok (.aload_n 0, 1) := by decide +kernel
theorem dX7_bitsOf_1 : decode cX7_bitsOf 1 = .ok (.getfield 10, 3) := by decide +kernel
theorem dX7_bitsOf_4 : decode cX7_bitsOf 4 = .ok (.iload_n 1, 1) := by decide +kernel
theorem dX7_bitsOf_5 : decode cX7_bitsOf 5 = .ok (.iaload, 1) := by decide +kernel
theorem dX7_bitsOf_6 : decode cX7_bitsOf 6 = .ok (.iconst 2, 1) := by decide +kernel
theorem dX7_bitsOf_7 : decode cX7_bitsOf 7 = .ok (.if_icmp .lt 22, 3) := by decide +kernel
theorem dX7_bitsOf_10 : decode cX7_bitsOf 10 = .ok (.aload_n 0, 1) := by decide +kernel
theorem dX7_bitsOf_11 : decode cX7_bitsOf 11 = .ok (.getfield 10, 3) := by decide +kernel
theorem dX7_bitsOf_14 : decode cX7_bitsOf 14 = .ok (.iload_n 1, 1) := by decide +kernel
theorem dX7_bitsOf_15 : decode cX7_bitsOf 15 = .ok (.iaload, 1) := by decide +kernel
theorem dX7_bitsOf_16 : decode cX7_bitsOf 16 = .ok (.iconst 5, 1) := by decide +kernel
theorem dX7_bitsOf_17 : decode cX7_bitsOf 17 = .ok (.if_icmp .gt 12, 3) := by decide +kernel
theorem dX7_bitsOf_20 : decode cX7_bitsOf 20 = .ok (.aload_n 0, 1) := by decide +kernel
theorem dX7_bitsOf_21 : decode cX7_bitsOf 21 = .ok (.getfield 10, 3) := by decide +kernel
theorem dX7_bitsOf_24 : decode cX7_bitsOf 24 = .ok (.iload_n 1, 1) := by decide +kernel
theorem dX7_bitsOf_25 : decode cX7_bitsOf 25 = .ok (.iaload, 1) := by decide +kernel
theorem dX7_bitsOf_26 : decode cX7_bitsOf 26 = .ok (.goto 5, 3) := by decide +kernel
theorem dX7_bitsOf_29 : decode cX7_bitsOf 29 = .ok (.bipush 8, 2) := by decide +kernel
theorem dX7_bitsOf_31 : decode cX7_bitsOf 31 = .ok (.ireturn, 1) := by decide +kernel
theorem dX7_says_0 : decode cX7_says 0 = .ok (.aload_n 0, 1) := by decide +kernel
theorem dX7_says_1 : decode cX7_says 1 = .ok (.getfield 10, 3) := by decide +kernel
theorem dX7_says_4 : decode cX7_says 4 = .ok (.iload_n 1, 1) := by decide +kernel
theorem dX7_says_5 : decode cX7_says 5 = .ok (.iaload, 1) := by decide +kernel
theorem dX7_says_6 : decode cX7_says 6 = .ok (.ifCond .ne 9, 3) := by decide +kernel
theorem dX7_says_9 : decode cX7_says 9 = .ok (.aload_n 0, 1) := by decide +kernel
theorem dX7_says_10 : decode cX7_says 10 = .ok (.iload_n 2, 1) := by decide +kernel
theorem dX7_says_11 : decode cX7_says 11 = .ok (.invokevirtual 208, 3) := by decide +kernel
theorem dX7_says_14 : decode cX7_says 14 = .ok (.ireturn, 1) := by decide +kernel
theorem dX7_says_15 : decode cX7_says 15 = .ok (.aload_n 0, 1) := by decide +kernel
theorem dX7_says_16 : decode cX7_says 16 = .ok (.getfield 10, 3) := by decide +kernel
theorem dX7_says_19 : decode cX7_says 19 = .ok (.iload_n 1, 1) := by decide +kernel
theorem dX7_says_20 : decode cX7_says 20 = .ok (.iaload, 1) := by decide +kernel
theorem dX7_says_21 : decode cX7_says 21 = .ok (.iconst 1, 1) := by decide +kernel
theorem dX7_says_22 : decode cX7_says 22 = .ok (.if_icmp .ne 11, 3) := by decide +kernel
theorem dX7_says_25 : decode cX7_says 25 = .ok (.aload_n 0, 1) := by decide +kernel
theorem dX7_says_26 : decode cX7_says 26 = .ok (.iload_n 2, 1) := by decide +kernel
theorem dX7_says_27 : decode cX7_says 27 = .ok (.invokevirtual 211, 3) := by decide +kernel
theorem dX7_says_30 : decode cX7_says 30 = .ok (.goto 17, 3) := by decide +kernel
theorem dX7_says_33 : decode cX7_says 33 = .ok (.aload_n 0, 1) := by decide +kernel
theorem dX7_says_34 : decode cX7_says 34 = .ok (.iconst 2, 1) := by decide +kernel
theorem dX7_says_35 : decode cX7_says 35 = .ok (.iload_n 1, 1) := by decide +kernel
theorem dX7_says_36 : decode cX7_says 36 = .ok (.imul, 1) := by decide +kernel
theorem dX7_says_37 : decode cX7_says 37 = .ok (.aload_n 0, 1) := by decide +kernel
theorem dX7_says_38 : decode cX7_says 38 = .ok (.getfield 10, 3) := by decide +kernel
theorem dX7_says_41 : decode cX7_says 41 = .ok (.iload_n 1, 1) := by decide +kernel
theorem dX7_says_42 : decode cX7_says 42 = .ok (.iaload, 1) := by decide +kernel
theorem dX7_says_43 : decode cX7_says 43 = .ok (.iload_n 2, 1) := by decide +kernel
theorem dX7_says_44 : decode cX7_says 44 = .ok (.invokevirtual 214, 3) := by decide +kernel
theorem dX7_says_47 : decode cX7_says 47 = .ok (.ireturn, 1) := by decide +kernel
theorem dX7_hears_0 : decode cX7_hears 0 = .ok (.aload_n 0, 1) := by decide +kernel
theorem dX7_hears_1 : decode cX7_hears 1 = .ok (.getfield 10, 3) := by decide +kernel
theorem dX7_hears_4 : decode cX7_hears 4 = .ok (.iload_n 1, 1) := by decide +kernel
theorem dX7_hears_5 : decode cX7_hears 5 = .ok (.iaload, 1) := by decide +kernel
theorem dX7_hears_6 : decode cX7_hears 6 = .ok (.ifCond .ne 9, 3) := by decide +kernel
theorem dX7_hears_9 : decode cX7_hears 9 = .ok (.aload_n 0, 1) := by decide +kernel
theorem dX7_hears_10 : decode cX7_hears 10 = .ok (.iload_n 2, 1) := by decide +kernel
theorem dX7_hears_11 : decode cX7_hears 11 = .ok (.invokevirtual 217, 3) := by decide +kernel
theorem dX7_hears_14 : decode cX7_hears 14 = .ok (.ireturn, 1) := by decide +kernel
theorem dX7_hears_15 : decode cX7_hears 15 = .ok (.aload_n 0, 1) := by decide +kernel
theorem dX7_hears_16 : decode cX7_hears 16 = .ok (.getfield 10, 3) := by decide +kernel
theorem dX7_hears_19 : decode cX7_hears 19 = .ok (.iload_n 1, 1) := by decide +kernel
theorem dX7_hears_20 : decode cX7_hears 20 = .ok (.iaload, 1) := by decide +kernel
theorem dX7_hears_21 : decode cX7_hears 21 = .ok (.iconst 1, 1) := by decide +kernel
theorem dX7_hears_22 : decode cX7_hears 22 = .ok (.if_icmp .ne 9, 3) := by decide +kernel
theorem dX7_hears_25 : decode cX7_hears 25 = .ok (.aload_n 0, 1) := by decide +kernel
theorem dX7_hears_26 : decode cX7_hears 26 = .ok (.iload_n 2, 1) := by decide +kernel
theorem dX7_hears_27 : decode cX7_hears 27 = .ok (.invokevirtual 220, 3) := by decide +kernel
theorem dX7_hears_30 : decode cX7_hears 30 = .ok (.ireturn, 1) := by decide +kernel
theorem dX7_hears_31 : decode cX7_hears 31 = .ok (.aload_n 0, 1) := by decide +kernel
theorem dX7_hears_32 : decode cX7_hears 32 = .ok (.getfield 10, 3) := by decide +kernel
theorem dX7_hears_35 : decode cX7_hears 35 = .ok (.iload_n 1, 1) := by decide +kernel
theorem dX7_hears_36 : decode cX7_hears 36 = .ok (.iaload, 1) := by decide +kernel
theorem dX7_hears_37 : decode cX7_hears 37 = .ok (.bipush 6, 2) := by decide +kernel
theorem dX7_hears_39 : decode cX7_hears 39 = .ok (.if_icmp .ge 22, 3) := by decide +kernel
theorem dX7_hears_42 : decode cX7_hears 42 = .ok (.aload_n 0, 1) := by decide +kernel
theorem dX7_hears_43 : decode cX7_hears 43 = .ok (.iconst 2, 1) := by decide +kernel
theorem dX7_hears_44 : decode cX7_hears 44 = .ok (.iload_n 1, 1) := by decide +kernel
theorem dX7_hears_45 : decode cX7_hears 45 = .ok (.imul, 1) := by decide +kernel
theorem dX7_hears_46 : decode cX7_hears 46 = .ok (.iconst 1, 1) := by decide +kernel
theorem dX7_hears_47 : decode cX7_hears 47 = .ok (.iadd, 1) := by decide +kernel
theorem dX7_hears_48 : decode cX7_hears 48 = .ok (.aload_n 0, 1) := by decide +kernel
theorem dX7_hears_49 : decode cX7_hears 49 = .ok (.getfield 10, 3) := by decide +kernel
theorem dX7_hears_52 : decode cX7_hears 52 = .ok (.iload_n 1, 1) := by decide +kernel
theorem dX7_hears_53 : decode cX7_hears 53 = .ok (.iaload, 1) := by decide +kernel
theorem dX7_hears_54 : decode cX7_hears 54 = .ok (.iload_n 2, 1) := by decide +kernel
theorem dX7_hears_55 : decode cX7_hears 55 = .ok (.invokevirtual 223, 3) := by decide +kernel
theorem dX7_hears_58 : decode cX7_hears 58 = .ok (.goto 9, 3) := by decide +kernel
theorem dX7_hears_61 : decode cX7_hears 61 = .ok (.aload_n 0, 1) := by decide +kernel
theorem dX7_hears_62 : decode cX7_hears 62 = .ok (.iload_n 1, 1) := by decide +kernel
theorem dX7_hears_63 : decode cX7_hears 63 = .ok (.iload_n 2, 1) := by decide +kernel
theorem dX7_hears_64 : decode cX7_hears 64 = .ok (.invokevirtual 226, 3) := by decide +kernel
theorem dX7_hears_67 : decode cX7_hears 67 = .ok (.ireturn, 1) := by decide +kernel
theorem dX7_say_0 : decode cX7_say 0 = .ok (.aload_n 0, 1) := by decide +kernel
theorem dX7_say_1 : decode cX7_say 1 = .ok (.iconst 0, 1) := by decide +kernel
theorem dX7_say_2 : decode cX7_say 2 = .ok (.putfield 114, 3) := by decide +kernel
theorem dX7_say_5 : decode cX7_say 5 = .ok (.aload_n 0, 1) := by decide +kernel
theorem dX7_say_6 : decode cX7_say 6 = .ok (.iload_n 1, 1) := by decide +kernel
theorem dX7_say_7 : decode cX7_say 7 = .ok (.invokevirtual 229, 3) := by decide +kernel
theorem dX7_say_10 : decode cX7_say 10 = .ok (.ifCond .eq 19, 3) := by decide +kernel
theorem dX7_say_13 : decode cX7_say 13 = .ok (.aload_n 0, 1) := by decide +kernel
theorem dX7_say_14 : decode cX7_say 14 = .ok (.iload_n 1, 1) := by decide +kernel
theorem dX7_say_15 : decode cX7_say 15 = .ok (.invokevirtual 232, 3) := by decide +kernel
theorem dX7_say_18 : decode cX7_say 18 = .ok (.ifCond .ne 11, 3) := by decide +kernel
theorem dX7_say_21 : decode cX7_say 21 = .ok (.aload_n 0, 1) := by decide +kernel
theorem dX7_say_22 : decode cX7_say 22 = .ok (.iload_n 2, 1) := by decide +kernel
theorem dX7_say_23 : decode cX7_say 23 = .ok (.invokevirtual 235, 3) := by decide +kernel
theorem dX7_say_26 : decode cX7_say 26 = .ok (.ifCond .ne 6, 3) := by decide +kernel
theorem dX7_say_29 : decode cX7_say 29 = .ok (.ldc 9, 2) := by decide +kernel
theorem dX7_say_31 : decode cX7_say 31 = .ok (.ireturn, 1) := by decide +kernel
theorem dX7_say_32 : decode cX7_say 32 = .ok (.aload_n 0, 1) := by decide +kernel
theorem dX7_say_33 : decode cX7_say 33 = .ok (.iload_n 1, 1) := by decide +kernel
theorem dX7_say_34 : decode cX7_say 34 = .ok (.iload_n 2, 1) := by decide +kernel
theorem dX7_say_35 : decode cX7_say 35 = .ok (.invokevirtual 238, 3) := by decide +kernel
theorem dX7_say_38 : decode cX7_say 38 = .ok (.ireturn, 1) := by decide +kernel
theorem dX7_pair_0 : decode cX7_pair 0 = .ok (.aload_n 0, 1) := by decide +kernel
theorem dX7_pair_1 : decode cX7_pair 1 = .ok (.iconst 0, 1) := by decide +kernel
theorem dX7_pair_2 : decode cX7_pair 2 = .ok (.putfield 114, 3) := by decide +kernel
theorem dX7_pair_5 : decode cX7_pair 5 = .ok (.aload_n 0, 1) := by decide +kernel
theorem dX7_pair_6 : decode cX7_pair 6 = .ok (.iload_n 1, 1) := by decide +kernel
theorem dX7_pair_7 : decode cX7_pair 7 = .ok (.invokevirtual 229, 3) := by decide +kernel
theorem dX7_pair_10 : decode cX7_pair 10 = .ok (.ifCond .eq 27, 3) := by decide +kernel
theorem dX7_pair_13 : decode cX7_pair 13 = .ok (.aload_n 0, 1) := by decide +kernel
theorem dX7_pair_14 : decode cX7_pair 14 = .ok (.iload_n 1, 1) := by decide +kernel
theorem dX7_pair_15 : decode cX7_pair 15 = .ok (.invokevirtual 232, 3) := by decide +kernel
theorem dX7_pair_18 : decode cX7_pair 18 = .ok (.ifCond .eq 19, 3) := by decide +kernel
theorem dX7_pair_21 : decode cX7_pair 21 = .ok (.aload_n 0, 1) := by decide +kernel
theorem dX7_pair_22 : decode cX7_pair 22 = .ok (.iload_n 2, 1) := by decide +kernel
theorem dX7_pair_23 : decode cX7_pair 23 = .ok (.invokevirtual 235, 3) := by decide +kernel
theorem dX7_pair_26 : decode cX7_pair 26 = .ok (.ifCond .eq 11, 3) := by decide +kernel
theorem dX7_pair_29 : decode cX7_pair 29 = .ok (.aload_n 0, 1) := by decide +kernel
theorem dX7_pair_30 : decode cX7_pair 30 = .ok (.iload_n 3, 1) := by decide +kernel
theorem dX7_pair_31 : decode cX7_pair 31 = .ok (.invokevirtual 235, 3) := by decide +kernel
theorem dX7_pair_34 : decode cX7_pair 34 = .ok (.ifCond .ne 6, 3) := by decide +kernel
theorem dX7_pair_37 : decode cX7_pair 37 = .ok (.ldc 9, 2) := by decide +kernel
theorem dX7_pair_39 : decode cX7_pair 39 = .ok (.ireturn, 1) := by decide +kernel
theorem dX7_pair_40 : decode cX7_pair 40 = .ok (.aload_n 0, 1) := by decide +kernel
theorem dX7_pair_41 : decode cX7_pair 41 = .ok (.iconst 2, 1) := by decide +kernel
theorem dX7_pair_42 : decode cX7_pair 42 = .ok (.iload_n 1, 1) := by decide +kernel
theorem dX7_pair_43 : decode cX7_pair 43 = .ok (.imul, 1) := by decide +kernel
theorem dX7_pair_44 : decode cX7_pair 44 = .ok (.iload_n 2, 1) := by decide +kernel
theorem dX7_pair_45 : decode cX7_pair 45 = .ok (.iload_n 3, 1) := by decide +kernel
theorem dX7_pair_46 : decode cX7_pair 46 = .ok (.invokevirtual 241, 3) := by decide +kernel
theorem dX7_pair_49 : decode cX7_pair 49 = .ok (.ireturn, 1) := by decide +kernel
theorem dX7_isCode_0 : decode cX7_isCode 0 = .ok (.iload_n 2, 1) := by decide +kernel
theorem dX7_isCode_1 : decode cX7_isCode 1 = .ok (.ifCond .lt 18, 3) := by decide +kernel
theorem dX7_isCode_4 : decode cX7_isCode 4 = .ok (.iload_n 2, 1) := by decide +kernel
theorem dX7_isCode_5 : decode cX7_isCode 5 = .ok (.iconst 1, 1) := by decide +kernel
theorem dX7_isCode_6 : decode cX7_isCode 6 = .ok (.aload_n 0, 1) := by decide +kernel
theorem dX7_isCode_7 : decode cX7_isCode 7 = .ok (.iload_n 1, 1) := by decide +kernel
theorem dX7_isCode_8 : decode cX7_isCode 8 = .ok (.invokevirtual 244, 3) := by decide +kernel
theorem dX7_isCode_11 : decode cX7_isCode 11 = .ok (.ishl, 1) := by decide +kernel
theorem dX7_isCode_12 : decode cX7_isCode 12 = .ok (.if_icmp .ge 7, 3) := by decide +kernel
theorem dX7_isCode_15 : decode cX7_isCode 15 = .ok (.iconst 1, 1) := by decide +kernel
theorem dX7_isCode_16 : decode cX7_isCode 16 = .ok (.goto 4, 3) := by decide +kernel
theorem dX7_isCode_19 : decode cX7_isCode 19 = .ok (.iconst 0, 1) := by decide +kernel
theorem dX7_isCode_20 : decode cX7_isCode 20 = .ok (.ireturn, 1) := by decide +kernel
theorem dX7_hear_0 : decode cX7_hear 0 = .ok (.aload_n 0, 1) := by decide +kernel
theorem dX7_hear_1 : decode cX7_hear 1 = .ok (.iconst 0, 1) := by decide +kernel
theorem dX7_hear_2 : decode cX7_hear 2 = .ok (.putfield 114, 3) := by decide +kernel
theorem dX7_hear_5 : decode cX7_hear 5 = .ok (.aload_n 0, 1) := by decide +kernel
theorem dX7_hear_6 : decode cX7_hear 6 = .ok (.iload_n 1, 1) := by decide +kernel
theorem dX7_hear_7 : decode cX7_hear 7 = .ok (.invokevirtual 229, 3) := by decide +kernel
theorem dX7_hear_10 : decode cX7_hear 10 = .ok (.ifCond .eq 12, 3) := by decide +kernel
theorem dX7_hear_13 : decode cX7_hear 13 = .ok (.aload_n 0, 1) := by decide +kernel
theorem dX7_hear_14 : decode cX7_hear 14 = .ok (.iload_n 1, 1) := by decide +kernel
theorem dX7_hear_15 : decode cX7_hear 15 = .ok (.iload_n 2, 1) := by decide +kernel
theorem dX7_hear_16 : decode cX7_hear 16 = .ok (.invokevirtual 247, 3) := by decide +kernel
theorem dX7_hear_19 : decode cX7_hear 19 = .ok (.ifCond .ne 6, 3) := by decide +kernel
theorem dX7_hear_22 : decode cX7_hear 22 = .ok (.ldc 9, 2) := by decide +kernel
theorem dX7_hear_24 : decode cX7_hear 24 = .ok (.ireturn, 1) := by decide +kernel
theorem dX7_hear_25 : decode cX7_hear 25 = .ok (.aload_n 0, 1) := by decide +kernel
theorem dX7_hear_26 : decode cX7_hear 26 = .ok (.iload_n 1, 1) := by decide +kernel
theorem dX7_hear_27 : decode cX7_hear 27 = .ok (.iload_n 2, 1) := by decide +kernel
theorem dX7_hear_28 : decode cX7_hear 28 = .ok (.invokevirtual 251, 3) := by decide +kernel
theorem dX7_hear_31 : decode cX7_hear 31 = .ok (.ireturn, 1) := by decide +kernel
theorem dX7_second_0 : decode cX7_second 0 = .ok (.aload_n 0, 1) := by decide +kernel
theorem dX7_second_1 : decode cX7_second 1 = .ok (.iconst 0, 1) := by decide +kernel
theorem dX7_second_2 : decode cX7_second 2 = .ok (.putfield 114, 3) := by decide +kernel
theorem dX7_second_5 : decode cX7_second 5 = .ok (.aload_n 0, 1) := by decide +kernel
theorem dX7_second_6 : decode cX7_second 6 = .ok (.iload_n 1, 1) := by decide +kernel
theorem dX7_second_7 : decode cX7_second 7 = .ok (.invokevirtual 229, 3) := by decide +kernel
theorem dX7_second_10 : decode cX7_second 10 = .ok (.ifCond .eq 20, 3) := by decide +kernel
theorem dX7_second_13 : decode cX7_second 13 = .ok (.aload_n 0, 1) := by decide +kernel
theorem dX7_second_14 : decode cX7_second 14 = .ok (.iload_n 1, 1) := by decide +kernel
theorem dX7_second_15 : decode cX7_second 15 = .ok (.invokevirtual 232, 3) := by decide +kernel
theorem dX7_second_18 : decode cX7_second 18 = .ok (.ifCond .eq 12, 3) := by decide +kernel
theorem dX7_second_21 : decode cX7_second 21 = .ok (.aload_n 0, 1) := by decide +kernel
theorem dX7_second_22 : decode cX7_second 22 = .ok (.getfield 14, 3) := by decide +kernel
theorem dX7_second_25 : decode cX7_second 25 = .ok (.iload_n 1, 1) := by decide +kernel
theorem dX7_second_26 : decode cX7_second 26 = .ok (.iaload, 1) := by decide +kernel
theorem dX7_second_27 : decode cX7_second 27 = .ok (.goto 5, 3) := by decide +kernel
theorem dX7_second_30 : decode cX7_second 30 = .ok (.ldc 9, 2) := by decide +kernel
theorem dX7_second_32 : decode cX7_second 32 = .ok (.ireturn, 1) := by decide +kernel
theorem dX7_inner_0 : decode cX7_inner 0 = .ok (.aload_n 0, 1) := by decide +kernel
theorem dX7_inner_1 : decode cX7_inner 1 = .ok (.iconst 0, 1) := by decide +kernel
theorem dX7_inner_2 : decode cX7_inner 2 = .ok (.putfield 114, 3) := by decide +kernel
theorem dX7_inner_5 : decode cX7_inner 5 = .ok (.aload_n 0, 1) := by decide +kernel
theorem dX7_inner_6 : decode cX7_inner 6 = .ok (.iload_n 1, 1) := by decide +kernel
theorem dX7_inner_7 : decode cX7_inner 7 = .ok (.invokevirtual 229, 3) := by decide +kernel
theorem dX7_inner_10 : decode cX7_inner 10 = .ok (.ifCond .eq 22, 3) := by decide +kernel
theorem dX7_inner_13 : decode cX7_inner 13 = .ok (.iload_n 2, 1) := by decide +kernel
theorem dX7_inner_14 : decode cX7_inner 14 = .ok (.ifCond .lt 18, 3) := by decide +kernel
theorem dX7_inner_17 : decode cX7_inner 17 = .ok (.iload_n 2, 1) := by decide +kernel
theorem dX7_inner_18 : decode cX7_inner 18 = .ok (.iconst 1, 1) := by decide +kernel
theorem dX7_inner_19 : decode cX7_inner 19 = .ok (.if_icmp .gt 13, 3) := by decide +kernel
theorem dX7_inner_22 : decode cX7_inner 22 = .ok (.aload_n 0, 1) := by decide +kernel
theorem dX7_inner_23 : decode cX7_inner 23 = .ok (.getfield 10, 3) := by decide +kernel
theorem dX7_inner_26 : decode cX7_inner 26 = .ok (.iload_n 1, 1) := by decide +kernel
theorem dX7_inner_27 : decode cX7_inner 27 = .ok (.iaload, 1) := by decide +kernel
theorem dX7_inner_28 : decode cX7_inner 28 = .ok (.iconst 2, 1) := by decide +kernel
theorem dX7_inner_29 : decode cX7_inner 29 = .ok (.if_icmp .ge 6, 3) := by decide +kernel
theorem dX7_inner_32 : decode cX7_inner 32 = .ok (.ldc 9, 2) := by decide +kernel
theorem dX7_inner_34 : decode cX7_inner 34 = .ok (.ireturn, 1) := by decide +kernel
theorem dX7_inner_35 : decode cX7_inner 35 = .ok (.iconst 2, 1) := by decide +kernel
theorem dX7_inner_36 : decode cX7_inner 36 = .ok (.iload_n 1, 1) := by decide +kernel
theorem dX7_inner_37 : decode cX7_inner 37 = .ok (.imul, 1) := by decide +kernel
theorem dX7_inner_38 : decode cX7_inner 38 = .ok (.iload_n 2, 1) := by decide +kernel
theorem dX7_inner_39 : decode cX7_inner 39 = .ok (.iadd, 1) := by decide +kernel
theorem dX7_inner_40 : decode cX7_inner 40 = .ok (.istore 4, 2) := by decide +kernel
theorem dX7_inner_42 : decode cX7_inner 42 = .ok (.aload_n 0, 1) := by decide +kernel
theorem dX7_inner_43 : decode cX7_inner 43 = .ok (.iload_n 1, 1) := by decide +kernel
theorem dX7_inner_44 : decode cX7_inner 44 = .ok (.invokevirtual 232, 3) := by decide +kernel
theorem dX7_inner_47 : decode cX7_inner 47 = .ok (.ifCond .ne 31, 3) := by decide +kernel
theorem dX7_inner_50 : decode cX7_inner 50 = .ok (.iload_n 3, 1) := by decide +kernel
theorem dX7_inner_51 : decode cX7_inner 51 = .ok (.ifCond .lt 24, 3) := by decide +kernel
theorem dX7_inner_54 : decode cX7_inner 54 = .ok (.iload_n 3, 1) := by decide +kernel
theorem dX7_inner_55 : decode cX7_inner 55 = .ok (.bipush 24, 2) := by decide +kernel
theorem dX7_inner_57 : decode cX7_inner 57 = .ok (.if_icmp .ge 18, 3) := by decide +kernel
theorem dX7_inner_60 : decode cX7_inner 60 = .ok (.aload_n 0, 1) := by decide +kernel
theorem dX7_inner_61 : decode cX7_inner 61 = .ok (.getfield 17, 3) := by decide +kernel
theorem dX7_inner_64 : decode cX7_inner 64 = .ok (.bipush 24, 2) := by decide +kernel
theorem dX7_inner_66 : decode cX7_inner 66 = .ok (.iload 4, 2) := by decide +kernel
theorem dX7_inner_68 : decode cX7_inner 68 = .ok (.imul, 1) := by decide +kernel
theorem dX7_inner_69 : decode cX7_inner 69 = .ok (.iload_n 3, 1) := by decide +kernel
theorem dX7_inner_70 : decode cX7_inner 70 = .ok (.iadd, 1) := by decide +kernel
theorem dX7_inner_71 : decode cX7_inner 71 = .ok (.iaload, 1) := by decide +kernel
theorem dX7_inner_72 : decode cX7_inner 72 = .ok (.goto 5, 3) := by decide +kernel
theorem dX7_inner_75 : decode cX7_inner 75 = .ok (.ldc 9, 2) := by decide +kernel
theorem dX7_inner_77 : decode cX7_inner 77 = .ok (.ireturn, 1) := by decide +kernel
theorem dX7_inner_78 : decode cX7_inner 78 = .ok (.iload_n 3, 1) := by decide +kernel
theorem dX7_inner_79 : decode cX7_inner 79 = .ok (.ifCond .lt 22, 3) := by decide +kernel
theorem dX7_inner_82 : decode cX7_inner 82 = .ok (.iload_n 3, 1) := by decide +kernel
theorem dX7_inner_83 : decode cX7_inner 83 = .ok (.bipush 23, 2) := by decide +kernel
theorem dX7_inner_85 : decode cX7_inner 85 = .ok (.if_icmp .ge 16, 3) := by decide +kernel
theorem dX7_inner_88 : decode cX7_inner 88 = .ok (.aload_n 0, 1) := by decide +kernel
theorem dX7_inner_89 : decode cX7_inner 89 = .ok (.getfield 69, 3) := by decide +kernel
theorem dX7_inner_92 : decode cX7_inner 92 = .ok (.bipush 46, 2) := by decide +kernel
theorem dX7_inner_94 : decode cX7_inner 94 = .ok (.iload 4, 2) := by decide +kernel
theorem dX7_inner_96 : decode cX7_inner 96 = .ok (.imul, 1) := by decide +kernel
theorem dX7_inner_97 : decode cX7_inner 97 = .ok (.iload_n 3, 1) := by decide +kernel
theorem dX7_inner_98 : decode cX7_inner 98 = .ok (.iadd, 1) := by decide +kernel
theorem dX7_inner_99 : decode cX7_inner 99 = .ok (.iaload, 1) := by decide +kernel
theorem dX7_inner_100 : decode cX7_inner 100 = .ok (.ireturn, 1) := by decide +kernel
theorem dX7_inner_101 : decode cX7_inner 101 = .ok (.iload_n 3, 1) := by decide +kernel
theorem dX7_inner_102 : decode cX7_inner 102 = .ok (.bipush 30, 2) := by decide +kernel
theorem dX7_inner_104 : decode cX7_inner 104 = .ok (.if_icmp .lt 25, 3) := by decide +kernel
theorem dX7_inner_107 : decode cX7_inner 107 = .ok (.iload_n 3, 1) := by decide +kernel
theorem dX7_inner_108 : decode cX7_inner 108 = .ok (.bipush 53, 2) := by decide +kernel
theorem dX7_inner_110 : decode cX7_inner 110 = .ok (.if_icmp .ge 19, 3) := by decide +kernel
theorem dX7_inner_113 : decode cX7_inner 113 = .ok (.aload_n 0, 1) := by decide +kernel
theorem dX7_inner_114 : decode cX7_inner 114 = .ok (.getfield 69, 3) := by decide +kernel
theorem dX7_inner_117 : decode cX7_inner 117 = .ok (.bipush 46, 2) := by decide +kernel
theorem dX7_inner_119 : decode cX7_inner 119 = .ok (.iload 4, 2) := by decide +kernel
theorem dX7_inner_121 : decode cX7_inner 121 = .ok (.imul, 1) := by decide +kernel
theorem dX7_inner_122 : decode cX7_inner 122 = .ok (.iload_n 3, 1) := by decide +kernel
theorem dX7_inner_123 : decode cX7_inner 123 = .ok (.iadd, 1) := by decide +kernel
theorem dX7_inner_124 : decode cX7_inner 124 = .ok (.bipush 7, 2) := by decide +kernel
theorem dX7_inner_126 : decode cX7_inner 126 = .ok (.isub, 1) := by decide +kernel
theorem dX7_inner_127 : decode cX7_inner 127 = .ok (.iaload, 1) := by decide +kernel
theorem dX7_inner_128 : decode cX7_inner 128 = .ok (.ireturn, 1) := by decide +kernel
theorem dX7_inner_129 : decode cX7_inner 129 = .ok (.iload_n 3, 1) := by decide +kernel
theorem dX7_inner_130 : decode cX7_inner 130 = .ok (.bipush 60, 2) := by decide +kernel
theorem dX7_inner_132 : decode cX7_inner 132 = .ok (.if_icmp .lt 27, 3) := by decide +kernel
theorem dX7_inner_135 : decode cX7_inner 135 = .ok (.iload_n 3, 1) := by decide +kernel
theorem dX7_inner_136 : decode cX7_inner 136 = .ok (.bipush 84, 2) := by decide +kernel
theorem dX7_inner_138 : decode cX7_inner 138 = .ok (.if_icmp .ge 21, 3) := by decide +kernel
theorem dX7_inner_141 : decode cX7_inner 141 = .ok (.aload_n 0, 1) := by decide +kernel
theorem dX7_inner_142 : decode cX7_inner 142 = .ok (.getfield 72, 3) := by decide +kernel
theorem dX7_inner_145 : decode cX7_inner 145 = .ok (.bipush 24, 2) := by decide +kernel
theorem dX7_inner_147 : decode cX7_inner 147 = .ok (.iload 4, 2) := by decide +kernel
theorem dX7_inner_149 : decode cX7_inner 149 = .ok (.imul, 1) := by decide +kernel
theorem dX7_inner_150 : decode cX7_inner 150 = .ok (.iload_n 3, 1) := by decide +kernel
theorem dX7_inner_151 : decode cX7_inner 151 = .ok (.iadd, 1) := by decide +kernel
theorem dX7_inner_152 : decode cX7_inner 152 = .ok (.bipush 60, 2) := by decide +kernel
theorem dX7_inner_154 : decode cX7_inner 154 = .ok (.isub, 1) := by decide +kernel
theorem dX7_inner_155 : decode cX7_inner 155 = .ok (.iaload, 1) := by decide +kernel
theorem dX7_inner_156 : decode cX7_inner 156 = .ok (.goto 5, 3) := by decide +kernel
theorem dX7_inner_159 : decode cX7_inner 159 = .ok (.ldc 9, 2) := by decide +kernel
theorem dX7_inner_161 : decode cX7_inner 161 = .ok (.ireturn, 1) := by decide +kernel
theorem dX7_puts_0 : decode cX7_puts 0 = .ok (.bipush 24, 2) := by decide +kernel
theorem dX7_puts_2 : decode cX7_puts 2 = .ok (.istore_n 2, 1) := by decide +kernel
theorem dX7_puts_3 : decode cX7_puts 3 = .ok (.iload_n 2, 1) := by decide +kernel
theorem dX7_puts_4 : decode cX7_puts 4 = .ok (.ifCond .lt 35, 3) := by decide +kernel
theorem dX7_puts_7 : decode cX7_puts 7 = .ok (.aload_n 0, 1) := by decide +kernel
theorem dX7_puts_8 : decode cX7_puts 8 = .ok (.getfield 102, 3) := by decide +kernel
theorem dX7_puts_11 : decode cX7_puts 11 = .ok (.aload_n 0, 1) := by decide +kernel
theorem dX7_puts_12 : decode cX7_puts 12 = .ok (.getfield 254, 3) := by decide +kernel
theorem dX7_puts_15 : decode cX7_puts 15 = .ok (.iload_n 1, 1) := by decide +kernel
theorem dX7_puts_16 : decode cX7_puts 16 = .ok (.iload_n 2, 1) := by decide +kernel
theorem dX7_puts_17 : decode cX7_puts 17 = .ok (.ishr, 1) := by decide +kernel
theorem dX7_puts_18 : decode cX7_puts 18 = .ok (.sipush 255, 3) := by decide +kernel
theorem dX7_puts_21 : decode cX7_puts 21 = .ok (.iand, 1) := by decide +kernel
theorem dX7_puts_22 : decode cX7_puts 22 = .ok (.iastore, 1) := by decide +kernel
theorem dX7_puts_23 : decode cX7_puts 23 = .ok (.aload_n 0, 1) := by decide +kernel
theorem dX7_puts_24 : decode cX7_puts 24 = .ok (.aload_n 0, 1) := by decide +kernel
theorem dX7_puts_25 : decode cX7_puts 25 = .ok (.getfield 254, 3) := by decide +kernel
theorem dX7_puts_28 : decode cX7_puts 28 = .ok (.iconst 1, 1) := by decide +kernel
theorem dX7_puts_29 : decode cX7_puts 29 = .ok (.iadd, 1) := by decide +kernel
theorem dX7_puts_30 : decode cX7_puts 30 = .ok (.putfield 254, 3) := by decide +kernel
theorem dX7_puts_33 : decode cX7_puts 33 = .ok (.iinc 2 (-8), 3) := by decide +kernel
theorem dX7_puts_36 : decode cX7_puts 36 = .ok (.goto (-33), 3) := by decide +kernel
theorem dX7_puts_39 : decode cX7_puts 39 = .ok (.return_, 1) := by decide +kernel
theorem dX7_feed_0 : decode cX7_feed 0 = .ok (.aload_n 0, 1) := by decide +kernel
theorem dX7_feed_1 : decode cX7_feed 1 = .ok (.iconst 0, 1) := by decide +kernel
theorem dX7_feed_2 : decode cX7_feed 2 = .ok (.putfield 114, 3) := by decide +kernel
theorem dX7_feed_5 : decode cX7_feed 5 = .ok (.aload_n 0, 1) := by decide +kernel
theorem dX7_feed_6 : decode cX7_feed 6 = .ok (.getfield 254, 3) := by decide +kernel
theorem dX7_feed_9 : decode cX7_feed 9 = .ok (.bipush 20, 2) := by decide +kernel
theorem dX7_feed_11 : decode cX7_feed 11 = .ok (.iadd, 1) := by decide +kernel
theorem dX7_feed_12 : decode cX7_feed 12 = .ok (.sipush 1000, 3) := by decide +kernel
theorem dX7_feed_15 : decode cX7_feed 15 = .ok (.if_icmp .le 6, 3) := by decide +kernel
theorem dX7_feed_18 : decode cX7_feed 18 = .ok (.ldc 9, 2) := by decide +kernel
theorem dX7_feed_20 : decode cX7_feed 20 = .ok (.ireturn, 1) := by decide +kernel
theorem dX7_feed_21 : decode cX7_feed 21 = .ok (.aload_n 0, 1) := by decide +kernel
theorem dX7_feed_22 : decode cX7_feed 22 = .ok (.iload_n 1, 1) := by decide +kernel
theorem dX7_feed_23 : decode cX7_feed 23 = .ok (.invokevirtual 257, 3) := by decide +kernel
theorem dX7_feed_26 : decode cX7_feed 26 = .ok (.aload_n 0, 1) := by decide +kernel
theorem dX7_feed_27 : decode cX7_feed 27 = .ok (.iload_n 2, 1) := by decide +kernel
theorem dX7_feed_28 : decode cX7_feed 28 = .ok (.invokevirtual 257, 3) := by decide +kernel
theorem dX7_feed_31 : decode cX7_feed 31 = .ok (.aload_n 0, 1) := by decide +kernel
theorem dX7_feed_32 : decode cX7_feed 32 = .ok (.iload_n 3, 1) := by decide +kernel
theorem dX7_feed_33 : decode cX7_feed 33 = .ok (.invokevirtual 257, 3) := by decide +kernel
theorem dX7_feed_36 : decode cX7_feed 36 = .ok (.aload_n 0, 1) := by decide +kernel
theorem dX7_feed_37 : decode cX7_feed 37 = .ok (.iload 4, 2) := by decide +kernel
theorem dX7_feed_39 : decode cX7_feed 39 = .ok (.invokevirtual 257, 3) := by decide +kernel
theorem dX7_feed_42 : decode cX7_feed 42 = .ok (.aload_n 0, 1) := by decide +kernel
theorem dX7_feed_43 : decode cX7_feed 43 = .ok (.iload 5, 2) := by decide +kernel
theorem dX7_feed_45 : decode cX7_feed 45 = .ok (.invokevirtual 257, 3) := by decide +kernel
theorem dX7_feed_48 : decode cX7_feed 48 = .ok (.aload_n 0, 1) := by decide +kernel
theorem dX7_feed_49 : decode cX7_feed 49 = .ok (.getfield 254, 3) := by decide +kernel
theorem dX7_feed_52 : decode cX7_feed 52 = .ok (.ireturn, 1) := by decide +kernel
theorem dX7_end_0 : decode cX7_end 0 = .ok (.aload_n 0, 1) := by decide +kernel
theorem dX7_end_1 : decode cX7_end 1 = .ok (.iconst 0, 1) := by decide +kernel
theorem dX7_end_2 : decode cX7_end 2 = .ok (.putfield 114, 3) := by decide +kernel
theorem dX7_end_5 : decode cX7_end 5 = .ok (.iload_n 1, 1) := by decide +kernel
theorem dX7_end_6 : decode cX7_end 6 = .ok (.ifCond .lt 11, 3) := by decide +kernel
theorem dX7_end_9 : decode cX7_end 9 = .ok (.iload_n 1, 1) := by decide +kernel
theorem dX7_end_10 : decode cX7_end 10 = .ok (.aload_n 0, 1) := by decide +kernel
theorem dX7_end_11 : decode cX7_end 11 = .ok (.getfield 254, 3) := by decide +kernel
theorem dX7_end_14 : decode cX7_end 14 = .ok (.if_icmp .le 6, 3) := by decide +kernel
theorem dX7_end_17 : decode cX7_end 17 = .ok (.ldc 9, 2) := by decide +kernel
theorem dX7_end_19 : decode cX7_end 19 = .ok (.ireturn, 1) := by decide +kernel
theorem dX7_end_20 : decode cX7_end 20 = .ok (.aload_n 0, 1) := by decide +kernel
theorem dX7_end_21 : decode cX7_end 21 = .ok (.iload_n 1, 1) := by decide +kernel
theorem dX7_end_22 : decode cX7_end 22 = .ok (.putfield 254, 3) := by decide +kernel
theorem dX7_end_25 : decode cX7_end 25 = .ok (.iload_n 1, 1) := by decide +kernel
theorem dX7_end_26 : decode cX7_end 26 = .ok (.ireturn, 1) := by decide +kernel
theorem dX7_take_0 : decode cX7_take 0 = .ok (.aload_n 0, 1) := by decide +kernel
theorem dX7_take_1 : decode cX7_take 1 = .ok (.iconst 0, 1) := by decide +kernel
theorem dX7_take_2 : decode cX7_take 2 = .ok (.putfield 114, 3) := by decide +kernel
theorem dX7_take_5 : decode cX7_take 5 = .ok (.aload_n 0, 1) := by decide +kernel
theorem dX7_take_6 : decode cX7_take 6 = .ok (.aload_n 0, 1) := by decide +kernel
theorem dX7_take_7 : decode cX7_take 7 = .ok (.getfield 260, 3) := by decide +kernel
theorem dX7_take_10 : decode cX7_take 10 = .ok (.sipush 1000, 3) := by decide +kernel
theorem dX7_take_13 : decode cX7_take 13 = .ok (.if_icmp .ge 10, 3) := by decide +kernel
theorem dX7_take_16 : decode cX7_take 16 = .ok (.aload_n 0, 1) := by decide +kernel
theorem dX7_take_17 : decode cX7_take 17 = .ok (.getfield 260, 3) := by decide +kernel
theorem dX7_take_20 : decode cX7_take 20 = .ok (.goto 6, 3) := by decide +kernel
theorem dX7_take_23 : decode cX7_take 23 = .ok (.sipush 1000, 3) := by decide +kernel
theorem dX7_take_26 : decode cX7_take 26 = .ok (.putfield 254, 3) := by decide +kernel
theorem dX7_take_29 : decode cX7_take 29 = .ok (.iconst 0, 1) := by decide +kernel
theorem dX7_take_30 : decode cX7_take 30 = .ok (.istore_n 1, 1) := by decide +kernel
theorem dX7_take_31 : decode cX7_take 31 = .ok (.iload_n 1, 1) := by decide +kernel
theorem dX7_take_32 : decode cX7_take 32 = .ok (.aload_n 0, 1) := by decide +kernel
theorem dX7_take_33 : decode cX7_take 33 = .ok (.getfield 254, 3) := by decide +kernel
theorem dX7_take_36 : decode cX7_take 36 = .ok (.if_icmp .ge 21, 3) := by decide +kernel
theorem dX7_take_39 : decode cX7_take 39 = .ok (.aload_n 0, 1) := by decide +kernel
theorem dX7_take_40 : decode cX7_take 40 = .ok (.getfield 102, 3) := by decide +kernel
theorem dX7_take_43 : decode cX7_take 43 = .ok (.iload_n 1, 1) := by decide +kernel
theorem dX7_take_44 : decode cX7_take 44 = .ok (.aload_n 0, 1) := by decide +kernel
theorem dX7_take_45 : decode cX7_take 45 = .ok (.getfield 105, 3) := by decide +kernel
theorem dX7_take_48 : decode cX7_take 48 = .ok (.iload_n 1, 1) := by decide +kernel
theorem dX7_take_49 : decode cX7_take 49 = .ok (.iaload, 1) := by decide +kernel
theorem dX7_take_50 : decode cX7_take 50 = .ok (.iastore, 1) := by decide +kernel
theorem dX7_take_51 : decode cX7_take 51 = .ok (.iinc 1 1, 3) := by decide +kernel
theorem dX7_take_54 : decode cX7_take 54 = .ok (.goto (-23), 3) := by decide +kernel
theorem dX7_take_57 : decode cX7_take 57 = .ok (.aload_n 0, 1) := by decide +kernel
theorem dX7_take_58 : decode cX7_take 58 = .ok (.getfield 254, 3) := by decide +kernel
theorem dX7_take_61 : decode cX7_take 61 = .ok (.ireturn, 1) := by decide +kernel
theorem dX7_out_0 : decode cX7_out 0 = .ok (.aload_n 0, 1) := by decide +kernel
theorem dX7_out_1 : decode cX7_out 1 = .ok (.iconst 0, 1) := by decide +kernel
theorem dX7_out_2 : decode cX7_out 2 = .ok (.putfield 114, 3) := by decide +kernel
theorem dX7_out_5 : decode cX7_out 5 = .ok (.iload_n 1, 1) := by decide +kernel
theorem dX7_out_6 : decode cX7_out 6 = .ok (.ifCond .lt 20, 3) := by decide +kernel
theorem dX7_out_9 : decode cX7_out 9 = .ok (.iload_n 1, 1) := by decide +kernel
theorem dX7_out_10 : decode cX7_out 10 = .ok (.aload_n 0, 1) := by decide +kernel
theorem dX7_out_11 : decode cX7_out 11 = .ok (.getfield 260, 3) := by decide +kernel
theorem dX7_out_14 : decode cX7_out 14 = .ok (.if_icmp .ge 12, 3) := by decide +kernel
theorem dX7_out_17 : decode cX7_out 17 = .ok (.aload_n 0, 1) := by decide +kernel
theorem dX7_out_18 : decode cX7_out 18 = .ok (.getfield 105, 3) := by decide +kernel
theorem dX7_out_21 : decode cX7_out 21 = .ok (.iload_n 1, 1) := by decide +kernel
theorem dX7_out_22 : decode cX7_out 22 = .ok (.iaload, 1) := by decide +kernel
theorem dX7_out_23 : decode cX7_out 23 = .ok (.goto 5, 3) := by decide +kernel
theorem dX7_out_26 : decode cX7_out 26 = .ok (.ldc 9, 2) := by decide +kernel
theorem dX7_out_28 : decode cX7_out 28 = .ok (.ireturn, 1) := by decide +kernel
theorem dX7_sampleAt_0 : decode cX7_sampleAt 0 = .ok (.aload_n 0, 1) := by decide +kernel
theorem dX7_sampleAt_1 : decode cX7_sampleAt 1 = .ok (.aload_n 0, 1) := by decide +kernel
theorem dX7_sampleAt_2 : decode cX7_sampleAt 2 = .ok (.getfield 102, 3) := by decide +kernel
theorem dX7_sampleAt_5 : decode cX7_sampleAt 5 = .ok (.iload_n 1, 1) := by decide +kernel
theorem dX7_sampleAt_6 : decode cX7_sampleAt 6 = .ok (.iaload, 1) := by decide +kernel
theorem dX7_sampleAt_7 : decode cX7_sampleAt 7 = .ok (.bipush 8, 2) := by decide +kernel
theorem dX7_sampleAt_9 : decode cX7_sampleAt 9 = .ok (.ishl, 1) := by decide +kernel
theorem dX7_sampleAt_10 : decode cX7_sampleAt 10 = .ok (.aload_n 0, 1) := by decide +kernel
theorem dX7_sampleAt_11 : decode cX7_sampleAt 11 = .ok (.getfield 102, 3) := by decide +kernel
theorem dX7_sampleAt_14 : decode cX7_sampleAt 14 = .ok (.iload_n 1, 1) := by decide +kernel
theorem dX7_sampleAt_15 : decode cX7_sampleAt 15 = .ok (.iconst 1, 1) := by decide +kernel
theorem dX7_sampleAt_16 : decode cX7_sampleAt 16 = .ok (.iadd, 1) := by decide +kernel
theorem dX7_sampleAt_17 : decode cX7_sampleAt 17 = .ok (.iaload, 1) := by decide +kernel
theorem dX7_sampleAt_18 : decode cX7_sampleAt 18 = .ok (.ior, 1) := by decide +kernel
theorem dX7_sampleAt_19 : decode cX7_sampleAt 19 = .ok (.invokevirtual 140, 3) := by decide +kernel
theorem dX7_sampleAt_22 : decode cX7_sampleAt 22 = .ok (.ireturn, 1) := by decide +kernel
theorem dX7_bit_0 : decode cX7_bit 0 = .ok (.aload_n 0, 1) := by decide +kernel
theorem dX7_bit_1 : decode cX7_bit 1 = .ok (.getfield 105, 3) := by decide +kernel
theorem dX7_bit_4 : decode cX7_bit 4 = .ok (.iload_n 1, 1) := by decide +kernel
theorem dX7_bit_5 : decode cX7_bit 5 = .ok (.bipush 8, 2) := by decide +kernel
theorem dX7_bit_7 : decode cX7_bit 7 = .ok (.idiv, 1) := by decide +kernel
theorem dX7_bit_8 : decode cX7_bit 8 = .ok (.aload_n 0, 1) := by decide +kernel
theorem dX7_bit_9 : decode cX7_bit 9 = .ok (.getfield 105, 3) := by decide +kernel
theorem dX7_bit_12 : decode cX7_bit 12 = .ok (.iload_n 1, 1) := by decide +kernel
theorem dX7_bit_13 : decode cX7_bit 13 = .ok (.bipush 8, 2) := by decide +kernel
theorem dX7_bit_15 : decode cX7_bit 15 = .ok (.idiv, 1) := by decide +kernel
theorem dX7_bit_16 : decode cX7_bit 16 = .ok (.iaload, 1) := by decide +kernel
theorem dX7_bit_17 : decode cX7_bit 17 = .ok (.iload_n 2, 1) := by decide +kernel
theorem dX7_bit_18 : decode cX7_bit 18 = .ok (.iload_n 3, 1) := by decide +kernel
theorem dX7_bit_19 : decode cX7_bit 19 = .ok (.ifCond .eq 13, 3) := by decide +kernel
theorem dX7_bit_22 : decode cX7_bit 22 = .ok (.bipush 7, 2) := by decide +kernel
theorem dX7_bit_24 : decode cX7_bit 24 = .ok (.iload_n 1, 1) := by decide +kernel
theorem dX7_bit_25 : decode cX7_bit 25 = .ok (.bipush 8, 2) := by decide +kernel
theorem dX7_bit_27 : decode cX7_bit 27 = .ok (.irem, 1) := by decide +kernel
theorem dX7_bit_28 : decode cX7_bit 28 = .ok (.isub, 1) := by decide +kernel
theorem dX7_bit_29 : decode cX7_bit 29 = .ok (.goto 7, 3) := by decide +kernel
theorem dX7_bit_32 : decode cX7_bit 32 = .ok (.iload_n 1, 1) := by decide +kernel
theorem dX7_bit_33 : decode cX7_bit 33 = .ok (.bipush 8, 2) := by decide +kernel
theorem dX7_bit_35 : decode cX7_bit 35 = .ok (.irem, 1) := by decide +kernel
theorem dX7_bit_36 : decode cX7_bit 36 = .ok (.ishl, 1) := by decide +kernel
theorem dX7_bit_37 : decode cX7_bit 37 = .ok (.ior, 1) := by decide +kernel
theorem dX7_bit_38 : decode cX7_bit 38 = .ok (.iastore, 1) := by decide +kernel
theorem dX7_bit_39 : decode cX7_bit 39 = .ok (.return_, 1) := by decide +kernel
theorem dX7_pack_0 : decode cX7_pack 0 = .ok (.aload_n 0, 1) := by decide +kernel
theorem dX7_pack_1 : decode cX7_pack 1 = .ok (.iconst 0, 1) := by decide +kernel
theorem dX7_pack_2 : decode cX7_pack 2 = .ok (.putfield 114, 3) := by decide +kernel
theorem dX7_pack_5 : decode cX7_pack 5 = .ok (.aload_n 0, 1) := by decide +kernel
theorem dX7_pack_6 : decode cX7_pack 6 = .ok (.iload_n 1, 1) := by decide +kernel
theorem dX7_pack_7 : decode cX7_pack 7 = .ok (.invokevirtual 229, 3) := by decide +kernel
theorem dX7_pack_10 : decode cX7_pack 10 = .ok (.ifCond .ne 6, 3) := by decide +kernel
theorem dX7_pack_13 : decode cX7_pack 13 = .ok (.ldc 9, 2) := by decide +kernel
theorem dX7_pack_15 : decode cX7_pack 15 = .ok (.ireturn, 1) := by decide +kernel
theorem dX7_pack_16 : decode cX7_pack 16 = .ok (.aload_n 0, 1) := by decide +kernel
theorem dX7_pack_17 : decode cX7_pack 17 = .ok (.iload_n 1, 1) := by decide +kernel
theorem dX7_pack_18 : decode cX7_pack 18 = .ok (.invokevirtual 232, 3) := by decide +kernel
theorem dX7_pack_21 : decode cX7_pack 21 = .ok (.ifCond .eq 7, 3) := by decide +kernel
theorem dX7_pack_24 : decode cX7_pack 24 = .ok (.iconst 4, 1) := by decide +kernel
theorem dX7_pack_25 : decode cX7_pack 25 = .ok (.goto 4, 3) := by decide +kernel
theorem dX7_pack_28 : decode cX7_pack 28 = .ok (.iconst 2, 1) := by decide +kernel
theorem dX7_pack_29 : decode cX7_pack 29 = .ok (.istore_n 3, 1) := by decide +kernel
theorem dX7_pack_30 : decode cX7_pack 30 = .ok (.aload_n 0, 1) := by decide +kernel
theorem dX7_pack_31 : decode cX7_pack 31 = .ok (.getfield 254, 3) := by decide +kernel
theorem dX7_pack_34 : decode cX7_pack 34 = .ok (.iload_n 3, 1) := by decide +kernel
theorem dX7_pack_35 : decode cX7_pack 35 = .ok (.irem, 1) := by decide +kernel
theorem dX7_pack_36 : decode cX7_pack 36 = .ok (.ifCond .eq 6, 3) := by decide +kernel
theorem dX7_pack_39 : decode cX7_pack 39 = .ok (.ldc 9, 2) := by decide +kernel
theorem dX7_pack_41 : decode cX7_pack 41 = .ok (.ireturn, 1) := by decide +kernel
theorem dX7_pack_42 : decode cX7_pack 42 = .ok (.aload_n 0, 1) := by decide +kernel
theorem dX7_pack_43 : decode cX7_pack 43 = .ok (.getfield 254, 3) := by decide +kernel
theorem dX7_pack_46 : decode cX7_pack 46 = .ok (.iload_n 3, 1) := by decide +kernel
theorem dX7_pack_47 : decode cX7_pack 47 = .ok (.idiv, 1) := by decide +kernel
theorem dX7_pack_48 : decode cX7_pack 48 = .ok (.istore 4, 2) := by decide +kernel
theorem dX7_pack_50 : decode cX7_pack 50 = .ok (.aload_n 0, 1) := by decide +kernel
theorem dX7_pack_51 : decode cX7_pack 51 = .ok (.iload_n 1, 1) := by decide +kernel
theorem dX7_pack_52 : decode cX7_pack 52 = .ok (.invokevirtual 244, 3) := by decide +kernel
theorem dX7_pack_55 : decode cX7_pack 55 = .ok (.istore 5, 2) := by decide +kernel
theorem dX7_pack_57 : decode cX7_pack 57 = .ok (.aload_n 0, 1) := by decide +kernel
theorem dX7_pack_58 : decode cX7_pack 58 = .ok (.iload 4, 2) := by decide +kernel
theorem dX7_pack_60 : decode cX7_pack 60 = .ok (.iload 5, 2) := by decide +kernel
theorem dX7_pack_62 : decode cX7_pack 62 = .ok (.imul, 1) := by decide +kernel
theorem dX7_pack_63 : decode cX7_pack 63 = .ok (.bipush 7, 2) := by decide +kernel
theorem dX7_pack_65 : decode cX7_pack 65 = .ok (.iadd, 1) := by decide +kernel
theorem dX7_pack_66 : decode cX7_pack 66 = .ok (.bipush 8, 2) := by decide +kernel
theorem dX7_pack_68 : decode cX7_pack 68 = .ok (.idiv, 1) := by decide +kernel
theorem dX7_pack_69 : decode cX7_pack 69 = .ok (.putfield 260, 3) := by decide +kernel
theorem dX7_pack_72 : decode cX7_pack 72 = .ok (.iconst 0, 1) := by decide +kernel
theorem dX7_pack_73 : decode cX7_pack 73 = .ok (.istore 6, 2) := by decide +kernel
theorem dX7_pack_75 : decode cX7_pack 75 = .ok (.iload 6, 2) := by decide +kernel
theorem dX7_pack_77 : decode cX7_pack 77 = .ok (.aload_n 0, 1) := by decide +kernel
theorem dX7_pack_78 : decode cX7_pack 78 = .ok (.getfield 260, 3) := by decide +kernel
theorem dX7_pack_81 : decode cX7_pack 81 = .ok (.if_icmp .ge 17, 3) := by decide +kernel
theorem dX7_pack_84 : decode cX7_pack 84 = .ok (.aload_n 0, 1) := by decide +kernel
theorem dX7_pack_85 : decode cX7_pack 85 = .ok (.getfield 105, 3) := by decide +kernel
theorem dX7_pack_88 : decode cX7_pack 88 = .ok (.iload 6, 2) := by decide +kernel
theorem dX7_pack_90 : decode cX7_pack 90 = .ok (.iconst 0, 1) := by decide +kernel
theorem dX7_pack_91 : decode cX7_pack 91 = .ok (.iastore, 1) := by decide +kernel
theorem dX7_pack_92 : decode cX7_pack 92 = .ok (.iinc 6 1, 3) := by decide +kernel
theorem dX7_pack_95 : decode cX7_pack 95 = .ok (.goto (-20), 3) := by decide +kernel
theorem dX7_pack_98 : decode cX7_pack 98 = .ok (.iconst 0, 1) := by decide +kernel
theorem dX7_pack_99 : decode cX7_pack 99 = .ok (.istore 6, 2) := by decide +kernel
theorem dX7_pack_101 : decode cX7_pack 101 = .ok (.iload 6, 2) := by decide +kernel
theorem dX7_pack_103 : decode cX7_pack 103 = .ok (.iload 4, 2) := by decide +kernel
theorem dX7_pack_105 : decode cX7_pack 105 = .ok (.if_icmp .ge 110, 3) := by decide +kernel
theorem dX7_pack_108 : decode cX7_pack 108 = .ok (.iload_n 3, 1) := by decide +kernel
theorem dX7_pack_109 : decode cX7_pack 109 = .ok (.iconst 4, 1) := by decide +kernel
theorem dX7_pack_110 : decode cX7_pack 110 = .ok (.if_icmp .ne 31, 3) := by decide +kernel
theorem dX7_pack_113 : decode cX7_pack 113 = .ok (.aload_n 0, 1) := by decide +kernel
theorem dX7_pack_114 : decode cX7_pack 114 = .ok (.iconst 2, 1) := by decide +kernel
theorem dX7_pack_115 : decode cX7_pack 115 = .ok (.iload_n 1, 1) := by decide +kernel
theorem dX7_pack_116 : decode cX7_pack 116 = .ok (.imul, 1) := by decide +kernel
theorem dX7_pack_117 : decode cX7_pack 117 = .ok (.aload_n 0, 1) := by decide +kernel
theorem dX7_pack_118 : decode cX7_pack 118 = .ok (.iconst 4, 1) := by decide +kernel
theorem dX7_pack_119 : decode cX7_pack 119 = .ok (.iload 6, 2) := by decide +kernel
theorem dX7_pack_121 : decode cX7_pack 121 = .ok (.imul, 1) := by decide +kernel
theorem dX7_pack_122 : decode cX7_pack 122 = .ok (.invokevirtual 263, 3) := by decide +kernel
theorem dX7_pack_125 : decode cX7_pack 125 = .ok (.aload_n 0, 1) := by decide +kernel
theorem dX7_pack_126 : decode cX7_pack 126 = .ok (.iconst 4, 1) := by decide +kernel
theorem dX7_pack_127 : decode cX7_pack 127 = .ok (.iload 6, 2) := by decide +kernel
theorem dX7_pack_129 : decode cX7_pack 129 = .ok (.imul, 1) := by decide +kernel
theorem dX7_pack_130 : decode cX7_pack 130 = .ok (.iconst 2, 1) := by decide +kernel
theorem dX7_pack_131 : decode cX7_pack 131 = .ok (.iadd, 1) := by decide +kernel
theorem dX7_pack_132 : decode cX7_pack 132 = .ok (.invokevirtual 263, 3) := by decide +kernel
theorem dX7_pack_135 : decode cX7_pack 135 = .ok (.invokevirtual 241, 3) := by decide +kernel
theorem dX7_pack_138 : decode cX7_pack 138 = .ok (.goto 16, 3) := by decide +kernel
theorem dX7_pack_141 : decode cX7_pack 141 = .ok (.aload_n 0, 1) := by decide +kernel
theorem dX7_pack_142 : decode cX7_pack 142 = .ok (.iload_n 1, 1) := by decide +kernel
theorem dX7_pack_143 : decode cX7_pack 143 = .ok (.aload_n 0, 1) := by decide +kernel
theorem dX7_pack_144 : decode cX7_pack 144 = .ok (.iconst 2, 1) := by decide +kernel
theorem dX7_pack_145 : decode cX7_pack 145 = .ok (.iload 6, 2) := by decide +kernel
theorem dX7_pack_147 : decode cX7_pack 147 = .ok (.imul, 1) := by decide +kernel
theorem dX7_pack_148 : decode cX7_pack 148 = .ok (.invokevirtual 263, 3) := by decide +kernel
theorem dX7_pack_151 : decode cX7_pack 151 = .ok (.invokevirtual 238, 3) := by decide +kernel
theorem dX7_pack_154 : decode cX7_pack 154 = .ok (.istore 7, 2) := by decide +kernel
theorem dX7_pack_156 : decode cX7_pack 156 = .ok (.iconst 0, 1) := by decide +kernel
theorem dX7_pack_157 : decode cX7_pack 157 = .ok (.istore 8, 2) := by decide +kernel
theorem dX7_pack_159 : decode cX7_pack 159 = .ok (.iload 8, 2) := by decide +kernel
theorem dX7_pack_161 : decode cX7_pack 161 = .ok (.iload 5, 2) := by decide +kernel
theorem dX7_pack_163 : decode cX7_pack 163 = .ok (.if_icmp .ge 46, 3) := by decide +kernel
theorem dX7_pack_166 : decode cX7_pack 166 = .ok (.aload_n 0, 1) := by decide +kernel
theorem dX7_pack_167 : decode cX7_pack 167 = .ok (.iload 5, 2) := by decide +kernel
theorem dX7_pack_169 : decode cX7_pack 169 = .ok (.iload 6, 2) := by decide +kernel
theorem dX7_pack_171 : decode cX7_pack 171 = .ok (.imul, 1) := by decide +kernel
theorem dX7_pack_172 : decode cX7_pack 172 = .ok (.iload 8, 2) := by decide +kernel
theorem dX7_pack_174 : decode cX7_pack 174 = .ok (.iadd, 1) := by decide +kernel
theorem dX7_pack_175 : decode cX7_pack 175 = .ok (.iload_n 2, 1) := by decide +kernel
theorem dX7_pack_176 : decode cX7_pack 176 = .ok (.ifCond .eq 16, 3) := by decide +kernel
theorem dX7_pack_179 : decode cX7_pack 179 = .ok (.iload 7, 2) := by decide +kernel
theorem dX7_pack_181 : decode cX7_pack 181 = .ok (.iload 5, 2) := by decide +kernel
theorem dX7_pack_183 : decode cX7_pack 183 = .ok (.iconst 1, 1) := by decide +kernel
theorem dX7_pack_184 : decode cX7_pack 184 = .ok (.isub, 1) := by decide +kernel
theorem dX7_pack_185 : decode cX7_pack 185 = .ok (.iload 8, 2) := by decide +kernel
theorem dX7_pack_187 : decode cX7_pack 187 = .ok (.isub, 1) := by decide +kernel
theorem dX7_pack_188 : decode cX7_pack 188 = .ok (.ishr, 1) := by decide +kernel
theorem dX7_pack_189 : decode cX7_pack 189 = .ok (.goto 8, 3) := by decide +kernel
theorem dX7_pack_192 : decode cX7_pack 192 = .ok (.iload 7, 2) := by decide +kernel
theorem dX7_pack_194 : decode cX7_pack 194 = .ok (.iload 8, 2) := by decide +kernel
theorem dX7_pack_196 : decode cX7_pack 196 = .ok (.ishr, 1) := by decide +kernel
theorem dX7_pack_197 : decode cX7_pack 197 = .ok (.iconst 1, 1) := by decide +kernel
theorem dX7_pack_198 : decode cX7_pack 198 = .ok (.iand, 1) := by decide +kernel
theorem dX7_pack_199 : decode cX7_pack 199 = .ok (.iload_n 2, 1) := by decide +kernel
theorem dX7_pack_200 : decode cX7_pack 200 = .ok (.invokevirtual 266, 3) := by decide +kernel
theorem dX7_pack_203 : decode cX7_pack 203 = .ok (.iinc 8 1, 3) := by decide +kernel
theorem dX7_pack_206 : decode cX7_pack 206 = .ok (.goto (-47), 3) := by decide +kernel
theorem dX7_pack_209 : decode cX7_pack 209 = .ok (.iinc 6 1, 3) := by decide +kernel
theorem dX7_pack_212 : decode cX7_pack 212 = .ok (.goto (-111), 3) := by decide +kernel
theorem dX7_pack_215 : decode cX7_pack 215 = .ok (.aload_n 0, 1) := by decide +kernel
theorem dX7_pack_216 : decode cX7_pack 216 = .ok (.iconst 0, 1) := by decide +kernel
theorem dX7_pack_217 : decode cX7_pack 217 = .ok (.putfield 254, 3) := by decide +kernel
theorem dX7_pack_220 : decode cX7_pack 220 = .ok (.iload 4, 2) := by decide +kernel
theorem dX7_pack_222 : decode cX7_pack 222 = .ok (.ireturn, 1) := by decide +kernel
theorem dX7_sample_0 : decode cX7_sample 0 = .ok (.aload_n 0, 1) := by decide +kernel
theorem dX7_sample_1 : decode cX7_sample 1 = .ok (.getfield 105, 3) := by decide +kernel
theorem dX7_sample_4 : decode cX7_sample 4 = .ok (.aload_n 0, 1) := by decide +kernel
theorem dX7_sample_5 : decode cX7_sample 5 = .ok (.getfield 260, 3) := by decide +kernel
theorem dX7_sample_8 : decode cX7_sample 8 = .ok (.iload_n 1, 1) := by decide +kernel
theorem dX7_sample_9 : decode cX7_sample 9 = .ok (.bipush 8, 2) := by decide +kernel
theorem dX7_sample_11 : decode cX7_sample 11 = .ok (.ishr, 1) := by decide +kernel
theorem dX7_sample_12 : decode cX7_sample 12 = .ok (.sipush 255, 3) := by decide +kernel
theorem dX7_sample_15 : decode cX7_sample 15 = .ok (.iand, 1) := by decide +kernel
theorem dX7_sample_16 : decode cX7_sample 16 = .ok (.iastore, 1) := by decide +kernel
theorem dX7_sample_17 : decode cX7_sample 17 = .ok (.aload_n 0, 1) := by decide +kernel
theorem dX7_sample_18 : decode cX7_sample 18 = .ok (.getfield 105, 3) := by decide +kernel
theorem dX7_sample_21 : decode cX7_sample 21 = .ok (.aload_n 0, 1) := by decide +kernel
theorem dX7_sample_22 : decode cX7_sample 22 = .ok (.getfield 260, 3) := by decide +kernel
theorem dX7_sample_25 : decode cX7_sample 25 = .ok (.iconst 1, 1) := by decide +kernel
theorem dX7_sample_26 : decode cX7_sample 26 = .ok (.iadd, 1) := by decide +kernel
theorem dX7_sample_27 : decode cX7_sample 27 = .ok (.iload_n 1, 1) := by decide +kernel
theorem dX7_sample_28 : decode cX7_sample 28 = .ok (.sipush 255, 3) := by decide +kernel
theorem dX7_sample_31 : decode cX7_sample 31 = .ok (.iand, 1) := by decide +kernel
theorem dX7_sample_32 : decode cX7_sample 32 = .ok (.iastore, 1) := by decide +kernel
theorem dX7_sample_33 : decode cX7_sample 33 = .ok (.aload_n 0, 1) := by decide +kernel
theorem dX7_sample_34 : decode cX7_sample 34 = .ok (.aload_n 0, 1) := by decide +kernel
theorem dX7_sample_35 : decode cX7_sample 35 = .ok (.getfield 260, 3) := by decide +kernel
theorem dX7_sample_38 : decode cX7_sample 38 = .ok (.iconst 2, 1) := by decide +kernel
theorem dX7_sample_39 : decode cX7_sample 39 = .ok (.iadd, 1) := by decide +kernel
theorem dX7_sample_40 : decode cX7_sample 40 = .ok (.putfield 260, 3) := by decide +kernel
theorem dX7_sample_43 : decode cX7_sample 43 = .ok (.return_, 1) := by decide +kernel
theorem dX7_unpack_0 : decode cX7_unpack 0 = .ok (.aload_n 0, 1) := by decide +kernel
theorem dX7_unpack_1 : decode cX7_unpack 1 = .ok (.iconst 0, 1) := by decide +kernel
theorem dX7_unpack_2 : decode cX7_unpack 2 = .ok (.putfield 114, 3) := by decide +kernel
theorem dX7_unpack_5 : decode cX7_unpack 5 = .ok (.aload_n 0, 1) := by decide +kernel
theorem dX7_unpack_6 : decode cX7_unpack 6 = .ok (.iload_n 1, 1) := by decide +kernel
theorem dX7_unpack_7 : decode cX7_unpack 7 = .ok (.invokevirtual 229, 3) := by decide +kernel
theorem dX7_unpack_10 : decode cX7_unpack 10 = .ok (.ifCond .eq 34, 3) := by decide +kernel
theorem dX7_unpack_13 : decode cX7_unpack 13 = .ok (.iload_n 3, 1) := by decide +kernel
theorem dX7_unpack_14 : decode cX7_unpack 14 = .ok (.ifCond .lt 30, 3) := by decide +kernel
theorem dX7_unpack_17 : decode cX7_unpack 17 = .ok (.iload_n 3, 1) := by decide +kernel
theorem dX7_unpack_18 : decode cX7_unpack 18 = .ok (.sipush 250, 3) := by decide +kernel
theorem dX7_unpack_21 : decode cX7_unpack 21 = .ok (.if_icmp .gt 23, 3) := by decide +kernel
theorem dX7_unpack_24 : decode cX7_unpack 24 = .ok (.aload_n 0, 1) := by decide +kernel
theorem dX7_unpack_25 : decode cX7_unpack 25 = .ok (.getfield 254, 3) := by decide +kernel
theorem dX7_unpack_28 : decode cX7_unpack 28 = .ok (.iload_n 3, 1) := by decide +kernel
theorem dX7_unpack_29 : decode cX7_unpack 29 = .ok (.aload_n 0, 1) := by decide +kernel
theorem dX7_unpack_30 : decode cX7_unpack 30 = .ok (.iload_n 1, 1) := by decide +kernel
theorem dX7_unpack_31 : decode cX7_unpack 31 = .ok (.invokevirtual 244, 3) := by decide +kernel
theorem dX7_unpack_34 : decode cX7_unpack 34 = .ok (.imul, 1) := by decide +kernel
theorem dX7_unpack_35 : decode cX7_unpack 35 = .ok (.bipush 7, 2) := by decide +kernel
theorem dX7_unpack_37 : decode cX7_unpack 37 = .ok (.iadd, 1) := by decide +kernel
theorem dX7_unpack_38 : decode cX7_unpack 38 = .ok (.bipush 8, 2) := by decide +kernel
theorem dX7_unpack_40 : decode cX7_unpack 40 = .ok (.idiv, 1) := by decide +kernel
theorem dX7_unpack_41 : decode cX7_unpack 41 = .ok (.if_icmp .eq 6, 3) := by decide +kernel
theorem dX7_unpack_44 : decode cX7_unpack 44 = .ok (.ldc 9, 2) := by decide +kernel
theorem dX7_unpack_46 : decode cX7_unpack 46 = .ok (.ireturn, 1) := by decide +kernel
theorem dX7_unpack_47 : decode cX7_unpack 47 = .ok (.aload_n 0, 1) := by decide +kernel
theorem dX7_unpack_48 : decode cX7_unpack 48 = .ok (.iload_n 1, 1) := by decide +kernel
theorem dX7_unpack_49 : decode cX7_unpack 49 = .ok (.invokevirtual 244, 3) := by decide +kernel
theorem dX7_unpack_52 : decode cX7_unpack 52 = .ok (.istore 4, 2) := by decide +kernel
theorem dX7_unpack_54 : decode cX7_unpack 54 = .ok (.aload_n 0, 1) := by decide +kernel
theorem dX7_unpack_55 : decode cX7_unpack 55 = .ok (.iconst 0, 1) := by decide +kernel
theorem dX7_unpack_56 : decode cX7_unpack 56 = .ok (.putfield 260, 3) := by decide +kernel
theorem dX7_unpack_59 : decode cX7_unpack 59 = .ok (.iconst 0, 1) := by decide +kernel
theorem dX7_unpack_60 : decode cX7_unpack 60 = .ok (.istore 5, 2) := by decide +kernel
theorem dX7_unpack_62 : decode cX7_unpack 62 = .ok (.iload 5, 2) := by decide +kernel
theorem dX7_unpack_64 : decode cX7_unpack 64 = .ok (.iload_n 3, 1) := by decide +kernel
theorem dX7_unpack_65 : decode cX7_unpack 65 = .ok (.if_icmp .ge 126, 3) := by decide +kernel
theorem dX7_unpack_68 : decode cX7_unpack 68 = .ok (.iconst 0, 1) := by decide +kernel
theorem dX7_unpack_69 : decode cX7_unpack 69 = .ok (.istore 6, 2) := by decide +kernel
theorem dX7_unpack_71 : decode cX7_unpack 71 = .ok (.iconst 0, 1) := by decide +kernel
theorem dX7_unpack_72 : decode cX7_unpack 72 = .ok (.istore 7, 2) := by decide +kernel
theorem dX7_unpack_74 : decode cX7_unpack 74 = .ok (.iload 7, 2) := by decide +kernel
theorem dX7_unpack_76 : decode cX7_unpack 76 = .ok (.iload 4, 2) := by decide +kernel
theorem dX7_unpack_78 : decode cX7_unpack 78 = .ok (.if_icmp .ge 78, 3) := by decide +kernel
theorem dX7_unpack_81 : decode cX7_unpack 81 = .ok (.iload 4, 2) := by decide +kernel
theorem dX7_unpack_83 : decode cX7_unpack 83 = .ok (.iload 5, 2) := by decide +kernel
theorem dX7_unpack_85 : decode cX7_unpack 85 = .ok (.imul, 1) := by decide +kernel
theorem dX7_unpack_86 : decode cX7_unpack 86 = .ok (.iload 7, 2) := by decide +kernel
theorem dX7_unpack_88 : decode cX7_unpack 88 = .ok (.iadd, 1) := by decide +kernel
theorem dX7_unpack_89 : decode cX7_unpack 89 = .ok (.istore 8, 2) := by decide +kernel
theorem dX7_unpack_91 : decode cX7_unpack 91 = .ok (.aload_n 0, 1) := by decide +kernel
theorem dX7_unpack_92 : decode cX7_unpack 92 = .ok (.getfield 102, 3) := by decide +kernel
theorem dX7_unpack_95 : decode cX7_unpack 95 = .ok (.iload 8, 2) := by decide +kernel
theorem dX7_unpack_97 : decode cX7_unpack 97 = .ok (.bipush 8, 2) := by decide +kernel
theorem dX7_unpack_99 : decode cX7_unpack 99 = .ok (.idiv, 1) := by decide +kernel
theorem dX7_unpack_100 : decode cX7_unpack 100 = .ok (.iaload, 1) := by decide +kernel
theorem dX7_unpack_101 : decode cX7_unpack 101 = .ok (.iload_n 2, 1) := by decide +kernel
theorem dX7_unpack_102 : decode cX7_unpack 102 = .ok (.ifCond .eq 14, 3) := by decide +kernel
theorem dX7_unpack_105 : decode cX7_unpack 105 = .ok (.bipush 7, 2) := by decide +kernel
theorem dX7_unpack_107 : decode cX7_unpack 107 = .ok (.iload 8, 2) := by decide +kernel
theorem dX7_unpack_109 : decode cX7_unpack 109 = .ok (.bipush 8, 2) := by decide +kernel
theorem dX7_unpack_111 : decode cX7_unpack 111 = .ok (.irem, 1) := by decide +kernel
theorem dX7_unpack_112 : decode cX7_unpack 112 = .ok (.isub, 1) := by decide +kernel
theorem dX7_unpack_113 : decode cX7_unpack 113 = .ok (.goto 8, 3) := by decide +kernel
theorem dX7_unpack_116 : decode cX7_unpack 116 = .ok (.iload 8, 2) := by decide +kernel
theorem dX7_unpack_118 : decode cX7_unpack 118 = .ok (.bipush 8, 2) := by decide +kernel
theorem dX7_unpack_120 : decode cX7_unpack 120 = .ok (.irem, 1) := by decide +kernel
theorem dX7_unpack_121 : decode cX7_unpack 121 = .ok (.ishr, 1) := by decide +kernel
theorem dX7_unpack_122 : decode cX7_unpack 122 = .ok (.iconst 1, 1) := by decide +kernel
theorem dX7_unpack_123 : decode cX7_unpack 123 = .ok (.iand, 1) := by decide +kernel
theorem dX7_unpack_124 : decode cX7_unpack 124 = .ok (.istore 9, 2) := by decide +kernel
theorem dX7_unpack_126 : decode cX7_unpack 126 = .ok (.iload_n 2, 1) := by decide +kernel
theorem dX7_unpack_127 : decode cX7_unpack 127 = .ok (.ifCond .eq 13, 3) := by decide +kernel
theorem dX7_unpack_130 : decode cX7_unpack 130 = .ok (.iconst 2, 1) := by decide +kernel
theorem dX7_unpack_131 : decode cX7_unpack 131 = .ok (.iload 6, 2) := by decide +kernel
theorem dX7_unpack_133 : decode cX7_unpack 133 = .ok (.imul, 1) := by decide +kernel
theorem dX7_unpack_134 : decode cX7_unpack 134 = .ok (.iload 9, 2) := by decide +kernel
theorem dX7_unpack_136 : decode cX7_unpack 136 = .ok (.iadd, 1) := by decide +kernel
theorem dX7_unpack_137 : decode cX7_unpack 137 = .ok (.goto 11, 3) := by decide +kernel
theorem dX7_unpack_140 : decode cX7_unpack 140 = .ok (.iload 6, 2) := by decide +kernel
theorem dX7_unpack_142 : decode cX7_unpack 142 = .ok (.iload 9, 2) := by decide +kernel
theorem dX7_unpack_144 : decode cX7_unpack 144 = .ok (.iload 7, 2) := by decide +kernel
theorem dX7_unpack_146 : decode cX7_unpack 146 = .ok (.ishl, 1) := by decide +kernel
theorem dX7_unpack_147 : decode cX7_unpack 147 = .ok (.ior, 1) := by decide +kernel
theorem dX7_unpack_148 : decode cX7_unpack 148 = .ok (.istore 6, 2) := by decide +kernel
theorem dX7_unpack_150 : decode cX7_unpack 150 = .ok (.iinc 7 1, 3) := by decide +kernel
theorem dX7_unpack_153 : decode cX7_unpack 153 = .ok (.goto (-79), 3) := by decide +kernel
theorem dX7_unpack_156 : decode cX7_unpack 156 = .ok (.aload_n 0, 1) := by decide +kernel
theorem dX7_unpack_157 : decode cX7_unpack 157 = .ok (.aload_n 0, 1) := by decide +kernel
theorem dX7_unpack_158 : decode cX7_unpack 158 = .ok (.iload_n 1, 1) := by decide +kernel
theorem dX7_unpack_159 : decode cX7_unpack 159 = .ok (.iload 6, 2) := by decide +kernel
theorem dX7_unpack_161 : decode cX7_unpack 161 = .ok (.invokevirtual 251, 3) := by decide +kernel
theorem dX7_unpack_164 : decode cX7_unpack 164 = .ok (.invokevirtual 270, 3) := by decide +kernel
theorem dX7_unpack_167 : decode cX7_unpack 167 = .ok (.aload_n 0, 1) := by decide +kernel
theorem dX7_unpack_168 : decode cX7_unpack 168 = .ok (.iload_n 1, 1) := by decide +kernel
theorem dX7_unpack_169 : decode cX7_unpack 169 = .ok (.invokevirtual 232, 3) := by decide +kernel
theorem dX7_unpack_172 : decode cX7_unpack 172 = .ok (.ifCond .eq 13, 3) := by decide +kernel
theorem dX7_unpack_175 : decode cX7_unpack 175 = .ok (.aload_n 0, 1) := by decide +kernel
theorem dX7_unpack_176 : decode cX7_unpack 176 = .ok (.aload_n 0, 1) := by decide +kernel
theorem dX7_unpack_177 : decode cX7_unpack 177 = .ok (.getfield 14, 3) := by decide +kernel
theorem dX7_unpack_180 : decode cX7_unpack 180 = .ok (.iload_n 1, 1) := by decide +kernel
theorem dX7_unpack_181 : decode cX7_unpack 181 = .ok (.iaload, 1) := by decide +kernel
theorem dX7_unpack_182 : decode cX7_unpack 182 = .ok (.invokevirtual 270, 3) := by decide +kernel
theorem dX7_unpack_185 : decode cX7_unpack 185 = .ok (.iinc 5 1, 3) := by decide +kernel
theorem dX7_unpack_188 : decode cX7_unpack 188 = .ok (.goto (-126), 3) := by decide +kernel
theorem dX7_unpack_191 : decode cX7_unpack 191 = .ok (.aload_n 0, 1) := by decide +kernel
theorem dX7_unpack_192 : decode cX7_unpack 192 = .ok (.iconst 0, 1) := by decide +kernel
theorem dX7_unpack_193 : decode cX7_unpack 193 = .ok (.putfield 254, 3) := by decide +kernel
theorem dX7_unpack_196 : decode cX7_unpack 196 = .ok (.aload_n 0, 1) := by decide +kernel
theorem dX7_unpack_197 : decode cX7_unpack 197 = .ok (.getfield 260, 3) := by decide +kernel
theorem dX7_unpack_200 : decode cX7_unpack 200 = .ok (.ireturn, 1) := by decide +kernel
theorem dX7_pass_0 : decode cX7_pass 0 = .ok (.aload_n 0, 1) := by decide +kernel
theorem dX7_pass_1 : decode cX7_pass 1 = .ok (.iconst 0, 1) := by decide +kernel
theorem dX7_pass_2 : decode cX7_pass 2 = .ok (.putfield 114, 3) := by decide +kernel
theorem dX7_pass_5 : decode cX7_pass 5 = .ok (.aload_n 0, 1) := by decide +kernel
theorem dX7_pass_6 : decode cX7_pass 6 = .ok (.iload_n 1, 1) := by decide +kernel
theorem dX7_pass_7 : decode cX7_pass 7 = .ok (.invokevirtual 229, 3) := by decide +kernel
theorem dX7_pass_10 : decode cX7_pass 10 = .ok (.ifCond .eq 33, 3) := by decide +kernel
theorem dX7_pass_13 : decode cX7_pass 13 = .ok (.aload_n 0, 1) := by decide +kernel
theorem dX7_pass_14 : decode cX7_pass 14 = .ok (.iload_n 1, 1) := by decide +kernel
theorem dX7_pass_15 : decode cX7_pass 15 = .ok (.iload_n 3, 1) := by decide +kernel
theorem dX7_pass_16 : decode cX7_pass 16 = .ok (.invokevirtual 247, 3) := by decide +kernel
theorem dX7_pass_19 : decode cX7_pass 19 = .ok (.ifCond .eq 24, 3) := by decide +kernel
theorem dX7_pass_22 : decode cX7_pass 22 = .ok (.aload_n 0, 1) := by decide +kernel
theorem dX7_pass_23 : decode cX7_pass 23 = .ok (.iload_n 2, 1) := by decide +kernel
theorem dX7_pass_24 : decode cX7_pass 24 = .ok (.invokevirtual 229, 3) := by decide +kernel
theorem dX7_pass_27 : decode cX7_pass 27 = .ok (.ifCond .eq 16, 3) := by decide +kernel
theorem dX7_pass_30 : decode cX7_pass 30 = .ok (.aload_n 0, 1) := by decide +kernel
theorem dX7_pass_31 : decode cX7_pass 31 = .ok (.iload_n 1, 1) := by decide +kernel
theorem dX7_pass_32 : decode cX7_pass 32 = .ok (.invokevirtual 232, 3) := by decide +kernel
theorem dX7_pass_35 : decode cX7_pass 35 = .ok (.aload_n 0, 1) := by decide +kernel
theorem dX7_pass_36 : decode cX7_pass 36 = .ok (.iload_n 2, 1) := by decide +kernel
theorem dX7_pass_37 : decode cX7_pass 37 = .ok (.invokevirtual 232, 3) := by decide +kernel
theorem dX7_pass_40 : decode cX7_pass 40 = .ok (.if_icmp .eq 6, 3) := by decide +kernel
theorem dX7_pass_43 : decode cX7_pass 43 = .ok (.ldc 9, 2) := by decide +kernel
theorem dX7_pass_45 : decode cX7_pass 45 = .ok (.ireturn, 1) := by decide +kernel
theorem dX7_pass_46 : decode cX7_pass 46 = .ok (.aload_n 0, 1) := by decide +kernel
theorem dX7_pass_47 : decode cX7_pass 47 = .ok (.iload_n 1, 1) := by decide +kernel
theorem dX7_pass_48 : decode cX7_pass 48 = .ok (.iload_n 3, 1) := by decide +kernel
theorem dX7_pass_49 : decode cX7_pass 49 = .ok (.invokevirtual 251, 3) := by decide +kernel
theorem dX7_pass_52 : decode cX7_pass 52 = .ok (.istore 4, 2) := by decide +kernel
theorem dX7_pass_54 : decode cX7_pass 54 = .ok (.aload_n 0, 1) := by decide +kernel
theorem dX7_pass_55 : decode cX7_pass 55 = .ok (.iload_n 1, 1) := by decide +kernel
theorem dX7_pass_56 : decode cX7_pass 56 = .ok (.invokevirtual 232, 3) := by decide +kernel
theorem dX7_pass_59 : decode cX7_pass 59 = .ok (.ifCond .eq 21, 3) := by decide +kernel
theorem dX7_pass_62 : decode cX7_pass 62 = .ok (.aload_n 0, 1) := by decide +kernel
theorem dX7_pass_63 : decode cX7_pass 63 = .ok (.iconst 2, 1) := by decide +kernel
theorem dX7_pass_64 : decode cX7_pass 64 = .ok (.iload_n 2, 1) := by decide +kernel
theorem dX7_pass_65 : decode cX7_pass 65 = .ok (.imul, 1) := by decide +kernel
theorem dX7_pass_66 : decode cX7_pass 66 = .ok (.iload 4, 2) := by decide +kernel
theorem dX7_pass_68 : decode cX7_pass 68 = .ok (.aload_n 0, 1) := by decide +kernel
theorem dX7_pass_69 : decode cX7_pass 69 = .ok (.getfield 14, 3) := by decide +kernel
theorem dX7_pass_72 : decode cX7_pass 72 = .ok (.iload_n 1, 1) := by decide +kernel
theorem dX7_pass_73 : decode cX7_pass 73 = .ok (.iaload, 1) := by decide +kernel
theorem dX7_pass_74 : decode cX7_pass 74 = .ok (.invokevirtual 241, 3) := by decide +kernel
theorem dX7_pass_77 : decode cX7_pass 77 = .ok (.goto 10, 3) := by decide +kernel
theorem dX7_pass_80 : decode cX7_pass 80 = .ok (.aload_n 0, 1) := by decide +kernel
theorem dX7_pass_81 : decode cX7_pass 81 = .ok (.iload_n 2, 1) := by decide +kernel
theorem dX7_pass_82 : decode cX7_pass 82 = .ok (.iload 4, 2) := by decide +kernel
theorem dX7_pass_84 : decode cX7_pass 84 = .ok (.invokevirtual 238, 3) := by decide +kernel
theorem dX7_pass_87 : decode cX7_pass 87 = .ok (.ireturn, 1) := by decide +kernel
theorem dX7_finds_0 : decode cX7_finds 0 = .ok (.aload_n 0, 1) := by decide +kernel
theorem dX7_finds_1 : decode cX7_finds 1 = .ok (.getfield 273, 3) := by decide +kernel
theorem dX7_finds_4 : decode cX7_finds 4 = .ok (.ifCond .eq 4, 3) := by decide +kernel
theorem dX7_finds_7 : decode cX7_finds 7 = .ok (.return_, 1) := by decide +kernel
theorem dX7_finds_8 : decode cX7_finds 8 = .ok (.aload_n 0, 1) := by decide +kernel
theorem dX7_finds_9 : decode cX7_finds 9 = .ok (.iconst 1, 1) := by decide +kernel
theorem dX7_finds_10 : decode cX7_finds 10 = .ok (.putfield 273, 3) := by decide +kernel
theorem dX7_finds_13 : decode cX7_finds 13 = .ok (.iconst 0, 1) := by decide +kernel
theorem dX7_finds_14 : decode cX7_finds 14 = .ok (.istore_n 1, 1) := by decide +kernel
theorem dX7_finds_15 : decode cX7_finds 15 = .ok (.iload_n 1, 1) := by decide +kernel
theorem dX7_finds_16 : decode cX7_finds 16 = .ok (.sipush 512, 3) := by decide +kernel
theorem dX7_finds_19 : decode cX7_finds 19 = .ok (.if_icmp .ge 25, 3) := by decide +kernel
theorem dX7_finds_22 : decode cX7_finds 22 = .ok (.aload_n 0, 1) := by decide +kernel
theorem dX7_finds_23 : decode cX7_finds 23 = .ok (.getfield 108, 3) := by decide +kernel
theorem dX7_finds_26 : decode cX7_finds 26 = .ok (.iload_n 1, 1) := by decide +kernel
theorem dX7_finds_27 : decode cX7_finds 27 = .ok (.ldc 9, 2) := by decide +kernel
theorem dX7_finds_29 : decode cX7_finds 29 = .ok (.iastore, 1) := by decide +kernel
theorem dX7_finds_30 : decode cX7_finds 30 = .ok (.aload_n 0, 1) := by decide +kernel
theorem dX7_finds_31 : decode cX7_finds 31 = .ok (.getfield 111, 3) := by decide +kernel
theorem dX7_finds_34 : decode cX7_finds 34 = .ok (.iload_n 1, 1) := by decide +kernel
theorem dX7_finds_35 : decode cX7_finds 35 = .ok (.ldc 9, 2) := by decide +kernel
theorem dX7_finds_37 : decode cX7_finds 37 = .ok (.iastore, 1) := by decide +kernel
theorem dX7_finds_38 : decode cX7_finds 38 = .ok (.iinc 1 1, 3) := by decide +kernel
theorem dX7_finds_41 : decode cX7_finds 41 = .ok (.goto (-26), 3) := by decide +kernel
theorem dX7_finds_44 : decode cX7_finds 44 = .ok (.sipush (-32768), 3) := by decide +kernel
theorem dX7_finds_47 : decode cX7_finds 47 = .ok (.istore_n 1, 1) := by decide +kernel
theorem dX7_finds_48 : decode cX7_finds 48 = .ok (.iload_n 1, 1) := by decide +kernel
theorem dX7_finds_49 : decode cX7_finds 49 = .ok (.sipush 32767, 3) := by decide +kernel
theorem dX7_finds_52 : decode cX7_finds 52 = .ok (.if_icmp .gt 75, 3) := by decide +kernel
theorem dX7_finds_55 : decode cX7_finds 55 = .ok (.aload_n 0, 1) := by decide +kernel
theorem dX7_finds_56 : decode cX7_finds 56 = .ok (.iload_n 1, 1) := by decide +kernel
theorem dX7_finds_57 : decode cX7_finds 57 = .ok (.invokevirtual 208, 3) := by decide +kernel
theorem dX7_finds_60 : decode cX7_finds 60 = .ok (.istore_n 2, 1) := by decide +kernel
theorem dX7_finds_61 : decode cX7_finds 61 = .ok (.aload_n 0, 1) := by decide +kernel
theorem dX7_finds_62 : decode cX7_finds 62 = .ok (.getfield 108, 3) := by decide +kernel
theorem dX7_finds_65 : decode cX7_finds 65 = .ok (.iload_n 2, 1) := by decide +kernel
theorem dX7_finds_66 : decode cX7_finds 66 = .ok (.iaload, 1) := by decide +kernel
theorem dX7_finds_67 : decode cX7_finds 67 = .ok (.ldc 9, 2) := by decide +kernel
theorem dX7_finds_69 : decode cX7_finds 69 = .ok (.if_icmp .ne 10, 3) := by decide +kernel
theorem dX7_finds_72 : decode cX7_finds 72 = .ok (.aload_n 0, 1) := by decide +kernel
theorem dX7_finds_73 : decode cX7_finds 73 = .ok (.getfield 108, 3) := by decide +kernel
theorem dX7_finds_76 : decode cX7_finds 76 = .ok (.iload_n 2, 1) := by decide +kernel
theorem dX7_finds_77 : decode cX7_finds 77 = .ok (.iload_n 1, 1) := by decide +kernel
theorem dX7_finds_78 : decode cX7_finds 78 = .ok (.iastore, 1) := by decide +kernel
theorem dX7_finds_79 : decode cX7_finds 79 = .ok (.aload_n 0, 1) := by decide +kernel
theorem dX7_finds_80 : decode cX7_finds 80 = .ok (.getfield 111, 3) := by decide +kernel
theorem dX7_finds_83 : decode cX7_finds 83 = .ok (.iload_n 2, 1) := by decide +kernel
theorem dX7_finds_84 : decode cX7_finds 84 = .ok (.iload_n 1, 1) := by decide +kernel
theorem dX7_finds_85 : decode cX7_finds 85 = .ok (.iastore, 1) := by decide +kernel
theorem dX7_finds_86 : decode cX7_finds 86 = .ok (.sipush 256, 3) := by decide +kernel
theorem dX7_finds_89 : decode cX7_finds 89 = .ok (.aload_n 0, 1) := by decide +kernel
theorem dX7_finds_90 : decode cX7_finds 90 = .ok (.iload_n 1, 1) := by decide +kernel
theorem dX7_finds_91 : decode cX7_finds 91 = .ok (.invokevirtual 211, 3) := by decide +kernel
theorem dX7_finds_94 : decode cX7_finds 94 = .ok (.iadd, 1) := by decide +kernel
theorem dX7_finds_95 : decode cX7_finds 95 = .ok (.istore_n 2, 1) := by decide +kernel
theorem dX7_finds_96 : decode cX7_finds 96 = .ok (.aload_n 0, 1) := by decide +kernel
theorem dX7_finds_97 : decode cX7_finds 97 = .ok (.getfield 108, 3) := by decide +kernel
theorem dX7_finds_100 : decode cX7_finds 100 = .ok (.iload_n 2, 1) := by decide +kernel
theorem dX7_finds_101 : decode cX7_finds 101 = .ok (.iaload, 1) := by decide +kernel
theorem dX7_finds_102 : decode cX7_finds 102 = .ok (.ldc 9, 2) := by decide +kernel
theorem dX7_finds_104 : decode cX7_finds 104 = .ok (.if_icmp .ne 10, 3) := by decide +kernel
theorem dX7_finds_107 : decode cX7_finds 107 = .ok (.aload_n 0, 1) := by decide +kernel
theorem dX7_finds_108 : decode cX7_finds 108 = .ok (.getfield 108, 3) := by decide +kernel
theorem dX7_finds_111 : decode cX7_finds 111 = .ok (.iload_n 2, 1) := by decide +kernel
theorem dX7_finds_112 : decode cX7_finds 112 = .ok (.iload_n 1, 1) := by decide +kernel
theorem dX7_finds_113 : decode cX7_finds 113 = .ok (.iastore, 1) := by decide +kernel
theorem dX7_finds_114 : decode cX7_finds 114 = .ok (.aload_n 0, 1) := by decide +kernel
theorem dX7_finds_115 : decode cX7_finds 115 = .ok (.getfield 111, 3) := by decide +kernel
theorem dX7_finds_118 : decode cX7_finds 118 = .ok (.iload_n 2, 1) := by decide +kernel
theorem dX7_finds_119 : decode cX7_finds 119 = .ok (.iload_n 1, 1) := by decide +kernel
theorem dX7_finds_120 : decode cX7_finds 120 = .ok (.iastore, 1) := by decide +kernel
theorem dX7_finds_121 : decode cX7_finds 121 = .ok (.iinc 1 1, 3) := by decide +kernel
theorem dX7_finds_124 : decode cX7_finds 124 = .ok (.goto (-76), 3) := by decide +kernel
theorem dX7_finds_127 : decode cX7_finds 127 = .ok (.return_, 1) := by decide +kernel
theorem dX7_law_0 : decode cX7_law 0 = .ok (.aload_n 0, 1) := by decide +kernel
theorem dX7_law_1 : decode cX7_law 1 = .ok (.iconst 0, 1) := by decide +kernel
theorem dX7_law_2 : decode cX7_law 2 = .ok (.putfield 114, 3) := by decide +kernel
theorem dX7_law_5 : decode cX7_law 5 = .ok (.iload_n 1, 1) := by decide +kernel
theorem dX7_law_6 : decode cX7_law 6 = .ok (.ifCond .lt 28, 3) := by decide +kernel
theorem dX7_law_9 : decode cX7_law 9 = .ok (.iload_n 1, 1) := by decide +kernel
theorem dX7_law_10 : decode cX7_law 10 = .ok (.iconst 1, 1) := by decide +kernel
theorem dX7_law_11 : decode cX7_law 11 = .ok (.if_icmp .gt 23, 3) := by decide +kernel
theorem dX7_law_14 : decode cX7_law 14 = .ok (.iload_n 2, 1) := by decide +kernel
theorem dX7_law_15 : decode cX7_law 15 = .ok (.ifCond .lt 19, 3) := by decide +kernel
theorem dX7_law_18 : decode cX7_law 18 = .ok (.iload_n 2, 1) := by decide +kernel
theorem dX7_law_19 : decode cX7_law 19 = .ok (.sipush 255, 3) := by decide +kernel
theorem dX7_law_22 : decode cX7_law 22 = .ok (.if_icmp .gt 12, 3) := by decide +kernel
theorem dX7_law_25 : decode cX7_law 25 = .ok (.iload_n 3, 1) := by decide +kernel
theorem dX7_law_26 : decode cX7_law 26 = .ok (.ifCond .lt 8, 3) := by decide +kernel
theorem dX7_law_29 : decode cX7_law 29 = .ok (.iload_n 3, 1) := by decide +kernel
theorem dX7_law_30 : decode cX7_law 30 = .ok (.iconst 2, 1) := by decide +kernel
theorem dX7_law_31 : decode cX7_law 31 = .ok (.if_icmp .le 6, 3) := by decide +kernel
theorem dX7_law_34 : decode cX7_law 34 = .ok (.ldc 9, 2) := by decide +kernel
theorem dX7_law_36 : decode cX7_law 36 = .ok (.ireturn, 1) := by decide +kernel
theorem dX7_law_37 : decode cX7_law 37 = .ok (.iload_n 3, 1) := by decide +kernel
theorem dX7_law_38 : decode cX7_law 38 = .ok (.iconst 2, 1) := by decide +kernel
theorem dX7_law_39 : decode cX7_law 39 = .ok (.if_icmp .ne 29, 3) := by decide +kernel
theorem dX7_law_42 : decode cX7_law 42 = .ok (.iload_n 1, 1) := by decide +kernel
theorem dX7_law_43 : decode cX7_law 43 = .ok (.ifCond .ne 15, 3) := by decide +kernel
theorem dX7_law_46 : decode cX7_law 46 = .ok (.aload_n 0, 1) := by decide +kernel
theorem dX7_law_47 : decode cX7_law 47 = .ok (.aload_n 0, 1) := by decide +kernel
theorem dX7_law_48 : decode cX7_law 48 = .ok (.iload_n 2, 1) := by decide +kernel
theorem dX7_law_49 : decode cX7_law 49 = .ok (.invokevirtual 217, 3) := by decide +kernel
theorem dX7_law_52 : decode cX7_law 52 = .ok (.invokevirtual 208, 3) := by decide +kernel
theorem dX7_law_55 : decode cX7_law 55 = .ok (.goto 12, 3) := by decide +kernel
theorem dX7_law_58 : decode cX7_law 58 = .ok (.aload_n 0, 1) := by decide +kernel
theorem dX7_law_59 : decode cX7_law 59 = .ok (.aload_n 0, 1) := by decide +kernel
theorem dX7_law_60 : decode cX7_law 60 = .ok (.iload_n 2, 1) := by decide +kernel
theorem dX7_law_61 : decode cX7_law 61 = .ok (.invokevirtual 220, 3) := by decide +kernel
theorem dX7_law_64 : decode cX7_law 64 = .ok (.invokevirtual 211, 3) := by decide +kernel
theorem dX7_law_67 : decode cX7_law 67 = .ok (.ireturn, 1) := by decide +kernel
theorem dX7_law_68 : decode cX7_law 68 = .ok (.aload_n 0, 1) := by decide +kernel
theorem dX7_law_69 : decode cX7_law 69 = .ok (.invokevirtual 277, 3) := by decide +kernel
theorem dX7_law_72 : decode cX7_law 72 = .ok (.iload_n 3, 1) := by decide +kernel
theorem dX7_law_73 : decode cX7_law 73 = .ok (.ifCond .ne 18, 3) := by decide +kernel
theorem dX7_law_76 : decode cX7_law 76 = .ok (.aload_n 0, 1) := by decide +kernel
theorem dX7_law_77 : decode cX7_law 77 = .ok (.getfield 108, 3) := by decide +kernel
theorem dX7_law_80 : decode cX7_law 80 = .ok (.sipush 256, 3) := by decide +kernel
theorem dX7_law_83 : decode cX7_law 83 = .ok (.iload_n 1, 1) := by decide +kernel
theorem dX7_law_84 : decode cX7_law 84 = .ok (.imul, 1) := by decide +kernel
theorem dX7_law_85 : decode cX7_law 85 = .ok (.iload_n 2, 1) := by decide +kernel
theorem dX7_law_86 : decode cX7_law 86 = .ok (.iadd, 1) := by decide +kernel
theorem dX7_law_87 : decode cX7_law 87 = .ok (.iaload, 1) := by decide +kernel
theorem dX7_law_88 : decode cX7_law 88 = .ok (.goto 15, 3) := by decide +kernel
theorem dX7_law_91 : decode cX7_law 91 = .ok (.aload_n 0, 1) := by decide +kernel
theorem dX7_law_92 : decode cX7_law 92 = .ok (.getfield 111, 3) := by decide +kernel
theorem dX7_law_95 : decode cX7_law 95 = .ok (.sipush 256, 3) := by decide +kernel
theorem dX7_law_98 : decode cX7_law 98 = .ok (.iload_n 1, 1) := by decide +kernel
theorem dX7_law_99 : decode cX7_law 99 = .ok (.imul, 1) := by decide +kernel
theorem dX7_law_100 : decode cX7_law 100 = .ok (.iload_n 2, 1) := by decide +kernel
theorem dX7_law_101 : decode cX7_law 101 = .ok (.iadd, 1) := by decide +kernel
theorem dX7_law_102 : decode cX7_law 102 = .ok (.iaload, 1) := by decide +kernel
theorem dX7_law_103 : decode cX7_law 103 = .ok (.ireturn, 1) := by decide +kernel
theorem dL_law_0 : decode cL_law 0 = .ok (.new 7, 3) := by decide +kernel
theorem dL_law_3 : decode cL_law 3 = .ok (.dup, 1) := by decide +kernel
theorem dL_law_4 : decode cL_law 4 = .ok (.invokespecial 9, 3) := by decide +kernel
theorem dL_law_7 : decode cL_law 7 = .ok (.astore_n 1, 1) := by decide +kernel
theorem dL_law_8 : decode cL_law 8 = .ok (.new 10, 3) := by decide +kernel
theorem dL_law_11 : decode cL_law 11 = .ok (.dup, 1) := by decide +kernel
theorem dL_law_12 : decode cL_law 12 = .ok (.invokespecial 12, 3) := by decide +kernel
theorem dL_law_15 : decode cL_law 15 = .ok (.astore_n 2, 1) := by decide +kernel
theorem dL_law_16 : decode cL_law 16 = .ok (.iconst 0, 1) := by decide +kernel
theorem dL_law_17 : decode cL_law 17 = .ok (.istore_n 3, 1) := by decide +kernel
theorem dL_law_18 : decode cL_law 18 = .ok (.iload_n 3, 1) := by decide +kernel
theorem dL_law_19 : decode cL_law 19 = .ok (.aload_n 0, 1) := by decide +kernel
theorem dL_law_20 : decode cL_law 20 = .ok (.arraylength, 1) := by decide +kernel
theorem dL_law_21 : decode cL_law 21 = .ok (.bipush 6, 2) := by decide +kernel
theorem dL_law_23 : decode cL_law 23 = .ok (.isub, 1) := by decide +kernel
theorem dL_law_24 : decode cL_law 24 = .ok (.if_icmp .gt 637, 3) := by decide +kernel
theorem dL_law_27 : decode cL_law 27 = .ok (.aload_n 0, 1) := by decide +kernel
theorem dL_law_28 : decode cL_law 28 = .ok (.iload_n 3, 1) := by decide +kernel
theorem dL_law_29 : decode cL_law 29 = .ok (.iaload, 1) := by decide +kernel
theorem dL_law_30 : decode cL_law 30 = .ok (.bipush 15, 2) := by decide +kernel
theorem dL_law_32 : decode cL_law 32 = .ok (.iand, 1) := by decide +kernel
theorem dL_law_33 : decode cL_law 33 = .ok (.tableswitch 622 0 14 #[75, 108, 131, 164, 207, 240, 263, 306, 369, 392, 405, 428, 477, 536, 579], 75) := by decide +kernel
theorem dL_law_108 : decode cL_law 108 = .ok (.aload_n 1, 1) := by decide +kernel
theorem dL_law_109 : decode cL_law 109 = .ok (.aload_n 0, 1) := by decide +kernel
theorem dL_law_110 : decode cL_law 110 = .ok (.iload_n 3, 1) := by decide +kernel
theorem dL_law_111 : decode cL_law 111 = .ok (.iconst 1, 1) := by decide +kernel
theorem dL_law_112 : decode cL_law 112 = .ok (.iadd, 1) := by decide +kernel
theorem dL_law_113 : decode cL_law 113 = .ok (.iaload, 1) := by decide +kernel
theorem dL_law_114 : decode cL_law 114 = .ok (.aload_n 0, 1) := by decide +kernel
theorem dL_law_115 : decode cL_law 115 = .ok (.iload_n 3, 1) := by decide +kernel
theorem dL_law_116 : decode cL_law 116 = .ok (.iconst 2, 1) := by decide +kernel
theorem dL_law_117 : decode cL_law 117 = .ok (.iadd, 1) := by decide +kernel
theorem dL_law_118 : decode cL_law 118 = .ok (.iaload, 1) := by decide +kernel
theorem dL_law_119 : decode cL_law 119 = .ok (.invokevirtual 13, 3) := by decide +kernel
theorem dL_law_122 : decode cL_law 122 = .ok (.aload_n 2, 1) := by decide +kernel
theorem dL_law_123 : decode cL_law 123 = .ok (.aload_n 0, 1) := by decide +kernel
theorem dL_law_124 : decode cL_law 124 = .ok (.iload_n 3, 1) := by decide +kernel
theorem dL_law_125 : decode cL_law 125 = .ok (.iconst 1, 1) := by decide +kernel
theorem dL_law_126 : decode cL_law 126 = .ok (.iadd, 1) := by decide +kernel
theorem dL_law_127 : decode cL_law 127 = .ok (.iaload, 1) := by decide +kernel
theorem dL_law_128 : decode cL_law 128 = .ok (.aload_n 0, 1) := by decide +kernel
theorem dL_law_129 : decode cL_law 129 = .ok (.iload_n 3, 1) := by decide +kernel
theorem dL_law_130 : decode cL_law 130 = .ok (.iconst 2, 1) := by decide +kernel
theorem dL_law_131 : decode cL_law 131 = .ok (.iadd, 1) := by decide +kernel
theorem dL_law_132 : decode cL_law 132 = .ok (.iaload, 1) := by decide +kernel
theorem dL_law_133 : decode cL_law 133 = .ok (.invokevirtual 17, 3) := by decide +kernel
theorem dL_law_136 : decode cL_law 136 = .ok (.if_icmp .eq 519, 3) := by decide +kernel
theorem dL_law_139 : decode cL_law 139 = .ok (.iconst 0, 1) := by decide +kernel
theorem dL_law_140 : decode cL_law 140 = .ok (.ireturn, 1) := by decide +kernel
theorem dL_law_141 : decode cL_law 141 = .ok (.aload_n 1, 1) := by decide +kernel
theorem dL_law_142 : decode cL_law 142 = .ok (.aload_n 0, 1) := by decide +kernel
theorem dL_law_143 : decode cL_law 143 = .ok (.iload_n 3, 1) := by decide +kernel
theorem dL_law_144 : decode cL_law 144 = .ok (.iconst 1, 1) := by decide +kernel
theorem dL_law_145 : decode cL_law 145 = .ok (.iadd, 1) := by decide +kernel
theorem dL_law_146 : decode cL_law 146 = .ok (.iaload, 1) := by decide +kernel
theorem dL_law_147 : decode cL_law 147 = .ok (.invokevirtual 18, 3) := by decide +kernel
theorem dL_law_150 : decode cL_law 150 = .ok (.aload_n 2, 1) := by decide +kernel
theorem dL_law_151 : decode cL_law 151 = .ok (.aload_n 0, 1) := by decide +kernel
theorem dL_law_152 : decode cL_law 152 = .ok (.iload_n 3, 1) := by decide +kernel
theorem dL_law_153 : decode cL_law 153 = .ok (.iconst 1, 1) := by decide +kernel
theorem dL_law_154 : decode cL_law 154 = .ok (.iadd, 1) := by decide +kernel
theorem dL_law_155 : decode cL_law 155 = .ok (.iaload, 1) := by decide +kernel
theorem dL_law_156 : decode cL_law 156 = .ok (.invokevirtual 22, 3) := by decide +kernel
theorem dL_law_159 : decode cL_law 159 = .ok (.if_icmp .eq 496, 3) := by decide +kernel
theorem dL_law_162 : decode cL_law 162 = .ok (.iconst 0, 1) := by decide +kernel
theorem dL_law_163 : decode cL_law 163 = .ok (.ireturn, 1) := by decide +kernel
theorem dL_law_164 : decode cL_law 164 = .ok (.aload_n 1, 1) := by decide +kernel
theorem dL_law_165 : decode cL_law 165 = .ok (.aload_n 0, 1) := by decide +kernel
theorem dL_law_166 : decode cL_law 166 = .ok (.iload_n 3, 1) := by decide +kernel
theorem dL_law_167 : decode cL_law 167 = .ok (.iconst 1, 1) := by decide +kernel
theorem dL_law_168 : decode cL_law 168 = .ok (.iadd, 1) := by decide +kernel
theorem dL_law_169 : decode cL_law 169 = .ok (.iaload, 1) := by decide +kernel
theorem dL_law_170 : decode cL_law 170 = .ok (.aload_n 0, 1) := by decide +kernel
theorem dL_law_171 : decode cL_law 171 = .ok (.iload_n 3, 1) := by decide +kernel
theorem dL_law_172 : decode cL_law 172 = .ok (.iconst 2, 1) := by decide +kernel
theorem dL_law_173 : decode cL_law 173 = .ok (.iadd, 1) := by decide +kernel
theorem dL_law_174 : decode cL_law 174 = .ok (.iaload, 1) := by decide +kernel
theorem dL_law_175 : decode cL_law 175 = .ok (.invokevirtual 23, 3) := by decide +kernel
theorem dL_law_178 : decode cL_law 178 = .ok (.aload_n 2, 1) := by decide +kernel
theorem dL_law_179 : decode cL_law 179 = .ok (.aload_n 0, 1) := by decide +kernel
theorem dL_law_180 : decode cL_law 180 = .ok (.iload_n 3, 1) := by decide +kernel
theorem dL_law_181 : decode cL_law 181 = .ok (.iconst 1, 1) := by decide +kernel
theorem dL_law_182 : decode cL_law 182 = .ok (.iadd, 1) := by decide +kernel
theorem dL_law_183 : decode cL_law 183 = .ok (.iaload, 1) := by decide +kernel
theorem dL_law_184 : decode cL_law 184 = .ok (.aload_n 0, 1) := by decide +kernel
theorem dL_law_185 : decode cL_law 185 = .ok (.iload_n 3, 1) := by decide +kernel
theorem dL_law_186 : decode cL_law 186 = .ok (.iconst 2, 1) := by decide +kernel
theorem dL_law_187 : decode cL_law 187 = .ok (.iadd, 1) := by decide +kernel
theorem dL_law_188 : decode cL_law 188 = .ok (.iaload, 1) := by decide +kernel
theorem dL_law_189 : decode cL_law 189 = .ok (.invokevirtual 27, 3) := by decide +kernel
theorem dL_law_192 : decode cL_law 192 = .ok (.if_icmp .eq 463, 3) := by decide +kernel
theorem dL_law_195 : decode cL_law 195 = .ok (.iconst 0, 1) := by decide +kernel
theorem dL_law_196 : decode cL_law 196 = .ok (.ireturn, 1) := by decide +kernel
theorem dL_law_197 : decode cL_law 197 = .ok (.aload_n 1, 1) := by decide +kernel
theorem dL_law_198 : decode cL_law 198 = .ok (.aload_n 0, 1) := by decide +kernel
theorem dL_law_199 : decode cL_law 199 = .ok (.iload_n 3, 1) := by decide +kernel
theorem dL_law_200 : decode cL_law 200 = .ok (.iconst 1, 1) := by decide +kernel
theorem dL_law_201 : decode cL_law 201 = .ok (.iadd, 1) := by decide +kernel
theorem dL_law_202 : decode cL_law 202 = .ok (.iaload, 1) := by decide +kernel
theorem dL_law_203 : decode cL_law 203 = .ok (.aload_n 0, 1) := by decide +kernel
theorem dL_law_204 : decode cL_law 204 = .ok (.iload_n 3, 1) := by decide +kernel
theorem dL_law_205 : decode cL_law 205 = .ok (.iconst 2, 1) := by decide +kernel
theorem dL_law_206 : decode cL_law 206 = .ok (.iadd, 1) := by decide +kernel
theorem dL_law_207 : decode cL_law 207 = .ok (.iaload, 1) := by decide +kernel
theorem dL_law_208 : decode cL_law 208 = .ok (.aload_n 0, 1) := by decide +kernel
theorem dL_law_209 : decode cL_law 209 = .ok (.iload_n 3, 1) := by decide +kernel
theorem dL_law_210 : decode cL_law 210 = .ok (.iconst 3, 1) := by decide +kernel
theorem dL_law_211 : decode cL_law 211 = .ok (.iadd, 1) := by decide +kernel
theorem dL_law_212 : decode cL_law 212 = .ok (.iaload, 1) := by decide +kernel
theorem dL_law_213 : decode cL_law 213 = .ok (.invokevirtual 28, 3) := by decide +kernel
theorem dL_law_216 : decode cL_law 216 = .ok (.aload_n 2, 1) := by decide +kernel
theorem dL_law_217 : decode cL_law 217 = .ok (.aload_n 0, 1) := by decide +kernel
theorem dL_law_218 : decode cL_law 218 = .ok (.iload_n 3, 1) := by decide +kernel
theorem dL_law_219 : decode cL_law 219 = .ok (.iconst 1, 1) := by decide +kernel
theorem dL_law_220 : decode cL_law 220 = .ok (.iadd, 1) := by decide +kernel
theorem dL_law_221 : decode cL_law 221 = .ok (.iaload, 1) := by decide +kernel
theorem dL_law_222 : decode cL_law 222 = .ok (.aload_n 0, 1) := by decide +kernel
theorem dL_law_223 : decode cL_law 223 = .ok (.iload_n 3, 1) := by decide +kernel
theorem dL_law_224 : decode cL_law 224 = .ok (.iconst 2, 1) := by decide +kernel
theorem dL_law_225 : decode cL_law 225 = .ok (.iadd, 1) := by decide +kernel
theorem dL_law_226 : decode cL_law 226 = .ok (.iaload, 1) := by decide +kernel
theorem dL_law_227 : decode cL_law 227 = .ok (.aload_n 0, 1) := by decide +kernel
theorem dL_law_228 : decode cL_law 228 = .ok (.iload_n 3, 1) := by decide +kernel
theorem dL_law_229 : decode cL_law 229 = .ok (.iconst 3, 1) := by decide +kernel
theorem dL_law_230 : decode cL_law 230 = .ok (.iadd, 1) := by decide +kernel
theorem dL_law_231 : decode cL_law 231 = .ok (.iaload, 1) := by decide +kernel
theorem dL_law_232 : decode cL_law 232 = .ok (.invokevirtual 32, 3) := by decide +kernel
theorem dL_law_235 : decode cL_law 235 = .ok (.if_icmp .eq 420, 3) := by decide +kernel
theorem dL_law_238 : decode cL_law 238 = .ok (.iconst 0, 1) := by decide +kernel
theorem dL_law_239 : decode cL_law 239 = .ok (.ireturn, 1) := by decide +kernel
theorem dL_law_240 : decode cL_law 240 = .ok (.aload_n 1, 1) := by decide +kernel
theorem dL_law_241 : decode cL_law 241 = .ok (.aload_n 0, 1) := by decide +kernel
theorem dL_law_242 : decode cL_law 242 = .ok (.iload_n 3, 1) := by decide +kernel
theorem dL_law_243 : decode cL_law 243 = .ok (.iconst 1, 1) := by decide +kernel
theorem dL_law_244 : decode cL_law 244 = .ok (.iadd, 1) := by decide +kernel
theorem dL_law_245 : decode cL_law 245 = .ok (.iaload, 1) := by decide +kernel
theorem dL_law_246 : decode cL_law 246 = .ok (.aload_n 0, 1) := by decide +kernel
theorem dL_law_247 : decode cL_law 247 = .ok (.iload_n 3, 1) := by decide +kernel
theorem dL_law_248 : decode cL_law 248 = .ok (.iconst 2, 1) := by decide +kernel
theorem dL_law_249 : decode cL_law 249 = .ok (.iadd, 1) := by decide +kernel
theorem dL_law_250 : decode cL_law 250 = .ok (.iaload, 1) := by decide +kernel
theorem dL_law_251 : decode cL_law 251 = .ok (.invokevirtual 33, 3) := by decide +kernel
theorem dL_law_254 : decode cL_law 254 = .ok (.aload_n 2, 1) := by decide +kernel
theorem dL_law_255 : decode cL_law 255 = .ok (.aload_n 0, 1) := by decide +kernel
theorem dL_law_256 : decode cL_law 256 = .ok (.iload_n 3, 1) := by decide +kernel
theorem dL_law_257 : decode cL_law 257 = .ok (.iconst 1, 1) := by decide +kernel
theorem dL_law_258 : decode cL_law 258 = .ok (.iadd, 1) := by decide +kernel
theorem dL_law_259 : decode cL_law 259 = .ok (.iaload, 1) := by decide +kernel
theorem dL_law_260 : decode cL_law 260 = .ok (.aload_n 0, 1) := by decide +kernel
theorem dL_law_261 : decode cL_law 261 = .ok (.iload_n 3, 1) := by decide +kernel
theorem dL_law_262 : decode cL_law 262 = .ok (.iconst 2, 1) := by decide +kernel
theorem dL_law_263 : decode cL_law 263 = .ok (.iadd, 1) := by decide +kernel
theorem dL_law_264 : decode cL_law 264 = .ok (.iaload, 1) := by decide +kernel
theorem dL_law_265 : decode cL_law 265 = .ok (.invokevirtual 36, 3) := by decide +kernel
theorem dL_law_268 : decode cL_law 268 = .ok (.if_icmp .eq 387, 3) := by decide +kernel
theorem dL_law_271 : decode cL_law 271 = .ok (.iconst 0, 1) := by decide +kernel
theorem dL_law_272 : decode cL_law 272 = .ok (.ireturn, 1) := by decide +kernel
theorem dL_law_273 : decode cL_law 273 = .ok (.aload_n 1, 1) := by decide +kernel
theorem dL_law_274 : decode cL_law 274 = .ok (.aload_n 0, 1) := by decide +kernel
theorem dL_law_275 : decode cL_law 275 = .ok (.iload_n 3, 1) := by decide +kernel
theorem dL_law_276 : decode cL_law 276 = .ok (.iconst 1, 1) := by decide +kernel
theorem dL_law_277 : decode cL_law 277 = .ok (.iadd, 1) := by decide +kernel
theorem dL_law_278 : decode cL_law 278 = .ok (.iaload, 1) := by decide +kernel
theorem dL_law_279 : decode cL_law 279 = .ok (.invokevirtual 37, 3) := by decide +kernel
theorem dL_law_282 : decode cL_law 282 = .ok (.aload_n 2, 1) := by decide +kernel
theorem dL_law_283 : decode cL_law 283 = .ok (.aload_n 0, 1) := by decide +kernel
theorem dL_law_284 : decode cL_law 284 = .ok (.iload_n 3, 1) := by decide +kernel
theorem dL_law_285 : decode cL_law 285 = .ok (.iconst 1, 1) := by decide +kernel
theorem dL_law_286 : decode cL_law 286 = .ok (.iadd, 1) := by decide +kernel
theorem dL_law_287 : decode cL_law 287 = .ok (.iaload, 1) := by decide +kernel
theorem dL_law_288 : decode cL_law 288 = .ok (.invokevirtual 40, 3) := by decide +kernel
theorem dL_law_291 : decode cL_law 291 = .ok (.if_icmp .eq 364, 3) := by decide +kernel
theorem dL_law_294 : decode cL_law 294 = .ok (.iconst 0, 1) := by decide +kernel
theorem dL_law_295 : decode cL_law 295 = .ok (.ireturn, 1) := by decide +kernel
theorem dL_law_296 : decode cL_law 296 = .ok (.aload_n 1, 1) := by decide +kernel
theorem dL_law_297 : decode cL_law 297 = .ok (.aload_n 0, 1) := by decide +kernel
theorem dL_law_298 : decode cL_law 298 = .ok (.iload_n 3, 1) := by decide +kernel
theorem dL_law_299 : decode cL_law 299 = .ok (.iconst 1, 1) := by decide +kernel
theorem dL_law_300 : decode cL_law 300 = .ok (.iadd, 1) := by decide +kernel
theorem dL_law_301 : decode cL_law 301 = .ok (.iaload, 1) := by decide +kernel
theorem dL_law_302 : decode cL_law 302 = .ok (.aload_n 0, 1) := by decide +kernel
theorem dL_law_303 : decode cL_law 303 = .ok (.iload_n 3, 1) := by decide +kernel
theorem dL_law_304 : decode cL_law 304 = .ok (.iconst 2, 1) := by decide +kernel
theorem dL_law_305 : decode cL_law 305 = .ok (.iadd, 1) := by decide +kernel
theorem dL_law_306 : decode cL_law 306 = .ok (.iaload, 1) := by decide +kernel
theorem dL_law_307 : decode cL_law 307 = .ok (.aload_n 0, 1) := by decide +kernel
theorem dL_law_308 : decode cL_law 308 = .ok (.iload_n 3, 1) := by decide +kernel
theorem dL_law_309 : decode cL_law 309 = .ok (.iconst 3, 1) := by decide +kernel
theorem dL_law_310 : decode cL_law 310 = .ok (.iadd, 1) := by decide +kernel
theorem dL_law_311 : decode cL_law 311 = .ok (.iaload, 1) := by decide +kernel
theorem dL_law_312 : decode cL_law 312 = .ok (.invokevirtual 41, 3) := by decide +kernel
theorem dL_law_315 : decode cL_law 315 = .ok (.aload_n 2, 1) := by decide +kernel
theorem dL_law_316 : decode cL_law 316 = .ok (.aload_n 0, 1) := by decide +kernel
theorem dL_law_317 : decode cL_law 317 = .ok (.iload_n 3, 1) := by decide +kernel
theorem dL_law_318 : decode cL_law 318 = .ok (.iconst 1, 1) := by decide +kernel
theorem dL_law_319 : decode cL_law 319 = .ok (.iadd, 1) := by decide +kernel
theorem dL_law_320 : decode cL_law 320 = .ok (.iaload, 1) := by decide +kernel
theorem dL_law_321 : decode cL_law 321 = .ok (.aload_n 0, 1) := by decide +kernel
theorem dL_law_322 : decode cL_law 322 = .ok (.iload_n 3, 1) := by decide +kernel
theorem dL_law_323 : decode cL_law 323 = .ok (.iconst 2, 1) := by decide +kernel
theorem dL_law_324 : decode cL_law 324 = .ok (.iadd, 1) := by decide +kernel
theorem dL_law_325 : decode cL_law 325 = .ok (.iaload, 1) := by decide +kernel
theorem dL_law_326 : decode cL_law 326 = .ok (.aload_n 0, 1) := by decide +kernel
theorem dL_law_327 : decode cL_law 327 = .ok (.iload_n 3, 1) := by decide +kernel
theorem dL_law_328 : decode cL_law 328 = .ok (.iconst 3, 1) := by decide +kernel
theorem dL_law_329 : decode cL_law 329 = .ok (.iadd, 1) := by decide +kernel
theorem dL_law_330 : decode cL_law 330 = .ok (.iaload, 1) := by decide +kernel
theorem dL_law_331 : decode cL_law 331 = .ok (.invokevirtual 44, 3) := by decide +kernel
theorem dL_law_334 : decode cL_law 334 = .ok (.if_icmp .eq 321, 3) := by decide +kernel
theorem dL_law_337 : decode cL_law 337 = .ok (.iconst 0, 1) := by decide +kernel
theorem dL_law_338 : decode cL_law 338 = .ok (.ireturn, 1) := by decide +kernel
theorem dL_law_339 : decode cL_law 339 = .ok (.aload_n 1, 1) := by decide +kernel
theorem dL_law_340 : decode cL_law 340 = .ok (.aload_n 0, 1) := by decide +kernel
theorem dL_law_341 : decode cL_law 341 = .ok (.iload_n 3, 1) := by decide +kernel
theorem dL_law_342 : decode cL_law 342 = .ok (.iconst 1, 1) := by decide +kernel
theorem dL_law_343 : decode cL_law 343 = .ok (.iadd, 1) := by decide +kernel
theorem dL_law_344 : decode cL_law 344 = .ok (.iaload, 1) := by decide +kernel
theorem dL_law_345 : decode cL_law 345 = .ok (.aload_n 0, 1) := by decide +kernel
theorem dL_law_346 : decode cL_law 346 = .ok (.iload_n 3, 1) := by decide +kernel
theorem dL_law_347 : decode cL_law 347 = .ok (.iconst 2, 1) := by decide +kernel
theorem dL_law_348 : decode cL_law 348 = .ok (.iadd, 1) := by decide +kernel
theorem dL_law_349 : decode cL_law 349 = .ok (.iaload, 1) := by decide +kernel
theorem dL_law_350 : decode cL_law 350 = .ok (.aload_n 0, 1) := by decide +kernel
theorem dL_law_351 : decode cL_law 351 = .ok (.iload_n 3, 1) := by decide +kernel
theorem dL_law_352 : decode cL_law 352 = .ok (.iconst 3, 1) := by decide +kernel
theorem dL_law_353 : decode cL_law 353 = .ok (.iadd, 1) := by decide +kernel
theorem dL_law_354 : decode cL_law 354 = .ok (.iaload, 1) := by decide +kernel
theorem dL_law_355 : decode cL_law 355 = .ok (.aload_n 0, 1) := by decide +kernel
theorem dL_law_356 : decode cL_law 356 = .ok (.iload_n 3, 1) := by decide +kernel
theorem dL_law_357 : decode cL_law 357 = .ok (.iconst 4, 1) := by decide +kernel
theorem dL_law_358 : decode cL_law 358 = .ok (.iadd, 1) := by decide +kernel
theorem dL_law_359 : decode cL_law 359 = .ok (.iaload, 1) := by decide +kernel
theorem dL_law_360 : decode cL_law 360 = .ok (.aload_n 0, 1) := by decide +kernel
theorem dL_law_361 : decode cL_law 361 = .ok (.iload_n 3, 1) := by decide +kernel
theorem dL_law_362 : decode cL_law 362 = .ok (.iconst 5, 1) := by decide +kernel
theorem dL_law_363 : decode cL_law 363 = .ok (.iadd, 1) := by decide +kernel
theorem dL_law_364 : decode cL_law 364 = .ok (.iaload, 1) := by decide +kernel
theorem dL_law_365 : decode cL_law 365 = .ok (.invokevirtual 45, 3) := by decide +kernel
theorem dL_law_368 : decode cL_law 368 = .ok (.aload_n 2, 1) := by decide +kernel
theorem dL_law_369 : decode cL_law 369 = .ok (.aload_n 0, 1) := by decide +kernel
theorem dL_law_370 : decode cL_law 370 = .ok (.iload_n 3, 1) := by decide +kernel
theorem dL_law_371 : decode cL_law 371 = .ok (.iconst 1, 1) := by decide +kernel
theorem dL_law_372 : decode cL_law 372 = .ok (.iadd, 1) := by decide +kernel
theorem dL_law_373 : decode cL_law 373 = .ok (.iaload, 1) := by decide +kernel
theorem dL_law_374 : decode cL_law 374 = .ok (.aload_n 0, 1) := by decide +kernel
theorem dL_law_375 : decode cL_law 375 = .ok (.iload_n 3, 1) := by decide +kernel
theorem dL_law_376 : decode cL_law 376 = .ok (.iconst 2, 1) := by decide +kernel
theorem dL_law_377 : decode cL_law 377 = .ok (.iadd, 1) := by decide +kernel
theorem dL_law_378 : decode cL_law 378 = .ok (.iaload, 1) := by decide +kernel
theorem dL_law_379 : decode cL_law 379 = .ok (.aload_n 0, 1) := by decide +kernel
theorem dL_law_380 : decode cL_law 380 = .ok (.iload_n 3, 1) := by decide +kernel
theorem dL_law_381 : decode cL_law 381 = .ok (.iconst 3, 1) := by decide +kernel
end
section
theorem dL_law_382 : decode cL_law 382 = .ok (.iadd, 1) := by decide +kernel
theorem dL_law_383 : decode cL_law 383 = .ok (.iaload, 1) := by decide +kernel
theorem dL_law_384 : decode cL_law 384 = .ok (.aload_n 0, 1) := by decide +kernel
theorem dL_law_385 : decode cL_law 385 = .ok (.iload_n 3, 1) := by decide +kernel
theorem dL_law_386 : decode cL_law 386 = .ok (.iconst 4, 1) := by decide +kernel
theorem dL_law_387 : decode cL_law 387 = .ok (.iadd, 1) := by decide +kernel
theorem dL_law_388 : decode cL_law 388 = .ok (.iaload, 1) := by decide +kernel
theorem dL_law_389 : decode cL_law 389 = .ok (.aload_n 0, 1) := by decide +kernel
theorem dL_law_390 : decode cL_law 390 = .ok (.iload_n 3, 1) := by decide +kernel
theorem dL_law_391 : decode cL_law 391 = .ok (.iconst 5, 1) := by decide +kernel
theorem dL_law_392 : decode cL_law 392 = .ok (.iadd, 1) := by decide +kernel
theorem dL_law_393 : decode cL_law 393 = .ok (.iaload, 1) := by decide +kernel
theorem dL_law_394 : decode cL_law 394 = .ok (.invokevirtual 49, 3) := by decide +kernel
theorem dL_law_397 : decode cL_law 397 = .ok (.if_icmp .eq 258, 3) := by decide +kernel
theorem dL_law_400 : decode cL_law 400 = .ok (.iconst 0, 1) := by decide +kernel
theorem dL_law_401 : decode cL_law 401 = .ok (.ireturn, 1) := by decide +kernel
theorem dL_law_402 : decode cL_law 402 = .ok (.aload_n 1, 1) := by decide +kernel
theorem dL_law_403 : decode cL_law 403 = .ok (.aload_n 0, 1) := by decide +kernel
theorem dL_law_404 : decode cL_law 404 = .ok (.iload_n 3, 1) := by decide +kernel
theorem dL_law_405 : decode cL_law 405 = .ok (.iconst 1, 1) := by decide +kernel
theorem dL_law_406 : decode cL_law 406 = .ok (.iadd, 1) := by decide +kernel
theorem dL_law_407 : decode cL_law 407 = .ok (.iaload, 1) := by decide +kernel
theorem dL_law_408 : decode cL_law 408 = .ok (.invokevirtual 50, 3) := by decide +kernel
theorem dL_law_411 : decode cL_law 411 = .ok (.aload_n 2, 1) := by decide +kernel
theorem dL_law_412 : decode cL_law 412 = .ok (.aload_n 0, 1) := by decide +kernel
theorem dL_law_413 : decode cL_law 413 = .ok (.iload_n 3, 1) := by decide +kernel
theorem dL_law_414 : decode cL_law 414 = .ok (.iconst 1, 1) := by decide +kernel
theorem dL_law_415 : decode cL_law 415 = .ok (.iadd, 1) := by decide +kernel
theorem dL_law_416 : decode cL_law 416 = .ok (.iaload, 1) := by decide +kernel
theorem dL_law_417 : decode cL_law 417 = .ok (.invokevirtual 53, 3) := by decide +kernel
theorem dL_law_420 : decode cL_law 420 = .ok (.if_icmp .eq 235, 3) := by decide +kernel
theorem dL_law_423 : decode cL_law 423 = .ok (.iconst 0, 1) := by decide +kernel
theorem dL_law_424 : decode cL_law 424 = .ok (.ireturn, 1) := by decide +kernel
theorem dL_law_425 : decode cL_law 425 = .ok (.aload_n 1, 1) := by decide +kernel
theorem dL_law_426 : decode cL_law 426 = .ok (.invokevirtual 54, 3) := by decide +kernel
theorem dL_law_429 : decode cL_law 429 = .ok (.aload_n 2, 1) := by decide +kernel
theorem dL_law_430 : decode cL_law 430 = .ok (.invokevirtual 58, 3) := by decide +kernel
theorem dL_law_433 : decode cL_law 433 = .ok (.if_icmp .eq 222, 3) := by decide +kernel
theorem dL_law_436 : decode cL_law 436 = .ok (.iconst 0, 1) := by decide +kernel
theorem dL_law_437 : decode cL_law 437 = .ok (.ireturn, 1) := by decide +kernel
theorem dL_law_438 : decode cL_law 438 = .ok (.aload_n 1, 1) := by decide +kernel
theorem dL_law_439 : decode cL_law 439 = .ok (.aload_n 0, 1) := by decide +kernel
theorem dL_law_440 : decode cL_law 440 = .ok (.iload_n 3, 1) := by decide +kernel
theorem dL_law_441 : decode cL_law 441 = .ok (.iconst 1, 1) := by decide +kernel
theorem dL_law_442 : decode cL_law 442 = .ok (.iadd, 1) := by decide +kernel
theorem dL_law_443 : decode cL_law 443 = .ok (.iaload, 1) := by decide +kernel
theorem dL_law_444 : decode cL_law 444 = .ok (.invokevirtual 59, 3) := by decide +kernel
theorem dL_law_447 : decode cL_law 447 = .ok (.aload_n 2, 1) := by decide +kernel
theorem dL_law_448 : decode cL_law 448 = .ok (.aload_n 0, 1) := by decide +kernel
theorem dL_law_449 : decode cL_law 449 = .ok (.iload_n 3, 1) := by decide +kernel
theorem dL_law_450 : decode cL_law 450 = .ok (.iconst 1, 1) := by decide +kernel
theorem dL_law_451 : decode cL_law 451 = .ok (.iadd, 1) := by decide +kernel
theorem dL_law_452 : decode cL_law 452 = .ok (.iaload, 1) := by decide +kernel
theorem dL_law_453 : decode cL_law 453 = .ok (.invokevirtual 62, 3) := by decide +kernel
theorem dL_law_456 : decode cL_law 456 = .ok (.if_icmp .eq 199, 3) := by decide +kernel
theorem dL_law_459 : decode cL_law 459 = .ok (.iconst 0, 1) := by decide +kernel
theorem dL_law_460 : decode cL_law 460 = .ok (.ireturn, 1) := by decide +kernel
theorem dL_law_461 : decode cL_law 461 = .ok (.aload_n 1, 1) := by decide +kernel
theorem dL_law_462 : decode cL_law 462 = .ok (.aload_n 0, 1) := by decide +kernel
theorem dL_law_463 : decode cL_law 463 = .ok (.iload_n 3, 1) := by decide +kernel
theorem dL_law_464 : decode cL_law 464 = .ok (.iconst 1, 1) := by decide +kernel
theorem dL_law_465 : decode cL_law 465 = .ok (.iadd, 1) := by decide +kernel
theorem dL_law_466 : decode cL_law 466 = .ok (.iaload, 1) := by decide +kernel
theorem dL_law_467 : decode cL_law 467 = .ok (.aload_n 0, 1) := by decide +kernel
theorem dL_law_468 : decode cL_law 468 = .ok (.iload_n 3, 1) := by decide +kernel
theorem dL_law_469 : decode cL_law 469 = .ok (.iconst 2, 1) := by decide +kernel
theorem dL_law_470 : decode cL_law 470 = .ok (.iadd, 1) := by decide +kernel
theorem dL_law_471 : decode cL_law 471 = .ok (.iaload, 1) := by decide +kernel
theorem dL_law_472 : decode cL_law 472 = .ok (.ifCond .eq 7, 3) := by decide +kernel
theorem dL_law_475 : decode cL_law 475 = .ok (.iconst 1, 1) := by decide +kernel
theorem dL_law_476 : decode cL_law 476 = .ok (.goto 4, 3) := by decide +kernel
theorem dL_law_479 : decode cL_law 479 = .ok (.iconst 0, 1) := by decide +kernel
theorem dL_law_480 : decode cL_law 480 = .ok (.invokevirtual 63, 3) := by decide +kernel
theorem dL_law_483 : decode cL_law 483 = .ok (.aload_n 2, 1) := by decide +kernel
theorem dL_law_484 : decode cL_law 484 = .ok (.aload_n 0, 1) := by decide +kernel
theorem dL_law_485 : decode cL_law 485 = .ok (.iload_n 3, 1) := by decide +kernel
theorem dL_law_486 : decode cL_law 486 = .ok (.iconst 1, 1) := by decide +kernel
theorem dL_law_487 : decode cL_law 487 = .ok (.iadd, 1) := by decide +kernel
theorem dL_law_488 : decode cL_law 488 = .ok (.iaload, 1) := by decide +kernel
theorem dL_law_489 : decode cL_law 489 = .ok (.aload_n 0, 1) := by decide +kernel
theorem dL_law_490 : decode cL_law 490 = .ok (.iload_n 3, 1) := by decide +kernel
theorem dL_law_491 : decode cL_law 491 = .ok (.iconst 2, 1) := by decide +kernel
theorem dL_law_492 : decode cL_law 492 = .ok (.iadd, 1) := by decide +kernel
theorem dL_law_493 : decode cL_law 493 = .ok (.iaload, 1) := by decide +kernel
theorem dL_law_494 : decode cL_law 494 = .ok (.ifCond .eq 7, 3) := by decide +kernel
theorem dL_law_497 : decode cL_law 497 = .ok (.iconst 1, 1) := by decide +kernel
theorem dL_law_498 : decode cL_law 498 = .ok (.goto 4, 3) := by decide +kernel
theorem dL_law_501 : decode cL_law 501 = .ok (.iconst 0, 1) := by decide +kernel
theorem dL_law_502 : decode cL_law 502 = .ok (.invokevirtual 67, 3) := by decide +kernel
theorem dL_law_505 : decode cL_law 505 = .ok (.if_icmp .eq 150, 3) := by decide +kernel
theorem dL_law_508 : decode cL_law 508 = .ok (.iconst 0, 1) := by decide +kernel
theorem dL_law_509 : decode cL_law 509 = .ok (.ireturn, 1) := by decide +kernel
theorem dL_law_510 : decode cL_law 510 = .ok (.aload_n 1, 1) := by decide +kernel
theorem dL_law_511 : decode cL_law 511 = .ok (.aload_n 0, 1) := by decide +kernel
theorem dL_law_512 : decode cL_law 512 = .ok (.iload_n 3, 1) := by decide +kernel
theorem dL_law_513 : decode cL_law 513 = .ok (.iconst 1, 1) := by decide +kernel
theorem dL_law_514 : decode cL_law 514 = .ok (.iadd, 1) := by decide +kernel
theorem dL_law_515 : decode cL_law 515 = .ok (.iaload, 1) := by decide +kernel
theorem dL_law_516 : decode cL_law 516 = .ok (.aload_n 0, 1) := by decide +kernel
theorem dL_law_517 : decode cL_law 517 = .ok (.iload_n 3, 1) := by decide +kernel
theorem dL_law_518 : decode cL_law 518 = .ok (.iconst 2, 1) := by decide +kernel
theorem dL_law_519 : decode cL_law 519 = .ok (.iadd, 1) := by decide +kernel
theorem dL_law_520 : decode cL_law 520 = .ok (.iaload, 1) := by decide +kernel
theorem dL_law_521 : decode cL_law 521 = .ok (.ifCond .eq 7, 3) := by decide +kernel
theorem dL_law_524 : decode cL_law 524 = .ok (.iconst 1, 1) := by decide +kernel
theorem dL_law_525 : decode cL_law 525 = .ok (.goto 4, 3) := by decide +kernel
theorem dL_law_528 : decode cL_law 528 = .ok (.iconst 0, 1) := by decide +kernel
theorem dL_law_529 : decode cL_law 529 = .ok (.aload_n 0, 1) := by decide +kernel
theorem dL_law_530 : decode cL_law 530 = .ok (.iload_n 3, 1) := by decide +kernel
theorem dL_law_531 : decode cL_law 531 = .ok (.iconst 3, 1) := by decide +kernel
theorem dL_law_532 : decode cL_law 532 = .ok (.iadd, 1) := by decide +kernel
theorem dL_law_533 : decode cL_law 533 = .ok (.iaload, 1) := by decide +kernel
theorem dL_law_534 : decode cL_law 534 = .ok (.invokevirtual 68, 3) := by decide +kernel
theorem dL_law_537 : decode cL_law 537 = .ok (.aload_n 2, 1) := by decide +kernel
theorem dL_law_538 : decode cL_law 538 = .ok (.aload_n 0, 1) := by decide +kernel
theorem dL_law_539 : decode cL_law 539 = .ok (.iload_n 3, 1) := by decide +kernel
theorem dL_law_540 : decode cL_law 540 = .ok (.iconst 1, 1) := by decide +kernel
theorem dL_law_541 : decode cL_law 541 = .ok (.iadd, 1) := by decide +kernel
theorem dL_law_542 : decode cL_law 542 = .ok (.iaload, 1) := by decide +kernel
theorem dL_law_543 : decode cL_law 543 = .ok (.aload_n 0, 1) := by decide +kernel
theorem dL_law_544 : decode cL_law 544 = .ok (.iload_n 3, 1) := by decide +kernel
theorem dL_law_545 : decode cL_law 545 = .ok (.iconst 2, 1) := by decide +kernel
theorem dL_law_546 : decode cL_law 546 = .ok (.iadd, 1) := by decide +kernel
theorem dL_law_547 : decode cL_law 547 = .ok (.iaload, 1) := by decide +kernel
theorem dL_law_548 : decode cL_law 548 = .ok (.ifCond .eq 7, 3) := by decide +kernel
theorem dL_law_551 : decode cL_law 551 = .ok (.iconst 1, 1) := by decide +kernel
theorem dL_law_552 : decode cL_law 552 = .ok (.goto 4, 3) := by decide +kernel
theorem dL_law_555 : decode cL_law 555 = .ok (.iconst 0, 1) := by decide +kernel
theorem dL_law_556 : decode cL_law 556 = .ok (.aload_n 0, 1) := by decide +kernel
theorem dL_law_557 : decode cL_law 557 = .ok (.iload_n 3, 1) := by decide +kernel
theorem dL_law_558 : decode cL_law 558 = .ok (.iconst 3, 1) := by decide +kernel
theorem dL_law_559 : decode cL_law 559 = .ok (.iadd, 1) := by decide +kernel
theorem dL_law_560 : decode cL_law 560 = .ok (.iaload, 1) := by decide +kernel
theorem dL_law_561 : decode cL_law 561 = .ok (.invokevirtual 72, 3) := by decide +kernel
theorem dL_law_564 : decode cL_law 564 = .ok (.if_icmp .eq 91, 3) := by decide +kernel
theorem dL_law_567 : decode cL_law 567 = .ok (.iconst 0, 1) := by decide +kernel
theorem dL_law_568 : decode cL_law 568 = .ok (.ireturn, 1) := by decide +kernel
theorem dL_law_569 : decode cL_law 569 = .ok (.aload_n 1, 1) := by decide +kernel
theorem dL_law_570 : decode cL_law 570 = .ok (.aload_n 0, 1) := by decide +kernel
theorem dL_law_571 : decode cL_law 571 = .ok (.iload_n 3, 1) := by decide +kernel
theorem dL_law_572 : decode cL_law 572 = .ok (.iconst 1, 1) := by decide +kernel
theorem dL_law_573 : decode cL_law 573 = .ok (.iadd, 1) := by decide +kernel
theorem dL_law_574 : decode cL_law 574 = .ok (.iaload, 1) := by decide +kernel
theorem dL_law_575 : decode cL_law 575 = .ok (.aload_n 0, 1) := by decide +kernel
theorem dL_law_576 : decode cL_law 576 = .ok (.iload_n 3, 1) := by decide +kernel
theorem dL_law_577 : decode cL_law 577 = .ok (.iconst 2, 1) := by decide +kernel
theorem dL_law_578 : decode cL_law 578 = .ok (.iadd, 1) := by decide +kernel
theorem dL_law_579 : decode cL_law 579 = .ok (.iaload, 1) := by decide +kernel
theorem dL_law_580 : decode cL_law 580 = .ok (.aload_n 0, 1) := by decide +kernel
theorem dL_law_581 : decode cL_law 581 = .ok (.iload_n 3, 1) := by decide +kernel
theorem dL_law_582 : decode cL_law 582 = .ok (.iconst 3, 1) := by decide +kernel
theorem dL_law_583 : decode cL_law 583 = .ok (.iadd, 1) := by decide +kernel
theorem dL_law_584 : decode cL_law 584 = .ok (.iaload, 1) := by decide +kernel
theorem dL_law_585 : decode cL_law 585 = .ok (.invokevirtual 73, 3) := by decide +kernel
theorem dL_law_588 : decode cL_law 588 = .ok (.aload_n 2, 1) := by decide +kernel
theorem dL_law_589 : decode cL_law 589 = .ok (.aload_n 0, 1) := by decide +kernel
theorem dL_law_590 : decode cL_law 590 = .ok (.iload_n 3, 1) := by decide +kernel
theorem dL_law_591 : decode cL_law 591 = .ok (.iconst 1, 1) := by decide +kernel
theorem dL_law_592 : decode cL_law 592 = .ok (.iadd, 1) := by decide +kernel
theorem dL_law_593 : decode cL_law 593 = .ok (.iaload, 1) := by decide +kernel
theorem dL_law_594 : decode cL_law 594 = .ok (.aload_n 0, 1) := by decide +kernel
theorem dL_law_595 : decode cL_law 595 = .ok (.iload_n 3, 1) := by decide +kernel
theorem dL_law_596 : decode cL_law 596 = .ok (.iconst 2, 1) := by decide +kernel
theorem dL_law_597 : decode cL_law 597 = .ok (.iadd, 1) := by decide +kernel
theorem dL_law_598 : decode cL_law 598 = .ok (.iaload, 1) := by decide +kernel
theorem dL_law_599 : decode cL_law 599 = .ok (.aload_n 0, 1) := by decide +kernel
theorem dL_law_600 : decode cL_law 600 = .ok (.iload_n 3, 1) := by decide +kernel
theorem dL_law_601 : decode cL_law 601 = .ok (.iconst 3, 1) := by decide +kernel
theorem dL_law_602 : decode cL_law 602 = .ok (.iadd, 1) := by decide +kernel
theorem dL_law_603 : decode cL_law 603 = .ok (.iaload, 1) := by decide +kernel
theorem dL_law_604 : decode cL_law 604 = .ok (.invokevirtual 76, 3) := by decide +kernel
theorem dL_law_607 : decode cL_law 607 = .ok (.if_icmp .eq 48, 3) := by decide +kernel
theorem dL_law_610 : decode cL_law 610 = .ok (.iconst 0, 1) := by decide +kernel
theorem dL_law_611 : decode cL_law 611 = .ok (.ireturn, 1) := by decide +kernel
theorem dL_law_612 : decode cL_law 612 = .ok (.aload_n 1, 1) := by decide +kernel
theorem dL_law_613 : decode cL_law 613 = .ok (.aload_n 0, 1) := by decide +kernel
theorem dL_law_614 : decode cL_law 614 = .ok (.iload_n 3, 1) := by decide +kernel
theorem dL_law_615 : decode cL_law 615 = .ok (.iconst 1, 1) := by decide +kernel
theorem dL_law_616 : decode cL_law 616 = .ok (.iadd, 1) := by decide +kernel
theorem dL_law_617 : decode cL_law 617 = .ok (.iaload, 1) := by decide +kernel
theorem dL_law_618 : decode cL_law 618 = .ok (.aload_n 0, 1) := by decide +kernel
theorem dL_law_619 : decode cL_law 619 = .ok (.iload_n 3, 1) := by decide +kernel
theorem dL_law_620 : decode cL_law 620 = .ok (.iconst 2, 1) := by decide +kernel
theorem dL_law_621 : decode cL_law 621 = .ok (.iadd, 1) := by decide +kernel
theorem dL_law_622 : decode cL_law 622 = .ok (.iaload, 1) := by decide +kernel
theorem dL_law_623 : decode cL_law 623 = .ok (.aload_n 0, 1) := by decide +kernel
theorem dL_law_624 : decode cL_law 624 = .ok (.iload_n 3, 1) := by decide +kernel
theorem dL_law_625 : decode cL_law 625 = .ok (.iconst 3, 1) := by decide +kernel
theorem dL_law_626 : decode cL_law 626 = .ok (.iadd, 1) := by decide +kernel
theorem dL_law_627 : decode cL_law 627 = .ok (.iaload, 1) := by decide +kernel
theorem dL_law_628 : decode cL_law 628 = .ok (.invokevirtual 77, 3) := by decide +kernel
theorem dL_law_631 : decode cL_law 631 = .ok (.aload_n 2, 1) := by decide +kernel
theorem dL_law_632 : decode cL_law 632 = .ok (.aload_n 0, 1) := by decide +kernel
theorem dL_law_633 : decode cL_law 633 = .ok (.iload_n 3, 1) := by decide +kernel
theorem dL_law_634 : decode cL_law 634 = .ok (.iconst 1, 1) := by decide +kernel
theorem dL_law_635 : decode cL_law 635 = .ok (.iadd, 1) := by decide +kernel
theorem dL_law_636 : decode cL_law 636 = .ok (.iaload, 1) := by decide +kernel
theorem dL_law_637 : decode cL_law 637 = .ok (.aload_n 0, 1) := by decide +kernel
theorem dL_law_638 : decode cL_law 638 = .ok (.iload_n 3, 1) := by decide +kernel
theorem dL_law_639 : decode cL_law 639 = .ok (.iconst 2, 1) := by decide +kernel
theorem dL_law_640 : decode cL_law 640 = .ok (.iadd, 1) := by decide +kernel
theorem dL_law_641 : decode cL_law 641 = .ok (.iaload, 1) := by decide +kernel
theorem dL_law_642 : decode cL_law 642 = .ok (.aload_n 0, 1) := by decide +kernel
theorem dL_law_643 : decode cL_law 643 = .ok (.iload_n 3, 1) := by decide +kernel
theorem dL_law_644 : decode cL_law 644 = .ok (.iconst 3, 1) := by decide +kernel
theorem dL_law_645 : decode cL_law 645 = .ok (.iadd, 1) := by decide +kernel
theorem dL_law_646 : decode cL_law 646 = .ok (.iaload, 1) := by decide +kernel
theorem dL_law_647 : decode cL_law 647 = .ok (.invokevirtual 80, 3) := by decide +kernel
theorem dL_law_650 : decode cL_law 650 = .ok (.if_icmp .eq 5, 3) := by decide +kernel
theorem dL_law_653 : decode cL_law 653 = .ok (.iconst 0, 1) := by decide +kernel
theorem dL_law_654 : decode cL_law 654 = .ok (.ireturn, 1) := by decide +kernel
theorem dL_law_655 : decode cL_law 655 = .ok (.iinc 3 6, 3) := by decide +kernel
theorem dL_law_658 : decode cL_law 658 = .ok (.goto (-640), 3) := by decide +kernel
theorem dL_law_661 : decode cL_law 661 = .ok (.iconst 1, 1) := by decide +kernel
theorem dL_law_662 : decode cL_law 662 = .ok (.ireturn, 1) := by decide +kernel
end
section
theorem zz_none : True := trivial
end
