section
-- ===== PART A: goes FIRST, ahead of the names: the tables' words, and 'selects' of the private methods out of them =====
/-- a private method of a class that the tables say can be made, by its rows of tables_1 -/
def lw_okq (q : MethodName × Nat) : Prop := (q.1.cls ≠ "java/lang/invoke/MethodHandle" ∧ q.1.cls ≠ "java/lang/invoke/VarHandle") ∧ Cond.instantiable q.1.cls q.2 ∈ tables_1 ∧ Cond.privateMethod q.1 ∈ tables_1 ∧ Cond.instanceMethod q.1 ∈ tables_1
theorem lw_p0 : lw_okq (⟨"BlobJournal", "findBlob", "(J)I"⟩, 14) := ⟨⟨by decide +kernel, by decide +kernel⟩, List.mem_of_getElem? (i := 13) (by decide +kernel), List.mem_of_getElem? (i := 83) (by decide +kernel), List.mem_of_getElem? (i := 84) (by decide +kernel)⟩
theorem lw_p1 : lw_okq (⟨"BlobJournal", "rewriteBlobs", "()V"⟩, 14) := ⟨⟨by decide +kernel, by decide +kernel⟩, List.mem_of_getElem? (i := 13) (by decide +kernel), List.mem_of_getElem? (i := 95) (by decide +kernel), List.mem_of_getElem? (i := 96) (by decide +kernel)⟩
theorem lw_p2 : lw_okq (⟨"BlobJournal", "isTold", "(I)Z"⟩, 14) := ⟨⟨by decide +kernel, by decide +kernel⟩, List.mem_of_getElem? (i := 13) (by decide +kernel), List.mem_of_getElem? (i := 99) (by decide +kernel), List.mem_of_getElem? (i := 100) (by decide +kernel)⟩
theorem lw_p3 : lw_okq (⟨"BlobJournal", "rewriteTags", "()V"⟩, 14) := ⟨⟨by decide +kernel, by decide +kernel⟩, List.mem_of_getElem? (i := 13) (by decide +kernel), List.mem_of_getElem? (i := 106) (by decide +kernel), List.mem_of_getElem? (i := 107) (by decide +kernel)⟩
theorem lw_p4 : lw_okq (⟨"BlobJournal", "writeTell", "(IJ)I"⟩, 14) := ⟨⟨by decide +kernel, by decide +kernel⟩, List.mem_of_getElem? (i := 13) (by decide +kernel), List.mem_of_getElem? (i := 110) (by decide +kernel), List.mem_of_getElem? (i := 111) (by decide +kernel)⟩
theorem lw_p5 : lw_okq (⟨"BlobJournal", "writeHead", "(II)I"⟩, 14) := ⟨⟨by decide +kernel, by decide +kernel⟩, List.mem_of_getElem? (i := 13) (by decide +kernel), List.mem_of_getElem? (i := 114) (by decide +kernel), List.mem_of_getElem? (i := 115) (by decide +kernel)⟩
theorem lw_p6 : lw_okq (⟨"BlobJournal", "writeByte", "(I)V"⟩, 14) := ⟨⟨by decide +kernel, by decide +kernel⟩, List.mem_of_getElem? (i := 13) (by decide +kernel), List.mem_of_getElem? (i := 118) (by decide +kernel), List.mem_of_getElem? (i := 119) (by decide +kernel)⟩
theorem lw_p7 : lw_okq (⟨"BlobJournal", "writeLong", "(J)V"⟩, 14) := ⟨⟨by decide +kernel, by decide +kernel⟩, List.mem_of_getElem? (i := 13) (by decide +kernel), List.mem_of_getElem? (i := 122) (by decide +kernel), List.mem_of_getElem? (i := 123) (by decide +kernel)⟩
theorem lw_p8 : lw_okq (⟨"BlobJournal", "writeSum", "(I)V"⟩, 14) := ⟨⟨by decide +kernel, by decide +kernel⟩, List.mem_of_getElem? (i := 13) (by decide +kernel), List.mem_of_getElem? (i := 126) (by decide +kernel), List.mem_of_getElem? (i := 127) (by decide +kernel)⟩
theorem lw_p9 : lw_okq (⟨"BlobJournal", "sumOf", "(II)I"⟩, 14) := ⟨⟨by decide +kernel, by decide +kernel⟩, List.mem_of_getElem? (i := 13) (by decide +kernel), List.mem_of_getElem? (i := 130) (by decide +kernel), List.mem_of_getElem? (i := 131) (by decide +kernel)⟩
theorem lw_p10 : lw_okq (⟨"BlobJournal", "rewriteKeys", "()V"⟩, 14) := ⟨⟨by decide +kernel, by decide +kernel⟩, List.mem_of_getElem? (i := 13) (by decide +kernel), List.mem_of_getElem? (i := 134) (by decide +kernel), List.mem_of_getElem? (i := 135) (by decide +kernel)⟩
theorem lw_p11 : lw_okq (⟨"BlobJournal", "writeKey", "(JJ)I"⟩, 14) := ⟨⟨by decide +kernel, by decide +kernel⟩, List.mem_of_getElem? (i := 13) (by decide +kernel), List.mem_of_getElem? (i := 138) (by decide +kernel), List.mem_of_getElem? (i := 139) (by decide +kernel)⟩
theorem lw_p12 : lw_okq (⟨"BlobJournal", "restore", "()V"⟩, 14) := ⟨⟨by decide +kernel, by decide +kernel⟩, List.mem_of_getElem? (i := 13) (by decide +kernel), List.mem_of_getElem? (i := 142) (by decide +kernel), List.mem_of_getElem? (i := 143) (by decide +kernel)⟩
theorem lw_p13 : lw_okq (⟨"BlobJournal", "isWhole", "(II)Z"⟩, 14) := ⟨⟨by decide +kernel, by decide +kernel⟩, List.mem_of_getElem? (i := 13) (by decide +kernel), List.mem_of_getElem? (i := 146) (by decide +kernel), List.mem_of_getElem? (i := 147) (by decide +kernel)⟩
theorem lw_p14 : lw_okq (⟨"BlobJournal", "lengthAt", "(I)I"⟩, 14) := ⟨⟨by decide +kernel, by decide +kernel⟩, List.mem_of_getElem? (i := 13) (by decide +kernel), List.mem_of_getElem? (i := 150) (by decide +kernel), List.mem_of_getElem? (i := 151) (by decide +kernel)⟩
theorem lw_p15 : lw_okq (⟨"BlobJournal", "follow", "(I)Z"⟩, 14) := ⟨⟨by decide +kernel, by decide +kernel⟩, List.mem_of_getElem? (i := 13) (by decide +kernel), List.mem_of_getElem? (i := 154) (by decide +kernel), List.mem_of_getElem? (i := 155) (by decide +kernel)⟩
def lw_privs_1 : List (MethodName × Nat) := [(⟨"BlobJournal", "findBlob", "(J)I"⟩, 14), (⟨"BlobJournal", "rewriteBlobs", "()V"⟩, 14), (⟨"BlobJournal", "isTold", "(I)Z"⟩, 14), (⟨"BlobJournal", "rewriteTags", "()V"⟩, 14), (⟨"BlobJournal", "writeTell", "(IJ)I"⟩, 14), (⟨"BlobJournal", "writeHead", "(II)I"⟩, 14), (⟨"BlobJournal", "writeByte", "(I)V"⟩, 14), (⟨"BlobJournal", "writeLong", "(J)V"⟩, 14), (⟨"BlobJournal", "writeSum", "(I)V"⟩, 14), (⟨"BlobJournal", "sumOf", "(II)I"⟩, 14), (⟨"BlobJournal", "rewriteKeys", "()V"⟩, 14), (⟨"BlobJournal", "writeKey", "(JJ)I"⟩, 14), (⟨"BlobJournal", "restore", "()V"⟩, 14), (⟨"BlobJournal", "isWhole", "(II)Z"⟩, 14), (⟨"BlobJournal", "lengthAt", "(I)I"⟩, 14), (⟨"BlobJournal", "follow", "(I)Z"⟩, 14)]
theorem lw_r1 : ∀ q ∈ lw_privs_1, lw_okq q := List.forall_mem_cons.mpr ⟨lw_p0, List.forall_mem_cons.mpr ⟨lw_p1, List.forall_mem_cons.mpr ⟨lw_p2, List.forall_mem_cons.mpr ⟨lw_p3, List.forall_mem_cons.mpr ⟨lw_p4, List.forall_mem_cons.mpr ⟨lw_p5, List.forall_mem_cons.mpr ⟨lw_p6, List.forall_mem_cons.mpr ⟨lw_p7, List.forall_mem_cons.mpr ⟨lw_p8, List.forall_mem_cons.mpr ⟨lw_p9, List.forall_mem_cons.mpr ⟨lw_p10, List.forall_mem_cons.mpr ⟨lw_p11, List.forall_mem_cons.mpr ⟨lw_p12, List.forall_mem_cons.mpr ⟨lw_p13, List.forall_mem_cons.mpr ⟨lw_p14, List.forall_mem_cons.mpr ⟨lw_p15, fun _ h => absurd h List.not_mem_nil⟩⟩⟩⟩⟩⟩⟩⟩⟩⟩⟩⟩⟩⟩⟩⟩
theorem lw_p16 : lw_okq (⟨"BlobJournal", "followBlob", "(II)Z"⟩, 14) := ⟨⟨by decide +kernel, by decide +kernel⟩, List.mem_of_getElem? (i := 13) (by decide +kernel), List.mem_of_getElem? (i := 158) (by decide +kernel), List.mem_of_getElem? (i := 159) (by decide +kernel)⟩
theorem lw_p17 : lw_okq (⟨"BlobJournal", "longAt", "(I)J"⟩, 14) := ⟨⟨by decide +kernel, by decide +kernel⟩, List.mem_of_getElem? (i := 13) (by decide +kernel), List.mem_of_getElem? (i := 162) (by decide +kernel), List.mem_of_getElem? (i := 163) (by decide +kernel)⟩
theorem lw_p18 : lw_okq (⟨"BlobJournal", "followTell", "(IJ)Z"⟩, 14) := ⟨⟨by decide +kernel, by decide +kernel⟩, List.mem_of_getElem? (i := 13) (by decide +kernel), List.mem_of_getElem? (i := 166) (by decide +kernel), List.mem_of_getElem? (i := 167) (by decide +kernel)⟩
theorem lw_p19 : lw_okq (⟨"BlobJournal", "followUntell", "(I)Z"⟩, 14) := ⟨⟨by decide +kernel, by decide +kernel⟩, List.mem_of_getElem? (i := 13) (by decide +kernel), List.mem_of_getElem? (i := 173) (by decide +kernel), List.mem_of_getElem? (i := 174) (by decide +kernel)⟩
theorem lw_p20 : lw_okq (⟨"BlobJournal", "followKey", "(JJ)Z"⟩, 14) := ⟨⟨by decide +kernel, by decide +kernel⟩, List.mem_of_getElem? (i := 13) (by decide +kernel), List.mem_of_getElem? (i := 177) (by decide +kernel), List.mem_of_getElem? (i := 178) (by decide +kernel)⟩
theorem lw_p21 : lw_okq (⟨"BlobJournal", "findKey", "(J)I"⟩, 14) := ⟨⟨by decide +kernel, by decide +kernel⟩, List.mem_of_getElem? (i := 13) (by decide +kernel), List.mem_of_getElem? (i := 181) (by decide +kernel), List.mem_of_getElem? (i := 182) (by decide +kernel)⟩
theorem lw_p22 : lw_okq (⟨"java/lang/Throwable", "fillInStackTrace", "(I)Ljava/lang/Throwable;"⟩, 6) := ⟨⟨by decide +kernel, by decide +kernel⟩, List.mem_of_getElem? (i := 232) (by decide +kernel), List.mem_of_getElem? (i := 230) (by decide +kernel), List.mem_of_getElem? (i := 231) (by decide +kernel)⟩
theorem lw_p23 : lw_okq (⟨"BlobJournal", "demandRoom", "(I)V"⟩, 14) := ⟨⟨by decide +kernel, by decide +kernel⟩, List.mem_of_getElem? (i := 13) (by decide +kernel), List.mem_of_getElem? (i := 294) (by decide +kernel), List.mem_of_getElem? (i := 295) (by decide +kernel)⟩
theorem lw_p24 : lw_okq (⟨"BlobJournal", "writeTyped", "()I"⟩, 14) := ⟨⟨by decide +kernel, by decide +kernel⟩, List.mem_of_getElem? (i := 13) (by decide +kernel), List.mem_of_getElem? (i := 299) (by decide +kernel), List.mem_of_getElem? (i := 300) (by decide +kernel)⟩
theorem lw_p25 : lw_okq (⟨"BlobJournal", "writeUntell", "(I)I"⟩, 14) := ⟨⟨by decide +kernel, by decide +kernel⟩, List.mem_of_getElem? (i := 13) (by decide +kernel), List.mem_of_getElem? (i := 339) (by decide +kernel), List.mem_of_getElem? (i := 340) (by decide +kernel)⟩
theorem lw_p26 : lw_okq (⟨"BlobJournalModel", "digestOfTyped", "()J"⟩, 18) := ⟨⟨by decide +kernel, by decide +kernel⟩, List.mem_of_getElem? (i := 425) (by decide +kernel), List.mem_of_getElem? (i := 503) (by decide +kernel), List.mem_of_getElem? (i := 504) (by decide +kernel)⟩
theorem lw_p27 : lw_okq (⟨"BlobJournalModel", "next", "(JI)V"⟩, 18) := ⟨⟨by decide +kernel, by decide +kernel⟩, List.mem_of_getElem? (i := 425) (by decide +kernel), List.mem_of_getElem? (i := 520) (by decide +kernel), List.mem_of_getElem? (i := 521) (by decide +kernel)⟩
theorem lw_p28 : lw_okq (⟨"BlobJournalModel", "blobOf", "(J)I"⟩, 18) := ⟨⟨by decide +kernel, by decide +kernel⟩, List.mem_of_getElem? (i := 425) (by decide +kernel), List.mem_of_getElem? (i := 525) (by decide +kernel), List.mem_of_getElem? (i := 526) (by decide +kernel)⟩
theorem lw_p29 : lw_okq (⟨"BlobJournalModel", "hasRoom", "()Z"⟩, 18) := ⟨⟨by decide +kernel, by decide +kernel⟩, List.mem_of_getElem? (i := 425) (by decide +kernel), List.mem_of_getElem? (i := 529) (by decide +kernel), List.mem_of_getElem? (i := 530) (by decide +kernel)⟩
theorem lw_p30 : lw_okq (⟨"BlobJournalModel", "write", "(I)V"⟩, 18) := ⟨⟨by decide +kernel, by decide +kernel⟩, List.mem_of_getElem? (i := 425) (by decide +kernel), List.mem_of_getElem? (i := 533) (by decide +kernel), List.mem_of_getElem? (i := 534) (by decide +kernel)⟩
theorem lw_p31 : lw_okq (⟨"BlobJournalModel", "says", "(I)Z"⟩, 18) := ⟨⟨by decide +kernel, by decide +kernel⟩, List.mem_of_getElem? (i := 425) (by decide +kernel), List.mem_of_getElem? (i := 537) (by decide +kernel), List.mem_of_getElem? (i := 538) (by decide +kernel)⟩
def lw_privs_2 : List (MethodName × Nat) := [(⟨"BlobJournal", "followBlob", "(II)Z"⟩, 14), (⟨"BlobJournal", "longAt", "(I)J"⟩, 14), (⟨"BlobJournal", "followTell", "(IJ)Z"⟩, 14), (⟨"BlobJournal", "followUntell", "(I)Z"⟩, 14), (⟨"BlobJournal", "followKey", "(JJ)Z"⟩, 14), (⟨"BlobJournal", "findKey", "(J)I"⟩, 14), (⟨"java/lang/Throwable", "fillInStackTrace", "(I)Ljava/lang/Throwable;"⟩, 6), (⟨"BlobJournal", "demandRoom", "(I)V"⟩, 14), (⟨"BlobJournal", "writeTyped", "()I"⟩, 14), (⟨"BlobJournal", "writeUntell", "(I)I"⟩, 14), (⟨"BlobJournalModel", "digestOfTyped", "()J"⟩, 18), (⟨"BlobJournalModel", "next", "(JI)V"⟩, 18), (⟨"BlobJournalModel", "blobOf", "(J)I"⟩, 18), (⟨"BlobJournalModel", "hasRoom", "()Z"⟩, 18), (⟨"BlobJournalModel", "write", "(I)V"⟩, 18), (⟨"BlobJournalModel", "says", "(I)Z"⟩, 18)]
theorem lw_r2 : ∀ q ∈ lw_privs_2, lw_okq q := List.forall_mem_cons.mpr ⟨lw_p16, List.forall_mem_cons.mpr ⟨lw_p17, List.forall_mem_cons.mpr ⟨lw_p18, List.forall_mem_cons.mpr ⟨lw_p19, List.forall_mem_cons.mpr ⟨lw_p20, List.forall_mem_cons.mpr ⟨lw_p21, List.forall_mem_cons.mpr ⟨lw_p22, List.forall_mem_cons.mpr ⟨lw_p23, List.forall_mem_cons.mpr ⟨lw_p24, List.forall_mem_cons.mpr ⟨lw_p25, List.forall_mem_cons.mpr ⟨lw_p26, List.forall_mem_cons.mpr ⟨lw_p27, List.forall_mem_cons.mpr ⟨lw_p28, List.forall_mem_cons.mpr ⟨lw_p29, List.forall_mem_cons.mpr ⟨lw_p30, List.forall_mem_cons.mpr ⟨lw_p31, fun _ h => absurd h List.not_mem_nil⟩⟩⟩⟩⟩⟩⟩⟩⟩⟩⟩⟩⟩⟩⟩⟩
theorem lw_p32 : lw_okq (⟨"BlobJournalModel", "saysBlob", "()Z"⟩, 18) := ⟨⟨by decide +kernel, by decide +kernel⟩, List.mem_of_getElem? (i := 425) (by decide +kernel), List.mem_of_getElem? (i := 541) (by decide +kernel), List.mem_of_getElem? (i := 542) (by decide +kernel)⟩
theorem lw_p33 : lw_okq (⟨"BlobJournalModel", "digestOfRecord", "()J"⟩, 18) := ⟨⟨by decide +kernel, by decide +kernel⟩, List.mem_of_getElem? (i := 425) (by decide +kernel), List.mem_of_getElem? (i := 545) (by decide +kernel), List.mem_of_getElem? (i := 546) (by decide +kernel)⟩
theorem lw_p34 : lw_okq (⟨"BlobJournalModel", "eight", "(I)J"⟩, 18) := ⟨⟨by decide +kernel, by decide +kernel⟩, List.mem_of_getElem? (i := 425) (by decide +kernel), List.mem_of_getElem? (i := 549) (by decide +kernel), List.mem_of_getElem? (i := 550) (by decide +kernel)⟩
theorem lw_p35 : lw_okq (⟨"BlobJournalModel", "saysKey", "(JJ)Z"⟩, 18) := ⟨⟨by decide +kernel, by decide +kernel⟩, List.mem_of_getElem? (i := 425) (by decide +kernel), List.mem_of_getElem? (i := 553) (by decide +kernel), List.mem_of_getElem? (i := 554) (by decide +kernel)⟩
theorem lw_p36 : lw_okq (⟨"BlobJournalModel", "keyOf", "(J)I"⟩, 18) := ⟨⟨by decide +kernel, by decide +kernel⟩, List.mem_of_getElem? (i := 425) (by decide +kernel), List.mem_of_getElem? (i := 557) (by decide +kernel), List.mem_of_getElem? (i := 558) (by decide +kernel)⟩
theorem lw_p37 : lw_okq (⟨"BlobJournalModel", "empties", "()V"⟩, 18) := ⟨⟨by decide +kernel, by decide +kernel⟩, List.mem_of_getElem? (i := 425) (by decide +kernel), List.mem_of_getElem? (i := 612) (by decide +kernel), List.mem_of_getElem? (i := 613) (by decide +kernel)⟩
theorem lw_p38 : lw_okq (⟨"BlobJournalModel", "reads", "(II)I"⟩, 18) := ⟨⟨by decide +kernel, by decide +kernel⟩, List.mem_of_getElem? (i := 425) (by decide +kernel), List.mem_of_getElem? (i := 616) (by decide +kernel), List.mem_of_getElem? (i := 617) (by decide +kernel)⟩
theorem lw_p39 : lw_okq (⟨"BlobJournalModel", "isTold", "(J)Z"⟩, 18) := ⟨⟨by decide +kernel, by decide +kernel⟩, List.mem_of_getElem? (i := 425) (by decide +kernel), List.mem_of_getElem? (i := 624) (by decide +kernel), List.mem_of_getElem? (i := 625) (by decide +kernel)⟩
def lw_privs_3 : List (MethodName × Nat) := [(⟨"BlobJournalModel", "saysBlob", "()Z"⟩, 18), (⟨"BlobJournalModel", "digestOfRecord", "()J"⟩, 18), (⟨"BlobJournalModel", "eight", "(I)J"⟩, 18), (⟨"BlobJournalModel", "saysKey", "(JJ)Z"⟩, 18), (⟨"BlobJournalModel", "keyOf", "(J)I"⟩, 18), (⟨"BlobJournalModel", "empties", "()V"⟩, 18), (⟨"BlobJournalModel", "reads", "(II)I"⟩, 18), (⟨"BlobJournalModel", "isTold", "(J)Z"⟩, 18)]
theorem lw_r3 : ∀ q ∈ lw_privs_3, lw_okq q := List.forall_mem_cons.mpr ⟨lw_p32, List.forall_mem_cons.mpr ⟨lw_p33, List.forall_mem_cons.mpr ⟨lw_p34, List.forall_mem_cons.mpr ⟨lw_p35, List.forall_mem_cons.mpr ⟨lw_p36, List.forall_mem_cons.mpr ⟨lw_p37, List.forall_mem_cons.mpr ⟨lw_p38, List.forall_mem_cons.mpr ⟨lw_p39, fun _ h => absurd h List.not_mem_nil⟩⟩⟩⟩⟩⟩⟩⟩
def lw_privs : List (MethodName × Nat) := lw_privs_1 ++ (lw_privs_2 ++ (lw_privs_3))
def lw_tbl : List Cond := k2_sels lw_privs ++ tables_1
theorem lw_privs_ok : ∀ q ∈ lw_privs, lw_okq q := by
  show ∀ q ∈ lw_privs_1 ++ (lw_privs_2 ++ (lw_privs_3)), lw_okq q
  exact List.forall_mem_append.mpr ⟨lw_r1, List.forall_mem_append.mpr ⟨lw_r2, lw_r3⟩⟩
end
section
/-! names: classes, fields, methods, decode rows; where each word stands in the tables -/
def GW : List Cond := lw_tbl.filter goodWord
theorem gw_mem {i : Nat} {w : Cond} (h : (lw_tbl[i]? = some w) ∧ goodWord w = true) : w ∈ GW := List.mem_filter.mpr ⟨List.mem_of_getElem? h.1, h.2⟩
theorem gw_good {w : Cond} (h : w ∈ GW) : (w.onTables && w.keeps) = true ∨ ∃ ty, w = .arrayClass ty := good_of_word (List.mem_filter.mp h).2
theorem gw_goodIn {ws : List Cond} (h : ∀ w ∈ ws, w ∈ GW) : GoodIn GW ws := fun w hw => ⟨h w hw, gw_good (h w hw)⟩
def RX0 : String := "BlobJournal"
def TX0 : u_T := fun k => match k with
  | 0 => ("BlobJournal", "typed", "[I", true)
  | 1 => ("BlobJournal", "typedCount", "I", false)
  | 2 => ("BlobJournal", "written", "[I", true)
  | 3 => ("BlobJournal", "writtenCount", "I", false)
  | 4 => ("BlobJournal", "syncedCount", "I", false)
  | 5 => ("BlobJournal", "blobDigests", "[J", true)
  | 6 => ("BlobJournal", "blobStarts", "[I", true)
  | 7 => ("BlobJournal", "blobLengths", "[I", true)
  | 8 => ("BlobJournal", "blobCount", "I", false)
  | 9 => ("BlobJournal", "tagBlobs", "[I", true)
  | 10 => ("BlobJournal", "keys", "[J", true)
  | 11 => ("BlobJournal", "keyDigests", "[J", true)
  | 12 => ("BlobJournal", "keyCount", "I", false)
  | _ => ("BlobJournal", "pinDigests", "[J", true)
def tyX0 : Nat → FieldType := fun k => match k with
  | 0 => .array .int
  | 1 => .int
  | 2 => .array .int
  | 3 => .int
  | 4 => .int
  | 5 => .array .long
  | 6 => .array .int
  | 7 => .array .int
  | 8 => .int
  | 9 => .array .int
  | 10 => .array .long
  | 11 => .array .long
  | 12 => .int
  | _ => .array .long
theorem nmX0 : ∀ a, a < 14 → ∀ b, b < 14 → a ≠ b → (TX0 a).2.1 ≠ (TX0 b).2.1 := by decide +kernel
theorem tyX0_ok : ∀ k, k < 14 → parseFieldDescriptor (TX0 k).2.2.1 = some (tyX0 k) := by decide +kernel
theorem inX0 : ∀ w ∈ u_ws RX0 TX0 14, w ∈ GW := by decide +kernel
def RX1 : String := "BlobJournalModel"
def TX1 : u_T := fun k => match k with
  | 0 => ("BlobJournalModel", "thrown", "I", false)
  | 1 => ("BlobJournalModel", "typed", "[I", true)
  | 2 => ("BlobJournalModel", "many", "I", false)
  | 3 => ("BlobJournalModel", "digests", "[J", true)
  | 4 => ("BlobJournalModel", "lengths", "[I", true)
  | 5 => ("BlobJournalModel", "bytes", "[I", true)
  | 6 => ("BlobJournalModel", "blobs", "I", false)
  | 7 => ("BlobJournalModel", "tags", "[J", true)
  | 8 => ("BlobJournalModel", "tells", "[Z", true)
  | 9 => ("BlobJournalModel", "keys", "[J", true)
  | 10 => ("BlobJournalModel", "told", "[J", true)
  | 11 => ("BlobJournalModel", "known", "I", false)
  | 12 => ("BlobJournalModel", "pins", "[J", true)
  | 13 => ("BlobJournalModel", "journal", "[I", true)
  | 14 => ("BlobJournalModel", "size", "I", false)
  | 15 => ("BlobJournalModel", "synced", "I", false)
  | 16 => ("BlobJournalModel", "record", "[I", true)
  | _ => ("BlobJournalModel", "length", "I", false)
def tyX1 : Nat → FieldType := fun k => match k with
  | 0 => .int
  | 1 => .array .int
  | 2 => .int
  | 3 => .array .long
  | 4 => .array .int
  | 5 => .array .int
  | 6 => .int
  | 7 => .array .long
  | 8 => .array .boolean
  | 9 => .array .long
  | 10 => .array .long
  | 11 => .int
  | 12 => .array .long
  | 13 => .array .int
  | 14 => .int
  | 15 => .int
  | 16 => .array .int
  | _ => .int
theorem nmX1 : ∀ a, a < 18 → ∀ b, b < 18 → a ≠ b → (TX1 a).2.1 ≠ (TX1 b).2.1 := by decide +kernel
theorem tyX1_ok : ∀ k, k < 18 → parseFieldDescriptor (TX1 k).2.2.1 = some (tyX1 k) := by decide +kernel
theorem inX1 : ∀ w ∈ u_ws RX1 TX1 18, w ∈ GW := by decide +kernel
def RL : String := "BlobJournalLaw"
def RJ7 : String := "java/util/Arrays"
abbrev vwCl : List vw_C := [(RX0, TX0, 14), (RX1, TX1, 18)]
abbrev cX0_init : ByteArray := prog_1_method_1_code
def yX0_init : MethodName := ⟨RX0, "<init>", "()V"⟩
def wsX0_init : List Cond := .code yX0_init cX0_init 1 none :: GW
abbrev cJ7_fillI : ByteArray := prog_12_method_103_code
def yJ7_fillI : MethodName := ⟨RJ7, "fill", "([II)V"⟩
def wsJ7_fillI : List Cond := .code yJ7_fillI cJ7_fillI 4 none :: GW
abbrev cX0_digest : ByteArray := prog_1_method_4_code
def yX0_digest : MethodName := ⟨RX0, "digest", "()J"⟩
def wsX0_digest : List Cond := .code yX0_digest cX0_digest 1 (some .long) :: GW
abbrev cX0_digestOf : ByteArray := prog_1_method_19_code
def yX0_digestOf : MethodName := ⟨RX0, "digestOf", "([III)J"⟩
def wsX0_digestOf : List Cond := .code yX0_digestOf cX0_digestOf 6 (some .long) :: GW
abbrev cX0_length : ByteArray := prog_1_method_12_code
def yX0_length : MethodName := ⟨RX0, "length", "(J)I"⟩
def wsX0_length : List Cond := .code yX0_length cX0_length 4 (some .int) :: GW
abbrev cX0_findBlob : ByteArray := prog_1_method_20_code
def yX0_findBlob : MethodName := ⟨RX0, "findBlob", "(J)I"⟩
def wsX0_findBlob : List Cond := .code yX0_findBlob cX0_findBlob 4 (some .int) :: GW
abbrev cX0_sync : ByteArray := prog_1_method_16_code
def yX0_sync : MethodName := ⟨RX0, "sync", "()V"⟩
def wsX0_sync : List Cond := .code yX0_sync cX0_sync 1 none :: GW
abbrev cX0_collect : ByteArray := prog_1_method_18_code
def yX0_collect : MethodName := ⟨RX0, "collect", "()I"⟩
def wsX0_collect : List Cond := .code yX0_collect cX0_collect 2 (some .int) :: GW
abbrev cX0_rewriteBlobs : ByteArray := prog_1_method_43_code
def yX0_rewriteBlobs : MethodName := ⟨RX0, "rewriteBlobs", "()V"⟩
def wsX0_rewriteBlobs : List Cond := .code yX0_rewriteBlobs cX0_rewriteBlobs 3 none :: GW
abbrev cX0_isTold : ByteArray := prog_1_method_46_code
def yX0_isTold : MethodName := ⟨RX0, "isTold", "(I)Z"⟩
def wsX0_isTold : List Cond := .code yX0_isTold cX0_isTold 3 (some .boolean) :: GW
abbrev cX0_rewriteTags : ByteArray := prog_1_method_44_code
def yX0_rewriteTags : MethodName := ⟨RX0, "rewriteTags", "()V"⟩
def wsX0_rewriteTags : List Cond := .code yX0_rewriteTags cX0_rewriteTags 3 none :: GW
abbrev cX0_writeTell : ByteArray := prog_1_method_26_code
def yX0_writeTell : MethodName := ⟨RX0, "writeTell", "(IJ)I"⟩
def wsX0_writeTell : List Cond := .code yX0_writeTell cX0_writeTell 5 (some .int) :: GW
abbrev cX0_writeHead : ByteArray := prog_1_method_29_code
def yX0_writeHead : MethodName := ⟨RX0, "writeHead", "(II)I"⟩
def wsX0_writeHead : List Cond := .code yX0_writeHead cX0_writeHead 4 (some .int) :: GW
abbrev cX0_writeByte : ByteArray := prog_1_method_32_code
def yX0_writeByte : MethodName := ⟨RX0, "writeByte", "(I)V"⟩
def wsX0_writeByte : List Cond := .code yX0_writeByte cX0_writeByte 2 none :: GW
abbrev cX0_writeLong : ByteArray := prog_1_method_30_code
def yX0_writeLong : MethodName := ⟨RX0, "writeLong", "(J)V"⟩
def wsX0_writeLong : List Cond := .code yX0_writeLong cX0_writeLong 4 none :: GW
abbrev cX0_writeSum : ByteArray := prog_1_method_31_code
def yX0_writeSum : MethodName := ⟨RX0, "writeSum", "(I)V"⟩
def wsX0_writeSum : List Cond := .code yX0_writeSum cX0_writeSum 2 none :: GW
abbrev cX0_sumOf : ByteArray := prog_1_method_33_code
def yX0_sumOf : MethodName := ⟨RX0, "sumOf", "(II)I"⟩
def wsX0_sumOf : List Cond := .code yX0_sumOf cX0_sumOf 5 (some .int) :: GW
abbrev cX0_rewriteKeys : ByteArray := prog_1_method_45_code
def yX0_rewriteKeys : MethodName := ⟨RX0, "rewriteKeys", "()V"⟩
def wsX0_rewriteKeys : List Cond := .code yX0_rewriteKeys cX0_rewriteKeys 3 none :: GW
abbrev cX0_writeKey : ByteArray := prog_1_method_28_code
def yX0_writeKey : MethodName := ⟨RX0, "writeKey", "(JJ)I"⟩
def wsX0_writeKey : List Cond := .code yX0_writeKey cX0_writeKey 6 (some .int) :: GW
abbrev cX0_restore : ByteArray := prog_1_method_34_code
def yX0_restore : MethodName := ⟨RX0, "restore", "()V"⟩
def wsX0_restore : List Cond := .code yX0_restore cX0_restore 4 none :: GW
abbrev cX0_isWhole : ByteArray := prog_1_method_35_code
def yX0_isWhole : MethodName := ⟨RX0, "isWhole", "(II)Z"⟩
def wsX0_isWhole : List Cond := .code yX0_isWhole cX0_isWhole 4 (some .boolean) :: GW
abbrev cX0_lengthAt : ByteArray := prog_1_method_36_code
def yX0_lengthAt : MethodName := ⟨RX0, "lengthAt", "(I)I"⟩
def wsX0_lengthAt : List Cond := .code yX0_lengthAt cX0_lengthAt 2 (some .int) :: GW
abbrev cX0_follow : ByteArray := prog_1_method_38_code
def yX0_follow : MethodName := ⟨RX0, "follow", "(I)Z"⟩
def wsX0_follow : List Cond := .code yX0_follow cX0_follow 4 (some .boolean) :: GW
abbrev cX0_followBlob : ByteArray := prog_1_method_39_code
def yX0_followBlob : MethodName := ⟨RX0, "followBlob", "(II)Z"⟩
def wsX0_followBlob : List Cond := .code yX0_followBlob cX0_followBlob 5 (some .boolean) :: GW
abbrev cX0_longAt : ByteArray := prog_1_method_37_code
def yX0_longAt : MethodName := ⟨RX0, "longAt", "(I)J"⟩
def wsX0_longAt : List Cond := .code yX0_longAt cX0_longAt 5 (some .long) :: GW
abbrev cX0_followTell : ByteArray := prog_1_method_40_code
def yX0_followTell : MethodName := ⟨RX0, "followTell", "(IJ)Z"⟩
def wsX0_followTell : List Cond := .code yX0_followTell cX0_followTell 5 (some .boolean) :: GW
abbrev cX0_isTag : ByteArray := prog_1_method_22_code
def yX0_isTag : MethodName := ⟨RX0, "isTag", "(I)Z"⟩
def wsX0_isTag : List Cond := .code yX0_isTag cX0_isTag 1 (some .boolean) :: GW
abbrev cX0_followUntell : ByteArray := prog_1_method_41_code
def yX0_followUntell : MethodName := ⟨RX0, "followUntell", "(I)Z"⟩
def wsX0_followUntell : List Cond := .code yX0_followUntell cX0_followUntell 2 (some .boolean) :: GW
abbrev cX0_followKey : ByteArray := prog_1_method_42_code
def yX0_followKey : MethodName := ⟨RX0, "followKey", "(JJ)Z"⟩
def wsX0_followKey : List Cond := .code yX0_followKey cX0_followKey 6 (some .boolean) :: GW
abbrev cX0_findKey : ByteArray := prog_1_method_21_code
def yX0_findKey : MethodName := ⟨RX0, "findKey", "(J)I"⟩
def wsX0_findKey : List Cond := .code yX0_findKey cX0_findKey 4 (some .int) :: GW
abbrev cL_type : ByteArray := method_3_code
def yL_type : MethodName := ⟨RL, "type", "(LBlobJournal;I[J)I"⟩
def wsL_type : List Cond := .codeWith yL_type cL_type 4 (some .int) [(0, 9, 12, 13)] :: GW
abbrev cX0_type : ByteArray := prog_1_method_2_code
def yX0_type : MethodName := ⟨RX0, "type", "(I)I"⟩
def wsX0_type : List Cond := .code yX0_type cX0_type 3 (some .int) :: GW
abbrev cL_cut : ByteArray := method_4_code
def yL_cut : MethodName := ⟨RL, "cut", "(LBlobJournal;I)I"⟩
def wsL_cut : List Cond := .codeWith yL_cut cL_cut 3 (some .int) [(0, 5, 8, 19)] :: GW
abbrev cX0_cut : ByteArray := prog_1_method_3_code
def yX0_cut : MethodName := ⟨RX0, "cut", "(I)V"⟩
def wsX0_cut : List Cond := .code yX0_cut cX0_cut 2 none :: GW
abbrev cL_keep : ByteArray := method_5_code
def yL_keep : MethodName := ⟨RL, "keep", "(LBlobJournal;[J)I"⟩
def wsL_keep : List Cond := .codeWith yL_keep cL_keep 3 (some .int) [(0, 7, 10, 13)] :: GW
abbrev cX0_keep : ByteArray := prog_1_method_5_code
def yX0_keep : MethodName := ⟨RX0, "keep", "()J"⟩
def wsX0_keep : List Cond := .code yX0_keep cX0_keep 3 (some .long) :: GW
abbrev cX0_demandRoom : ByteArray := prog_1_method_24_code
def yX0_demandRoom : MethodName := ⟨RX0, "demandRoom", "(I)V"⟩
def wsX0_demandRoom : List Cond := .code yX0_demandRoom cX0_demandRoom 2 none :: GW
abbrev cX0_writeTyped : ByteArray := prog_1_method_25_code
def yX0_writeTyped : MethodName := ⟨RX0, "writeTyped", "()I"⟩
def wsX0_writeTyped : List Cond := .code yX0_writeTyped cX0_writeTyped 3 (some .int) :: GW
abbrev cL_tell : ByteArray := method_6_code
def yL_tell : MethodName := ⟨RL, "tell", "(LBlobJournal;IJ)I"⟩
def wsL_tell : List Cond := .codeWith yL_tell cL_tell 5 (some .int) [(0, 6, 9, 19), (0, 6, 13, 29), (0, 6, 17, 13)] :: GW
abbrev cX0_tell : ByteArray := prog_1_method_6_code
def yX0_tell : MethodName := ⟨RX0, "tell", "(IJ)V"⟩
def wsX0_tell : List Cond := .code yX0_tell cX0_tell 5 none :: GW
abbrev cX0_demandTag : ByteArray := prog_1_method_23_code
def yX0_demandTag : MethodName := ⟨RX0, "demandTag", "(I)V"⟩
def wsX0_demandTag : List Cond := .code yX0_demandTag cX0_demandTag 1 none :: GW
abbrev cL_untell : ByteArray := method_7_code
def yL_untell : MethodName := ⟨RL, "untell", "(LBlobJournal;I)I"⟩
def wsL_untell : List Cond := .codeWith yL_untell cL_untell 3 (some .int) [(0, 5, 8, 19), (0, 5, 11, 29), (0, 5, 14, 13)] :: GW
abbrev cX0_untell : ByteArray := prog_1_method_7_code
def yX0_untell : MethodName := ⟨RX0, "untell", "(I)V"⟩
def wsX0_untell : List Cond := .code yX0_untell cX0_untell 2 none :: GW
abbrev cX0_writeUntell : ByteArray := prog_1_method_27_code
def yX0_writeUntell : MethodName := ⟨RX0, "writeUntell", "(I)I"⟩
def wsX0_writeUntell : List Cond := .code yX0_writeUntell cX0_writeUntell 3 (some .int) :: GW
abbrev cL_learn : ByteArray := method_8_code
def yL_learn : MethodName := ⟨RL, "learn", "(LBlobJournal;JJ)I"⟩
def wsL_learn : List Cond := .codeWith yL_learn cL_learn 6 (some .int) [(0, 6, 9, 13)] :: GW
abbrev cX0_learn : ByteArray := prog_1_method_8_code
def yX0_learn : MethodName := ⟨RX0, "learn", "(JJ)V"⟩
def wsX0_learn : List Cond := .code yX0_learn cX0_learn 6 none :: GW
abbrev cL_pin : ByteArray := method_9_code
def yL_pin : MethodName := ⟨RL, "pin", "(LBlobJournal;IJ)I"⟩
def wsL_pin : List Cond := .codeWith yL_pin cL_pin 5 (some .int) [(0, 6, 9, 19)] :: GW
abbrev cX0_pin : ByteArray := prog_1_method_9_code
def yX0_pin : MethodName := ⟨RX0, "pin", "(IJ)V"⟩
def wsX0_pin : List Cond := .code yX0_pin cX0_pin 4 none :: GW
abbrev cL_tag : ByteArray := method_10_code
def yL_tag : MethodName := ⟨RL, "tag", "(LBlobJournal;I[J)I"⟩
def wsL_tag : List Cond := .codeWith yL_tag cL_tag 4 (some .int) [(0, 8, 11, 19)] :: GW
abbrev cX0_tag : ByteArray := prog_1_method_10_code
def yX0_tag : MethodName := ⟨RX0, "tag", "(I)J"⟩
def wsX0_tag : List Cond := .code yX0_tag cX0_tag 3 (some .long) :: GW
abbrev cL_look : ByteArray := method_11_code
def yL_look : MethodName := ⟨RL, "look", "(LBlobJournal;J[J)I"⟩
def wsL_look : List Cond := .codeWith yL_look cL_look 5 (some .int) [(0, 8, 11, 29)] :: GW
abbrev cX0_look : ByteArray := prog_1_method_11_code
def yX0_look : MethodName := ⟨RX0, "look", "(J)J"⟩
def wsX0_look : List Cond := .code yX0_look cX0_look 4 (some .long) :: GW
abbrev cL_byteOf : ByteArray := method_12_code
def yL_byteOf : MethodName := ⟨RL, "byteOf", "(LBlobJournal;JI[J)I"⟩
def wsL_byteOf : List Cond := .codeWith yL_byteOf cL_byteOf 6 (some .int) [(0, 11, 14, 29), (0, 11, 18, 53)] :: GW
abbrev cX0_byteOf : ByteArray := prog_1_method_13_code
def yX0_byteOf : MethodName := ⟨RX0, "byteOf", "(JI)I"⟩
def wsX0_byteOf : List Cond := .code yX0_byteOf cX0_byteOf 5 (some .int) :: GW
abbrev cL_count : ByteArray := method_13_code
def yL_count : MethodName := ⟨RL, "count", "(LBlobJournal;I[J)I"⟩
def wsL_count : List Cond := .codeWith yL_count cL_count 4 (some .int) [(0, 9, 12, 19)] :: GW
abbrev cX0_count : ByteArray := prog_1_method_14_code
def yX0_count : MethodName := ⟨RX0, "count", "(I)I"⟩
def wsX0_count : List Cond := .code yX0_count cX0_count 2 (some .int) :: GW
abbrev cL_journal : ByteArray := method_14_code
def yL_journal : MethodName := ⟨RL, "journal", "(LBlobJournal;I[J)I"⟩
def wsL_journal : List Cond := .codeWith yL_journal cL_journal 4 (some .int) [(0, 9, 12, 53)] :: GW
abbrev cX0_journal : ByteArray := prog_1_method_15_code
def yX0_journal : MethodName := ⟨RX0, "journal", "(I)I"⟩
def wsX0_journal : List Cond := .code yX0_journal cX0_journal 2 (some .int) :: GW
abbrev cL_crash : ByteArray := method_15_code
def yL_crash : MethodName := ⟨RL, "crash", "(LBlobJournal;II[J)I"⟩
def wsL_crash : List Cond := .codeWith yL_crash cL_crash 5 (some .int) [(0, 10, 13, 19)] :: GW
abbrev cX0_crash : ByteArray := prog_1_method_17_code
def yX0_crash : MethodName := ⟨RX0, "crash", "(II)I"⟩
def wsX0_crash : List Cond := .code yX0_crash cX0_crash 3 (some .int) :: GW
abbrev cJ7_fillJ : ByteArray := prog_12_method_101_code
def yJ7_fillJ : MethodName := ⟨RJ7, "fill", "([JJ)V"⟩
def wsJ7_fillJ : List Cond := .code yJ7_fillJ cJ7_fillJ 5 none :: GW
abbrev cX1_init : ByteArray := prog_3_method_1_code
def yX1_init : MethodName := ⟨RX1, "<init>", "()V"⟩
def wsX1_init : List Cond := .code yX1_init cX1_init 1 none :: GW
abbrev cX1_thrown : ByteArray := prog_3_method_2_code
def yX1_thrown : MethodName := ⟨RX1, "thrown", "()I"⟩
def wsX1_thrown : List Cond := .code yX1_thrown cX1_thrown 1 (some .int) :: GW
abbrev cX1_type : ByteArray := prog_3_method_3_code
def yX1_type : MethodName := ⟨RX1, "type", "(I)I"⟩
def wsX1_type : List Cond := .code yX1_type cX1_type 3 (some .int) :: GW
abbrev cX1_cut : ByteArray := prog_3_method_4_code
def yX1_cut : MethodName := ⟨RX1, "cut", "(I)V"⟩
def wsX1_cut : List Cond := .code yX1_cut cX1_cut 2 none :: GW
abbrev cX1_digest : ByteArray := prog_3_method_9_code
def yX1_digest : MethodName := ⟨RX1, "digest", "()J"⟩
def wsX1_digest : List Cond := .code yX1_digest cX1_digest 1 (some .long) :: GW
abbrev cX1_digestOfTyped : ByteArray := prog_3_method_7_code
def yX1_digestOfTyped : MethodName := ⟨RX1, "digestOfTyped", "()J"⟩
def wsX1_digestOfTyped : List Cond := .code yX1_digestOfTyped cX1_digestOfTyped 4 (some .long) :: GW
abbrev cX1_goes : ByteArray := prog_3_method_6_code
def yX1_goes : MethodName := ⟨RX1, "goes", "(JI)J"⟩
def wsX1_goes : List Cond := .code yX1_goes cX1_goes 3 (some .long) :: GW
abbrev cX1_ends : ByteArray := prog_3_method_5_code
def yX1_ends : MethodName := ⟨RX1, "ends", "(JI)J"⟩
def wsX1_ends : List Cond := .code yX1_ends cX1_ends 5 (some .long) :: GW
abbrev cX1_keep : ByteArray := prog_3_method_19_code
def yX1_keep : MethodName := ⟨RX1, "keep", "()J"⟩
def wsX1_keep : List Cond := .code yX1_keep cX1_keep 4 (some .long) :: GW
abbrev cX1_next : ByteArray := prog_3_method_12_code
def yX1_next : MethodName := ⟨RX1, "next", "(JI)V"⟩
def wsX1_next : List Cond := .code yX1_next cX1_next 5 none :: GW
abbrev cX1_blobOf : ByteArray := prog_3_method_10_code
def yX1_blobOf : MethodName := ⟨RX1, "blobOf", "(J)I"⟩
def wsX1_blobOf : List Cond := .code yX1_blobOf cX1_blobOf 4 (some .int) :: GW
abbrev cX1_hasRoom : ByteArray := prog_3_method_14_code
def yX1_hasRoom : MethodName := ⟨RX1, "hasRoom", "()Z"⟩
def wsX1_hasRoom : List Cond := .code yX1_hasRoom cX1_hasRoom 1 (some .boolean) :: GW
abbrev cX1_write : ByteArray := prog_3_method_15_code
def yX1_write : MethodName := ⟨RX1, "write", "(I)V"⟩
def wsX1_write : List Cond := .code yX1_write cX1_write 5 none :: GW
abbrev cX1_says : ByteArray := prog_3_method_16_code
def yX1_says : MethodName := ⟨RX1, "says", "(I)Z"⟩
def wsX1_says : List Cond := .code yX1_says cX1_says 6 (some .boolean) :: GW
abbrev cX1_saysBlob : ByteArray := prog_3_method_17_code
def yX1_saysBlob : MethodName := ⟨RX1, "saysBlob", "()Z"⟩
def wsX1_saysBlob : List Cond := .code yX1_saysBlob cX1_saysBlob 4 (some .boolean) :: GW
abbrev cX1_digestOfRecord : ByteArray := prog_3_method_8_code
def yX1_digestOfRecord : MethodName := ⟨RX1, "digestOfRecord", "()J"⟩
def wsX1_digestOfRecord : List Cond := .code yX1_digestOfRecord cX1_digestOfRecord 4 (some .long) :: GW
abbrev cX1_eight : ByteArray := prog_3_method_13_code
def yX1_eight : MethodName := ⟨RX1, "eight", "(I)J"⟩
def wsX1_eight : List Cond := .code yX1_eight cX1_eight 5 (some .long) :: GW
abbrev cX1_saysKey : ByteArray := prog_3_method_18_code
def yX1_saysKey : MethodName := ⟨RX1, "saysKey", "(JJ)Z"⟩
def wsX1_saysKey : List Cond := .code yX1_saysKey cX1_saysKey 6 (some .boolean) :: GW
abbrev cX1_keyOf : ByteArray := prog_3_method_11_code
def yX1_keyOf : MethodName := ⟨RX1, "keyOf", "(J)I"⟩
def wsX1_keyOf : List Cond := .code yX1_keyOf cX1_keyOf 4 (some .int) :: GW
abbrev cX1_tell : ByteArray := prog_3_method_21_code
def yX1_tell : MethodName := ⟨RX1, "tell", "(IJ)V"⟩
def wsX1_tell : List Cond := .code yX1_tell cX1_tell 4 none :: GW
abbrev cX1_isTag : ByteArray := prog_3_method_20_code
def yX1_isTag : MethodName := ⟨RX1, "isTag", "(I)Z"⟩
def wsX1_isTag : List Cond := .code yX1_isTag cX1_isTag 1 (some .boolean) :: GW
abbrev cX1_untell : ByteArray := prog_3_method_22_code
def yX1_untell : MethodName := ⟨RX1, "untell", "(I)V"⟩
def wsX1_untell : List Cond := .code yX1_untell cX1_untell 2 none :: GW
abbrev cX1_learn : ByteArray := prog_3_method_23_code
def yX1_learn : MethodName := ⟨RX1, "learn", "(JJ)V"⟩
def wsX1_learn : List Cond := .code yX1_learn cX1_learn 6 none :: GW
abbrev cX1_pin : ByteArray := prog_3_method_24_code
def yX1_pin : MethodName := ⟨RX1, "pin", "(IJ)V"⟩
def wsX1_pin : List Cond := .code yX1_pin cX1_pin 4 none :: GW
abbrev cX1_tag : ByteArray := prog_3_method_25_code
def yX1_tag : MethodName := ⟨RX1, "tag", "(I)J"⟩
def wsX1_tag : List Cond := .code yX1_tag cX1_tag 2 (some .long) :: GW
abbrev cX1_look : ByteArray := prog_3_method_26_code
def yX1_look : MethodName := ⟨RX1, "look", "(J)J"⟩
def wsX1_look : List Cond := .code yX1_look cX1_look 4 (some .long) :: GW
abbrev cX1_length : ByteArray := prog_3_method_27_code
def yX1_length : MethodName := ⟨RX1, "length", "(J)I"⟩
def wsX1_length : List Cond := .code yX1_length cX1_length 4 (some .int) :: GW
abbrev cX1_byteOf : ByteArray := prog_3_method_28_code
def yX1_byteOf : MethodName := ⟨RX1, "byteOf", "(JI)I"⟩
def wsX1_byteOf : List Cond := .code yX1_byteOf cX1_byteOf 5 (some .int) :: GW
abbrev cX1_count : ByteArray := prog_3_method_29_code
def yX1_count : MethodName := ⟨RX1, "count", "(I)I"⟩
def wsX1_count : List Cond := .code yX1_count cX1_count 2 (some .int) :: GW
abbrev cX1_journal : ByteArray := prog_3_method_30_code
def yX1_journal : MethodName := ⟨RX1, "journal", "(I)I"⟩
def wsX1_journal : List Cond := .code yX1_journal cX1_journal 2 (some .int) :: GW
abbrev cX1_sync : ByteArray := prog_3_method_31_code
def yX1_sync : MethodName := ⟨RX1, "sync", "()V"⟩
def wsX1_sync : List Cond := .code yX1_sync cX1_sync 1 none :: GW
abbrev cX1_crash : ByteArray := prog_3_method_34_code
def yX1_crash : MethodName := ⟨RX1, "crash", "(II)I"⟩
def wsX1_crash : List Cond := .code yX1_crash cX1_crash 6 (some .int) :: GW
abbrev cX1_empties : ByteArray := prog_3_method_32_code
def yX1_empties : MethodName := ⟨RX1, "empties", "()V"⟩
def wsX1_empties : List Cond := .code yX1_empties cX1_empties 2 none :: GW
abbrev cX1_reads : ByteArray := prog_3_method_33_code
def yX1_reads : MethodName := ⟨RX1, "reads", "(II)I"⟩
def wsX1_reads : List Cond := .code yX1_reads cX1_reads 6 (some .int) :: GW
abbrev cX1_collect : ByteArray := prog_3_method_36_code
def yX1_collect : MethodName := ⟨RX1, "collect", "()I"⟩
def wsX1_collect : List Cond := .code yX1_collect cX1_collect 4 (some .int) :: GW
abbrev cX1_isTold : ByteArray := prog_3_method_35_code
def yX1_isTold : MethodName := ⟨RX1, "isTold", "(J)Z"⟩
def wsX1_isTold : List Cond := .code yX1_isTold cX1_isTold 5 (some .boolean) :: GW
end
section
theorem kX0_init : Cond.code yX0_init cX0_init 1 none ∈ GW := gw_mem (i := 56) (by decide +kernel)
theorem iX0_init : Cond.instanceMethod yX0_init ∈ GW := gw_mem (i := 55) (by decide +kernel)
theorem kJ7_fillI : Cond.code yJ7_fillI cJ7_fillI 4 none ∈ GW := gw_mem (i := 62) (by decide +kernel)
theorem sJ7_fillI : Cond.static yJ7_fillI ∈ GW := gw_mem (i := 61) (by decide +kernel)
theorem kX0_digest : Cond.code yX0_digest cX0_digest 1 (some .long) ∈ GW := gw_mem (i := 111) (by decide +kernel)
theorem iX0_digest : Cond.instanceMethod yX0_digest ∈ GW := gw_mem (i := 109) (by decide +kernel)
theorem eX0_digest : Cond.selects RX0 yX0_digest yX0_digest ∈ GW := gw_mem (i := 110) (by decide +kernel)
theorem kX0_digestOf : Cond.code yX0_digestOf cX0_digestOf 6 (some .long) ∈ GW := gw_mem (i := 114) (by decide +kernel)
theorem sX0_digestOf : Cond.static yX0_digestOf ∈ GW := gw_mem (i := 113) (by decide +kernel)
theorem kX0_length : Cond.code yX0_length cX0_length 4 (some .int) ∈ GW := gw_mem (i := 121) (by decide +kernel)
theorem iX0_length : Cond.instanceMethod yX0_length ∈ GW := gw_mem (i := 119) (by decide +kernel)
theorem eX0_length : Cond.selects RX0 yX0_length yX0_length ∈ GW := gw_mem (i := 120) (by decide +kernel)
theorem kX0_findBlob : Cond.code yX0_findBlob cX0_findBlob 4 (some .int) ∈ GW := gw_mem (i := 125) (by decide +kernel)
theorem iX0_findBlob : Cond.instanceMethod yX0_findBlob ∈ GW := gw_mem (i := 124) (by decide +kernel)
theorem eX0_findBlob : Cond.selects RX0 yX0_findBlob yX0_findBlob ∈ GW := gw_mem (i := 0) (by decide +kernel)
theorem kX0_sync : Cond.code yX0_sync cX0_sync 1 none ∈ GW := gw_mem (i := 129) (by decide +kernel)
theorem iX0_sync : Cond.instanceMethod yX0_sync ∈ GW := gw_mem (i := 127) (by decide +kernel)
theorem eX0_sync : Cond.selects RX0 yX0_sync yX0_sync ∈ GW := gw_mem (i := 128) (by decide +kernel)
theorem kX0_collect : Cond.code yX0_collect cX0_collect 2 (some .int) ∈ GW := gw_mem (i := 133) (by decide +kernel)
theorem iX0_collect : Cond.instanceMethod yX0_collect ∈ GW := gw_mem (i := 131) (by decide +kernel)
theorem eX0_collect : Cond.selects RX0 yX0_collect yX0_collect ∈ GW := gw_mem (i := 132) (by decide +kernel)
theorem kX0_rewriteBlobs : Cond.code yX0_rewriteBlobs cX0_rewriteBlobs 3 none ∈ GW := gw_mem (i := 137) (by decide +kernel)
theorem iX0_rewriteBlobs : Cond.instanceMethod yX0_rewriteBlobs ∈ GW := gw_mem (i := 136) (by decide +kernel)
theorem eX0_rewriteBlobs : Cond.selects RX0 yX0_rewriteBlobs yX0_rewriteBlobs ∈ GW := gw_mem (i := 1) (by decide +kernel)
theorem kX0_isTold : Cond.code yX0_isTold cX0_isTold 3 (some .boolean) ∈ GW := gw_mem (i := 141) (by decide +kernel)
theorem iX0_isTold : Cond.instanceMethod yX0_isTold ∈ GW := gw_mem (i := 140) (by decide +kernel)
theorem eX0_isTold : Cond.selects RX0 yX0_isTold yX0_isTold ∈ GW := gw_mem (i := 2) (by decide +kernel)
theorem kX0_rewriteTags : Cond.code yX0_rewriteTags cX0_rewriteTags 3 none ∈ GW := gw_mem (i := 148) (by decide +kernel)
theorem iX0_rewriteTags : Cond.instanceMethod yX0_rewriteTags ∈ GW := gw_mem (i := 147) (by decide +kernel)
theorem eX0_rewriteTags : Cond.selects RX0 yX0_rewriteTags yX0_rewriteTags ∈ GW := gw_mem (i := 3) (by decide +kernel)
theorem kX0_writeTell : Cond.code yX0_writeTell cX0_writeTell 5 (some .int) ∈ GW := gw_mem (i := 152) (by decide +kernel)
theorem iX0_writeTell : Cond.instanceMethod yX0_writeTell ∈ GW := gw_mem (i := 151) (by decide +kernel)
theorem eX0_writeTell : Cond.selects RX0 yX0_writeTell yX0_writeTell ∈ GW := gw_mem (i := 4) (by decide +kernel)
theorem kX0_writeHead : Cond.code yX0_writeHead cX0_writeHead 4 (some .int) ∈ GW := gw_mem (i := 156) (by decide +kernel)
theorem iX0_writeHead : Cond.instanceMethod yX0_writeHead ∈ GW := gw_mem (i := 155) (by decide +kernel)
theorem eX0_writeHead : Cond.selects RX0 yX0_writeHead yX0_writeHead ∈ GW := gw_mem (i := 5) (by decide +kernel)
theorem kX0_writeByte : Cond.code yX0_writeByte cX0_writeByte 2 none ∈ GW := gw_mem (i := 160) (by decide +kernel)
theorem iX0_writeByte : Cond.instanceMethod yX0_writeByte ∈ GW := gw_mem (i := 159) (by decide +kernel)
theorem eX0_writeByte : Cond.selects RX0 yX0_writeByte yX0_writeByte ∈ GW := gw_mem (i := 6) (by decide +kernel)
theorem kX0_writeLong : Cond.code yX0_writeLong cX0_writeLong 4 none ∈ GW := gw_mem (i := 164) (by decide +kernel)
theorem iX0_writeLong : Cond.instanceMethod yX0_writeLong ∈ GW := gw_mem (i := 163) (by decide +kernel)
theorem eX0_writeLong : Cond.selects RX0 yX0_writeLong yX0_writeLong ∈ GW := gw_mem (i := 7) (by decide +kernel)
theorem kX0_writeSum : Cond.code yX0_writeSum cX0_writeSum 2 none ∈ GW := gw_mem (i := 168) (by decide +kernel)
theorem iX0_writeSum : Cond.instanceMethod yX0_writeSum ∈ GW := gw_mem (i := 167) (by decide +kernel)
theorem eX0_writeSum : Cond.selects RX0 yX0_writeSum yX0_writeSum ∈ GW := gw_mem (i := 8) (by decide +kernel)
theorem kX0_sumOf : Cond.code yX0_sumOf cX0_sumOf 5 (some .int) ∈ GW := gw_mem (i := 172) (by decide +kernel)
theorem iX0_sumOf : Cond.instanceMethod yX0_sumOf ∈ GW := gw_mem (i := 171) (by decide +kernel)
theorem eX0_sumOf : Cond.selects RX0 yX0_sumOf yX0_sumOf ∈ GW := gw_mem (i := 9) (by decide +kernel)
theorem kX0_rewriteKeys : Cond.code yX0_rewriteKeys cX0_rewriteKeys 3 none ∈ GW := gw_mem (i := 176) (by decide +kernel)
theorem iX0_rewriteKeys : Cond.instanceMethod yX0_rewriteKeys ∈ GW := gw_mem (i := 175) (by decide +kernel)
theorem eX0_rewriteKeys : Cond.selects RX0 yX0_rewriteKeys yX0_rewriteKeys ∈ GW := gw_mem (i := 10) (by decide +kernel)
theorem kX0_writeKey : Cond.code yX0_writeKey cX0_writeKey 6 (some .int) ∈ GW := gw_mem (i := 180) (by decide +kernel)
theorem iX0_writeKey : Cond.instanceMethod yX0_writeKey ∈ GW := gw_mem (i := 179) (by decide +kernel)
theorem eX0_writeKey : Cond.selects RX0 yX0_writeKey yX0_writeKey ∈ GW := gw_mem (i := 11) (by decide +kernel)
theorem kX0_restore : Cond.code yX0_restore cX0_restore 4 none ∈ GW := gw_mem (i := 184) (by decide +kernel)
theorem iX0_restore : Cond.instanceMethod yX0_restore ∈ GW := gw_mem (i := 183) (by decide +kernel)
theorem eX0_restore : Cond.selects RX0 yX0_restore yX0_restore ∈ GW := gw_mem (i := 12) (by decide +kernel)
theorem kX0_isWhole : Cond.code yX0_isWhole cX0_isWhole 4 (some .boolean) ∈ GW := gw_mem (i := 188) (by decide +kernel)
theorem iX0_isWhole : Cond.instanceMethod yX0_isWhole ∈ GW := gw_mem (i := 187) (by decide +kernel)
theorem eX0_isWhole : Cond.selects RX0 yX0_isWhole yX0_isWhole ∈ GW := gw_mem (i := 13) (by decide +kernel)
theorem kX0_lengthAt : Cond.code yX0_lengthAt cX0_lengthAt 2 (some .int) ∈ GW := gw_mem (i := 192) (by decide +kernel)
theorem iX0_lengthAt : Cond.instanceMethod yX0_lengthAt ∈ GW := gw_mem (i := 191) (by decide +kernel)
theorem eX0_lengthAt : Cond.selects RX0 yX0_lengthAt yX0_lengthAt ∈ GW := gw_mem (i := 14) (by decide +kernel)
theorem kX0_follow : Cond.code yX0_follow cX0_follow 4 (some .boolean) ∈ GW := gw_mem (i := 196) (by decide +kernel)
theorem iX0_follow : Cond.instanceMethod yX0_follow ∈ GW := gw_mem (i := 195) (by decide +kernel)
theorem eX0_follow : Cond.selects RX0 yX0_follow yX0_follow ∈ GW := gw_mem (i := 15) (by decide +kernel)
theorem kX0_followBlob : Cond.code yX0_followBlob cX0_followBlob 5 (some .boolean) ∈ GW := gw_mem (i := 200) (by decide +kernel)
theorem iX0_followBlob : Cond.instanceMethod yX0_followBlob ∈ GW := gw_mem (i := 199) (by decide +kernel)
theorem eX0_followBlob : Cond.selects RX0 yX0_followBlob yX0_followBlob ∈ GW := gw_mem (i := 16) (by decide +kernel)
theorem kX0_longAt : Cond.code yX0_longAt cX0_longAt 5 (some .long) ∈ GW := gw_mem (i := 204) (by decide +kernel)
theorem iX0_longAt : Cond.instanceMethod yX0_longAt ∈ GW := gw_mem (i := 203) (by decide +kernel)
theorem eX0_longAt : Cond.selects RX0 yX0_longAt yX0_longAt ∈ GW := gw_mem (i := 17) (by decide +kernel)
theorem kX0_followTell : Cond.code yX0_followTell cX0_followTell 5 (some .boolean) ∈ GW := gw_mem (i := 208) (by decide +kernel)
theorem iX0_followTell : Cond.instanceMethod yX0_followTell ∈ GW := gw_mem (i := 207) (by decide +kernel)
theorem eX0_followTell : Cond.selects RX0 yX0_followTell yX0_followTell ∈ GW := gw_mem (i := 18) (by decide +kernel)
theorem kX0_isTag : Cond.code yX0_isTag cX0_isTag 1 (some .boolean) ∈ GW := gw_mem (i := 211) (by decide +kernel)
theorem sX0_isTag : Cond.static yX0_isTag ∈ GW := gw_mem (i := 210) (by decide +kernel)
theorem kX0_followUntell : Cond.code yX0_followUntell cX0_followUntell 2 (some .boolean) ∈ GW := gw_mem (i := 215) (by decide +kernel)
theorem iX0_followUntell : Cond.instanceMethod yX0_followUntell ∈ GW := gw_mem (i := 214) (by decide +kernel)
theorem eX0_followUntell : Cond.selects RX0 yX0_followUntell yX0_followUntell ∈ GW := gw_mem (i := 19) (by decide +kernel)
theorem kX0_followKey : Cond.code yX0_followKey cX0_followKey 6 (some .boolean) ∈ GW := gw_mem (i := 219) (by decide +kernel)
theorem iX0_followKey : Cond.instanceMethod yX0_followKey ∈ GW := gw_mem (i := 218) (by decide +kernel)
theorem eX0_followKey : Cond.selects RX0 yX0_followKey yX0_followKey ∈ GW := gw_mem (i := 20) (by decide +kernel)
theorem kX0_findKey : Cond.code yX0_findKey cX0_findKey 4 (some .int) ∈ GW := gw_mem (i := 223) (by decide +kernel)
theorem iX0_findKey : Cond.instanceMethod yX0_findKey ∈ GW := gw_mem (i := 222) (by decide +kernel)
theorem eX0_findKey : Cond.selects RX0 yX0_findKey yX0_findKey ∈ GW := gw_mem (i := 21) (by decide +kernel)
theorem kL_type : Cond.codeWith yL_type cL_type 4 (some .int) [(0, 9, 12, 13)] ∈ GW := gw_mem (i := 226) (by decide +kernel)
theorem sL_type : Cond.static yL_type ∈ GW := gw_mem (i := 225) (by decide +kernel)
theorem kX0_type : Cond.code yX0_type cX0_type 3 (some .int) ∈ GW := gw_mem (i := 231) (by decide +kernel)
theorem iX0_type : Cond.instanceMethod yX0_type ∈ GW := gw_mem (i := 229) (by decide +kernel)
theorem eX0_type : Cond.selects RX0 yX0_type yX0_type ∈ GW := gw_mem (i := 230) (by decide +kernel)
theorem kL_cut : Cond.codeWith yL_cut cL_cut 3 (some .int) [(0, 5, 8, 19)] ∈ GW := gw_mem (i := 303) (by decide +kernel)
theorem sL_cut : Cond.static yL_cut ∈ GW := gw_mem (i := 302) (by decide +kernel)
theorem kX0_cut : Cond.code yX0_cut cX0_cut 2 none ∈ GW := gw_mem (i := 308) (by decide +kernel)
theorem iX0_cut : Cond.instanceMethod yX0_cut ∈ GW := gw_mem (i := 306) (by decide +kernel)
theorem eX0_cut : Cond.selects RX0 yX0_cut yX0_cut ∈ GW := gw_mem (i := 307) (by decide +kernel)
theorem kL_keep : Cond.codeWith yL_keep cL_keep 3 (some .int) [(0, 7, 10, 13)] ∈ GW := gw_mem (i := 327) (by decide +kernel)
theorem sL_keep : Cond.static yL_keep ∈ GW := gw_mem (i := 326) (by decide +kernel)
theorem kX0_keep : Cond.code yX0_keep cX0_keep 3 (some .long) ∈ GW := gw_mem (i := 331) (by decide +kernel)
theorem iX0_keep : Cond.instanceMethod yX0_keep ∈ GW := gw_mem (i := 329) (by decide +kernel)
theorem eX0_keep : Cond.selects RX0 yX0_keep yX0_keep ∈ GW := gw_mem (i := 330) (by decide +kernel)
theorem kX0_demandRoom : Cond.code yX0_demandRoom cX0_demandRoom 2 none ∈ GW := gw_mem (i := 336) (by decide +kernel)
theorem iX0_demandRoom : Cond.instanceMethod yX0_demandRoom ∈ GW := gw_mem (i := 335) (by decide +kernel)
theorem eX0_demandRoom : Cond.selects RX0 yX0_demandRoom yX0_demandRoom ∈ GW := gw_mem (i := 23) (by decide +kernel)
theorem kX0_writeTyped : Cond.code yX0_writeTyped cX0_writeTyped 3 (some .int) ∈ GW := gw_mem (i := 341) (by decide +kernel)
theorem iX0_writeTyped : Cond.instanceMethod yX0_writeTyped ∈ GW := gw_mem (i := 340) (by decide +kernel)
theorem eX0_writeTyped : Cond.selects RX0 yX0_writeTyped yX0_writeTyped ∈ GW := gw_mem (i := 24) (by decide +kernel)
theorem kL_tell : Cond.codeWith yL_tell cL_tell 5 (some .int) [(0, 6, 9, 19), (0, 6, 13, 29), (0, 6, 17, 13)] ∈ GW := gw_mem (i := 344) (by decide +kernel)
theorem sL_tell : Cond.static yL_tell ∈ GW := gw_mem (i := 343) (by decide +kernel)
theorem kX0_tell : Cond.code yX0_tell cX0_tell 5 none ∈ GW := gw_mem (i := 349) (by decide +kernel)
theorem iX0_tell : Cond.instanceMethod yX0_tell ∈ GW := gw_mem (i := 347) (by decide +kernel)
theorem eX0_tell : Cond.selects RX0 yX0_tell yX0_tell ∈ GW := gw_mem (i := 348) (by decide +kernel)
theorem kX0_demandTag : Cond.code yX0_demandTag cX0_demandTag 1 none ∈ GW := gw_mem (i := 352) (by decide +kernel)
theorem sX0_demandTag : Cond.static yX0_demandTag ∈ GW := gw_mem (i := 351) (by decide +kernel)
theorem kL_untell : Cond.codeWith yL_untell cL_untell 3 (some .int) [(0, 5, 8, 19), (0, 5, 11, 29), (0, 5, 14, 13)] ∈ GW := gw_mem (i := 372) (by decide +kernel)
theorem sL_untell : Cond.static yL_untell ∈ GW := gw_mem (i := 371) (by decide +kernel)
theorem kX0_untell : Cond.code yX0_untell cX0_untell 2 none ∈ GW := gw_mem (i := 376) (by decide +kernel)
theorem iX0_untell : Cond.instanceMethod yX0_untell ∈ GW := gw_mem (i := 374) (by decide +kernel)
theorem eX0_untell : Cond.selects RX0 yX0_untell yX0_untell ∈ GW := gw_mem (i := 375) (by decide +kernel)
theorem kX0_writeUntell : Cond.code yX0_writeUntell cX0_writeUntell 3 (some .int) ∈ GW := gw_mem (i := 381) (by decide +kernel)
theorem iX0_writeUntell : Cond.instanceMethod yX0_writeUntell ∈ GW := gw_mem (i := 380) (by decide +kernel)
theorem eX0_writeUntell : Cond.selects RX0 yX0_writeUntell yX0_writeUntell ∈ GW := gw_mem (i := 25) (by decide +kernel)
theorem kL_learn : Cond.codeWith yL_learn cL_learn 6 (some .int) [(0, 6, 9, 13)] ∈ GW := gw_mem (i := 384) (by decide +kernel)
theorem sL_learn : Cond.static yL_learn ∈ GW := gw_mem (i := 383) (by decide +kernel)
theorem kX0_learn : Cond.code yX0_learn cX0_learn 6 none ∈ GW := gw_mem (i := 388) (by decide +kernel)
theorem iX0_learn : Cond.instanceMethod yX0_learn ∈ GW := gw_mem (i := 386) (by decide +kernel)
theorem eX0_learn : Cond.selects RX0 yX0_learn yX0_learn ∈ GW := gw_mem (i := 387) (by decide +kernel)
theorem kL_pin : Cond.codeWith yL_pin cL_pin 5 (some .int) [(0, 6, 9, 19)] ∈ GW := gw_mem (i := 392) (by decide +kernel)
theorem sL_pin : Cond.static yL_pin ∈ GW := gw_mem (i := 391) (by decide +kernel)
theorem kX0_pin : Cond.code yX0_pin cX0_pin 4 none ∈ GW := gw_mem (i := 396) (by decide +kernel)
theorem iX0_pin : Cond.instanceMethod yX0_pin ∈ GW := gw_mem (i := 394) (by decide +kernel)
theorem eX0_pin : Cond.selects RX0 yX0_pin yX0_pin ∈ GW := gw_mem (i := 395) (by decide +kernel)
theorem kL_tag : Cond.codeWith yL_tag cL_tag 4 (some .int) [(0, 8, 11, 19)] ∈ GW := gw_mem (i := 400) (by decide +kernel)
theorem sL_tag : Cond.static yL_tag ∈ GW := gw_mem (i := 399) (by decide +kernel)
theorem kX0_tag : Cond.code yX0_tag cX0_tag 3 (some .long) ∈ GW := gw_mem (i := 404) (by decide +kernel)
theorem iX0_tag : Cond.instanceMethod yX0_tag ∈ GW := gw_mem (i := 402) (by decide +kernel)
theorem eX0_tag : Cond.selects RX0 yX0_tag yX0_tag ∈ GW := gw_mem (i := 403) (by decide +kernel)
theorem kL_look : Cond.codeWith yL_look cL_look 5 (some .int) [(0, 8, 11, 29)] ∈ GW := gw_mem (i := 407) (by decide +kernel)
theorem sL_look : Cond.static yL_look ∈ GW := gw_mem (i := 406) (by decide +kernel)
theorem kX0_look : Cond.code yX0_look cX0_look 4 (some .long) ∈ GW := gw_mem (i := 411) (by decide +kernel)
theorem iX0_look : Cond.instanceMethod yX0_look ∈ GW := gw_mem (i := 409) (by decide +kernel)
theorem eX0_look : Cond.selects RX0 yX0_look yX0_look ∈ GW := gw_mem (i := 410) (by decide +kernel)
theorem kL_byteOf : Cond.codeWith yL_byteOf cL_byteOf 6 (some .int) [(0, 11, 14, 29), (0, 11, 18, 53)] ∈ GW := gw_mem (i := 415) (by decide +kernel)
theorem sL_byteOf : Cond.static yL_byteOf ∈ GW := gw_mem (i := 414) (by decide +kernel)
theorem kX0_byteOf : Cond.code yX0_byteOf cX0_byteOf 5 (some .int) ∈ GW := gw_mem (i := 420) (by decide +kernel)
theorem iX0_byteOf : Cond.instanceMethod yX0_byteOf ∈ GW := gw_mem (i := 418) (by decide +kernel)
theorem eX0_byteOf : Cond.selects RX0 yX0_byteOf yX0_byteOf ∈ GW := gw_mem (i := 419) (by decide +kernel)
theorem kL_count : Cond.codeWith yL_count cL_count 4 (some .int) [(0, 9, 12, 19)] ∈ GW := gw_mem (i := 439) (by decide +kernel)
theorem sL_count : Cond.static yL_count ∈ GW := gw_mem (i := 438) (by decide +kernel)
theorem kX0_count : Cond.code yX0_count cX0_count 2 (some .int) ∈ GW := gw_mem (i := 443) (by decide +kernel)
theorem iX0_count : Cond.instanceMethod yX0_count ∈ GW := gw_mem (i := 441) (by decide +kernel)
theorem eX0_count : Cond.selects RX0 yX0_count yX0_count ∈ GW := gw_mem (i := 442) (by decide +kernel)
theorem kL_journal : Cond.codeWith yL_journal cL_journal 4 (some .int) [(0, 9, 12, 53)] ∈ GW := gw_mem (i := 447) (by decide +kernel)
theorem sL_journal : Cond.static yL_journal ∈ GW := gw_mem (i := 446) (by decide +kernel)
theorem kX0_journal : Cond.code yX0_journal cX0_journal 2 (some .int) ∈ GW := gw_mem (i := 451) (by decide +kernel)
theorem iX0_journal : Cond.instanceMethod yX0_journal ∈ GW := gw_mem (i := 449) (by decide +kernel)
theorem eX0_journal : Cond.selects RX0 yX0_journal yX0_journal ∈ GW := gw_mem (i := 450) (by decide +kernel)
theorem kL_crash : Cond.codeWith yL_crash cL_crash 5 (some .int) [(0, 10, 13, 19)] ∈ GW := gw_mem (i := 455) (by decide +kernel)
theorem sL_crash : Cond.static yL_crash ∈ GW := gw_mem (i := 454) (by decide +kernel)
theorem kX0_crash : Cond.code yX0_crash cX0_crash 3 (some .int) ∈ GW := gw_mem (i := 459) (by decide +kernel)
theorem iX0_crash : Cond.instanceMethod yX0_crash ∈ GW := gw_mem (i := 457) (by decide +kernel)
theorem eX0_crash : Cond.selects RX0 yX0_crash yX0_crash ∈ GW := gw_mem (i := 458) (by decide +kernel)
theorem kJ7_fillJ : Cond.code yJ7_fillJ cJ7_fillJ 5 none ∈ GW := gw_mem (i := 463) (by decide +kernel)
theorem sJ7_fillJ : Cond.static yJ7_fillJ ∈ GW := gw_mem (i := 462) (by decide +kernel)
theorem kX1_init : Cond.code yX1_init cX1_init 1 none ∈ GW := gw_mem (i := 468) (by decide +kernel)
theorem iX1_init : Cond.instanceMethod yX1_init ∈ GW := gw_mem (i := 467) (by decide +kernel)
theorem kX1_thrown : Cond.code yX1_thrown cX1_thrown 1 (some .int) ∈ GW := gw_mem (i := 529) (by decide +kernel)
theorem iX1_thrown : Cond.instanceMethod yX1_thrown ∈ GW := gw_mem (i := 527) (by decide +kernel)
theorem eX1_thrown : Cond.selects RX1 yX1_thrown yX1_thrown ∈ GW := gw_mem (i := 528) (by decide +kernel)
theorem kX1_type : Cond.code yX1_type cX1_type 3 (some .int) ∈ GW := gw_mem (i := 533) (by decide +kernel)
theorem iX1_type : Cond.instanceMethod yX1_type ∈ GW := gw_mem (i := 531) (by decide +kernel)
theorem eX1_type : Cond.selects RX1 yX1_type yX1_type ∈ GW := gw_mem (i := 532) (by decide +kernel)
theorem kX1_cut : Cond.code yX1_cut cX1_cut 2 none ∈ GW := gw_mem (i := 537) (by decide +kernel)
theorem iX1_cut : Cond.instanceMethod yX1_cut ∈ GW := gw_mem (i := 535) (by decide +kernel)
theorem eX1_cut : Cond.selects RX1 yX1_cut yX1_cut ∈ GW := gw_mem (i := 536) (by decide +kernel)
theorem kX1_digest : Cond.code yX1_digest cX1_digest 1 (some .long) ∈ GW := gw_mem (i := 541) (by decide +kernel)
theorem iX1_digest : Cond.instanceMethod yX1_digest ∈ GW := gw_mem (i := 539) (by decide +kernel)
theorem eX1_digest : Cond.selects RX1 yX1_digest yX1_digest ∈ GW := gw_mem (i := 540) (by decide +kernel)
theorem kX1_digestOfTyped : Cond.code yX1_digestOfTyped cX1_digestOfTyped 4 (some .long) ∈ GW := gw_mem (i := 545) (by decide +kernel)
theorem iX1_digestOfTyped : Cond.instanceMethod yX1_digestOfTyped ∈ GW := gw_mem (i := 544) (by decide +kernel)
theorem eX1_digestOfTyped : Cond.selects RX1 yX1_digestOfTyped yX1_digestOfTyped ∈ GW := gw_mem (i := 26) (by decide +kernel)
theorem kX1_goes : Cond.code yX1_goes cX1_goes 3 (some .long) ∈ GW := gw_mem (i := 549) (by decide +kernel)
theorem sX1_goes : Cond.static yX1_goes ∈ GW := gw_mem (i := 548) (by decide +kernel)
theorem kX1_ends : Cond.code yX1_ends cX1_ends 5 (some .long) ∈ GW := gw_mem (i := 553) (by decide +kernel)
theorem sX1_ends : Cond.static yX1_ends ∈ GW := gw_mem (i := 552) (by decide +kernel)
theorem kX1_keep : Cond.code yX1_keep cX1_keep 4 (some .long) ∈ GW := gw_mem (i := 558) (by decide +kernel)
theorem iX1_keep : Cond.instanceMethod yX1_keep ∈ GW := gw_mem (i := 556) (by decide +kernel)
theorem eX1_keep : Cond.selects RX1 yX1_keep yX1_keep ∈ GW := gw_mem (i := 557) (by decide +kernel)
theorem kX1_next : Cond.code yX1_next cX1_next 5 none ∈ GW := gw_mem (i := 562) (by decide +kernel)
theorem iX1_next : Cond.instanceMethod yX1_next ∈ GW := gw_mem (i := 561) (by decide +kernel)
theorem eX1_next : Cond.selects RX1 yX1_next yX1_next ∈ GW := gw_mem (i := 27) (by decide +kernel)
theorem kX1_blobOf : Cond.code yX1_blobOf cX1_blobOf 4 (some .int) ∈ GW := gw_mem (i := 567) (by decide +kernel)
theorem iX1_blobOf : Cond.instanceMethod yX1_blobOf ∈ GW := gw_mem (i := 566) (by decide +kernel)
theorem eX1_blobOf : Cond.selects RX1 yX1_blobOf yX1_blobOf ∈ GW := gw_mem (i := 28) (by decide +kernel)
theorem kX1_hasRoom : Cond.code yX1_hasRoom cX1_hasRoom 1 (some .boolean) ∈ GW := gw_mem (i := 571) (by decide +kernel)
theorem iX1_hasRoom : Cond.instanceMethod yX1_hasRoom ∈ GW := gw_mem (i := 570) (by decide +kernel)
theorem eX1_hasRoom : Cond.selects RX1 yX1_hasRoom yX1_hasRoom ∈ GW := gw_mem (i := 29) (by decide +kernel)
theorem kX1_write : Cond.code yX1_write cX1_write 5 none ∈ GW := gw_mem (i := 575) (by decide +kernel)
theorem iX1_write : Cond.instanceMethod yX1_write ∈ GW := gw_mem (i := 574) (by decide +kernel)
theorem eX1_write : Cond.selects RX1 yX1_write yX1_write ∈ GW := gw_mem (i := 30) (by decide +kernel)
theorem kX1_says : Cond.code yX1_says cX1_says 6 (some .boolean) ∈ GW := gw_mem (i := 579) (by decide +kernel)
theorem iX1_says : Cond.instanceMethod yX1_says ∈ GW := gw_mem (i := 578) (by decide +kernel)
theorem eX1_says : Cond.selects RX1 yX1_says yX1_says ∈ GW := gw_mem (i := 31) (by decide +kernel)
theorem kX1_saysBlob : Cond.code yX1_saysBlob cX1_saysBlob 4 (some .boolean) ∈ GW := gw_mem (i := 583) (by decide +kernel)
theorem iX1_saysBlob : Cond.instanceMethod yX1_saysBlob ∈ GW := gw_mem (i := 582) (by decide +kernel)
theorem eX1_saysBlob : Cond.selects RX1 yX1_saysBlob yX1_saysBlob ∈ GW := gw_mem (i := 32) (by decide +kernel)
theorem kX1_digestOfRecord : Cond.code yX1_digestOfRecord cX1_digestOfRecord 4 (some .long) ∈ GW := gw_mem (i := 587) (by decide +kernel)
theorem iX1_digestOfRecord : Cond.instanceMethod yX1_digestOfRecord ∈ GW := gw_mem (i := 586) (by decide +kernel)
theorem eX1_digestOfRecord : Cond.selects RX1 yX1_digestOfRecord yX1_digestOfRecord ∈ GW := gw_mem (i := 33) (by decide +kernel)
theorem kX1_eight : Cond.code yX1_eight cX1_eight 5 (some .long) ∈ GW := gw_mem (i := 591) (by decide +kernel)
theorem iX1_eight : Cond.instanceMethod yX1_eight ∈ GW := gw_mem (i := 590) (by decide +kernel)
theorem eX1_eight : Cond.selects RX1 yX1_eight yX1_eight ∈ GW := gw_mem (i := 34) (by decide +kernel)
theorem kX1_saysKey : Cond.code yX1_saysKey cX1_saysKey 6 (some .boolean) ∈ GW := gw_mem (i := 595) (by decide +kernel)
theorem iX1_saysKey : Cond.instanceMethod yX1_saysKey ∈ GW := gw_mem (i := 594) (by decide +kernel)
theorem eX1_saysKey : Cond.selects RX1 yX1_saysKey yX1_saysKey ∈ GW := gw_mem (i := 35) (by decide +kernel)
theorem kX1_keyOf : Cond.code yX1_keyOf cX1_keyOf 4 (some .int) ∈ GW := gw_mem (i := 599) (by decide +kernel)
theorem iX1_keyOf : Cond.instanceMethod yX1_keyOf ∈ GW := gw_mem (i := 598) (by decide +kernel)
theorem eX1_keyOf : Cond.selects RX1 yX1_keyOf yX1_keyOf ∈ GW := gw_mem (i := 36) (by decide +kernel)
theorem kX1_tell : Cond.code yX1_tell cX1_tell 4 none ∈ GW := gw_mem (i := 603) (by decide +kernel)
theorem iX1_tell : Cond.instanceMethod yX1_tell ∈ GW := gw_mem (i := 601) (by decide +kernel)
theorem eX1_tell : Cond.selects RX1 yX1_tell yX1_tell ∈ GW := gw_mem (i := 602) (by decide +kernel)
theorem kX1_isTag : Cond.code yX1_isTag cX1_isTag 1 (some .boolean) ∈ GW := gw_mem (i := 606) (by decide +kernel)
theorem sX1_isTag : Cond.static yX1_isTag ∈ GW := gw_mem (i := 605) (by decide +kernel)
theorem kX1_untell : Cond.code yX1_untell cX1_untell 2 none ∈ GW := gw_mem (i := 610) (by decide +kernel)
theorem iX1_untell : Cond.instanceMethod yX1_untell ∈ GW := gw_mem (i := 608) (by decide +kernel)
theorem eX1_untell : Cond.selects RX1 yX1_untell yX1_untell ∈ GW := gw_mem (i := 609) (by decide +kernel)
theorem kX1_learn : Cond.code yX1_learn cX1_learn 6 none ∈ GW := gw_mem (i := 614) (by decide +kernel)
theorem iX1_learn : Cond.instanceMethod yX1_learn ∈ GW := gw_mem (i := 612) (by decide +kernel)
theorem eX1_learn : Cond.selects RX1 yX1_learn yX1_learn ∈ GW := gw_mem (i := 613) (by decide +kernel)
theorem kX1_pin : Cond.code yX1_pin cX1_pin 4 none ∈ GW := gw_mem (i := 618) (by decide +kernel)
theorem iX1_pin : Cond.instanceMethod yX1_pin ∈ GW := gw_mem (i := 616) (by decide +kernel)
theorem eX1_pin : Cond.selects RX1 yX1_pin yX1_pin ∈ GW := gw_mem (i := 617) (by decide +kernel)
theorem kX1_tag : Cond.code yX1_tag cX1_tag 2 (some .long) ∈ GW := gw_mem (i := 622) (by decide +kernel)
theorem iX1_tag : Cond.instanceMethod yX1_tag ∈ GW := gw_mem (i := 620) (by decide +kernel)
theorem eX1_tag : Cond.selects RX1 yX1_tag yX1_tag ∈ GW := gw_mem (i := 621) (by decide +kernel)
theorem kX1_look : Cond.code yX1_look cX1_look 4 (some .long) ∈ GW := gw_mem (i := 626) (by decide +kernel)
theorem iX1_look : Cond.instanceMethod yX1_look ∈ GW := gw_mem (i := 624) (by decide +kernel)
theorem eX1_look : Cond.selects RX1 yX1_look yX1_look ∈ GW := gw_mem (i := 625) (by decide +kernel)
theorem kX1_length : Cond.code yX1_length cX1_length 4 (some .int) ∈ GW := gw_mem (i := 630) (by decide +kernel)
theorem iX1_length : Cond.instanceMethod yX1_length ∈ GW := gw_mem (i := 628) (by decide +kernel)
theorem eX1_length : Cond.selects RX1 yX1_length yX1_length ∈ GW := gw_mem (i := 629) (by decide +kernel)
theorem kX1_byteOf : Cond.code yX1_byteOf cX1_byteOf 5 (some .int) ∈ GW := gw_mem (i := 634) (by decide +kernel)
theorem iX1_byteOf : Cond.instanceMethod yX1_byteOf ∈ GW := gw_mem (i := 632) (by decide +kernel)
theorem eX1_byteOf : Cond.selects RX1 yX1_byteOf yX1_byteOf ∈ GW := gw_mem (i := 633) (by decide +kernel)
theorem kX1_count : Cond.code yX1_count cX1_count 2 (some .int) ∈ GW := gw_mem (i := 638) (by decide +kernel)
theorem iX1_count : Cond.instanceMethod yX1_count ∈ GW := gw_mem (i := 636) (by decide +kernel)
theorem eX1_count : Cond.selects RX1 yX1_count yX1_count ∈ GW := gw_mem (i := 637) (by decide +kernel)
theorem kX1_journal : Cond.code yX1_journal cX1_journal 2 (some .int) ∈ GW := gw_mem (i := 642) (by decide +kernel)
theorem iX1_journal : Cond.instanceMethod yX1_journal ∈ GW := gw_mem (i := 640) (by decide +kernel)
theorem eX1_journal : Cond.selects RX1 yX1_journal yX1_journal ∈ GW := gw_mem (i := 641) (by decide +kernel)
theorem kX1_sync : Cond.code yX1_sync cX1_sync 1 none ∈ GW := gw_mem (i := 646) (by decide +kernel)
theorem iX1_sync : Cond.instanceMethod yX1_sync ∈ GW := gw_mem (i := 644) (by decide +kernel)
theorem eX1_sync : Cond.selects RX1 yX1_sync yX1_sync ∈ GW := gw_mem (i := 645) (by decide +kernel)
theorem kX1_crash : Cond.code yX1_crash cX1_crash 6 (some .int) ∈ GW := gw_mem (i := 650) (by decide +kernel)
theorem iX1_crash : Cond.instanceMethod yX1_crash ∈ GW := gw_mem (i := 648) (by decide +kernel)
theorem eX1_crash : Cond.selects RX1 yX1_crash yX1_crash ∈ GW := gw_mem (i := 649) (by decide +kernel)
theorem kX1_empties : Cond.code yX1_empties cX1_empties 2 none ∈ GW := gw_mem (i := 654) (by decide +kernel)
theorem iX1_empties : Cond.instanceMethod yX1_empties ∈ GW := gw_mem (i := 653) (by decide +kernel)
theorem eX1_empties : Cond.selects RX1 yX1_empties yX1_empties ∈ GW := gw_mem (i := 37) (by decide +kernel)
theorem kX1_reads : Cond.code yX1_reads cX1_reads 6 (some .int) ∈ GW := gw_mem (i := 658) (by decide +kernel)
theorem iX1_reads : Cond.instanceMethod yX1_reads ∈ GW := gw_mem (i := 657) (by decide +kernel)
theorem eX1_reads : Cond.selects RX1 yX1_reads yX1_reads ∈ GW := gw_mem (i := 38) (by decide +kernel)
theorem kX1_collect : Cond.code yX1_collect cX1_collect 4 (some .int) ∈ GW := gw_mem (i := 662) (by decide +kernel)
theorem iX1_collect : Cond.instanceMethod yX1_collect ∈ GW := gw_mem (i := 660) (by decide +kernel)
theorem eX1_collect : Cond.selects RX1 yX1_collect yX1_collect ∈ GW := gw_mem (i := 661) (by decide +kernel)
theorem kX1_isTold : Cond.code yX1_isTold cX1_isTold 5 (some .boolean) ∈ GW := gw_mem (i := 666) (by decide +kernel)
theorem iX1_isTold : Cond.instanceMethod yX1_isTold ∈ GW := gw_mem (i := 665) (by decide +kernel)
theorem eX1_isTold : Cond.selects RX1 yX1_isTold yX1_isTold ∈ GW := gw_mem (i := 39) (by decide +kernel)
theorem nX0 : Cond.initialized RX0 ∈ GW := gw_mem (i := 41) (by decide +kernel)
theorem nX1 : Cond.initialized RX1 ∈ GW := gw_mem (i := 43) (by decide +kernel)
theorem nL : Cond.initialized RL ∈ GW := gw_mem (i := 40) (by decide +kernel)
theorem nJ7 : Cond.initialized RJ7 ∈ GW := gw_mem (i := 42) (by decide +kernel)
theorem hL_8 : Cond.classLink RL 8 RX0 ∈ GW := gw_mem (i := 52) (by decide +kernel)
theorem lL_65 : Cond.methodLink RL 65 yX0_init ∈ GW := gw_mem (i := 54) (by decide +kernel)
theorem lX0_3 : Cond.methodLink RX0 3 objectInit ∈ GW := gw_mem (i := 57) (by decide +kernel)
theorem lX0_29 : Cond.methodLink RX0 29 yJ7_fillI ∈ GW := gw_mem (i := 60) (by decide +kernel)
theorem fX0_9 : Cond.fieldLink RX0 9 "BlobJournal" "typed" "[I" ∈ GW := gw_mem (i := 63) (by decide +kernel)
theorem fX0_44 : Cond.fieldLink RX0 44 "BlobJournal" "typedCount" "I" ∈ GW := gw_mem (i := 64) (by decide +kernel)
theorem fX0_13 : Cond.fieldLink RX0 13 "BlobJournal" "written" "[I" ∈ GW := gw_mem (i := 65) (by decide +kernel)
theorem fX0_124 : Cond.fieldLink RX0 124 "BlobJournal" "writtenCount" "I" ∈ GW := gw_mem (i := 66) (by decide +kernel)
theorem fX0_127 : Cond.fieldLink RX0 127 "BlobJournal" "syncedCount" "I" ∈ GW := gw_mem (i := 67) (by decide +kernel)
theorem fX0_16 : Cond.fieldLink RX0 16 "BlobJournal" "blobDigests" "[J" ∈ GW := gw_mem (i := 68) (by decide +kernel)
theorem fX0_20 : Cond.fieldLink RX0 20 "BlobJournal" "blobStarts" "[I" ∈ GW := gw_mem (i := 69) (by decide +kernel)
theorem fX0_23 : Cond.fieldLink RX0 23 "BlobJournal" "blobLengths" "[I" ∈ GW := gw_mem (i := 70) (by decide +kernel)
theorem fX0_68 : Cond.fieldLink RX0 68 "BlobJournal" "blobCount" "I" ∈ GW := gw_mem (i := 71) (by decide +kernel)
theorem fX0_26 : Cond.fieldLink RX0 26 "BlobJournal" "tagBlobs" "[I" ∈ GW := gw_mem (i := 72) (by decide +kernel)
theorem fX0_35 : Cond.fieldLink RX0 35 "BlobJournal" "keys" "[J" ∈ GW := gw_mem (i := 73) (by decide +kernel)
theorem fX0_38 : Cond.fieldLink RX0 38 "BlobJournal" "keyDigests" "[J" ∈ GW := gw_mem (i := 74) (by decide +kernel)
theorem fX0_106 : Cond.fieldLink RX0 106 "BlobJournal" "keyCount" "I" ∈ GW := gw_mem (i := 75) (by decide +kernel)
theorem fX0_41 : Cond.fieldLink RX0 41 "BlobJournal" "pinDigests" "[J" ∈ GW := gw_mem (i := 76) (by decide +kernel)
theorem lL_83 : Cond.methodLink RL 83 yX0_digest ∈ GW := gw_mem (i := 108) (by decide +kernel)
theorem lX0_60 : Cond.methodLink RX0 60 yX0_digestOf ∈ GW := gw_mem (i := 112) (by decide +kernel)
theorem qX0_151 : Cond.constantLong RX0 151 (-7046029254386353131) ∈ GW := gw_mem (i := 115) (by decide +kernel)
theorem qX0_153 : Cond.constantLong RX0 153 (1099511628211) ∈ GW := gw_mem (i := 116) (by decide +kernel)
theorem qX0_155 : Cond.constantLong RX0 155 (-2960836687156293229) ∈ GW := gw_mem (i := 117) (by decide +kernel)
theorem lL_114 : Cond.methodLink RL 114 yX0_length ∈ GW := gw_mem (i := 118) (by decide +kernel)
theorem lX0_64 : Cond.methodLink RX0 64 yX0_findBlob ∈ GW := gw_mem (i := 122) (by decide +kernel)
theorem lL_129 : Cond.methodLink RL 129 yX0_sync ∈ GW := gw_mem (i := 126) (by decide +kernel)
theorem lL_137 : Cond.methodLink RL 137 yX0_collect ∈ GW := gw_mem (i := 130) (by decide +kernel)
theorem lX0_142 : Cond.methodLink RX0 142 yX0_rewriteBlobs ∈ GW := gw_mem (i := 134) (by decide +kernel)
theorem lX0_206 : Cond.methodLink RX0 206 yX0_isTold ∈ GW := gw_mem (i := 138) (by decide +kernel)
theorem lX0_209 : Cond.methodLink RX0 209 arraycopyName ∈ GW := gw_mem (i := 142) (by decide +kernel)
theorem lX0_145 : Cond.methodLink RX0 145 yX0_rewriteTags ∈ GW := gw_mem (i := 145) (by decide +kernel)
theorem lX0_93 : Cond.methodLink RX0 93 yX0_writeTell ∈ GW := gw_mem (i := 149) (by decide +kernel)
theorem lX0_164 : Cond.methodLink RX0 164 yX0_writeHead ∈ GW := gw_mem (i := 153) (by decide +kernel)
theorem lX0_168 : Cond.methodLink RX0 168 yX0_writeByte ∈ GW := gw_mem (i := 157) (by decide +kernel)
theorem lX0_174 : Cond.methodLink RX0 174 yX0_writeLong ∈ GW := gw_mem (i := 161) (by decide +kernel)
theorem lX0_171 : Cond.methodLink RX0 171 yX0_writeSum ∈ GW := gw_mem (i := 165) (by decide +kernel)
theorem lX0_178 : Cond.methodLink RX0 178 yX0_sumOf ∈ GW := gw_mem (i := 169) (by decide +kernel)
theorem lX0_148 : Cond.methodLink RX0 148 yX0_rewriteKeys ∈ GW := gw_mem (i := 173) (by decide +kernel)
theorem lX0_111 : Cond.methodLink RX0 111 yX0_writeKey ∈ GW := gw_mem (i := 177) (by decide +kernel)
theorem lX0_139 : Cond.methodLink RX0 139 yX0_restore ∈ GW := gw_mem (i := 181) (by decide +kernel)
theorem lX0_181 : Cond.methodLink RX0 181 yX0_isWhole ∈ GW := gw_mem (i := 185) (by decide +kernel)
theorem lX0_185 : Cond.methodLink RX0 185 yX0_lengthAt ∈ GW := gw_mem (i := 189) (by decide +kernel)
theorem lX0_81 : Cond.methodLink RX0 81 yX0_follow ∈ GW := gw_mem (i := 193) (by decide +kernel)
theorem lX0_188 : Cond.methodLink RX0 188 yX0_followBlob ∈ GW := gw_mem (i := 197) (by decide +kernel)
theorem lX0_191 : Cond.methodLink RX0 191 yX0_longAt ∈ GW := gw_mem (i := 201) (by decide +kernel)
theorem lX0_195 : Cond.methodLink RX0 195 yX0_followTell ∈ GW := gw_mem (i := 205) (by decide +kernel)
theorem lX0_157 : Cond.methodLink RX0 157 yX0_isTag ∈ GW := gw_mem (i := 209) (by decide +kernel)
theorem lX0_199 : Cond.methodLink RX0 199 yX0_followUntell ∈ GW := gw_mem (i := 212) (by decide +kernel)
theorem lX0_202 : Cond.methodLink RX0 202 yX0_followKey ∈ GW := gw_mem (i := 216) (by decide +kernel)
theorem lX0_103 : Cond.methodLink RX0 103 yX0_findKey ∈ GW := gw_mem (i := 220) (by decide +kernel)
theorem lL_69 : Cond.methodLink RL 69 yL_type ∈ GW := gw_mem (i := 224) (by decide +kernel)
theorem hL_13 : Cond.classLink RL 13 "java/lang/UnsupportedOperationException" ∈ GW := gw_mem (i := 227) (by decide +kernel)
theorem lL_7 : Cond.methodLink RL 7 yX0_type ∈ GW := gw_mem (i := 228) (by decide +kernel)
theorem hX0_48 : Cond.classLink RX0 48 "java/lang/UnsupportedOperationException" ∈ GW := gw_mem (i := 232) (by decide +kernel)
theorem lL_79 : Cond.methodLink RL 79 yL_cut ∈ GW := gw_mem (i := 301) (by decide +kernel)
theorem hL_19 : Cond.classLink RL 19 "java/lang/IllegalArgumentException" ∈ GW := gw_mem (i := 304) (by decide +kernel)
theorem lL_15 : Cond.methodLink RL 15 yX0_cut ∈ GW := gw_mem (i := 305) (by decide +kernel)
theorem hX0_55 : Cond.classLink RX0 55 "java/lang/IllegalArgumentException" ∈ GW := gw_mem (i := 309) (by decide +kernel)
theorem lL_87 : Cond.methodLink RL 87 yL_keep ∈ GW := gw_mem (i := 325) (by decide +kernel)
theorem lL_21 : Cond.methodLink RL 21 yX0_keep ∈ GW := gw_mem (i := 328) (by decide +kernel)
theorem lX0_73 : Cond.methodLink RX0 73 yX0_demandRoom ∈ GW := gw_mem (i := 333) (by decide +kernel)
theorem lX0_77 : Cond.methodLink RX0 77 yX0_writeTyped ∈ GW := gw_mem (i := 338) (by decide +kernel)
theorem lL_93 : Cond.methodLink RL 93 yL_tell ∈ GW := gw_mem (i := 342) (by decide +kernel)
theorem hL_29 : Cond.classLink RL 29 "java/util/NoSuchElementException" ∈ GW := gw_mem (i := 345) (by decide +kernel)
theorem lL_25 : Cond.methodLink RL 25 yX0_tell ∈ GW := gw_mem (i := 346) (by decide +kernel)
theorem lX0_85 : Cond.methodLink RX0 85 yX0_demandTag ∈ GW := gw_mem (i := 350) (by decide +kernel)
theorem hX0_88 : Cond.classLink RX0 88 "java/util/NoSuchElementException" ∈ GW := gw_mem (i := 354) (by decide +kernel)
theorem lL_97 : Cond.methodLink RL 97 yL_untell ∈ GW := gw_mem (i := 370) (by decide +kernel)
theorem lL_31 : Cond.methodLink RL 31 yX0_untell ∈ GW := gw_mem (i := 373) (by decide +kernel)
theorem lX0_99 : Cond.methodLink RX0 99 yX0_writeUntell ∈ GW := gw_mem (i := 378) (by decide +kernel)
theorem lL_100 : Cond.methodLink RL 100 yL_learn ∈ GW := gw_mem (i := 382) (by decide +kernel)
theorem lL_34 : Cond.methodLink RL 34 yX0_learn ∈ GW := gw_mem (i := 385) (by decide +kernel)
theorem lL_104 : Cond.methodLink RL 104 yL_pin ∈ GW := gw_mem (i := 390) (by decide +kernel)
theorem lL_38 : Cond.methodLink RL 38 yX0_pin ∈ GW := gw_mem (i := 393) (by decide +kernel)
theorem lL_107 : Cond.methodLink RL 107 yL_tag ∈ GW := gw_mem (i := 398) (by decide +kernel)
theorem lL_41 : Cond.methodLink RL 41 yX0_tag ∈ GW := gw_mem (i := 401) (by decide +kernel)
theorem lL_110 : Cond.methodLink RL 110 yL_look ∈ GW := gw_mem (i := 405) (by decide +kernel)
theorem lL_45 : Cond.methodLink RL 45 yX0_look ∈ GW := gw_mem (i := 408) (by decide +kernel)
theorem lL_119 : Cond.methodLink RL 119 yL_byteOf ∈ GW := gw_mem (i := 413) (by decide +kernel)
theorem hL_53 : Cond.classLink RL 53 "java/lang/IndexOutOfBoundsException" ∈ GW := gw_mem (i := 416) (by decide +kernel)
theorem lL_49 : Cond.methodLink RL 49 yX0_byteOf ∈ GW := gw_mem (i := 417) (by decide +kernel)
theorem hX0_119 : Cond.classLink RX0 119 "java/lang/IndexOutOfBoundsException" ∈ GW := gw_mem (i := 421) (by decide +kernel)
theorem lL_123 : Cond.methodLink RL 123 yL_count ∈ GW := gw_mem (i := 437) (by decide +kernel)
theorem lL_55 : Cond.methodLink RL 55 yX0_count ∈ GW := gw_mem (i := 440) (by decide +kernel)
theorem lL_126 : Cond.methodLink RL 126 yL_journal ∈ GW := gw_mem (i := 445) (by decide +kernel)
theorem lL_58 : Cond.methodLink RL 58 yX0_journal ∈ GW := gw_mem (i := 448) (by decide +kernel)
theorem lL_133 : Cond.methodLink RL 133 yL_crash ∈ GW := gw_mem (i := 453) (by decide +kernel)
theorem lL_61 : Cond.methodLink RL 61 yX0_crash ∈ GW := gw_mem (i := 456) (by decide +kernel)
theorem lX0_136 : Cond.methodLink RX0 136 yJ7_fillJ ∈ GW := gw_mem (i := 461) (by decide +kernel)
theorem hL_66 : Cond.classLink RL 66 RX1 ∈ GW := gw_mem (i := 464) (by decide +kernel)
theorem lL_68 : Cond.methodLink RL 68 yX1_init ∈ GW := gw_mem (i := 466) (by decide +kernel)
theorem lX1_1 : Cond.methodLink RX1 1 objectInit ∈ GW := gw_mem (i := 469) (by decide +kernel)
theorem fX1_45 : Cond.fieldLink RX1 45 "BlobJournalModel" "thrown" "I" ∈ GW := gw_mem (i := 470) (by decide +kernel)
theorem fX1_7 : Cond.fieldLink RX1 7 "BlobJournalModel" "typed" "[I" ∈ GW := gw_mem (i := 471) (by decide +kernel)
theorem fX1_49 : Cond.fieldLink RX1 49 "BlobJournalModel" "many" "I" ∈ GW := gw_mem (i := 472) (by decide +kernel)
theorem fX1_13 : Cond.fieldLink RX1 13 "BlobJournalModel" "digests" "[J" ∈ GW := gw_mem (i := 473) (by decide +kernel)
theorem fX1_17 : Cond.fieldLink RX1 17 "BlobJournalModel" "lengths" "[I" ∈ GW := gw_mem (i := 474) (by decide +kernel)
theorem fX1_20 : Cond.fieldLink RX1 20 "BlobJournalModel" "bytes" "[I" ∈ GW := gw_mem (i := 475) (by decide +kernel)
theorem fX1_72 : Cond.fieldLink RX1 72 "BlobJournalModel" "blobs" "I" ∈ GW := gw_mem (i := 476) (by decide +kernel)
theorem fX1_23 : Cond.fieldLink RX1 23 "BlobJournalModel" "tags" "[J" ∈ GW := gw_mem (i := 477) (by decide +kernel)
theorem fX1_26 : Cond.fieldLink RX1 26 "BlobJournalModel" "tells" "[Z" ∈ GW := gw_mem (i := 478) (by decide +kernel)
theorem fX1_30 : Cond.fieldLink RX1 30 "BlobJournalModel" "keys" "[J" ∈ GW := gw_mem (i := 479) (by decide +kernel)
theorem fX1_33 : Cond.fieldLink RX1 33 "BlobJournalModel" "told" "[J" ∈ GW := gw_mem (i := 480) (by decide +kernel)
theorem fX1_75 : Cond.fieldLink RX1 75 "BlobJournalModel" "known" "I" ∈ GW := gw_mem (i := 481) (by decide +kernel)
theorem fX1_36 : Cond.fieldLink RX1 36 "BlobJournalModel" "pins" "[J" ∈ GW := gw_mem (i := 482) (by decide +kernel)
theorem fX1_39 : Cond.fieldLink RX1 39 "BlobJournalModel" "journal" "[I" ∈ GW := gw_mem (i := 483) (by decide +kernel)
theorem fX1_80 : Cond.fieldLink RX1 80 "BlobJournalModel" "size" "I" ∈ GW := gw_mem (i := 484) (by decide +kernel)
theorem fX1_123 : Cond.fieldLink RX1 123 "BlobJournalModel" "synced" "I" ∈ GW := gw_mem (i := 485) (by decide +kernel)
theorem fX1_42 : Cond.fieldLink RX1 42 "BlobJournalModel" "record" "[I" ∈ GW := gw_mem (i := 486) (by decide +kernel)
theorem fX1_65 : Cond.fieldLink RX1 65 "BlobJournalModel" "length" "I" ∈ GW := gw_mem (i := 487) (by decide +kernel)
theorem lL_75 : Cond.methodLink RL 75 yX1_thrown ∈ GW := gw_mem (i := 526) (by decide +kernel)
theorem lL_74 : Cond.methodLink RL 74 yX1_type ∈ GW := gw_mem (i := 530) (by decide +kernel)
theorem lL_82 : Cond.methodLink RL 82 yX1_cut ∈ GW := gw_mem (i := 534) (by decide +kernel)
theorem lL_86 : Cond.methodLink RL 86 yX1_digest ∈ GW := gw_mem (i := 538) (by decide +kernel)
theorem lX1_68 : Cond.methodLink RX1 68 yX1_digestOfTyped ∈ GW := gw_mem (i := 542) (by decide +kernel)
theorem qX1_56 : Cond.constantLong RX1 56 (-7046029254386353131) ∈ GW := gw_mem (i := 546) (by decide +kernel)
theorem lX1_58 : Cond.methodLink RX1 58 yX1_goes ∈ GW := gw_mem (i := 547) (by decide +kernel)
theorem qX1_54 : Cond.constantLong RX1 54 (1099511628211) ∈ GW := gw_mem (i := 550) (by decide +kernel)
theorem lX1_62 : Cond.methodLink RX1 62 yX1_ends ∈ GW := gw_mem (i := 551) (by decide +kernel)
theorem qX1_52 : Cond.constantLong RX1 52 (-2960836687156293229) ∈ GW := gw_mem (i := 554) (by decide +kernel)
theorem lL_90 : Cond.methodLink RL 90 yX1_keep ∈ GW := gw_mem (i := 555) (by decide +kernel)
theorem lX1_105 : Cond.methodLink RX1 105 yX1_next ∈ GW := gw_mem (i := 559) (by decide +kernel)
theorem qX1_78 : Cond.constantLong RX1 78 (255) ∈ GW := gw_mem (i := 563) (by decide +kernel)
theorem lX1_91 : Cond.methodLink RX1 91 yX1_blobOf ∈ GW := gw_mem (i := 564) (by decide +kernel)
theorem lX1_109 : Cond.methodLink RX1 109 yX1_hasRoom ∈ GW := gw_mem (i := 568) (by decide +kernel)
theorem lX1_112 : Cond.methodLink RX1 112 yX1_write ∈ GW := gw_mem (i := 572) (by decide +kernel)
theorem lX1_116 : Cond.methodLink RX1 116 yX1_says ∈ GW := gw_mem (i := 576) (by decide +kernel)
theorem lX1_83 : Cond.methodLink RX1 83 yX1_saysBlob ∈ GW := gw_mem (i := 580) (by decide +kernel)
theorem lX1_99 : Cond.methodLink RX1 99 yX1_digestOfRecord ∈ GW := gw_mem (i := 584) (by decide +kernel)
theorem lX1_87 : Cond.methodLink RX1 87 yX1_eight ∈ GW := gw_mem (i := 588) (by decide +kernel)
theorem lX1_95 : Cond.methodLink RX1 95 yX1_saysKey ∈ GW := gw_mem (i := 592) (by decide +kernel)
theorem lX1_102 : Cond.methodLink RX1 102 yX1_keyOf ∈ GW := gw_mem (i := 596) (by decide +kernel)
theorem lL_96 : Cond.methodLink RL 96 yX1_tell ∈ GW := gw_mem (i := 600) (by decide +kernel)
theorem lX1_120 : Cond.methodLink RX1 120 yX1_isTag ∈ GW := gw_mem (i := 604) (by decide +kernel)
theorem lL_99 : Cond.methodLink RL 99 yX1_untell ∈ GW := gw_mem (i := 607) (by decide +kernel)
theorem lL_103 : Cond.methodLink RL 103 yX1_learn ∈ GW := gw_mem (i := 611) (by decide +kernel)
theorem lL_106 : Cond.methodLink RL 106 yX1_pin ∈ GW := gw_mem (i := 615) (by decide +kernel)
theorem lL_109 : Cond.methodLink RL 109 yX1_tag ∈ GW := gw_mem (i := 619) (by decide +kernel)
theorem lL_113 : Cond.methodLink RL 113 yX1_look ∈ GW := gw_mem (i := 623) (by decide +kernel)
theorem lL_118 : Cond.methodLink RL 118 yX1_length ∈ GW := gw_mem (i := 627) (by decide +kernel)
theorem lL_122 : Cond.methodLink RL 122 yX1_byteOf ∈ GW := gw_mem (i := 631) (by decide +kernel)
theorem lL_125 : Cond.methodLink RL 125 yX1_count ∈ GW := gw_mem (i := 635) (by decide +kernel)
theorem lL_128 : Cond.methodLink RL 128 yX1_journal ∈ GW := gw_mem (i := 639) (by decide +kernel)
theorem lL_132 : Cond.methodLink RL 132 yX1_sync ∈ GW := gw_mem (i := 643) (by decide +kernel)
theorem lL_136 : Cond.methodLink RL 136 yX1_crash ∈ GW := gw_mem (i := 647) (by decide +kernel)
theorem lX1_126 : Cond.methodLink RX1 126 yX1_empties ∈ GW := gw_mem (i := 651) (by decide +kernel)
theorem lX1_129 : Cond.methodLink RX1 129 yX1_reads ∈ GW := gw_mem (i := 655) (by decide +kernel)
theorem lL_140 : Cond.methodLink RL 140 yX1_collect ∈ GW := gw_mem (i := 659) (by decide +kernel)
theorem lX1_133 : Cond.methodLink RX1 133 yX1_isTold ∈ GW := gw_mem (i := 663) (by decide +kernel)
theorem qL_91 : Cond.constantLong RL 91 (4294967295) ∈ GW := gw_mem (i := 667) (by decide +kernel)
theorem tJ_init : Cond.instanceMethod objectInit ∈ GW := gw_mem (i := 58) (by decide +kernel)
theorem tJ_code : Cond.code objectInit ⟨#[0xb1]⟩ 1 none ∈ GW := gw_mem (i := 59) (by decide +kernel)
theorem w_aI : Cond.arrayClass .int ∈ GW := gw_mem (i := 106) (by decide +kernel)
theorem w_aJ : Cond.arrayClass .long ∈ GW := gw_mem (i := 107) (by decide +kernel)
theorem w_aZ : Cond.arrayClass .boolean ∈ GW := gw_mem (i := 525) (by decide +kernel)
theorem w_nSys : Cond.initialized "java/lang/System" ∈ GW := gw_mem (i := 51) (by decide +kernel)
theorem w_cpN : Cond.native arraycopyName ∈ GW := gw_mem (i := 144) (by decide +kernel)
theorem w_cpS : Cond.static arraycopyName ∈ GW := gw_mem (i := 143) (by decide +kernel)
theorem z_X0 : Cond.instantiable RX0 14 ∈ GW := gw_mem (i := 53) (by decide +kernel)
theorem z_X1 : Cond.instantiable RX1 18 ∈ GW := gw_mem (i := 465) (by decide +kernel)
theorem z_UnsupportedOperationException : Cond.instantiable "java/lang/UnsupportedOperationException" 6 ∈ GW := gw_mem (i := 233) (by decide +kernel)
theorem n_UnsupportedOperationException : Cond.initialized "java/lang/UnsupportedOperationException" ∈ GW := gw_mem (i := 47) (by decide +kernel)
theorem z_IllegalArgumentException : Cond.instantiable "java/lang/IllegalArgumentException" 6 ∈ GW := gw_mem (i := 310) (by decide +kernel)
theorem n_IllegalArgumentException : Cond.initialized "java/lang/IllegalArgumentException" ∈ GW := gw_mem (i := 48) (by decide +kernel)
theorem z_NoSuchElementException : Cond.instantiable "java/util/NoSuchElementException" 6 ∈ GW := gw_mem (i := 355) (by decide +kernel)
theorem n_NoSuchElementException : Cond.initialized "java/util/NoSuchElementException" ∈ GW := gw_mem (i := 49) (by decide +kernel)
theorem z_IndexOutOfBoundsException : Cond.instantiable "java/lang/IndexOutOfBoundsException" 6 ∈ GW := gw_mem (i := 422) (by decide +kernel)
theorem n_IndexOutOfBoundsException : Cond.initialized "java/lang/IndexOutOfBoundsException" ∈ GW := gw_mem (i := 50) (by decide +kernel)
theorem gL_65 : GoodIn GW wsX0_init := gw_goodIn (List.forall_mem_cons.mpr ⟨kX0_init, fun _ h => h⟩)
theorem gX0_29 : GoodIn GW (va_wsS RX0 29 yJ7_fillI wsJ7_fillI) := gw_goodIn (List.forall_mem_append.mpr ⟨List.forall_mem_cons.mpr ⟨lX0_29, List.forall_mem_cons.mpr ⟨sJ7_fillI, List.forall_mem_cons.mpr ⟨nJ7, fun _ h => absurd h List.not_mem_nil⟩⟩⟩, List.forall_mem_cons.mpr ⟨kJ7_fillI, fun _ h => h⟩⟩)
theorem gL_83 : GoodIn GW (wsV RL 83 RX0 yX0_digest wsX0_digest) := gw_goodIn (List.forall_mem_append.mpr ⟨List.forall_mem_cons.mpr ⟨lL_83, List.forall_mem_cons.mpr ⟨iX0_digest, List.forall_mem_cons.mpr ⟨eX0_digest, List.forall_mem_cons.mpr ⟨nX0, fun _ h => absurd h List.not_mem_nil⟩⟩⟩⟩, List.forall_mem_cons.mpr ⟨kX0_digest, fun _ h => h⟩⟩)
theorem gX0_60 : GoodIn GW (va_wsS RX0 60 yX0_digestOf wsX0_digestOf) := gw_goodIn (List.forall_mem_append.mpr ⟨List.forall_mem_cons.mpr ⟨lX0_60, List.forall_mem_cons.mpr ⟨sX0_digestOf, List.forall_mem_cons.mpr ⟨nX0, fun _ h => absurd h List.not_mem_nil⟩⟩⟩, List.forall_mem_cons.mpr ⟨kX0_digestOf, fun _ h => h⟩⟩)
theorem gL_114 : GoodIn GW (wsV RL 114 RX0 yX0_length wsX0_length) := gw_goodIn (List.forall_mem_append.mpr ⟨List.forall_mem_cons.mpr ⟨lL_114, List.forall_mem_cons.mpr ⟨iX0_length, List.forall_mem_cons.mpr ⟨eX0_length, List.forall_mem_cons.mpr ⟨nX0, fun _ h => absurd h List.not_mem_nil⟩⟩⟩⟩, List.forall_mem_cons.mpr ⟨kX0_length, fun _ h => h⟩⟩)
theorem gX0_64 : GoodIn GW (wsV RX0 64 RX0 yX0_findBlob wsX0_findBlob) := gw_goodIn (List.forall_mem_append.mpr ⟨List.forall_mem_cons.mpr ⟨lX0_64, List.forall_mem_cons.mpr ⟨iX0_findBlob, List.forall_mem_cons.mpr ⟨eX0_findBlob, List.forall_mem_cons.mpr ⟨nX0, fun _ h => absurd h List.not_mem_nil⟩⟩⟩⟩, List.forall_mem_cons.mpr ⟨kX0_findBlob, fun _ h => h⟩⟩)
theorem gL_129 : GoodIn GW (wsV RL 129 RX0 yX0_sync wsX0_sync) := gw_goodIn (List.forall_mem_append.mpr ⟨List.forall_mem_cons.mpr ⟨lL_129, List.forall_mem_cons.mpr ⟨iX0_sync, List.forall_mem_cons.mpr ⟨eX0_sync, List.forall_mem_cons.mpr ⟨nX0, fun _ h => absurd h List.not_mem_nil⟩⟩⟩⟩, List.forall_mem_cons.mpr ⟨kX0_sync, fun _ h => h⟩⟩)
theorem gL_137 : GoodIn GW (wsV RL 137 RX0 yX0_collect wsX0_collect) := gw_goodIn (List.forall_mem_append.mpr ⟨List.forall_mem_cons.mpr ⟨lL_137, List.forall_mem_cons.mpr ⟨iX0_collect, List.forall_mem_cons.mpr ⟨eX0_collect, List.forall_mem_cons.mpr ⟨nX0, fun _ h => absurd h List.not_mem_nil⟩⟩⟩⟩, List.forall_mem_cons.mpr ⟨kX0_collect, fun _ h => h⟩⟩)
theorem gX0_142 : GoodIn GW (wsV RX0 142 RX0 yX0_rewriteBlobs wsX0_rewriteBlobs) := gw_goodIn (List.forall_mem_append.mpr ⟨List.forall_mem_cons.mpr ⟨lX0_142, List.forall_mem_cons.mpr ⟨iX0_rewriteBlobs, List.forall_mem_cons.mpr ⟨eX0_rewriteBlobs, List.forall_mem_cons.mpr ⟨nX0, fun _ h => absurd h List.not_mem_nil⟩⟩⟩⟩, List.forall_mem_cons.mpr ⟨kX0_rewriteBlobs, fun _ h => h⟩⟩)
theorem gX0_206 : GoodIn GW (wsV RX0 206 RX0 yX0_isTold wsX0_isTold) := gw_goodIn (List.forall_mem_append.mpr ⟨List.forall_mem_cons.mpr ⟨lX0_206, List.forall_mem_cons.mpr ⟨iX0_isTold, List.forall_mem_cons.mpr ⟨eX0_isTold, List.forall_mem_cons.mpr ⟨nX0, fun _ h => absurd h List.not_mem_nil⟩⟩⟩⟩, List.forall_mem_cons.mpr ⟨kX0_isTold, fun _ h => h⟩⟩)
theorem gX0_145 : GoodIn GW (wsV RX0 145 RX0 yX0_rewriteTags wsX0_rewriteTags) := gw_goodIn (List.forall_mem_append.mpr ⟨List.forall_mem_cons.mpr ⟨lX0_145, List.forall_mem_cons.mpr ⟨iX0_rewriteTags, List.forall_mem_cons.mpr ⟨eX0_rewriteTags, List.forall_mem_cons.mpr ⟨nX0, fun _ h => absurd h List.not_mem_nil⟩⟩⟩⟩, List.forall_mem_cons.mpr ⟨kX0_rewriteTags, fun _ h => h⟩⟩)
theorem gX0_93 : GoodIn GW (wsV RX0 93 RX0 yX0_writeTell wsX0_writeTell) := gw_goodIn (List.forall_mem_append.mpr ⟨List.forall_mem_cons.mpr ⟨lX0_93, List.forall_mem_cons.mpr ⟨iX0_writeTell, List.forall_mem_cons.mpr ⟨eX0_writeTell, List.forall_mem_cons.mpr ⟨nX0, fun _ h => absurd h List.not_mem_nil⟩⟩⟩⟩, List.forall_mem_cons.mpr ⟨kX0_writeTell, fun _ h => h⟩⟩)
theorem gX0_164 : GoodIn GW (wsV RX0 164 RX0 yX0_writeHead wsX0_writeHead) := gw_goodIn (List.forall_mem_append.mpr ⟨List.forall_mem_cons.mpr ⟨lX0_164, List.forall_mem_cons.mpr ⟨iX0_writeHead, List.forall_mem_cons.mpr ⟨eX0_writeHead, List.forall_mem_cons.mpr ⟨nX0, fun _ h => absurd h List.not_mem_nil⟩⟩⟩⟩, List.forall_mem_cons.mpr ⟨kX0_writeHead, fun _ h => h⟩⟩)
theorem gX0_168 : GoodIn GW (wsV RX0 168 RX0 yX0_writeByte wsX0_writeByte) := gw_goodIn (List.forall_mem_append.mpr ⟨List.forall_mem_cons.mpr ⟨lX0_168, List.forall_mem_cons.mpr ⟨iX0_writeByte, List.forall_mem_cons.mpr ⟨eX0_writeByte, List.forall_mem_cons.mpr ⟨nX0, fun _ h => absurd h List.not_mem_nil⟩⟩⟩⟩, List.forall_mem_cons.mpr ⟨kX0_writeByte, fun _ h => h⟩⟩)
theorem gX0_174 : GoodIn GW (wsV RX0 174 RX0 yX0_writeLong wsX0_writeLong) := gw_goodIn (List.forall_mem_append.mpr ⟨List.forall_mem_cons.mpr ⟨lX0_174, List.forall_mem_cons.mpr ⟨iX0_writeLong, List.forall_mem_cons.mpr ⟨eX0_writeLong, List.forall_mem_cons.mpr ⟨nX0, fun _ h => absurd h List.not_mem_nil⟩⟩⟩⟩, List.forall_mem_cons.mpr ⟨kX0_writeLong, fun _ h => h⟩⟩)
theorem gX0_171 : GoodIn GW (wsV RX0 171 RX0 yX0_writeSum wsX0_writeSum) := gw_goodIn (List.forall_mem_append.mpr ⟨List.forall_mem_cons.mpr ⟨lX0_171, List.forall_mem_cons.mpr ⟨iX0_writeSum, List.forall_mem_cons.mpr ⟨eX0_writeSum, List.forall_mem_cons.mpr ⟨nX0, fun _ h => absurd h List.not_mem_nil⟩⟩⟩⟩, List.forall_mem_cons.mpr ⟨kX0_writeSum, fun _ h => h⟩⟩)
theorem gX0_178 : GoodIn GW (wsV RX0 178 RX0 yX0_sumOf wsX0_sumOf) := gw_goodIn (List.forall_mem_append.mpr ⟨List.forall_mem_cons.mpr ⟨lX0_178, List.forall_mem_cons.mpr ⟨iX0_sumOf, List.forall_mem_cons.mpr ⟨eX0_sumOf, List.forall_mem_cons.mpr ⟨nX0, fun _ h => absurd h List.not_mem_nil⟩⟩⟩⟩, List.forall_mem_cons.mpr ⟨kX0_sumOf, fun _ h => h⟩⟩)
theorem gX0_148 : GoodIn GW (wsV RX0 148 RX0 yX0_rewriteKeys wsX0_rewriteKeys) := gw_goodIn (List.forall_mem_append.mpr ⟨List.forall_mem_cons.mpr ⟨lX0_148, List.forall_mem_cons.mpr ⟨iX0_rewriteKeys, List.forall_mem_cons.mpr ⟨eX0_rewriteKeys, List.forall_mem_cons.mpr ⟨nX0, fun _ h => absurd h List.not_mem_nil⟩⟩⟩⟩, List.forall_mem_cons.mpr ⟨kX0_rewriteKeys, fun _ h => h⟩⟩)
theorem gX0_111 : GoodIn GW (wsV RX0 111 RX0 yX0_writeKey wsX0_writeKey) := gw_goodIn (List.forall_mem_append.mpr ⟨List.forall_mem_cons.mpr ⟨lX0_111, List.forall_mem_cons.mpr ⟨iX0_writeKey, List.forall_mem_cons.mpr ⟨eX0_writeKey, List.forall_mem_cons.mpr ⟨nX0, fun _ h => absurd h List.not_mem_nil⟩⟩⟩⟩, List.forall_mem_cons.mpr ⟨kX0_writeKey, fun _ h => h⟩⟩)
theorem gX0_139 : GoodIn GW (wsV RX0 139 RX0 yX0_restore wsX0_restore) := gw_goodIn (List.forall_mem_append.mpr ⟨List.forall_mem_cons.mpr ⟨lX0_139, List.forall_mem_cons.mpr ⟨iX0_restore, List.forall_mem_cons.mpr ⟨eX0_restore, List.forall_mem_cons.mpr ⟨nX0, fun _ h => absurd h List.not_mem_nil⟩⟩⟩⟩, List.forall_mem_cons.mpr ⟨kX0_restore, fun _ h => h⟩⟩)
theorem gX0_181 : GoodIn GW (wsV RX0 181 RX0 yX0_isWhole wsX0_isWhole) := gw_goodIn (List.forall_mem_append.mpr ⟨List.forall_mem_cons.mpr ⟨lX0_181, List.forall_mem_cons.mpr ⟨iX0_isWhole, List.forall_mem_cons.mpr ⟨eX0_isWhole, List.forall_mem_cons.mpr ⟨nX0, fun _ h => absurd h List.not_mem_nil⟩⟩⟩⟩, List.forall_mem_cons.mpr ⟨kX0_isWhole, fun _ h => h⟩⟩)
theorem gX0_185 : GoodIn GW (wsV RX0 185 RX0 yX0_lengthAt wsX0_lengthAt) := gw_goodIn (List.forall_mem_append.mpr ⟨List.forall_mem_cons.mpr ⟨lX0_185, List.forall_mem_cons.mpr ⟨iX0_lengthAt, List.forall_mem_cons.mpr ⟨eX0_lengthAt, List.forall_mem_cons.mpr ⟨nX0, fun _ h => absurd h List.not_mem_nil⟩⟩⟩⟩, List.forall_mem_cons.mpr ⟨kX0_lengthAt, fun _ h => h⟩⟩)
theorem gX0_81 : GoodIn GW (wsV RX0 81 RX0 yX0_follow wsX0_follow) := gw_goodIn (List.forall_mem_append.mpr ⟨List.forall_mem_cons.mpr ⟨lX0_81, List.forall_mem_cons.mpr ⟨iX0_follow, List.forall_mem_cons.mpr ⟨eX0_follow, List.forall_mem_cons.mpr ⟨nX0, fun _ h => absurd h List.not_mem_nil⟩⟩⟩⟩, List.forall_mem_cons.mpr ⟨kX0_follow, fun _ h => h⟩⟩)
theorem gX0_188 : GoodIn GW (wsV RX0 188 RX0 yX0_followBlob wsX0_followBlob) := gw_goodIn (List.forall_mem_append.mpr ⟨List.forall_mem_cons.mpr ⟨lX0_188, List.forall_mem_cons.mpr ⟨iX0_followBlob, List.forall_mem_cons.mpr ⟨eX0_followBlob, List.forall_mem_cons.mpr ⟨nX0, fun _ h => absurd h List.not_mem_nil⟩⟩⟩⟩, List.forall_mem_cons.mpr ⟨kX0_followBlob, fun _ h => h⟩⟩)
theorem gX0_191 : GoodIn GW (wsV RX0 191 RX0 yX0_longAt wsX0_longAt) := gw_goodIn (List.forall_mem_append.mpr ⟨List.forall_mem_cons.mpr ⟨lX0_191, List.forall_mem_cons.mpr ⟨iX0_longAt, List.forall_mem_cons.mpr ⟨eX0_longAt, List.forall_mem_cons.mpr ⟨nX0, fun _ h => absurd h List.not_mem_nil⟩⟩⟩⟩, List.forall_mem_cons.mpr ⟨kX0_longAt, fun _ h => h⟩⟩)
theorem gX0_195 : GoodIn GW (wsV RX0 195 RX0 yX0_followTell wsX0_followTell) := gw_goodIn (List.forall_mem_append.mpr ⟨List.forall_mem_cons.mpr ⟨lX0_195, List.forall_mem_cons.mpr ⟨iX0_followTell, List.forall_mem_cons.mpr ⟨eX0_followTell, List.forall_mem_cons.mpr ⟨nX0, fun _ h => absurd h List.not_mem_nil⟩⟩⟩⟩, List.forall_mem_cons.mpr ⟨kX0_followTell, fun _ h => h⟩⟩)
theorem gX0_157 : GoodIn GW (va_wsS RX0 157 yX0_isTag wsX0_isTag) := gw_goodIn (List.forall_mem_append.mpr ⟨List.forall_mem_cons.mpr ⟨lX0_157, List.forall_mem_cons.mpr ⟨sX0_isTag, List.forall_mem_cons.mpr ⟨nX0, fun _ h => absurd h List.not_mem_nil⟩⟩⟩, List.forall_mem_cons.mpr ⟨kX0_isTag, fun _ h => h⟩⟩)
theorem gX0_199 : GoodIn GW (wsV RX0 199 RX0 yX0_followUntell wsX0_followUntell) := gw_goodIn (List.forall_mem_append.mpr ⟨List.forall_mem_cons.mpr ⟨lX0_199, List.forall_mem_cons.mpr ⟨iX0_followUntell, List.forall_mem_cons.mpr ⟨eX0_followUntell, List.forall_mem_cons.mpr ⟨nX0, fun _ h => absurd h List.not_mem_nil⟩⟩⟩⟩, List.forall_mem_cons.mpr ⟨kX0_followUntell, fun _ h => h⟩⟩)
theorem gX0_202 : GoodIn GW (wsV RX0 202 RX0 yX0_followKey wsX0_followKey) := gw_goodIn (List.forall_mem_append.mpr ⟨List.forall_mem_cons.mpr ⟨lX0_202, List.forall_mem_cons.mpr ⟨iX0_followKey, List.forall_mem_cons.mpr ⟨eX0_followKey, List.forall_mem_cons.mpr ⟨nX0, fun _ h => absurd h List.not_mem_nil⟩⟩⟩⟩, List.forall_mem_cons.mpr ⟨kX0_followKey, fun _ h => h⟩⟩)
theorem gX0_103 : GoodIn GW (wsV RX0 103 RX0 yX0_findKey wsX0_findKey) := gw_goodIn (List.forall_mem_append.mpr ⟨List.forall_mem_cons.mpr ⟨lX0_103, List.forall_mem_cons.mpr ⟨iX0_findKey, List.forall_mem_cons.mpr ⟨eX0_findKey, List.forall_mem_cons.mpr ⟨nX0, fun _ h => absurd h List.not_mem_nil⟩⟩⟩⟩, List.forall_mem_cons.mpr ⟨kX0_findKey, fun _ h => h⟩⟩)
theorem gL_69 : GoodIn GW (va_wsS RL 69 yL_type wsL_type) := gw_goodIn (List.forall_mem_append.mpr ⟨List.forall_mem_cons.mpr ⟨lL_69, List.forall_mem_cons.mpr ⟨sL_type, List.forall_mem_cons.mpr ⟨nL, fun _ h => absurd h List.not_mem_nil⟩⟩⟩, List.forall_mem_cons.mpr ⟨kL_type, fun _ h => h⟩⟩)
theorem gL_7 : GoodIn GW (wsV RL 7 RX0 yX0_type wsX0_type) := gw_goodIn (List.forall_mem_append.mpr ⟨List.forall_mem_cons.mpr ⟨lL_7, List.forall_mem_cons.mpr ⟨iX0_type, List.forall_mem_cons.mpr ⟨eX0_type, List.forall_mem_cons.mpr ⟨nX0, fun _ h => absurd h List.not_mem_nil⟩⟩⟩⟩, List.forall_mem_cons.mpr ⟨kX0_type, fun _ h => h⟩⟩)
theorem gL_79 : GoodIn GW (va_wsS RL 79 yL_cut wsL_cut) := gw_goodIn (List.forall_mem_append.mpr ⟨List.forall_mem_cons.mpr ⟨lL_79, List.forall_mem_cons.mpr ⟨sL_cut, List.forall_mem_cons.mpr ⟨nL, fun _ h => absurd h List.not_mem_nil⟩⟩⟩, List.forall_mem_cons.mpr ⟨kL_cut, fun _ h => h⟩⟩)
theorem gL_15 : GoodIn GW (wsV RL 15 RX0 yX0_cut wsX0_cut) := gw_goodIn (List.forall_mem_append.mpr ⟨List.forall_mem_cons.mpr ⟨lL_15, List.forall_mem_cons.mpr ⟨iX0_cut, List.forall_mem_cons.mpr ⟨eX0_cut, List.forall_mem_cons.mpr ⟨nX0, fun _ h => absurd h List.not_mem_nil⟩⟩⟩⟩, List.forall_mem_cons.mpr ⟨kX0_cut, fun _ h => h⟩⟩)
theorem gL_87 : GoodIn GW (va_wsS RL 87 yL_keep wsL_keep) := gw_goodIn (List.forall_mem_append.mpr ⟨List.forall_mem_cons.mpr ⟨lL_87, List.forall_mem_cons.mpr ⟨sL_keep, List.forall_mem_cons.mpr ⟨nL, fun _ h => absurd h List.not_mem_nil⟩⟩⟩, List.forall_mem_cons.mpr ⟨kL_keep, fun _ h => h⟩⟩)
theorem gL_21 : GoodIn GW (wsV RL 21 RX0 yX0_keep wsX0_keep) := gw_goodIn (List.forall_mem_append.mpr ⟨List.forall_mem_cons.mpr ⟨lL_21, List.forall_mem_cons.mpr ⟨iX0_keep, List.forall_mem_cons.mpr ⟨eX0_keep, List.forall_mem_cons.mpr ⟨nX0, fun _ h => absurd h List.not_mem_nil⟩⟩⟩⟩, List.forall_mem_cons.mpr ⟨kX0_keep, fun _ h => h⟩⟩)
theorem gX0_73 : GoodIn GW (wsV RX0 73 RX0 yX0_demandRoom wsX0_demandRoom) := gw_goodIn (List.forall_mem_append.mpr ⟨List.forall_mem_cons.mpr ⟨lX0_73, List.forall_mem_cons.mpr ⟨iX0_demandRoom, List.forall_mem_cons.mpr ⟨eX0_demandRoom, List.forall_mem_cons.mpr ⟨nX0, fun _ h => absurd h List.not_mem_nil⟩⟩⟩⟩, List.forall_mem_cons.mpr ⟨kX0_demandRoom, fun _ h => h⟩⟩)
theorem gX0_77 : GoodIn GW (wsV RX0 77 RX0 yX0_writeTyped wsX0_writeTyped) := gw_goodIn (List.forall_mem_append.mpr ⟨List.forall_mem_cons.mpr ⟨lX0_77, List.forall_mem_cons.mpr ⟨iX0_writeTyped, List.forall_mem_cons.mpr ⟨eX0_writeTyped, List.forall_mem_cons.mpr ⟨nX0, fun _ h => absurd h List.not_mem_nil⟩⟩⟩⟩, List.forall_mem_cons.mpr ⟨kX0_writeTyped, fun _ h => h⟩⟩)
theorem gL_93 : GoodIn GW (va_wsS RL 93 yL_tell wsL_tell) := gw_goodIn (List.forall_mem_append.mpr ⟨List.forall_mem_cons.mpr ⟨lL_93, List.forall_mem_cons.mpr ⟨sL_tell, List.forall_mem_cons.mpr ⟨nL, fun _ h => absurd h List.not_mem_nil⟩⟩⟩, List.forall_mem_cons.mpr ⟨kL_tell, fun _ h => h⟩⟩)
theorem gL_25 : GoodIn GW (wsV RL 25 RX0 yX0_tell wsX0_tell) := gw_goodIn (List.forall_mem_append.mpr ⟨List.forall_mem_cons.mpr ⟨lL_25, List.forall_mem_cons.mpr ⟨iX0_tell, List.forall_mem_cons.mpr ⟨eX0_tell, List.forall_mem_cons.mpr ⟨nX0, fun _ h => absurd h List.not_mem_nil⟩⟩⟩⟩, List.forall_mem_cons.mpr ⟨kX0_tell, fun _ h => h⟩⟩)
theorem gX0_85 : GoodIn GW (va_wsS RX0 85 yX0_demandTag wsX0_demandTag) := gw_goodIn (List.forall_mem_append.mpr ⟨List.forall_mem_cons.mpr ⟨lX0_85, List.forall_mem_cons.mpr ⟨sX0_demandTag, List.forall_mem_cons.mpr ⟨nX0, fun _ h => absurd h List.not_mem_nil⟩⟩⟩, List.forall_mem_cons.mpr ⟨kX0_demandTag, fun _ h => h⟩⟩)
theorem gL_97 : GoodIn GW (va_wsS RL 97 yL_untell wsL_untell) := gw_goodIn (List.forall_mem_append.mpr ⟨List.forall_mem_cons.mpr ⟨lL_97, List.forall_mem_cons.mpr ⟨sL_untell, List.forall_mem_cons.mpr ⟨nL, fun _ h => absurd h List.not_mem_nil⟩⟩⟩, List.forall_mem_cons.mpr ⟨kL_untell, fun _ h => h⟩⟩)
theorem gL_31 : GoodIn GW (wsV RL 31 RX0 yX0_untell wsX0_untell) := gw_goodIn (List.forall_mem_append.mpr ⟨List.forall_mem_cons.mpr ⟨lL_31, List.forall_mem_cons.mpr ⟨iX0_untell, List.forall_mem_cons.mpr ⟨eX0_untell, List.forall_mem_cons.mpr ⟨nX0, fun _ h => absurd h List.not_mem_nil⟩⟩⟩⟩, List.forall_mem_cons.mpr ⟨kX0_untell, fun _ h => h⟩⟩)
theorem gX0_99 : GoodIn GW (wsV RX0 99 RX0 yX0_writeUntell wsX0_writeUntell) := gw_goodIn (List.forall_mem_append.mpr ⟨List.forall_mem_cons.mpr ⟨lX0_99, List.forall_mem_cons.mpr ⟨iX0_writeUntell, List.forall_mem_cons.mpr ⟨eX0_writeUntell, List.forall_mem_cons.mpr ⟨nX0, fun _ h => absurd h List.not_mem_nil⟩⟩⟩⟩, List.forall_mem_cons.mpr ⟨kX0_writeUntell, fun _ h => h⟩⟩)
theorem gL_100 : GoodIn GW (va_wsS RL 100 yL_learn wsL_learn) := gw_goodIn (List.forall_mem_append.mpr ⟨List.forall_mem_cons.mpr ⟨lL_100, List.forall_mem_cons.mpr ⟨sL_learn, List.forall_mem_cons.mpr ⟨nL, fun _ h => absurd h List.not_mem_nil⟩⟩⟩, List.forall_mem_cons.mpr ⟨kL_learn, fun _ h => h⟩⟩)
theorem gL_34 : GoodIn GW (wsV RL 34 RX0 yX0_learn wsX0_learn) := gw_goodIn (List.forall_mem_append.mpr ⟨List.forall_mem_cons.mpr ⟨lL_34, List.forall_mem_cons.mpr ⟨iX0_learn, List.forall_mem_cons.mpr ⟨eX0_learn, List.forall_mem_cons.mpr ⟨nX0, fun _ h => absurd h List.not_mem_nil⟩⟩⟩⟩, List.forall_mem_cons.mpr ⟨kX0_learn, fun _ h => h⟩⟩)
theorem gL_104 : GoodIn GW (va_wsS RL 104 yL_pin wsL_pin) := gw_goodIn (List.forall_mem_append.mpr ⟨List.forall_mem_cons.mpr ⟨lL_104, List.forall_mem_cons.mpr ⟨sL_pin, List.forall_mem_cons.mpr ⟨nL, fun _ h => absurd h List.not_mem_nil⟩⟩⟩, List.forall_mem_cons.mpr ⟨kL_pin, fun _ h => h⟩⟩)
theorem gL_38 : GoodIn GW (wsV RL 38 RX0 yX0_pin wsX0_pin) := gw_goodIn (List.forall_mem_append.mpr ⟨List.forall_mem_cons.mpr ⟨lL_38, List.forall_mem_cons.mpr ⟨iX0_pin, List.forall_mem_cons.mpr ⟨eX0_pin, List.forall_mem_cons.mpr ⟨nX0, fun _ h => absurd h List.not_mem_nil⟩⟩⟩⟩, List.forall_mem_cons.mpr ⟨kX0_pin, fun _ h => h⟩⟩)
theorem gL_107 : GoodIn GW (va_wsS RL 107 yL_tag wsL_tag) := gw_goodIn (List.forall_mem_append.mpr ⟨List.forall_mem_cons.mpr ⟨lL_107, List.forall_mem_cons.mpr ⟨sL_tag, List.forall_mem_cons.mpr ⟨nL, fun _ h => absurd h List.not_mem_nil⟩⟩⟩, List.forall_mem_cons.mpr ⟨kL_tag, fun _ h => h⟩⟩)
theorem gL_41 : GoodIn GW (wsV RL 41 RX0 yX0_tag wsX0_tag) := gw_goodIn (List.forall_mem_append.mpr ⟨List.forall_mem_cons.mpr ⟨lL_41, List.forall_mem_cons.mpr ⟨iX0_tag, List.forall_mem_cons.mpr ⟨eX0_tag, List.forall_mem_cons.mpr ⟨nX0, fun _ h => absurd h List.not_mem_nil⟩⟩⟩⟩, List.forall_mem_cons.mpr ⟨kX0_tag, fun _ h => h⟩⟩)
theorem gL_110 : GoodIn GW (va_wsS RL 110 yL_look wsL_look) := gw_goodIn (List.forall_mem_append.mpr ⟨List.forall_mem_cons.mpr ⟨lL_110, List.forall_mem_cons.mpr ⟨sL_look, List.forall_mem_cons.mpr ⟨nL, fun _ h => absurd h List.not_mem_nil⟩⟩⟩, List.forall_mem_cons.mpr ⟨kL_look, fun _ h => h⟩⟩)
theorem gL_45 : GoodIn GW (wsV RL 45 RX0 yX0_look wsX0_look) := gw_goodIn (List.forall_mem_append.mpr ⟨List.forall_mem_cons.mpr ⟨lL_45, List.forall_mem_cons.mpr ⟨iX0_look, List.forall_mem_cons.mpr ⟨eX0_look, List.forall_mem_cons.mpr ⟨nX0, fun _ h => absurd h List.not_mem_nil⟩⟩⟩⟩, List.forall_mem_cons.mpr ⟨kX0_look, fun _ h => h⟩⟩)
theorem gL_119 : GoodIn GW (va_wsS RL 119 yL_byteOf wsL_byteOf) := gw_goodIn (List.forall_mem_append.mpr ⟨List.forall_mem_cons.mpr ⟨lL_119, List.forall_mem_cons.mpr ⟨sL_byteOf, List.forall_mem_cons.mpr ⟨nL, fun _ h => absurd h List.not_mem_nil⟩⟩⟩, List.forall_mem_cons.mpr ⟨kL_byteOf, fun _ h => h⟩⟩)
theorem gL_49 : GoodIn GW (wsV RL 49 RX0 yX0_byteOf wsX0_byteOf) := gw_goodIn (List.forall_mem_append.mpr ⟨List.forall_mem_cons.mpr ⟨lL_49, List.forall_mem_cons.mpr ⟨iX0_byteOf, List.forall_mem_cons.mpr ⟨eX0_byteOf, List.forall_mem_cons.mpr ⟨nX0, fun _ h => absurd h List.not_mem_nil⟩⟩⟩⟩, List.forall_mem_cons.mpr ⟨kX0_byteOf, fun _ h => h⟩⟩)
theorem gL_123 : GoodIn GW (va_wsS RL 123 yL_count wsL_count) := gw_goodIn (List.forall_mem_append.mpr ⟨List.forall_mem_cons.mpr ⟨lL_123, List.forall_mem_cons.mpr ⟨sL_count, List.forall_mem_cons.mpr ⟨nL, fun _ h => absurd h List.not_mem_nil⟩⟩⟩, List.forall_mem_cons.mpr ⟨kL_count, fun _ h => h⟩⟩)
theorem gL_55 : GoodIn GW (wsV RL 55 RX0 yX0_count wsX0_count) := gw_goodIn (List.forall_mem_append.mpr ⟨List.forall_mem_cons.mpr ⟨lL_55, List.forall_mem_cons.mpr ⟨iX0_count, List.forall_mem_cons.mpr ⟨eX0_count, List.forall_mem_cons.mpr ⟨nX0, fun _ h => absurd h List.not_mem_nil⟩⟩⟩⟩, List.forall_mem_cons.mpr ⟨kX0_count, fun _ h => h⟩⟩)
theorem gL_126 : GoodIn GW (va_wsS RL 126 yL_journal wsL_journal) := gw_goodIn (List.forall_mem_append.mpr ⟨List.forall_mem_cons.mpr ⟨lL_126, List.forall_mem_cons.mpr ⟨sL_journal, List.forall_mem_cons.mpr ⟨nL, fun _ h => absurd h List.not_mem_nil⟩⟩⟩, List.forall_mem_cons.mpr ⟨kL_journal, fun _ h => h⟩⟩)
theorem gL_58 : GoodIn GW (wsV RL 58 RX0 yX0_journal wsX0_journal) := gw_goodIn (List.forall_mem_append.mpr ⟨List.forall_mem_cons.mpr ⟨lL_58, List.forall_mem_cons.mpr ⟨iX0_journal, List.forall_mem_cons.mpr ⟨eX0_journal, List.forall_mem_cons.mpr ⟨nX0, fun _ h => absurd h List.not_mem_nil⟩⟩⟩⟩, List.forall_mem_cons.mpr ⟨kX0_journal, fun _ h => h⟩⟩)
theorem gL_133 : GoodIn GW (va_wsS RL 133 yL_crash wsL_crash) := gw_goodIn (List.forall_mem_append.mpr ⟨List.forall_mem_cons.mpr ⟨lL_133, List.forall_mem_cons.mpr ⟨sL_crash, List.forall_mem_cons.mpr ⟨nL, fun _ h => absurd h List.not_mem_nil⟩⟩⟩, List.forall_mem_cons.mpr ⟨kL_crash, fun _ h => h⟩⟩)
theorem gL_61 : GoodIn GW (wsV RL 61 RX0 yX0_crash wsX0_crash) := gw_goodIn (List.forall_mem_append.mpr ⟨List.forall_mem_cons.mpr ⟨lL_61, List.forall_mem_cons.mpr ⟨iX0_crash, List.forall_mem_cons.mpr ⟨eX0_crash, List.forall_mem_cons.mpr ⟨nX0, fun _ h => absurd h List.not_mem_nil⟩⟩⟩⟩, List.forall_mem_cons.mpr ⟨kX0_crash, fun _ h => h⟩⟩)
theorem gX0_136 : GoodIn GW (va_wsS RX0 136 yJ7_fillJ wsJ7_fillJ) := gw_goodIn (List.forall_mem_append.mpr ⟨List.forall_mem_cons.mpr ⟨lX0_136, List.forall_mem_cons.mpr ⟨sJ7_fillJ, List.forall_mem_cons.mpr ⟨nJ7, fun _ h => absurd h List.not_mem_nil⟩⟩⟩, List.forall_mem_cons.mpr ⟨kJ7_fillJ, fun _ h => h⟩⟩)
theorem gL_68 : GoodIn GW wsX1_init := gw_goodIn (List.forall_mem_cons.mpr ⟨kX1_init, fun _ h => h⟩)
theorem gL_75 : GoodIn GW (wsV RL 75 RX1 yX1_thrown wsX1_thrown) := gw_goodIn (List.forall_mem_append.mpr ⟨List.forall_mem_cons.mpr ⟨lL_75, List.forall_mem_cons.mpr ⟨iX1_thrown, List.forall_mem_cons.mpr ⟨eX1_thrown, List.forall_mem_cons.mpr ⟨nX1, fun _ h => absurd h List.not_mem_nil⟩⟩⟩⟩, List.forall_mem_cons.mpr ⟨kX1_thrown, fun _ h => h⟩⟩)
theorem gL_74 : GoodIn GW (wsV RL 74 RX1 yX1_type wsX1_type) := gw_goodIn (List.forall_mem_append.mpr ⟨List.forall_mem_cons.mpr ⟨lL_74, List.forall_mem_cons.mpr ⟨iX1_type, List.forall_mem_cons.mpr ⟨eX1_type, List.forall_mem_cons.mpr ⟨nX1, fun _ h => absurd h List.not_mem_nil⟩⟩⟩⟩, List.forall_mem_cons.mpr ⟨kX1_type, fun _ h => h⟩⟩)
theorem gL_82 : GoodIn GW (wsV RL 82 RX1 yX1_cut wsX1_cut) := gw_goodIn (List.forall_mem_append.mpr ⟨List.forall_mem_cons.mpr ⟨lL_82, List.forall_mem_cons.mpr ⟨iX1_cut, List.forall_mem_cons.mpr ⟨eX1_cut, List.forall_mem_cons.mpr ⟨nX1, fun _ h => absurd h List.not_mem_nil⟩⟩⟩⟩, List.forall_mem_cons.mpr ⟨kX1_cut, fun _ h => h⟩⟩)
theorem gL_86 : GoodIn GW (wsV RL 86 RX1 yX1_digest wsX1_digest) := gw_goodIn (List.forall_mem_append.mpr ⟨List.forall_mem_cons.mpr ⟨lL_86, List.forall_mem_cons.mpr ⟨iX1_digest, List.forall_mem_cons.mpr ⟨eX1_digest, List.forall_mem_cons.mpr ⟨nX1, fun _ h => absurd h List.not_mem_nil⟩⟩⟩⟩, List.forall_mem_cons.mpr ⟨kX1_digest, fun _ h => h⟩⟩)
theorem gX1_68 : GoodIn GW (wsV RX1 68 RX1 yX1_digestOfTyped wsX1_digestOfTyped) := gw_goodIn (List.forall_mem_append.mpr ⟨List.forall_mem_cons.mpr ⟨lX1_68, List.forall_mem_cons.mpr ⟨iX1_digestOfTyped, List.forall_mem_cons.mpr ⟨eX1_digestOfTyped, List.forall_mem_cons.mpr ⟨nX1, fun _ h => absurd h List.not_mem_nil⟩⟩⟩⟩, List.forall_mem_cons.mpr ⟨kX1_digestOfTyped, fun _ h => h⟩⟩)
theorem gX1_58 : GoodIn GW (va_wsS RX1 58 yX1_goes wsX1_goes) := gw_goodIn (List.forall_mem_append.mpr ⟨List.forall_mem_cons.mpr ⟨lX1_58, List.forall_mem_cons.mpr ⟨sX1_goes, List.forall_mem_cons.mpr ⟨nX1, fun _ h => absurd h List.not_mem_nil⟩⟩⟩, List.forall_mem_cons.mpr ⟨kX1_goes, fun _ h => h⟩⟩)
theorem gX1_62 : GoodIn GW (va_wsS RX1 62 yX1_ends wsX1_ends) := gw_goodIn (List.forall_mem_append.mpr ⟨List.forall_mem_cons.mpr ⟨lX1_62, List.forall_mem_cons.mpr ⟨sX1_ends, List.forall_mem_cons.mpr ⟨nX1, fun _ h => absurd h List.not_mem_nil⟩⟩⟩, List.forall_mem_cons.mpr ⟨kX1_ends, fun _ h => h⟩⟩)
theorem gL_90 : GoodIn GW (wsV RL 90 RX1 yX1_keep wsX1_keep) := gw_goodIn (List.forall_mem_append.mpr ⟨List.forall_mem_cons.mpr ⟨lL_90, List.forall_mem_cons.mpr ⟨iX1_keep, List.forall_mem_cons.mpr ⟨eX1_keep, List.forall_mem_cons.mpr ⟨nX1, fun _ h => absurd h List.not_mem_nil⟩⟩⟩⟩, List.forall_mem_cons.mpr ⟨kX1_keep, fun _ h => h⟩⟩)
theorem gX1_105 : GoodIn GW (wsV RX1 105 RX1 yX1_next wsX1_next) := gw_goodIn (List.forall_mem_append.mpr ⟨List.forall_mem_cons.mpr ⟨lX1_105, List.forall_mem_cons.mpr ⟨iX1_next, List.forall_mem_cons.mpr ⟨eX1_next, List.forall_mem_cons.mpr ⟨nX1, fun _ h => absurd h List.not_mem_nil⟩⟩⟩⟩, List.forall_mem_cons.mpr ⟨kX1_next, fun _ h => h⟩⟩)
theorem gX1_91 : GoodIn GW (wsV RX1 91 RX1 yX1_blobOf wsX1_blobOf) := gw_goodIn (List.forall_mem_append.mpr ⟨List.forall_mem_cons.mpr ⟨lX1_91, List.forall_mem_cons.mpr ⟨iX1_blobOf, List.forall_mem_cons.mpr ⟨eX1_blobOf, List.forall_mem_cons.mpr ⟨nX1, fun _ h => absurd h List.not_mem_nil⟩⟩⟩⟩, List.forall_mem_cons.mpr ⟨kX1_blobOf, fun _ h => h⟩⟩)
theorem gX1_109 : GoodIn GW (wsV RX1 109 RX1 yX1_hasRoom wsX1_hasRoom) := gw_goodIn (List.forall_mem_append.mpr ⟨List.forall_mem_cons.mpr ⟨lX1_109, List.forall_mem_cons.mpr ⟨iX1_hasRoom, List.forall_mem_cons.mpr ⟨eX1_hasRoom, List.forall_mem_cons.mpr ⟨nX1, fun _ h => absurd h List.not_mem_nil⟩⟩⟩⟩, List.forall_mem_cons.mpr ⟨kX1_hasRoom, fun _ h => h⟩⟩)
theorem gX1_112 : GoodIn GW (wsV RX1 112 RX1 yX1_write wsX1_write) := gw_goodIn (List.forall_mem_append.mpr ⟨List.forall_mem_cons.mpr ⟨lX1_112, List.forall_mem_cons.mpr ⟨iX1_write, List.forall_mem_cons.mpr ⟨eX1_write, List.forall_mem_cons.mpr ⟨nX1, fun _ h => absurd h List.not_mem_nil⟩⟩⟩⟩, List.forall_mem_cons.mpr ⟨kX1_write, fun _ h => h⟩⟩)
theorem gX1_116 : GoodIn GW (wsV RX1 116 RX1 yX1_says wsX1_says) := gw_goodIn (List.forall_mem_append.mpr ⟨List.forall_mem_cons.mpr ⟨lX1_116, List.forall_mem_cons.mpr ⟨iX1_says, List.forall_mem_cons.mpr ⟨eX1_says, List.forall_mem_cons.mpr ⟨nX1, fun _ h => absurd h List.not_mem_nil⟩⟩⟩⟩, List.forall_mem_cons.mpr ⟨kX1_says, fun _ h => h⟩⟩)
theorem gX1_83 : GoodIn GW (wsV RX1 83 RX1 yX1_saysBlob wsX1_saysBlob) := gw_goodIn (List.forall_mem_append.mpr ⟨List.forall_mem_cons.mpr ⟨lX1_83, List.forall_mem_cons.mpr ⟨iX1_saysBlob, List.forall_mem_cons.mpr ⟨eX1_saysBlob, List.forall_mem_cons.mpr ⟨nX1, fun _ h => absurd h List.not_mem_nil⟩⟩⟩⟩, List.forall_mem_cons.mpr ⟨kX1_saysBlob, fun _ h => h⟩⟩)
theorem gX1_99 : GoodIn GW (wsV RX1 99 RX1 yX1_digestOfRecord wsX1_digestOfRecord) := gw_goodIn (List.forall_mem_append.mpr ⟨List.forall_mem_cons.mpr ⟨lX1_99, List.forall_mem_cons.mpr ⟨iX1_digestOfRecord, List.forall_mem_cons.mpr ⟨eX1_digestOfRecord, List.forall_mem_cons.mpr ⟨nX1, fun _ h => absurd h List.not_mem_nil⟩⟩⟩⟩, List.forall_mem_cons.mpr ⟨kX1_digestOfRecord, fun _ h => h⟩⟩)
theorem gX1_87 : GoodIn GW (wsV RX1 87 RX1 yX1_eight wsX1_eight) := gw_goodIn (List.forall_mem_append.mpr ⟨List.forall_mem_cons.mpr ⟨lX1_87, List.forall_mem_cons.mpr ⟨iX1_eight, List.forall_mem_cons.mpr ⟨eX1_eight, List.forall_mem_cons.mpr ⟨nX1, fun _ h => absurd h List.not_mem_nil⟩⟩⟩⟩, List.forall_mem_cons.mpr ⟨kX1_eight, fun _ h => h⟩⟩)
theorem gX1_95 : GoodIn GW (wsV RX1 95 RX1 yX1_saysKey wsX1_saysKey) := gw_goodIn (List.forall_mem_append.mpr ⟨List.forall_mem_cons.mpr ⟨lX1_95, List.forall_mem_cons.mpr ⟨iX1_saysKey, List.forall_mem_cons.mpr ⟨eX1_saysKey, List.forall_mem_cons.mpr ⟨nX1, fun _ h => absurd h List.not_mem_nil⟩⟩⟩⟩, List.forall_mem_cons.mpr ⟨kX1_saysKey, fun _ h => h⟩⟩)
theorem gX1_102 : GoodIn GW (wsV RX1 102 RX1 yX1_keyOf wsX1_keyOf) := gw_goodIn (List.forall_mem_append.mpr ⟨List.forall_mem_cons.mpr ⟨lX1_102, List.forall_mem_cons.mpr ⟨iX1_keyOf, List.forall_mem_cons.mpr ⟨eX1_keyOf, List.forall_mem_cons.mpr ⟨nX1, fun _ h => absurd h List.not_mem_nil⟩⟩⟩⟩, List.forall_mem_cons.mpr ⟨kX1_keyOf, fun _ h => h⟩⟩)
theorem gL_96 : GoodIn GW (wsV RL 96 RX1 yX1_tell wsX1_tell) := gw_goodIn (List.forall_mem_append.mpr ⟨List.forall_mem_cons.mpr ⟨lL_96, List.forall_mem_cons.mpr ⟨iX1_tell, List.forall_mem_cons.mpr ⟨eX1_tell, List.forall_mem_cons.mpr ⟨nX1, fun _ h => absurd h List.not_mem_nil⟩⟩⟩⟩, List.forall_mem_cons.mpr ⟨kX1_tell, fun _ h => h⟩⟩)
theorem gX1_120 : GoodIn GW (va_wsS RX1 120 yX1_isTag wsX1_isTag) := gw_goodIn (List.forall_mem_append.mpr ⟨List.forall_mem_cons.mpr ⟨lX1_120, List.forall_mem_cons.mpr ⟨sX1_isTag, List.forall_mem_cons.mpr ⟨nX1, fun _ h => absurd h List.not_mem_nil⟩⟩⟩, List.forall_mem_cons.mpr ⟨kX1_isTag, fun _ h => h⟩⟩)
theorem gL_99 : GoodIn GW (wsV RL 99 RX1 yX1_untell wsX1_untell) := gw_goodIn (List.forall_mem_append.mpr ⟨List.forall_mem_cons.mpr ⟨lL_99, List.forall_mem_cons.mpr ⟨iX1_untell, List.forall_mem_cons.mpr ⟨eX1_untell, List.forall_mem_cons.mpr ⟨nX1, fun _ h => absurd h List.not_mem_nil⟩⟩⟩⟩, List.forall_mem_cons.mpr ⟨kX1_untell, fun _ h => h⟩⟩)
theorem gL_103 : GoodIn GW (wsV RL 103 RX1 yX1_learn wsX1_learn) := gw_goodIn (List.forall_mem_append.mpr ⟨List.forall_mem_cons.mpr ⟨lL_103, List.forall_mem_cons.mpr ⟨iX1_learn, List.forall_mem_cons.mpr ⟨eX1_learn, List.forall_mem_cons.mpr ⟨nX1, fun _ h => absurd h List.not_mem_nil⟩⟩⟩⟩, List.forall_mem_cons.mpr ⟨kX1_learn, fun _ h => h⟩⟩)
theorem gL_106 : GoodIn GW (wsV RL 106 RX1 yX1_pin wsX1_pin) := gw_goodIn (List.forall_mem_append.mpr ⟨List.forall_mem_cons.mpr ⟨lL_106, List.forall_mem_cons.mpr ⟨iX1_pin, List.forall_mem_cons.mpr ⟨eX1_pin, List.forall_mem_cons.mpr ⟨nX1, fun _ h => absurd h List.not_mem_nil⟩⟩⟩⟩, List.forall_mem_cons.mpr ⟨kX1_pin, fun _ h => h⟩⟩)
theorem gL_109 : GoodIn GW (wsV RL 109 RX1 yX1_tag wsX1_tag) := gw_goodIn (List.forall_mem_append.mpr ⟨List.forall_mem_cons.mpr ⟨lL_109, List.forall_mem_cons.mpr ⟨iX1_tag, List.forall_mem_cons.mpr ⟨eX1_tag, List.forall_mem_cons.mpr ⟨nX1, fun _ h => absurd h List.not_mem_nil⟩⟩⟩⟩, List.forall_mem_cons.mpr ⟨kX1_tag, fun _ h => h⟩⟩)
theorem gL_113 : GoodIn GW (wsV RL 113 RX1 yX1_look wsX1_look) := gw_goodIn (List.forall_mem_append.mpr ⟨List.forall_mem_cons.mpr ⟨lL_113, List.forall_mem_cons.mpr ⟨iX1_look, List.forall_mem_cons.mpr ⟨eX1_look, List.forall_mem_cons.mpr ⟨nX1, fun _ h => absurd h List.not_mem_nil⟩⟩⟩⟩, List.forall_mem_cons.mpr ⟨kX1_look, fun _ h => h⟩⟩)
theorem gL_118 : GoodIn GW (wsV RL 118 RX1 yX1_length wsX1_length) := gw_goodIn (List.forall_mem_append.mpr ⟨List.forall_mem_cons.mpr ⟨lL_118, List.forall_mem_cons.mpr ⟨iX1_length, List.forall_mem_cons.mpr ⟨eX1_length, List.forall_mem_cons.mpr ⟨nX1, fun _ h => absurd h List.not_mem_nil⟩⟩⟩⟩, List.forall_mem_cons.mpr ⟨kX1_length, fun _ h => h⟩⟩)
theorem gL_122 : GoodIn GW (wsV RL 122 RX1 yX1_byteOf wsX1_byteOf) := gw_goodIn (List.forall_mem_append.mpr ⟨List.forall_mem_cons.mpr ⟨lL_122, List.forall_mem_cons.mpr ⟨iX1_byteOf, List.forall_mem_cons.mpr ⟨eX1_byteOf, List.forall_mem_cons.mpr ⟨nX1, fun _ h => absurd h List.not_mem_nil⟩⟩⟩⟩, List.forall_mem_cons.mpr ⟨kX1_byteOf, fun _ h => h⟩⟩)
theorem gL_125 : GoodIn GW (wsV RL 125 RX1 yX1_count wsX1_count) := gw_goodIn (List.forall_mem_append.mpr ⟨List.forall_mem_cons.mpr ⟨lL_125, List.forall_mem_cons.mpr ⟨iX1_count, List.forall_mem_cons.mpr ⟨eX1_count, List.forall_mem_cons.mpr ⟨nX1, fun _ h => absurd h List.not_mem_nil⟩⟩⟩⟩, List.forall_mem_cons.mpr ⟨kX1_count, fun _ h => h⟩⟩)
theorem gL_128 : GoodIn GW (wsV RL 128 RX1 yX1_journal wsX1_journal) := gw_goodIn (List.forall_mem_append.mpr ⟨List.forall_mem_cons.mpr ⟨lL_128, List.forall_mem_cons.mpr ⟨iX1_journal, List.forall_mem_cons.mpr ⟨eX1_journal, List.forall_mem_cons.mpr ⟨nX1, fun _ h => absurd h List.not_mem_nil⟩⟩⟩⟩, List.forall_mem_cons.mpr ⟨kX1_journal, fun _ h => h⟩⟩)
theorem gL_132 : GoodIn GW (wsV RL 132 RX1 yX1_sync wsX1_sync) := gw_goodIn (List.forall_mem_append.mpr ⟨List.forall_mem_cons.mpr ⟨lL_132, List.forall_mem_cons.mpr ⟨iX1_sync, List.forall_mem_cons.mpr ⟨eX1_sync, List.forall_mem_cons.mpr ⟨nX1, fun _ h => absurd h List.not_mem_nil⟩⟩⟩⟩, List.forall_mem_cons.mpr ⟨kX1_sync, fun _ h => h⟩⟩)
theorem gL_136 : GoodIn GW (wsV RL 136 RX1 yX1_crash wsX1_crash) := gw_goodIn (List.forall_mem_append.mpr ⟨List.forall_mem_cons.mpr ⟨lL_136, List.forall_mem_cons.mpr ⟨iX1_crash, List.forall_mem_cons.mpr ⟨eX1_crash, List.forall_mem_cons.mpr ⟨nX1, fun _ h => absurd h List.not_mem_nil⟩⟩⟩⟩, List.forall_mem_cons.mpr ⟨kX1_crash, fun _ h => h⟩⟩)
theorem gX1_126 : GoodIn GW (wsV RX1 126 RX1 yX1_empties wsX1_empties) := gw_goodIn (List.forall_mem_append.mpr ⟨List.forall_mem_cons.mpr ⟨lX1_126, List.forall_mem_cons.mpr ⟨iX1_empties, List.forall_mem_cons.mpr ⟨eX1_empties, List.forall_mem_cons.mpr ⟨nX1, fun _ h => absurd h List.not_mem_nil⟩⟩⟩⟩, List.forall_mem_cons.mpr ⟨kX1_empties, fun _ h => h⟩⟩)
theorem gX1_129 : GoodIn GW (wsV RX1 129 RX1 yX1_reads wsX1_reads) := gw_goodIn (List.forall_mem_append.mpr ⟨List.forall_mem_cons.mpr ⟨lX1_129, List.forall_mem_cons.mpr ⟨iX1_reads, List.forall_mem_cons.mpr ⟨eX1_reads, List.forall_mem_cons.mpr ⟨nX1, fun _ h => absurd h List.not_mem_nil⟩⟩⟩⟩, List.forall_mem_cons.mpr ⟨kX1_reads, fun _ h => h⟩⟩)
theorem gL_140 : GoodIn GW (wsV RL 140 RX1 yX1_collect wsX1_collect) := gw_goodIn (List.forall_mem_append.mpr ⟨List.forall_mem_cons.mpr ⟨lL_140, List.forall_mem_cons.mpr ⟨iX1_collect, List.forall_mem_cons.mpr ⟨eX1_collect, List.forall_mem_cons.mpr ⟨nX1, fun _ h => absurd h List.not_mem_nil⟩⟩⟩⟩, List.forall_mem_cons.mpr ⟨kX1_collect, fun _ h => h⟩⟩)
theorem gX1_133 : GoodIn GW (wsV RX1 133 RX1 yX1_isTold wsX1_isTold) := gw_goodIn (List.forall_mem_append.mpr ⟨List.forall_mem_cons.mpr ⟨lX1_133, List.forall_mem_cons.mpr ⟨iX1_isTold, List.forall_mem_cons.mpr ⟨eX1_isTold, List.forall_mem_cons.mpr ⟨nX1, fun _ h => absurd h List.not_mem_nil⟩⟩⟩⟩, List.forall_mem_cons.mpr ⟨kX1_isTold, fun _ h => h⟩⟩)
end
section
theorem dX0_init_0 : decode cX0_init 0 = .ok (.aload_n 0, 1) := by decide +kernel
theorem dX0_init_1 : decode cX0_init 1 = .ok (.invokespecial 3, 3) := by decide +kernel
theorem dX0_init_4 : decode cX0_init 4 = .ok (.aload_n 0, 1) := by decide +kernel
theorem dX0_init_5 : decode cX0_init 5 = .ok (.bipush 64, 2) := by decide +kernel
theorem dX0_init_7 : decode cX0_init 7 = .ok (.newarray .int, 2) := by decide +kernel
theorem dX0_init_9 : decode cX0_init 9 = .ok (.putfield 9, 3) := by decide +kernel
theorem dX0_init_12 : decode cX0_init 12 = .ok (.aload_n 0, 1) := by decide +kernel
theorem dX0_init_13 : decode cX0_init 13 = .ok (.sipush 700, 3) := by decide +kernel
theorem dX0_init_16 : decode cX0_init 16 = .ok (.newarray .int, 2) := by decide +kernel
theorem dX0_init_18 : decode cX0_init 18 = .ok (.putfield 13, 3) := by decide +kernel
theorem dX0_init_21 : decode cX0_init 21 = .ok (.aload_n 0, 1) := by decide +kernel
theorem dX0_init_22 : decode cX0_init 22 = .ok (.bipush 20, 2) := by decide +kernel
theorem dX0_init_24 : decode cX0_init 24 = .ok (.newarray .long, 2) := by decide +kernel
theorem dX0_init_26 : decode cX0_init 26 = .ok (.putfield 16, 3) := by decide +kernel
theorem dX0_init_29 : decode cX0_init 29 = .ok (.aload_n 0, 1) := by decide +kernel
theorem dX0_init_30 : decode cX0_init 30 = .ok (.bipush 20, 2) := by decide +kernel
theorem dX0_init_32 : decode cX0_init 32 = .ok (.newarray .int, 2) := by decide +kernel
theorem dX0_init_34 : decode cX0_init 34 = .ok (.putfield 20, 3) := by decide +kernel
theorem dX0_init_37 : decode cX0_init 37 = .ok (.aload_n 0, 1) := by decide +kernel
theorem dX0_init_38 : decode cX0_init 38 = .ok (.bipush 20, 2) := by decide +kernel
theorem dX0_init_40 : decode cX0_init 40 = .ok (.newarray .int, 2) := by decide +kernel
theorem dX0_init_42 : decode cX0_init 42 = .ok (.putfield 23, 3) := by decide +kernel
theorem dX0_init_45 : decode cX0_init 45 = .ok (.aload_n 0, 1) := by decide +kernel
theorem dX0_init_46 : decode cX0_init 46 = .ok (.bipush 8, 2) := by decide +kernel
theorem dX0_init_48 : decode cX0_init 48 = .ok (.newarray .int, 2) := by decide +kernel
theorem dX0_init_50 : decode cX0_init 50 = .ok (.putfield 26, 3) := by decide +kernel
theorem dX0_init_53 : decode cX0_init 53 = .ok (.aload_n 0, 1) := by decide +kernel
theorem dX0_init_54 : decode cX0_init 54 = .ok (.getfield 26, 3) := by decide +kernel
theorem dX0_init_57 : decode cX0_init 57 = .ok (.iconst (-1), 1) := by decide +kernel
theorem dX0_init_58 : decode cX0_init 58 = .ok (.invokestatic 29, 3) := by decide +kernel
theorem dX0_init_61 : decode cX0_init 61 = .ok (.aload_n 0, 1) := by decide +kernel
theorem dX0_init_62 : decode cX0_init 62 = .ok (.bipush 16, 2) := by decide +kernel
theorem dX0_init_64 : decode cX0_init 64 = .ok (.newarray .long, 2) := by decide +kernel
theorem dX0_init_66 : decode cX0_init 66 = .ok (.putfield 35, 3) := by decide +kernel
theorem dX0_init_69 : decode cX0_init 69 = .ok (.aload_n 0, 1) := by decide +kernel
theorem dX0_init_70 : decode cX0_init 70 = .ok (.bipush 16, 2) := by decide +kernel
theorem dX0_init_72 : decode cX0_init 72 = .ok (.newarray .long, 2) := by decide +kernel
theorem dX0_init_74 : decode cX0_init 74 = .ok (.putfield 38, 3) := by decide +kernel
theorem dX0_init_77 : decode cX0_init 77 = .ok (.aload_n 0, 1) := by decide +kernel
theorem dX0_init_78 : decode cX0_init 78 = .ok (.iconst 4, 1) := by decide +kernel
theorem dX0_init_79 : decode cX0_init 79 = .ok (.newarray .long, 2) := by decide +kernel
theorem dX0_init_81 : decode cX0_init 81 = .ok (.putfield 41, 3) := by decide +kernel
theorem dX0_init_84 : decode cX0_init 84 = .ok (.return_, 1) := by decide +kernel
theorem dX0_type_0 : decode cX0_type 0 = .ok (.aload_n 0, 1) := by decide +kernel
theorem dX0_type_1 : decode cX0_type 1 = .ok (.getfield 44, 3) := by decide +kernel
theorem dX0_type_4 : decode cX0_type 4 = .ok (.iconst 4, 1) := by decide +kernel
theorem dX0_type_5 : decode cX0_type 5 = .ok (.iadd, 1) := by decide +kernel
theorem dX0_type_6 : decode cX0_type 6 = .ok (.bipush 64, 2) := by decide +kernel
theorem dX0_type_8 : decode cX0_type 8 = .ok (.if_icmp .le 13, 3) := by decide +kernel
theorem dX0_type_11 : decode cX0_type 11 = .ok (.new 48, 3) := by decide +kernel
theorem dX0_type_14 : decode cX0_type 14 = .ok (.dup, 1) := by decide +kernel
theorem dX0_type_15 : decode cX0_type 15 = .ok (.ldc 50, 2) := by decide +kernel
theorem dX0_type_17 : decode cX0_type 17 = .ok (.invokespecial 52, 3) := by decide +kernel
theorem dX0_type_20 : decode cX0_type 20 = .ok (.athrow, 1) := by decide +kernel
theorem dX0_type_21 : decode cX0_type 21 = .ok (.iconst 0, 1) := by decide +kernel
theorem dX0_type_22 : decode cX0_type 22 = .ok (.istore_n 2, 1) := by decide +kernel
theorem dX0_type_23 : decode cX0_type 23 = .ok (.iload_n 2, 1) := by decide +kernel
theorem dX0_type_24 : decode cX0_type 24 = .ok (.iconst 4, 1) := by decide +kernel
theorem dX0_type_25 : decode cX0_type 25 = .ok (.if_icmp .ge 30, 3) := by decide +kernel
theorem dX0_type_28 : decode cX0_type 28 = .ok (.aload_n 0, 1) := by decide +kernel
theorem dX0_type_29 : decode cX0_type 29 = .ok (.getfield 9, 3) := by decide +kernel
theorem dX0_type_32 : decode cX0_type 32 = .ok (.aload_n 0, 1) := by decide +kernel
theorem dX0_type_33 : decode cX0_type 33 = .ok (.getfield 44, 3) := by decide +kernel
theorem dX0_type_36 : decode cX0_type 36 = .ok (.iload_n 2, 1) := by decide +kernel
theorem dX0_type_37 : decode cX0_type 37 = .ok (.iadd, 1) := by decide +kernel
theorem dX0_type_38 : decode cX0_type 38 = .ok (.iload_n 1, 1) := by decide +kernel
theorem dX0_type_39 : decode cX0_type 39 = .ok (.bipush 8, 2) := by decide +kernel
theorem dX0_type_41 : decode cX0_type 41 = .ok (.iload_n 2, 1) := by decide +kernel
theorem dX0_type_42 : decode cX0_type 42 = .ok (.imul, 1) := by decide +kernel
theorem dX0_type_43 : decode cX0_type 43 = .ok (.iushr, 1) := by decide +kernel
theorem dX0_type_44 : decode cX0_type 44 = .ok (.sipush 255, 3) := by decide +kernel
theorem dX0_type_47 : decode cX0_type 47 = .ok (.iand, 1) := by decide +kernel
theorem dX0_type_48 : decode cX0_type 48 = .ok (.iastore, 1) := by decide +kernel
theorem dX0_type_49 : decode cX0_type 49 = .ok (.iinc 2 1, 3) := by decide +kernel
theorem dX0_type_52 : decode cX0_type 52 = .ok (.goto (-29), 3) := by decide +kernel
theorem dX0_type_55 : decode cX0_type 55 = .ok (.aload_n 0, 1) := by decide +kernel
theorem dX0_type_56 : decode cX0_type 56 = .ok (.dup, 1) := by decide +kernel
theorem dX0_type_57 : decode cX0_type 57 = .ok (.getfield 44, 3) := by decide +kernel
theorem dX0_type_60 : decode cX0_type 60 = .ok (.iconst 4, 1) := by decide +kernel
theorem dX0_type_61 : decode cX0_type 61 = .ok (.iadd, 1) := by decide +kernel
theorem dX0_type_62 : decode cX0_type 62 = .ok (.putfield 44, 3) := by decide +kernel
theorem dX0_type_65 : decode cX0_type 65 = .ok (.aload_n 0, 1) := by decide +kernel
theorem dX0_type_66 : decode cX0_type 66 = .ok (.getfield 44, 3) := by decide +kernel
theorem dX0_type_69 : decode cX0_type 69 = .ok (.ireturn, 1) := by decide +kernel
theorem dX0_cut_0 : decode cX0_cut 0 = .ok (.iload_n 1, 1) := by decide +kernel
theorem dX0_cut_1 : decode cX0_cut 1 = .ok (.ifCond .lt 11, 3) := by decide +kernel
theorem dX0_cut_4 : decode cX0_cut 4 = .ok (.iload_n 1, 1) := by decide +kernel
theorem dX0_cut_5 : decode cX0_cut 5 = .ok (.aload_n 0, 1) := by decide +kernel
theorem dX0_cut_6 : decode cX0_cut 6 = .ok (.getfield 44, 3) := by decide +kernel
theorem dX0_cut_9 : decode cX0_cut 9 = .ok (.if_icmp .le 13, 3) := by decide +kernel
theorem dX0_cut_12 : decode cX0_cut 12 = .ok (.new 55, 3) := by decide +kernel
theorem dX0_cut_15 : decode cX0_cut 15 = .ok (.dup, 1) := by decide +kernel
theorem dX0_cut_16 : decode cX0_cut 16 = .ok (.ldc 57, 2) := by decide +kernel
theorem dX0_cut_18 : decode cX0_cut 18 = .ok (.invokespecial 59, 3) := by decide +kernel
theorem dX0_cut_21 : decode cX0_cut 21 = .ok (.athrow, 1) := by decide +kernel
theorem dX0_cut_22 : decode cX0_cut 22 = .ok (.aload_n 0, 1) := by decide +kernel
theorem dX0_cut_23 : decode cX0_cut 23 = .ok (.iload_n 1, 1) := by decide +kernel
theorem dX0_cut_24 : decode cX0_cut 24 = .ok (.putfield 44, 3) := by decide +kernel
theorem dX0_cut_27 : decode cX0_cut 27 = .ok (.return_, 1) := by decide +kernel
theorem dX0_digest_0 : decode cX0_digest 0 = .ok (.aload_n 0, 1) := by decide +kernel
theorem dX0_digest_1 : decode cX0_digest 1 = .ok (.getfield 9, 3) := by decide +kernel
theorem dX0_digest_4 : decode cX0_digest 4 = .ok (.iconst 0, 1) := by decide +kernel
theorem dX0_digest_5 : decode cX0_digest 5 = .ok (.aload_n 0, 1) := by decide +kernel
theorem dX0_digest_6 : decode cX0_digest 6 = .ok (.getfield 44, 3) := by decide +kernel
theorem dX0_digest_9 : decode cX0_digest 9 = .ok (.invokestatic 60, 3) := by decide +kernel
theorem dX0_digest_12 : decode cX0_digest 12 = .ok (.lreturn, 1) := by decide +kernel
theorem dX0_keep_0 : decode cX0_keep 0 = .ok (.aload_n 0, 1) := by decide +kernel
theorem dX0_keep_1 : decode cX0_keep 1 = .ok (.getfield 9, 3) := by decide +kernel
theorem dX0_keep_4 : decode cX0_keep 4 = .ok (.iconst 0, 1) := by decide +kernel
theorem dX0_keep_5 : decode cX0_keep 5 = .ok (.aload_n 0, 1) := by decide +kernel
theorem dX0_keep_6 : decode cX0_keep 6 = .ok (.getfield 44, 3) := by decide +kernel
theorem dX0_keep_9 : decode cX0_keep 9 = .ok (.invokestatic 60, 3) := by decide +kernel
theorem dX0_keep_12 : decode cX0_keep 12 = .ok (.lstore_n 1, 1) := by decide +kernel
theorem dX0_keep_13 : decode cX0_keep 13 = .ok (.aload_n 0, 1) := by decide +kernel
theorem dX0_keep_14 : decode cX0_keep 14 = .ok (.lload_n 1, 1) := by decide +kernel
theorem dX0_keep_15 : decode cX0_keep 15 = .ok (.invokevirtual 64, 3) := by decide +kernel
theorem dX0_keep_18 : decode cX0_keep 18 = .ok (.iconst (-1), 1) := by decide +kernel
theorem dX0_keep_19 : decode cX0_keep 19 = .ok (.if_icmp .ne 39, 3) := by decide +kernel
theorem dX0_keep_22 : decode cX0_keep 22 = .ok (.aload_n 0, 1) := by decide +kernel
theorem dX0_keep_23 : decode cX0_keep 23 = .ok (.getfield 68, 3) := by decide +kernel
theorem dX0_keep_26 : decode cX0_keep 26 = .ok (.bipush 20, 2) := by decide +kernel
theorem dX0_keep_28 : decode cX0_keep 28 = .ok (.if_icmp .lt 13, 3) := by decide +kernel
theorem dX0_keep_31 : decode cX0_keep 31 = .ok (.new 48, 3) := by decide +kernel
theorem dX0_keep_34 : decode cX0_keep 34 = .ok (.dup, 1) := by decide +kernel
theorem dX0_keep_35 : decode cX0_keep 35 = .ok (.ldc 71, 2) := by decide +kernel
theorem dX0_keep_37 : decode cX0_keep 37 = .ok (.invokespecial 52, 3) := by decide +kernel
theorem dX0_keep_40 : decode cX0_keep 40 = .ok (.athrow, 1) := by decide +kernel
theorem dX0_keep_41 : decode cX0_keep 41 = .ok (.aload_n 0, 1) := by decide +kernel
theorem dX0_keep_42 : decode cX0_keep 42 = .ok (.aload_n 0, 1) := by decide +kernel
theorem dX0_keep_43 : decode cX0_keep 43 = .ok (.getfield 44, 3) := by decide +kernel
theorem dX0_keep_46 : decode cX0_keep 46 = .ok (.invokevirtual 73, 3) := by decide +kernel
theorem dX0_keep_49 : decode cX0_keep 49 = .ok (.aload_n 0, 1) := by decide +kernel
theorem dX0_keep_50 : decode cX0_keep 50 = .ok (.aload_n 0, 1) := by decide +kernel
theorem dX0_keep_51 : decode cX0_keep 51 = .ok (.invokevirtual 77, 3) := by decide +kernel
theorem dX0_keep_54 : decode cX0_keep 54 = .ok (.invokevirtual 81, 3) := by decide +kernel
theorem dX0_keep_57 : decode cX0_keep 57 = .ok (.pop, 1) := by decide +kernel
theorem dX0_keep_58 : decode cX0_keep 58 = .ok (.lload_n 1, 1) := by decide +kernel
theorem dX0_keep_59 : decode cX0_keep 59 = .ok (.lreturn, 1) := by decide +kernel
theorem dX0_tell_0 : decode cX0_tell 0 = .ok (.iload_n 1, 1) := by decide +kernel
theorem dX0_tell_1 : decode cX0_tell 1 = .ok (.invokestatic 85, 3) := by decide +kernel
theorem dX0_tell_4 : decode cX0_tell 4 = .ok (.aload_n 0, 1) := by decide +kernel
theorem dX0_tell_5 : decode cX0_tell 5 = .ok (.lload_n 2, 1) := by decide +kernel
theorem dX0_tell_6 : decode cX0_tell 6 = .ok (.invokevirtual 64, 3) := by decide +kernel
theorem dX0_tell_9 : decode cX0_tell 9 = .ok (.istore 4, 2) := by decide +kernel
theorem dX0_tell_11 : decode cX0_tell 11 = .ok (.iload 4, 2) := by decide +kernel
theorem dX0_tell_13 : decode cX0_tell 13 = .ok (.iconst (-1), 1) := by decide +kernel
theorem dX0_tell_14 : decode cX0_tell 14 = .ok (.if_icmp .ne 13, 3) := by decide +kernel
theorem dX0_tell_17 : decode cX0_tell 17 = .ok (.new 88, 3) := by decide +kernel
theorem dX0_tell_20 : decode cX0_tell 20 = .ok (.dup, 1) := by decide +kernel
theorem dX0_tell_21 : decode cX0_tell 21 = .ok (.ldc 90, 2) := by decide +kernel
theorem dX0_tell_23 : decode cX0_tell 23 = .ok (.invokespecial 92, 3) := by decide +kernel
theorem dX0_tell_26 : decode cX0_tell 26 = .ok (.athrow, 1) := by decide +kernel
theorem dX0_tell_27 : decode cX0_tell 27 = .ok (.aload_n 0, 1) := by decide +kernel
theorem dX0_tell_28 : decode cX0_tell 28 = .ok (.getfield 26, 3) := by decide +kernel
theorem dX0_tell_31 : decode cX0_tell 31 = .ok (.iload_n 1, 1) := by decide +kernel
theorem dX0_tell_32 : decode cX0_tell 32 = .ok (.iaload, 1) := by decide +kernel
theorem dX0_tell_33 : decode cX0_tell 33 = .ok (.iload 4, 2) := by decide +kernel
theorem dX0_tell_35 : decode cX0_tell 35 = .ok (.if_icmp .eq 20, 3) := by decide +kernel
theorem dX0_tell_38 : decode cX0_tell 38 = .ok (.aload_n 0, 1) := by decide +kernel
theorem dX0_tell_39 : decode cX0_tell 39 = .ok (.bipush 9, 2) := by decide +kernel
theorem dX0_tell_41 : decode cX0_tell 41 = .ok (.invokevirtual 73, 3) := by decide +kernel
theorem dX0_tell_44 : decode cX0_tell 44 = .ok (.aload_n 0, 1) := by decide +kernel
theorem dX0_tell_45 : decode cX0_tell 45 = .ok (.aload_n 0, 1) := by decide +kernel
theorem dX0_tell_46 : decode cX0_tell 46 = .ok (.iload_n 1, 1) := by decide +kernel
theorem dX0_tell_47 : decode cX0_tell 47 = .ok (.lload_n 2, 1) := by decide +kernel
theorem dX0_tell_48 : decode cX0_tell 48 = .ok (.invokevirtual 93, 3) := by decide +kernel
theorem dX0_tell_51 : decode cX0_tell 51 = .ok (.invokevirtual 81, 3) := by decide +kernel
theorem dX0_tell_54 : decode cX0_tell 54 = .ok (.pop, 1) := by decide +kernel
theorem dX0_tell_55 : decode cX0_tell 55 = .ok (.return_, 1) := by decide +kernel
theorem dX0_untell_0 : decode cX0_untell 0 = .ok (.iload_n 1, 1) := by decide +kernel
theorem dX0_untell_1 : decode cX0_untell 1 = .ok (.invokestatic 85, 3) := by decide +kernel
theorem dX0_untell_4 : decode cX0_untell 4 = .ok (.aload_n 0, 1) := by decide +kernel
theorem dX0_untell_5 : decode cX0_untell 5 = .ok (.getfield 26, 3) := by decide +kernel
theorem dX0_untell_8 : decode cX0_untell 8 = .ok (.iload_n 1, 1) := by decide +kernel
theorem dX0_untell_9 : decode cX0_untell 9 = .ok (.iaload, 1) := by decide +kernel
theorem dX0_untell_10 : decode cX0_untell 10 = .ok (.iconst (-1), 1) := by decide +kernel
theorem dX0_untell_11 : decode cX0_untell 11 = .ok (.if_icmp .ne 13, 3) := by decide +kernel
theorem dX0_untell_14 : decode cX0_untell 14 = .ok (.new 88, 3) := by decide +kernel
theorem dX0_untell_17 : decode cX0_untell 17 = .ok (.dup, 1) := by decide +kernel
theorem dX0_untell_18 : decode cX0_untell 18 = .ok (.ldc 97, 2) := by decide +kernel
theorem dX0_untell_20 : decode cX0_untell 20 = .ok (.invokespecial 92, 3) := by decide +kernel
theorem dX0_untell_23 : decode cX0_untell 23 = .ok (.athrow, 1) := by decide +kernel
theorem dX0_untell_24 : decode cX0_untell 24 = .ok (.aload_n 0, 1) := by decide +kernel
theorem dX0_untell_25 : decode cX0_untell 25 = .ok (.iconst 1, 1) := by decide +kernel
theorem dX0_untell_26 : decode cX0_untell 26 = .ok (.invokevirtual 73, 3) := by decide +kernel
theorem dX0_untell_29 : decode cX0_untell 29 = .ok (.aload_n 0, 1) := by decide +kernel
theorem dX0_untell_30 : decode cX0_untell 30 = .ok (.aload_n 0, 1) := by decide +kernel
theorem dX0_untell_31 : decode cX0_untell 31 = .ok (.iload_n 1, 1) := by decide +kernel
theorem dX0_untell_32 : decode cX0_untell 32 = .ok (.invokevirtual 99, 3) := by decide +kernel
theorem dX0_untell_35 : decode cX0_untell 35 = .ok (.invokevirtual 81, 3) := by decide +kernel
theorem dX0_untell_38 : decode cX0_untell 38 = .ok (.pop, 1) := by decide +kernel
theorem dX0_untell_39 : decode cX0_untell 39 = .ok (.return_, 1) := by decide +kernel
theorem dX0_learn_0 : decode cX0_learn 0 = .ok (.aload_n 0, 1) := by decide +kernel
theorem dX0_learn_1 : decode cX0_learn 1 = .ok (.lload_n 1, 1) := by decide +kernel
theorem dX0_learn_2 : decode cX0_learn 2 = .ok (.invokevirtual 103, 3) := by decide +kernel
theorem dX0_learn_5 : decode cX0_learn 5 = .ok (.istore 5, 2) := by decide +kernel
theorem dX0_learn_7 : decode cX0_learn 7 = .ok (.iload 5, 2) := by decide +kernel
theorem dX0_learn_9 : decode cX0_learn 9 = .ok (.iconst (-1), 1) := by decide +kernel
theorem dX0_learn_10 : decode cX0_learn 10 = .ok (.if_icmp .ne 22, 3) := by decide +kernel
theorem dX0_learn_13 : decode cX0_learn 13 = .ok (.aload_n 0, 1) := by decide +kernel
theorem dX0_learn_14 : decode cX0_learn 14 = .ok (.getfield 106, 3) := by decide +kernel
theorem dX0_learn_17 : decode cX0_learn 17 = .ok (.bipush 16, 2) := by decide +kernel
theorem dX0_learn_19 : decode cX0_learn 19 = .ok (.if_icmp .lt 13, 3) := by decide +kernel
theorem dX0_learn_22 : decode cX0_learn 22 = .ok (.new 48, 3) := by decide +kernel
theorem dX0_learn_25 : decode cX0_learn 25 = .ok (.dup, 1) := by decide +kernel
theorem dX0_learn_26 : decode cX0_learn 26 = .ok (.ldc 109, 2) := by decide +kernel
theorem dX0_learn_28 : decode cX0_learn 28 = .ok (.invokespecial 52, 3) := by decide +kernel
theorem dX0_learn_31 : decode cX0_learn 31 = .ok (.athrow, 1) := by decide +kernel
theorem dX0_learn_32 : decode cX0_learn 32 = .ok (.iload 5, 2) := by decide +kernel
theorem dX0_learn_34 : decode cX0_learn 34 = .ok (.iconst (-1), 1) := by decide +kernel
theorem dX0_learn_35 : decode cX0_learn 35 = .ok (.if_icmp .eq 15, 3) := by decide +kernel
theorem dX0_learn_38 : decode cX0_learn 38 = .ok (.aload_n 0, 1) := by decide +kernel
theorem dX0_learn_39 : decode cX0_learn 39 = .ok (.getfield 38, 3) := by decide +kernel
theorem dX0_learn_42 : decode cX0_learn 42 = .ok (.iload 5, 2) := by decide +kernel
theorem dX0_learn_44 : decode cX0_learn 44 = .ok (.laload, 1) := by decide +kernel
theorem dX0_learn_45 : decode cX0_learn 45 = .ok (.lload_n 3, 1) := by decide +kernel
theorem dX0_learn_46 : decode cX0_learn 46 = .ok (.lcmp, 1) := by decide +kernel
theorem dX0_learn_47 : decode cX0_learn 47 = .ok (.ifCond .eq 20, 3) := by decide +kernel
theorem dX0_learn_50 : decode cX0_learn 50 = .ok (.aload_n 0, 1) := by decide +kernel
theorem dX0_learn_51 : decode cX0_learn 51 = .ok (.bipush 16, 2) := by decide +kernel
theorem dX0_learn_53 : decode cX0_learn 53 = .ok (.invokevirtual 73, 3) := by decide +kernel
theorem dX0_learn_56 : decode cX0_learn 56 = .ok (.aload_n 0, 1) := by decide +kernel
theorem dX0_learn_57 : decode cX0_learn 57 = .ok (.aload_n 0, 1) := by decide +kernel
theorem dX0_learn_58 : decode cX0_learn 58 = .ok (.lload_n 1, 1) := by decide +kernel
theorem dX0_learn_59 : decode cX0_learn 59 = .ok (.lload_n 3, 1) := by decide +kernel
theorem dX0_learn_60 : decode cX0_learn 60 = .ok (.invokevirtual 111, 3) := by decide +kernel
theorem dX0_learn_63 : decode cX0_learn 63 = .ok (.invokevirtual 81, 3) := by decide +kernel
theorem dX0_learn_66 : decode cX0_learn 66 = .ok (.pop, 1) := by decide +kernel
theorem dX0_learn_67 : decode cX0_learn 67 = .ok (.return_, 1) := by decide +kernel
theorem dX0_pin_0 : decode cX0_pin 0 = .ok (.iload_n 1, 1) := by decide +kernel
theorem dX0_pin_1 : decode cX0_pin 1 = .ok (.ifCond .lt 8, 3) := by decide +kernel
theorem dX0_pin_4 : decode cX0_pin 4 = .ok (.iload_n 1, 1) := by decide +kernel
theorem dX0_pin_5 : decode cX0_pin 5 = .ok (.iconst 4, 1) := by decide +kernel
theorem dX0_pin_6 : decode cX0_pin 6 = .ok (.if_icmp .lt 13, 3) := by decide +kernel
theorem dX0_pin_9 : decode cX0_pin 9 = .ok (.new 55, 3) := by decide +kernel
theorem dX0_pin_12 : decode cX0_pin 12 = .ok (.dup, 1) := by decide +kernel
theorem dX0_pin_13 : decode cX0_pin 13 = .ok (.ldc 115, 2) := by decide +kernel
theorem dX0_pin_15 : decode cX0_pin 15 = .ok (.invokespecial 59, 3) := by decide +kernel
theorem dX0_pin_18 : decode cX0_pin 18 = .ok (.athrow, 1) := by decide +kernel
theorem dX0_pin_19 : decode cX0_pin 19 = .ok (.aload_n 0, 1) := by decide +kernel
theorem dX0_pin_20 : decode cX0_pin 20 = .ok (.getfield 41, 3) := by decide +kernel
theorem dX0_pin_23 : decode cX0_pin 23 = .ok (.iload_n 1, 1) := by decide +kernel
theorem dX0_pin_24 : decode cX0_pin 24 = .ok (.lload_n 2, 1) := by decide +kernel
theorem dX0_pin_25 : decode cX0_pin 25 = .ok (.lastore, 1) := by decide +kernel
theorem dX0_pin_26 : decode cX0_pin 26 = .ok (.return_, 1) := by decide +kernel
theorem dX0_tag_0 : decode cX0_tag 0 = .ok (.iload_n 1, 1) := by decide +kernel
theorem dX0_tag_1 : decode cX0_tag 1 = .ok (.invokestatic 85, 3) := by decide +kernel
theorem dX0_tag_4 : decode cX0_tag 4 = .ok (.aload_n 0, 1) := by decide +kernel
theorem dX0_tag_5 : decode cX0_tag 5 = .ok (.getfield 26, 3) := by decide +kernel
theorem dX0_tag_8 : decode cX0_tag 8 = .ok (.iload_n 1, 1) := by decide +kernel
theorem dX0_tag_9 : decode cX0_tag 9 = .ok (.iaload, 1) := by decide +kernel
theorem dX0_tag_10 : decode cX0_tag 10 = .ok (.istore_n 2, 1) := by decide +kernel
theorem dX0_tag_11 : decode cX0_tag 11 = .ok (.iload_n 2, 1) := by decide +kernel
theorem dX0_tag_12 : decode cX0_tag 12 = .ok (.iconst (-1), 1) := by decide +kernel
theorem dX0_tag_13 : decode cX0_tag 13 = .ok (.if_icmp .ne 7, 3) := by decide +kernel
theorem dX0_tag_16 : decode cX0_tag 16 = .ok (.lconst 0, 1) := by decide +kernel
theorem dX0_tag_17 : decode cX0_tag 17 = .ok (.goto 9, 3) := by decide +kernel
theorem dX0_tag_20 : decode cX0_tag 20 = .ok (.aload_n 0, 1) := by decide +kernel
theorem dX0_tag_21 : decode cX0_tag 21 = .ok (.getfield 16, 3) := by decide +kernel
theorem dX0_tag_24 : decode cX0_tag 24 = .ok (.iload_n 2, 1) := by decide +kernel
theorem dX0_tag_25 : decode cX0_tag 25 = .ok (.laload, 1) := by decide +kernel
theorem dX0_tag_26 : decode cX0_tag 26 = .ok (.lreturn, 1) := by decide +kernel
theorem dX0_look_0 : decode cX0_look 0 = .ok (.aload_n 0, 1) := by decide +kernel
theorem dX0_look_1 : decode cX0_look 1 = .ok (.lload_n 1, 1) := by decide +kernel
theorem dX0_look_2 : decode cX0_look 2 = .ok (.invokevirtual 103, 3) := by decide +kernel
theorem dX0_look_5 : decode cX0_look 5 = .ok (.istore_n 3, 1) := by decide +kernel
theorem dX0_look_6 : decode cX0_look 6 = .ok (.iload_n 3, 1) := by decide +kernel
theorem dX0_look_7 : decode cX0_look 7 = .ok (.iconst (-1), 1) := by decide +kernel
theorem dX0_look_8 : decode cX0_look 8 = .ok (.if_icmp .ne 13, 3) := by decide +kernel
theorem dX0_look_11 : decode cX0_look 11 = .ok (.new 88, 3) := by decide +kernel
theorem dX0_look_14 : decode cX0_look 14 = .ok (.dup, 1) := by decide +kernel
theorem dX0_look_15 : decode cX0_look 15 = .ok (.ldc 117, 2) := by decide +kernel
theorem dX0_look_17 : decode cX0_look 17 = .ok (.invokespecial 92, 3) := by decide +kernel
theorem dX0_look_20 : decode cX0_look 20 = .ok (.athrow, 1) := by decide +kernel
theorem dX0_look_21 : decode cX0_look 21 = .ok (.aload_n 0, 1) := by decide +kernel
theorem dX0_look_22 : decode cX0_look 22 = .ok (.getfield 38, 3) := by decide +kernel
theorem dX0_look_25 : decode cX0_look 25 = .ok (.iload_n 3, 1) := by decide +kernel
theorem dX0_look_26 : decode cX0_look 26 = .ok (.laload, 1) := by decide +kernel
theorem dX0_look_27 : decode cX0_look 27 = .ok (.lreturn, 1) := by decide +kernel
theorem dX0_length_0 : decode cX0_length 0 = .ok (.aload_n 0, 1) := by decide +kernel
theorem dX0_length_1 : decode cX0_length 1 = .ok (.lload_n 1, 1) := by decide +kernel
theorem dX0_length_2 : decode cX0_length 2 = .ok (.invokevirtual 64, 3) := by decide +kernel
theorem dX0_length_5 : decode cX0_length 5 = .ok (.istore_n 3, 1) := by decide +kernel
theorem dX0_length_6 : decode cX0_length 6 = .ok (.iload_n 3, 1) := by decide +kernel
theorem dX0_length_7 : decode cX0_length 7 = .ok (.iconst (-1), 1) := by decide +kernel
theorem dX0_length_8 : decode cX0_length 8 = .ok (.if_icmp .ne 7, 3) := by decide +kernel
theorem dX0_length_11 : decode cX0_length 11 = .ok (.iconst (-1), 1) := by decide +kernel
theorem dX0_length_12 : decode cX0_length 12 = .ok (.goto 9, 3) := by decide +kernel
theorem dX0_length_15 : decode cX0_length 15 = .ok (.aload_n 0, 1) := by decide +kernel
theorem dX0_length_16 : decode cX0_length 16 = .ok (.getfield 23, 3) := by decide +kernel
theorem dX0_length_19 : decode cX0_length 19 = .ok (.iload_n 3, 1) := by decide +kernel
theorem dX0_length_20 : decode cX0_length 20 = .ok (.iaload, 1) := by decide +kernel
theorem dX0_length_21 : decode cX0_length 21 = .ok (.ireturn, 1) := by decide +kernel
theorem dX0_byteOf_0 : decode cX0_byteOf 0 = .ok (.aload_n 0, 1) := by decide +kernel
theorem dX0_byteOf_1 : decode cX0_byteOf 1 = .ok (.lload_n 1, 1) := by decide +kernel
theorem dX0_byteOf_2 : decode cX0_byteOf 2 = .ok (.invokevirtual 64, 3) := by decide +kernel
theorem dX0_byteOf_5 : decode cX0_byteOf 5 = .ok (.istore 4, 2) := by decide +kernel
theorem dX0_byteOf_7 : decode cX0_byteOf 7 = .ok (.iload 4, 2) := by decide +kernel
theorem dX0_byteOf_9 : decode cX0_byteOf 9 = .ok (.iconst (-1), 1) := by decide +kernel
theorem dX0_byteOf_10 : decode cX0_byteOf 10 = .ok (.if_icmp .ne 13, 3) := by decide +kernel
theorem dX0_byteOf_13 : decode cX0_byteOf 13 = .ok (.new 88, 3) := by decide +kernel
theorem dX0_byteOf_16 : decode cX0_byteOf 16 = .ok (.dup, 1) := by decide +kernel
theorem dX0_byteOf_17 : decode cX0_byteOf 17 = .ok (.ldc 90, 2) := by decide +kernel
theorem dX0_byteOf_19 : decode cX0_byteOf 19 = .ok (.invokespecial 92, 3) := by decide +kernel
theorem dX0_byteOf_22 : decode cX0_byteOf 22 = .ok (.athrow, 1) := by decide +kernel
theorem dX0_byteOf_23 : decode cX0_byteOf 23 = .ok (.iload_n 3, 1) := by decide +kernel
theorem dX0_byteOf_24 : decode cX0_byteOf 24 = .ok (.ifCond .lt 14, 3) := by decide +kernel
theorem dX0_byteOf_27 : decode cX0_byteOf 27 = .ok (.iload_n 3, 1) := by decide +kernel
theorem dX0_byteOf_28 : decode cX0_byteOf 28 = .ok (.aload_n 0, 1) := by decide +kernel
theorem dX0_byteOf_29 : decode cX0_byteOf 29 = .ok (.getfield 23, 3) := by decide +kernel
theorem dX0_byteOf_32 : decode cX0_byteOf 32 = .ok (.iload 4, 2) := by decide +kernel
theorem dX0_byteOf_34 : decode cX0_byteOf 34 = .ok (.iaload, 1) := by decide +kernel
theorem dX0_byteOf_35 : decode cX0_byteOf 35 = .ok (.if_icmp .lt 13, 3) := by decide +kernel
theorem dX0_byteOf_38 : decode cX0_byteOf 38 = .ok (.new 119, 3) := by decide +kernel
theorem dX0_byteOf_41 : decode cX0_byteOf 41 = .ok (.dup, 1) := by decide +kernel
theorem dX0_byteOf_42 : decode cX0_byteOf 42 = .ok (.ldc 121, 2) := by decide +kernel
theorem dX0_byteOf_44 : decode cX0_byteOf 44 = .ok (.invokespecial 123, 3) := by decide +kernel
theorem dX0_byteOf_47 : decode cX0_byteOf 47 = .ok (.athrow, 1) := by decide +kernel
theorem dX0_byteOf_48 : decode cX0_byteOf 48 = .ok (.aload_n 0, 1) := by decide +kernel
theorem dX0_byteOf_49 : decode cX0_byteOf 49 = .ok (.getfield 13, 3) := by decide +kernel
theorem dX0_byteOf_52 : decode cX0_byteOf 52 = .ok (.aload_n 0, 1) := by decide +kernel
theorem dX0_byteOf_53 : decode cX0_byteOf 53 = .ok (.getfield 20, 3) := by decide +kernel
theorem dX0_byteOf_56 : decode cX0_byteOf 56 = .ok (.iload 4, 2) := by decide +kernel
theorem dX0_byteOf_58 : decode cX0_byteOf 58 = .ok (.iaload, 1) := by decide +kernel
theorem dX0_byteOf_59 : decode cX0_byteOf 59 = .ok (.iload_n 3, 1) := by decide +kernel
theorem dX0_byteOf_60 : decode cX0_byteOf 60 = .ok (.iadd, 1) := by decide +kernel
theorem dX0_byteOf_61 : decode cX0_byteOf 61 = .ok (.iaload, 1) := by decide +kernel
theorem dX0_byteOf_62 : decode cX0_byteOf 62 = .ok (.ireturn, 1) := by decide +kernel
theorem dX0_count_0 : decode cX0_count 0 = .ok (.iload_n 1, 1) := by decide +kernel
theorem dX0_count_1 : decode cX0_count 1 = .ok (.tableswitch 51 0 3 #[31, 36, 41, 46], 31) := by decide +kernel
theorem dX0_count_32 : decode cX0_count 32 = .ok (.aload_n 0, 1) := by decide +kernel
theorem dX0_count_33 : decode cX0_count 33 = .ok (.getfield 68, 3) := by decide +kernel
theorem dX0_count_36 : decode cX0_count 36 = .ok (.ireturn, 1) := by decide +kernel
theorem dX0_count_37 : decode cX0_count 37 = .ok (.aload_n 0, 1) := by decide +kernel
theorem dX0_count_38 : decode cX0_count 38 = .ok (.getfield 106, 3) := by decide +kernel
theorem dX0_count_41 : decode cX0_count 41 = .ok (.ireturn, 1) := by decide +kernel
theorem dX0_count_42 : decode cX0_count 42 = .ok (.aload_n 0, 1) := by decide +kernel
theorem dX0_count_43 : decode cX0_count 43 = .ok (.getfield 124, 3) := by decide +kernel
theorem dX0_count_46 : decode cX0_count 46 = .ok (.ireturn, 1) := by decide +kernel
theorem dX0_count_47 : decode cX0_count 47 = .ok (.aload_n 0, 1) := by decide +kernel
theorem dX0_count_48 : decode cX0_count 48 = .ok (.getfield 127, 3) := by decide +kernel
theorem dX0_count_51 : decode cX0_count 51 = .ok (.ireturn, 1) := by decide +kernel
theorem dX0_count_52 : decode cX0_count 52 = .ok (.new 55, 3) := by decide +kernel
theorem dX0_count_55 : decode cX0_count 55 = .ok (.dup, 1) := by decide +kernel
theorem dX0_count_56 : decode cX0_count 56 = .ok (.ldc 130, 2) := by decide +kernel
theorem dX0_count_58 : decode cX0_count 58 = .ok (.invokespecial 59, 3) := by decide +kernel
theorem dX0_count_61 : decode cX0_count 61 = .ok (.athrow, 1) := by decide +kernel
theorem dX0_journal_0 : decode cX0_journal 0 = .ok (.iload_n 1, 1) := by decide +kernel
theorem dX0_journal_1 : decode cX0_journal 1 = .ok (.ifCond .lt 11, 3) := by decide +kernel
theorem dX0_journal_4 : decode cX0_journal 4 = .ok (.iload_n 1, 1) := by decide +kernel
theorem dX0_journal_5 : decode cX0_journal 5 = .ok (.aload_n 0, 1) := by decide +kernel
theorem dX0_journal_6 : decode cX0_journal 6 = .ok (.getfield 124, 3) := by decide +kernel
theorem dX0_journal_9 : decode cX0_journal 9 = .ok (.if_icmp .lt 13, 3) := by decide +kernel
theorem dX0_journal_12 : decode cX0_journal 12 = .ok (.new 119, 3) := by decide +kernel
theorem dX0_journal_15 : decode cX0_journal 15 = .ok (.dup, 1) := by decide +kernel
theorem dX0_journal_16 : decode cX0_journal 16 = .ok (.ldc 132, 2) := by decide +kernel
theorem dX0_journal_18 : decode cX0_journal 18 = .ok (.invokespecial 123, 3) := by decide +kernel
theorem dX0_journal_21 : decode cX0_journal 21 = .ok (.athrow, 1) := by decide +kernel
theorem dX0_journal_22 : decode cX0_journal 22 = .ok (.aload_n 0, 1) := by decide +kernel
theorem dX0_journal_23 : decode cX0_journal 23 = .ok (.getfield 13, 3) := by decide +kernel
theorem dX0_journal_26 : decode cX0_journal 26 = .ok (.iload_n 1, 1) := by decide +kernel
theorem dX0_journal_27 : decode cX0_journal 27 = .ok (.iaload, 1) := by decide +kernel
theorem dX0_journal_28 : decode cX0_journal 28 = .ok (.ireturn, 1) := by decide +kernel
theorem dX0_sync_0 : decode cX0_sync 0 = .ok (.aload_n 0, 1) := by decide +kernel
theorem dX0_sync_1 : decode cX0_sync 1 = .ok (.aload_n 0, 1) := by decide +kernel
theorem dX0_sync_2 : decode cX0_sync 2 = .ok (.getfield 124, 3) := by decide +kernel
theorem dX0_sync_5 : decode cX0_sync 5 = .ok (.putfield 127, 3) := by decide +kernel
theorem dX0_sync_8 : decode cX0_sync 8 = .ok (.return_, 1) := by decide +kernel
theorem dX0_crash_0 : decode cX0_crash 0 = .ok (.iload_n 1, 1) := by decide +kernel
theorem dX0_crash_1 : decode cX0_crash 1 = .ok (.ifCond .lt 16, 3) := by decide +kernel
theorem dX0_crash_4 : decode cX0_crash 4 = .ok (.iload_n 1, 1) := by decide +kernel
theorem dX0_crash_5 : decode cX0_crash 5 = .ok (.aload_n 0, 1) := by decide +kernel
theorem dX0_crash_6 : decode cX0_crash 6 = .ok (.getfield 124, 3) := by decide +kernel
theorem dX0_crash_9 : decode cX0_crash 9 = .ok (.aload_n 0, 1) := by decide +kernel
theorem dX0_crash_10 : decode cX0_crash 10 = .ok (.getfield 127, 3) := by decide +kernel
theorem dX0_crash_13 : decode cX0_crash 13 = .ok (.isub, 1) := by decide +kernel
theorem dX0_crash_14 : decode cX0_crash 14 = .ok (.if_icmp .le 13, 3) := by decide +kernel
theorem dX0_crash_17 : decode cX0_crash 17 = .ok (.new 55, 3) := by decide +kernel
theorem dX0_crash_20 : decode cX0_crash 20 = .ok (.dup, 1) := by decide +kernel
theorem dX0_crash_21 : decode cX0_crash 21 = .ok (.ldc 134, 2) := by decide +kernel
theorem dX0_crash_23 : decode cX0_crash 23 = .ok (.invokespecial 59, 3) := by decide +kernel
theorem dX0_crash_26 : decode cX0_crash 26 = .ok (.athrow, 1) := by decide +kernel
theorem dX0_crash_27 : decode cX0_crash 27 = .ok (.iload_n 2, 1) := by decide +kernel
theorem dX0_crash_28 : decode cX0_crash 28 = .ok (.ifCond .lt 25, 3) := by decide +kernel
theorem dX0_crash_31 : decode cX0_crash 31 = .ok (.iload_n 2, 1) := by decide +kernel
theorem dX0_crash_32 : decode cX0_crash 32 = .ok (.iload_n 1, 1) := by decide +kernel
theorem dX0_crash_33 : decode cX0_crash 33 = .ok (.if_icmp .ge 20, 3) := by decide +kernel
theorem dX0_crash_36 : decode cX0_crash 36 = .ok (.aload_n 0, 1) := by decide +kernel
theorem dX0_crash_37 : decode cX0_crash 37 = .ok (.getfield 13, 3) := by decide +kernel
theorem dX0_crash_40 : decode cX0_crash 40 = .ok (.aload_n 0, 1) := by decide +kernel
theorem dX0_crash_41 : decode cX0_crash 41 = .ok (.getfield 127, 3) := by decide +kernel
theorem dX0_crash_44 : decode cX0_crash 44 = .ok (.iload_n 2, 1) := by decide +kernel
theorem dX0_crash_45 : decode cX0_crash 45 = .ok (.iadd, 1) := by decide +kernel
theorem dX0_crash_46 : decode cX0_crash 46 = .ok (.dup2, 1) := by decide +kernel
theorem dX0_crash_47 : decode cX0_crash 47 = .ok (.iaload, 1) := by decide +kernel
theorem dX0_crash_48 : decode cX0_crash 48 = .ok (.sipush 255, 3) := by decide +kernel
theorem dX0_crash_51 : decode cX0_crash 51 = .ok (.ixor, 1) := by decide +kernel
theorem dX0_crash_52 : decode cX0_crash 52 = .ok (.iastore, 1) := by decide +kernel
theorem dX0_crash_53 : decode cX0_crash 53 = .ok (.aload_n 0, 1) := by decide +kernel
theorem dX0_crash_54 : decode cX0_crash 54 = .ok (.aload_n 0, 1) := by decide +kernel
theorem dX0_crash_55 : decode cX0_crash 55 = .ok (.getfield 127, 3) := by decide +kernel
theorem dX0_crash_58 : decode cX0_crash 58 = .ok (.iload_n 1, 1) := by decide +kernel
theorem dX0_crash_59 : decode cX0_crash 59 = .ok (.iadd, 1) := by decide +kernel
theorem dX0_crash_60 : decode cX0_crash 60 = .ok (.putfield 124, 3) := by decide +kernel
theorem dX0_crash_63 : decode cX0_crash 63 = .ok (.aload_n 0, 1) := by decide +kernel
theorem dX0_crash_64 : decode cX0_crash 64 = .ok (.getfield 41, 3) := by decide +kernel
theorem dX0_crash_67 : decode cX0_crash 67 = .ok (.lconst 0, 1) := by decide +kernel
theorem dX0_crash_68 : decode cX0_crash 68 = .ok (.invokestatic 136, 3) := by decide +kernel
theorem dX0_crash_71 : decode cX0_crash 71 = .ok (.aload_n 0, 1) := by decide +kernel
theorem dX0_crash_72 : decode cX0_crash 72 = .ok (.invokevirtual 139, 3) := by decide +kernel
theorem dX0_crash_75 : decode cX0_crash 75 = .ok (.aload_n 0, 1) := by decide +kernel
theorem dX0_crash_76 : decode cX0_crash 76 = .ok (.getfield 124, 3) := by decide +kernel
theorem dX0_crash_79 : decode cX0_crash 79 = .ok (.ireturn, 1) := by decide +kernel
theorem dX0_collect_0 : decode cX0_collect 0 = .ok (.aload_n 0, 1) := by decide +kernel
theorem dX0_collect_1 : decode cX0_collect 1 = .ok (.getfield 68, 3) := by decide +kernel
theorem dX0_collect_4 : decode cX0_collect 4 = .ok (.istore_n 1, 1) := by decide +kernel
theorem dX0_collect_5 : decode cX0_collect 5 = .ok (.aload_n 0, 1) := by decide +kernel
theorem dX0_collect_6 : decode cX0_collect 6 = .ok (.iconst 0, 1) := by decide +kernel
theorem dX0_collect_7 : decode cX0_collect 7 = .ok (.putfield 124, 3) := by decide +kernel
theorem dX0_collect_10 : decode cX0_collect 10 = .ok (.aload_n 0, 1) := by decide +kernel
theorem dX0_collect_11 : decode cX0_collect 11 = .ok (.invokevirtual 142, 3) := by decide +kernel
theorem dX0_collect_14 : decode cX0_collect 14 = .ok (.aload_n 0, 1) := by decide +kernel
theorem dX0_collect_15 : decode cX0_collect 15 = .ok (.invokevirtual 145, 3) := by decide +kernel
theorem dX0_collect_18 : decode cX0_collect 18 = .ok (.aload_n 0, 1) := by decide +kernel
theorem dX0_collect_19 : decode cX0_collect 19 = .ok (.invokevirtual 148, 3) := by decide +kernel
theorem dX0_collect_22 : decode cX0_collect 22 = .ok (.aload_n 0, 1) := by decide +kernel
theorem dX0_collect_23 : decode cX0_collect 23 = .ok (.invokevirtual 139, 3) := by decide +kernel
theorem dX0_collect_26 : decode cX0_collect 26 = .ok (.iload_n 1, 1) := by decide +kernel
theorem dX0_collect_27 : decode cX0_collect 27 = .ok (.aload_n 0, 1) := by decide +kernel
theorem dX0_collect_28 : decode cX0_collect 28 = .ok (.getfield 68, 3) := by decide +kernel
theorem dX0_collect_31 : decode cX0_collect 31 = .ok (.isub, 1) := by decide +kernel
theorem dX0_collect_32 : decode cX0_collect 32 = .ok (.ireturn, 1) := by decide +kernel
theorem dX0_digestOf_0 : decode cX0_digestOf 0 = .ok (.ldc2_w 151, 3) := by decide +kernel
theorem dX0_digestOf_3 : decode cX0_digestOf 3 = .ok (.lstore_n 3, 1) := by decide +kernel
theorem dX0_digestOf_4 : decode cX0_digestOf 4 = .ok (.iload_n 1, 1) := by decide +kernel
theorem dX0_digestOf_5 : decode cX0_digestOf 5 = .ok (.istore 5, 2) := by decide +kernel
theorem dX0_digestOf_7 : decode cX0_digestOf 7 = .ok (.iload 5, 2) := by decide +kernel
theorem dX0_digestOf_9 : decode cX0_digestOf 9 = .ok (.iload_n 1, 1) := by decide +kernel
theorem dX0_digestOf_10 : decode cX0_digestOf 10 = .ok (.iload_n 2, 1) := by decide +kernel
theorem dX0_digestOf_11 : decode cX0_digestOf 11 = .ok (.iadd, 1) := by decide +kernel
theorem dX0_digestOf_12 : decode cX0_digestOf 12 = .ok (.if_icmp .ge 21, 3) := by decide +kernel
theorem dX0_digestOf_15 : decode cX0_digestOf 15 = .ok (.lload_n 3, 1) := by decide +kernel
theorem dX0_digestOf_16 : decode cX0_digestOf 16 = .ok (.aload_n 0, 1) := by decide +kernel
theorem dX0_digestOf_17 : decode cX0_digestOf 17 = .ok (.iload 5, 2) := by decide +kernel
theorem dX0_digestOf_19 : decode cX0_digestOf 19 = .ok (.iaload, 1) := by decide +kernel
theorem dX0_digestOf_20 : decode cX0_digestOf 20 = .ok (.i2l, 1) := by decide +kernel
theorem dX0_digestOf_21 : decode cX0_digestOf 21 = .ok (.lxor, 1) := by decide +kernel
theorem dX0_digestOf_22 : decode cX0_digestOf 22 = .ok (.ldc2_w 153, 3) := by decide +kernel
theorem dX0_digestOf_25 : decode cX0_digestOf 25 = .ok (.lmul, 1) := by decide +kernel
theorem dX0_digestOf_26 : decode cX0_digestOf 26 = .ok (.lstore_n 3, 1) := by decide +kernel
theorem dX0_digestOf_27 : decode cX0_digestOf 27 = .ok (.iinc 5 1, 3) := by decide +kernel
theorem dX0_digestOf_30 : decode cX0_digestOf 30 = .ok (.goto (-23), 3) := by decide +kernel
theorem dX0_digestOf_33 : decode cX0_digestOf 33 = .ok (.lload_n 3, 1) := by decide +kernel
theorem dX0_digestOf_34 : decode cX0_digestOf 34 = .ok (.iload_n 2, 1) := by decide +kernel
theorem dX0_digestOf_35 : decode cX0_digestOf 35 = .ok (.i2l, 1) := by decide +kernel
theorem dX0_digestOf_36 : decode cX0_digestOf 36 = .ok (.lxor, 1) := by decide +kernel
theorem dX0_digestOf_37 : decode cX0_digestOf 37 = .ok (.ldc2_w 155, 3) := by decide +kernel
theorem dX0_digestOf_40 : decode cX0_digestOf 40 = .ok (.lmul, 1) := by decide +kernel
theorem dX0_digestOf_41 : decode cX0_digestOf 41 = .ok (.lstore_n 3, 1) := by decide +kernel
theorem dX0_digestOf_42 : decode cX0_digestOf 42 = .ok (.lload_n 3, 1) := by decide +kernel
theorem dX0_digestOf_43 : decode cX0_digestOf 43 = .ok (.lload_n 3, 1) := by decide +kernel
theorem dX0_digestOf_44 : decode cX0_digestOf 44 = .ok (.bipush 32, 2) := by decide +kernel
theorem dX0_digestOf_46 : decode cX0_digestOf 46 = .ok (.lushr, 1) := by decide +kernel
theorem dX0_digestOf_47 : decode cX0_digestOf 47 = .ok (.lxor, 1) := by decide +kernel
theorem dX0_digestOf_48 : decode cX0_digestOf 48 = .ok (.lreturn, 1) := by decide +kernel
theorem dX0_findBlob_0 : decode cX0_findBlob 0 = .ok (.iconst 0, 1) := by decide +kernel
theorem dX0_findBlob_1 : decode cX0_findBlob 1 = .ok (.istore_n 3, 1) := by decide +kernel
theorem dX0_findBlob_2 : decode cX0_findBlob 2 = .ok (.iload_n 3, 1) := by decide +kernel
theorem dX0_findBlob_3 : decode cX0_findBlob 3 = .ok (.aload_n 0, 1) := by decide +kernel
theorem dX0_findBlob_4 : decode cX0_findBlob 4 = .ok (.getfield 68, 3) := by decide +kernel
theorem dX0_findBlob_7 : decode cX0_findBlob 7 = .ok (.if_icmp .ge 22, 3) := by decide +kernel
theorem dX0_findBlob_10 : decode cX0_findBlob 10 = .ok (.aload_n 0, 1) := by decide +kernel
theorem dX0_findBlob_11 : decode cX0_findBlob 11 = .ok (.getfield 16, 3) := by decide +kernel
theorem dX0_findBlob_14 : decode cX0_findBlob 14 = .ok (.iload_n 3, 1) := by decide +kernel
theorem dX0_findBlob_15 : decode cX0_findBlob 15 = .ok (.laload, 1) := by decide +kernel
theorem dX0_findBlob_16 : decode cX0_findBlob 16 = .ok (.lload_n 1, 1) := by decide +kernel
theorem dX0_findBlob_17 : decode cX0_findBlob 17 = .ok (.lcmp, 1) := by decide +kernel
theorem dX0_findBlob_18 : decode cX0_findBlob 18 = .ok (.ifCond .ne 5, 3) := by decide +kernel
theorem dX0_findBlob_21 : decode cX0_findBlob 21 = .ok (.iload_n 3, 1) := by decide +kernel
theorem dX0_findBlob_22 : decode cX0_findBlob 22 = .ok (.ireturn, 1) := by decide +kernel
theorem dX0_findBlob_23 : decode cX0_findBlob 23 = .ok (.iinc 3 1, 3) := by decide +kernel
theorem dX0_findBlob_26 : decode cX0_findBlob 26 = .ok (.goto (-24), 3) := by decide +kernel
theorem dX0_findBlob_29 : decode cX0_findBlob 29 = .ok (.iconst (-1), 1) := by decide +kernel
theorem dX0_findBlob_30 : decode cX0_findBlob 30 = .ok (.ireturn, 1) := by decide +kernel
theorem dX0_findKey_0 : decode cX0_findKey 0 = .ok (.iconst 0, 1) := by decide +kernel
theorem dX0_findKey_1 : decode cX0_findKey 1 = .ok (.istore_n 3, 1) := by decide +kernel
theorem dX0_findKey_2 : decode cX0_findKey 2 = .ok (.iload_n 3, 1) := by decide +kernel
theorem dX0_findKey_3 : decode cX0_findKey 3 = .ok (.aload_n 0, 1) := by decide +kernel
theorem dX0_findKey_4 : decode cX0_findKey 4 = .ok (.getfield 106, 3) := by decide +kernel
theorem dX0_findKey_7 : decode cX0_findKey 7 = .ok (.if_icmp .ge 22, 3) := by decide +kernel
theorem dX0_findKey_10 : decode cX0_findKey 10 = .ok (.aload_n 0, 1) := by decide +kernel
theorem dX0_findKey_11 : decode cX0_findKey 11 = .ok (.getfield 35, 3) := by decide +kernel
theorem dX0_findKey_14 : decode cX0_findKey 14 = .ok (.iload_n 3, 1) := by decide +kernel
theorem dX0_findKey_15 : decode cX0_findKey 15 = .ok (.laload, 1) := by decide +kernel
theorem dX0_findKey_16 : decode cX0_findKey 16 = .ok (.lload_n 1, 1) := by decide +kernel
theorem dX0_findKey_17 : decode cX0_findKey 17 = .ok (.lcmp, 1) := by decide +kernel
theorem dX0_findKey_18 : decode cX0_findKey 18 = .ok (.ifCond .ne 5, 3) := by decide +kernel
theorem dX0_findKey_21 : decode cX0_findKey 21 = .ok (.iload_n 3, 1) := by decide +kernel
theorem dX0_findKey_22 : decode cX0_findKey 22 = .ok (.ireturn, 1) := by decide +kernel
theorem dX0_findKey_23 : decode cX0_findKey 23 = .ok (.iinc 3 1, 3) := by decide +kernel
theorem dX0_findKey_26 : decode cX0_findKey 26 = .ok (.goto (-24), 3) := by decide +kernel
theorem dX0_findKey_29 : decode cX0_findKey 29 = .ok (.iconst (-1), 1) := by decide +kernel
theorem dX0_findKey_30 : decode cX0_findKey 30 = .ok (.ireturn, 1) := by decide +kernel
theorem dX0_isTag_0 : decode cX0_isTag 0 = .ok (.iload_n 0, 1) := by decide +kernel
theorem dX0_isTag_1 : decode cX0_isTag 1 = .ok (.ifCond .lt 13, 3) := by decide +kernel
theorem dX0_isTag_4 : decode cX0_isTag 4 = .ok (.iload_n 0, 1) := by decide +kernel
theorem dX0_isTag_5 : decode cX0_isTag 5 = .ok (.bipush 8, 2) := by decide +kernel
theorem dX0_isTag_7 : decode cX0_isTag 7 = .ok (.if_icmp .ge 7, 3) := by decide +kernel
theorem dX0_isTag_10 : decode cX0_isTag 10 = .ok (.iconst 1, 1) := by decide +kernel
theorem dX0_isTag_11 : decode cX0_isTag 11 = .ok (.goto 4, 3) := by decide +kernel
theorem dX0_isTag_14 : decode cX0_isTag 14 = .ok (.iconst 0, 1) := by decide +kernel
theorem dX0_isTag_15 : decode cX0_isTag 15 = .ok (.ireturn, 1) := by decide +kernel
theorem dX0_demandTag_0 : decode cX0_demandTag 0 = .ok (.iload_n 0, 1) := by decide +kernel
theorem dX0_demandTag_1 : decode cX0_demandTag 1 = .ok (.invokestatic 157, 3) := by decide +kernel
theorem dX0_demandTag_4 : decode cX0_demandTag 4 = .ok (.ifCond .ne 13, 3) := by decide +kernel
theorem dX0_demandTag_7 : decode cX0_demandTag 7 = .ok (.new 55, 3) := by decide +kernel
theorem dX0_demandTag_10 : decode cX0_demandTag 10 = .ok (.dup, 1) := by decide +kernel
theorem dX0_demandTag_11 : decode cX0_demandTag 11 = .ok (.ldc 160, 2) := by decide +kernel
theorem dX0_demandTag_13 : decode cX0_demandTag 13 = .ok (.invokespecial 59, 3) := by decide +kernel
theorem dX0_demandTag_16 : decode cX0_demandTag 16 = .ok (.athrow, 1) := by decide +kernel
theorem dX0_demandTag_17 : decode cX0_demandTag 17 = .ok (.return_, 1) := by decide +kernel
theorem dX0_demandRoom_0 : decode cX0_demandRoom 0 = .ok (.aload_n 0, 1) := by decide +kernel
theorem dX0_demandRoom_1 : decode cX0_demandRoom 1 = .ok (.getfield 124, 3) := by decide +kernel
theorem dX0_demandRoom_4 : decode cX0_demandRoom 4 = .ok (.iconst 4, 1) := by decide +kernel
theorem dX0_demandRoom_5 : decode cX0_demandRoom 5 = .ok (.iadd, 1) := by decide +kernel
theorem dX0_demandRoom_6 : decode cX0_demandRoom 6 = .ok (.iload_n 1, 1) := by decide +kernel
theorem dX0_demandRoom_7 : decode cX0_demandRoom 7 = .ok (.iadd, 1) := by decide +kernel
theorem dX0_demandRoom_8 : decode cX0_demandRoom 8 = .ok (.sipush 700, 3) := by decide +kernel
theorem dX0_demandRoom_11 : decode cX0_demandRoom 11 = .ok (.if_icmp .le 13, 3) := by decide +kernel
theorem dX0_demandRoom_14 : decode cX0_demandRoom 14 = .ok (.new 48, 3) := by decide +kernel
theorem dX0_demandRoom_17 : decode cX0_demandRoom 17 = .ok (.dup, 1) := by decide +kernel
theorem dX0_demandRoom_18 : decode cX0_demandRoom 18 = .ok (.ldc 162, 2) := by decide +kernel
theorem dX0_demandRoom_20 : decode cX0_demandRoom 20 = .ok (.invokespecial 52, 3) := by decide +kernel
theorem dX0_demandRoom_23 : decode cX0_demandRoom 23 = .ok (.athrow, 1) := by decide +kernel
theorem dX0_demandRoom_24 : decode cX0_demandRoom 24 = .ok (.return_, 1) := by decide +kernel
theorem dX0_writeTyped_0 : decode cX0_writeTyped 0 = .ok (.aload_n 0, 1) := by decide +kernel
theorem dX0_writeTyped_1 : decode cX0_writeTyped 1 = .ok (.iconst 1, 1) := by decide +kernel
theorem dX0_writeTyped_2 : decode cX0_writeTyped 2 = .ok (.aload_n 0, 1) := by decide +kernel
theorem dX0_writeTyped_3 : decode cX0_writeTyped 3 = .ok (.getfield 44, 3) := by decide +kernel
theorem dX0_writeTyped_6 : decode cX0_writeTyped 6 = .ok (.invokevirtual 164, 3) := by decide +kernel
theorem dX0_writeTyped_9 : decode cX0_writeTyped 9 = .ok (.istore_n 1, 1) := by decide +kernel
theorem dX0_writeTyped_10 : decode cX0_writeTyped 10 = .ok (.iconst 0, 1) := by decide +kernel
theorem dX0_writeTyped_11 : decode cX0_writeTyped 11 = .ok (.istore_n 2, 1) := by decide +kernel
theorem dX0_writeTyped_12 : decode cX0_writeTyped 12 = .ok (.iload_n 2, 1) := by decide +kernel
theorem dX0_writeTyped_13 : decode cX0_writeTyped 13 = .ok (.aload_n 0, 1) := by decide +kernel
theorem dX0_writeTyped_14 : decode cX0_writeTyped 14 = .ok (.getfield 44, 3) := by decide +kernel
theorem dX0_writeTyped_17 : decode cX0_writeTyped 17 = .ok (.if_icmp .ge 19, 3) := by decide +kernel
theorem dX0_writeTyped_20 : decode cX0_writeTyped 20 = .ok (.aload_n 0, 1) := by decide +kernel
theorem dX0_writeTyped_21 : decode cX0_writeTyped 21 = .ok (.aload_n 0, 1) := by decide +kernel
theorem dX0_writeTyped_22 : decode cX0_writeTyped 22 = .ok (.getfield 9, 3) := by decide +kernel
theorem dX0_writeTyped_25 : decode cX0_writeTyped 25 = .ok (.iload_n 2, 1) := by decide +kernel
theorem dX0_writeTyped_26 : decode cX0_writeTyped 26 = .ok (.iaload, 1) := by decide +kernel
theorem dX0_writeTyped_27 : decode cX0_writeTyped 27 = .ok (.invokevirtual 168, 3) := by decide +kernel
theorem dX0_writeTyped_30 : decode cX0_writeTyped 30 = .ok (.iinc 2 1, 3) := by decide +kernel
theorem dX0_writeTyped_33 : decode cX0_writeTyped 33 = .ok (.goto (-21), 3) := by decide +kernel
theorem dX0_writeTyped_36 : decode cX0_writeTyped 36 = .ok (.aload_n 0, 1) := by decide +kernel
theorem dX0_writeTyped_37 : decode cX0_writeTyped 37 = .ok (.iload_n 1, 1) := by decide +kernel
theorem dX0_writeTyped_38 : decode cX0_writeTyped 38 = .ok (.invokevirtual 171, 3) := by decide +kernel
theorem dX0_writeTyped_41 : decode cX0_writeTyped 41 = .ok (.iload_n 1, 1) := by decide +kernel
theorem dX0_writeTyped_42 : decode cX0_writeTyped 42 = .ok (.ireturn, 1) := by decide +kernel
theorem dX0_writeTell_0 : decode cX0_writeTell 0 = .ok (.aload_n 0, 1) := by decide +kernel
theorem dX0_writeTell_1 : decode cX0_writeTell 1 = .ok (.iconst 2, 1) := by decide +kernel
theorem dX0_writeTell_2 : decode cX0_writeTell 2 = .ok (.bipush 9, 2) := by decide +kernel
theorem dX0_writeTell_4 : decode cX0_writeTell 4 = .ok (.invokevirtual 164, 3) := by decide +kernel
theorem dX0_writeTell_7 : decode cX0_writeTell 7 = .ok (.istore 4, 2) := by decide +kernel
theorem dX0_writeTell_9 : decode cX0_writeTell 9 = .ok (.aload_n 0, 1) := by decide +kernel
theorem dX0_writeTell_10 : decode cX0_writeTell 10 = .ok (.iload_n 1, 1) := by decide +kernel
theorem dX0_writeTell_11 : decode cX0_writeTell 11 = .ok (.invokevirtual 168, 3) := by decide +kernel
theorem dX0_writeTell_14 : decode cX0_writeTell 14 = .ok (.aload_n 0, 1) := by decide +kernel
theorem dX0_writeTell_15 : decode cX0_writeTell 15 = .ok (.lload_n 2, 1) := by decide +kernel
theorem dX0_writeTell_16 : decode cX0_writeTell 16 = .ok (.invokevirtual 174, 3) := by decide +kernel
theorem dX0_writeTell_19 : decode cX0_writeTell 19 = .ok (.aload_n 0, 1) := by decide +kernel
theorem dX0_writeTell_20 : decode cX0_writeTell 20 = .ok (.iload 4, 2) := by decide +kernel
theorem dX0_writeTell_22 : decode cX0_writeTell 22 = .ok (.invokevirtual 171, 3) := by decide +kernel
theorem dX0_writeTell_25 : decode cX0_writeTell 25 = .ok (.iload 4, 2) := by decide +kernel
theorem dX0_writeTell_27 : decode cX0_writeTell 27 = .ok (.ireturn, 1) := by decide +kernel
theorem dX0_writeUntell_0 : decode cX0_writeUntell 0 = .ok (.aload_n 0, 1) := by decide +kernel
theorem dX0_writeUntell_1 : decode cX0_writeUntell 1 = .ok (.iconst 3, 1) := by decide +kernel
theorem dX0_writeUntell_2 : decode cX0_writeUntell 2 = .ok (.iconst 1, 1) := by decide +kernel
theorem dX0_writeUntell_3 : decode cX0_writeUntell 3 = .ok (.invokevirtual 164, 3) := by decide +kernel
theorem dX0_writeUntell_6 : decode cX0_writeUntell 6 = .ok (.istore_n 2, 1) := by decide +kernel
theorem dX0_writeUntell_7 : decode cX0_writeUntell 7 = .ok (.aload_n 0, 1) := by decide +kernel
theorem dX0_writeUntell_8 : decode cX0_writeUntell 8 = .ok (.iload_n 1, 1) := by decide +kernel
theorem dX0_writeUntell_9 : decode cX0_writeUntell 9 = .ok (.invokevirtual 168, 3) := by decide +kernel
theorem dX0_writeUntell_12 : decode cX0_writeUntell 12 = .ok (.aload_n 0, 1) := by decide +kernel
theorem dX0_writeUntell_13 : decode cX0_writeUntell 13 = .ok (.iload_n 2, 1) := by decide +kernel
theorem dX0_writeUntell_14 : decode cX0_writeUntell 14 = .ok (.invokevirtual 171, 3) := by decide +kernel
theorem dX0_writeUntell_17 : decode cX0_writeUntell 17 = .ok (.iload_n 2, 1) := by decide +kernel
theorem dX0_writeUntell_18 : decode cX0_writeUntell 18 = .ok (.ireturn, 1) := by decide +kernel
theorem dX0_writeKey_0 : decode cX0_writeKey 0 = .ok (.aload_n 0, 1) := by decide +kernel
theorem dX0_writeKey_1 : decode cX0_writeKey 1 = .ok (.iconst 4, 1) := by decide +kernel
theorem dX0_writeKey_2 : decode cX0_writeKey 2 = .ok (.bipush 16, 2) := by decide +kernel
theorem dX0_writeKey_4 : decode cX0_writeKey 4 = .ok (.invokevirtual 164, 3) := by decide +kernel
theorem dX0_writeKey_7 : decode cX0_writeKey 7 = .ok (.istore 5, 2) := by decide +kernel
theorem dX0_writeKey_9 : decode cX0_writeKey 9 = .ok (.aload_n 0, 1) := by decide +kernel
theorem dX0_writeKey_10 : decode cX0_writeKey 10 = .ok (.lload_n 1, 1) := by decide +kernel
theorem dX0_writeKey_11 : decode cX0_writeKey 11 = .ok (.invokevirtual 174, 3) := by decide +kernel
theorem dX0_writeKey_14 : decode cX0_writeKey 14 = .ok (.aload_n 0, 1) := by decide +kernel
theorem dX0_writeKey_15 : decode cX0_writeKey 15 = .ok (.lload_n 3, 1) := by decide +kernel
theorem dX0_writeKey_16 : decode cX0_writeKey 16 = .ok (.invokevirtual 174, 3) := by decide +kernel
theorem dX0_writeKey_19 : decode cX0_writeKey 19 = .ok (.aload_n 0, 1) := by decide +kernel
theorem dX0_writeKey_20 : decode cX0_writeKey 20 = .ok (.iload 5, 2) := by decide +kernel
theorem dX0_writeKey_22 : decode cX0_writeKey 22 = .ok (.invokevirtual 171, 3) := by decide +kernel
theorem dX0_writeKey_25 : decode cX0_writeKey 25 = .ok (.iload 5, 2) := by decide +kernel
theorem dX0_writeKey_27 : decode cX0_writeKey 27 = .ok (.ireturn, 1) := by decide +kernel
theorem dX0_writeHead_0 : decode cX0_writeHead 0 = .ok (.aload_n 0, 1) := by decide +kernel
theorem dX0_writeHead_1 : decode cX0_writeHead 1 = .ok (.getfield 124, 3) := by decide +kernel
theorem dX0_writeHead_4 : decode cX0_writeHead 4 = .ok (.istore_n 3, 1) := by decide +kernel
theorem dX0_writeHead_5 : decode cX0_writeHead 5 = .ok (.aload_n 0, 1) := by decide +kernel
theorem dX0_writeHead_6 : decode cX0_writeHead 6 = .ok (.iload_n 1, 1) := by decide +kernel
theorem dX0_writeHead_7 : decode cX0_writeHead 7 = .ok (.invokevirtual 168, 3) := by decide +kernel
theorem dX0_writeHead_10 : decode cX0_writeHead 10 = .ok (.aload_n 0, 1) := by decide +kernel
theorem dX0_writeHead_11 : decode cX0_writeHead 11 = .ok (.iload_n 2, 1) := by decide +kernel
theorem dX0_writeHead_12 : decode cX0_writeHead 12 = .ok (.sipush 255, 3) := by decide +kernel
theorem dX0_writeHead_15 : decode cX0_writeHead 15 = .ok (.iand, 1) := by decide +kernel
theorem dX0_writeHead_16 : decode cX0_writeHead 16 = .ok (.invokevirtual 168, 3) := by decide +kernel
theorem dX0_writeHead_19 : decode cX0_writeHead 19 = .ok (.aload_n 0, 1) := by decide +kernel
theorem dX0_writeHead_20 : decode cX0_writeHead 20 = .ok (.iload_n 2, 1) := by decide +kernel
theorem dX0_writeHead_21 : decode cX0_writeHead 21 = .ok (.bipush 8, 2) := by decide +kernel
theorem dX0_writeHead_23 : decode cX0_writeHead 23 = .ok (.iushr, 1) := by decide +kernel
theorem dX0_writeHead_24 : decode cX0_writeHead 24 = .ok (.invokevirtual 168, 3) := by decide +kernel
theorem dX0_writeHead_27 : decode cX0_writeHead 27 = .ok (.iload_n 3, 1) := by decide +kernel
theorem dX0_writeHead_28 : decode cX0_writeHead 28 = .ok (.ireturn, 1) := by decide +kernel
theorem dX0_writeLong_0 : decode cX0_writeLong 0 = .ok (.iconst 0, 1) := by decide +kernel
theorem dX0_writeLong_1 : decode cX0_writeLong 1 = .ok (.istore_n 3, 1) := by decide +kernel
theorem dX0_writeLong_2 : decode cX0_writeLong 2 = .ok (.iload_n 3, 1) := by decide +kernel
theorem dX0_writeLong_3 : decode cX0_writeLong 3 = .ok (.bipush 8, 2) := by decide +kernel
theorem dX0_writeLong_5 : decode cX0_writeLong 5 = .ok (.if_icmp .ge 24, 3) := by decide +kernel
theorem dX0_writeLong_8 : decode cX0_writeLong 8 = .ok (.aload_n 0, 1) := by decide +kernel
theorem dX0_writeLong_9 : decode cX0_writeLong 9 = .ok (.lload_n 1, 1) := by decide +kernel
theorem dX0_writeLong_10 : decode cX0_writeLong 10 = .ok (.bipush 8, 2) := by decide +kernel
theorem dX0_writeLong_12 : decode cX0_writeLong 12 = .ok (.iload_n 3, 1) := by decide +kernel
theorem dX0_writeLong_13 : decode cX0_writeLong 13 = .ok (.imul, 1) := by decide +kernel
theorem dX0_writeLong_14 : decode cX0_writeLong 14 = .ok (.lushr, 1) := by decide +kernel
theorem dX0_writeLong_15 : decode cX0_writeLong 15 = .ok (.l2i, 1) := by decide +kernel
theorem dX0_writeLong_16 : decode cX0_writeLong 16 = .ok (.sipush 255, 3) := by decide +kernel
theorem dX0_writeLong_19 : decode cX0_writeLong 19 = .ok (.iand, 1) := by decide +kernel
theorem dX0_writeLong_20 : decode cX0_writeLong 20 = .ok (.invokevirtual 168, 3) := by decide +kernel
theorem dX0_writeLong_23 : decode cX0_writeLong 23 = .ok (.iinc 3 1, 3) := by decide +kernel
theorem dX0_writeLong_26 : decode cX0_writeLong 26 = .ok (.goto (-24), 3) := by decide +kernel
theorem dX0_writeLong_29 : decode cX0_writeLong 29 = .ok (.return_, 1) := by decide +kernel
theorem dX0_writeSum_0 : decode cX0_writeSum 0 = .ok (.aload_n 0, 1) := by decide +kernel
theorem dX0_writeSum_1 : decode cX0_writeSum 1 = .ok (.aload_n 0, 1) := by decide +kernel
theorem dX0_writeSum_2 : decode cX0_writeSum 2 = .ok (.iload_n 1, 1) := by decide +kernel
theorem dX0_writeSum_3 : decode cX0_writeSum 3 = .ok (.aload_n 0, 1) := by decide +kernel
theorem dX0_writeSum_4 : decode cX0_writeSum 4 = .ok (.getfield 124, 3) := by decide +kernel
theorem dX0_writeSum_7 : decode cX0_writeSum 7 = .ok (.invokevirtual 178, 3) := by decide +kernel
theorem dX0_writeSum_10 : decode cX0_writeSum 10 = .ok (.invokevirtual 168, 3) := by decide +kernel
theorem dX0_writeSum_13 : decode cX0_writeSum 13 = .ok (.return_, 1) := by decide +kernel
theorem dX0_writeByte_0 : decode cX0_writeByte 0 = .ok (.aload_n 0, 1) := by decide +kernel
theorem dX0_writeByte_1 : decode cX0_writeByte 1 = .ok (.getfield 124, 3) := by decide +kernel
theorem dX0_writeByte_4 : decode cX0_writeByte 4 = .ok (.sipush 700, 3) := by decide +kernel
theorem dX0_writeByte_7 : decode cX0_writeByte 7 = .ok (.if_icmp .ge 23, 3) := by decide +kernel
theorem dX0_writeByte_10 : decode cX0_writeByte 10 = .ok (.aload_n 0, 1) := by decide +kernel
theorem dX0_writeByte_11 : decode cX0_writeByte 11 = .ok (.getfield 13, 3) := by decide +kernel
theorem dX0_writeByte_14 : decode cX0_writeByte 14 = .ok (.aload_n 0, 1) := by decide +kernel
theorem dX0_writeByte_15 : decode cX0_writeByte 15 = .ok (.getfield 124, 3) := by decide +kernel
theorem dX0_writeByte_18 : decode cX0_writeByte 18 = .ok (.iload_n 1, 1) := by decide +kernel
theorem dX0_writeByte_19 : decode cX0_writeByte 19 = .ok (.iastore, 1) := by decide +kernel
theorem dX0_writeByte_20 : decode cX0_writeByte 20 = .ok (.aload_n 0, 1) := by decide +kernel
theorem dX0_writeByte_21 : decode cX0_writeByte 21 = .ok (.dup, 1) := by decide +kernel
theorem dX0_writeByte_22 : decode cX0_writeByte 22 = .ok (.getfield 124, 3) := by decide +kernel
theorem dX0_writeByte_25 : decode cX0_writeByte 25 = .ok (.iconst 1, 1) := by decide +kernel
theorem dX0_writeByte_26 : decode cX0_writeByte 26 = .ok (.iadd, 1) := by decide +kernel
theorem dX0_writeByte_27 : decode cX0_writeByte 27 = .ok (.putfield 124, 3) := by decide +kernel
theorem dX0_writeByte_30 : decode cX0_writeByte 30 = .ok (.return_, 1) := by decide +kernel
theorem dX0_sumOf_0 : decode cX0_sumOf 0 = .ok (.iconst 0, 1) := by decide +kernel
theorem dX0_sumOf_1 : decode cX0_sumOf 1 = .ok (.istore_n 3, 1) := by decide +kernel
theorem dX0_sumOf_2 : decode cX0_sumOf 2 = .ok (.iload_n 1, 1) := by decide +kernel
theorem dX0_sumOf_3 : decode cX0_sumOf 3 = .ok (.istore 4, 2) := by decide +kernel
theorem dX0_sumOf_5 : decode cX0_sumOf 5 = .ok (.iload 4, 2) := by decide +kernel
theorem dX0_sumOf_7 : decode cX0_sumOf 7 = .ok (.iload_n 2, 1) := by decide +kernel
theorem dX0_sumOf_8 : decode cX0_sumOf 8 = .ok (.if_icmp .ge 19, 3) := by decide +kernel
theorem dX0_sumOf_11 : decode cX0_sumOf 11 = .ok (.iload_n 3, 1) := by decide +kernel
theorem dX0_sumOf_12 : decode cX0_sumOf 12 = .ok (.aload_n 0, 1) := by decide +kernel
theorem dX0_sumOf_13 : decode cX0_sumOf 13 = .ok (.getfield 13, 3) := by decide +kernel
theorem dX0_sumOf_16 : decode cX0_sumOf 16 = .ok (.iload 4, 2) := by decide +kernel
theorem dX0_sumOf_18 : decode cX0_sumOf 18 = .ok (.iaload, 1) := by decide +kernel
theorem dX0_sumOf_19 : decode cX0_sumOf 19 = .ok (.iadd, 1) := by decide +kernel
theorem dX0_sumOf_20 : decode cX0_sumOf 20 = .ok (.istore_n 3, 1) := by decide +kernel
theorem dX0_sumOf_21 : decode cX0_sumOf 21 = .ok (.iinc 4 1, 3) := by decide +kernel
theorem dX0_sumOf_24 : decode cX0_sumOf 24 = .ok (.goto (-19), 3) := by decide +kernel
theorem dX0_sumOf_27 : decode cX0_sumOf 27 = .ok (.iload_n 3, 1) := by decide +kernel
theorem dX0_sumOf_28 : decode cX0_sumOf 28 = .ok (.sipush 255, 3) := by decide +kernel
theorem dX0_sumOf_31 : decode cX0_sumOf 31 = .ok (.iand, 1) := by decide +kernel
theorem dX0_sumOf_32 : decode cX0_sumOf 32 = .ok (.ireturn, 1) := by decide +kernel
theorem dX0_restore_0 : decode cX0_restore 0 = .ok (.aload_n 0, 1) := by decide +kernel
theorem dX0_restore_1 : decode cX0_restore 1 = .ok (.getfield 124, 3) := by decide +kernel
theorem dX0_restore_4 : decode cX0_restore 4 = .ok (.istore_n 1, 1) := by decide +kernel
theorem dX0_restore_5 : decode cX0_restore 5 = .ok (.aload_n 0, 1) := by decide +kernel
theorem dX0_restore_6 : decode cX0_restore 6 = .ok (.iconst 0, 1) := by decide +kernel
theorem dX0_restore_7 : decode cX0_restore 7 = .ok (.putfield 68, 3) := by decide +kernel
theorem dX0_restore_10 : decode cX0_restore 10 = .ok (.aload_n 0, 1) := by decide +kernel
theorem dX0_restore_11 : decode cX0_restore 11 = .ok (.iconst 0, 1) := by decide +kernel
theorem dX0_restore_12 : decode cX0_restore 12 = .ok (.putfield 106, 3) := by decide +kernel
theorem dX0_restore_15 : decode cX0_restore 15 = .ok (.aload_n 0, 1) := by decide +kernel
theorem dX0_restore_16 : decode cX0_restore 16 = .ok (.getfield 26, 3) := by decide +kernel
theorem dX0_restore_19 : decode cX0_restore 19 = .ok (.iconst (-1), 1) := by decide +kernel
theorem dX0_restore_20 : decode cX0_restore 20 = .ok (.invokestatic 29, 3) := by decide +kernel
theorem dX0_restore_23 : decode cX0_restore 23 = .ok (.iconst 0, 1) := by decide +kernel
theorem dX0_restore_24 : decode cX0_restore 24 = .ok (.istore_n 2, 1) := by decide +kernel
theorem dX0_restore_25 : decode cX0_restore 25 = .ok (.iconst 0, 1) := by decide +kernel
theorem dX0_restore_26 : decode cX0_restore 26 = .ok (.istore_n 3, 1) := by decide +kernel
theorem dX0_restore_27 : decode cX0_restore 27 = .ok (.iload_n 3, 1) := by decide +kernel
theorem dX0_restore_28 : decode cX0_restore 28 = .ok (.sipush 175, 3) := by decide +kernel
theorem dX0_restore_31 : decode cX0_restore 31 = .ok (.if_icmp .ge 36, 3) := by decide +kernel
theorem dX0_restore_34 : decode cX0_restore 34 = .ok (.aload_n 0, 1) := by decide +kernel
theorem dX0_restore_35 : decode cX0_restore 35 = .ok (.iload_n 2, 1) := by decide +kernel
theorem dX0_restore_36 : decode cX0_restore 36 = .ok (.iload_n 1, 1) := by decide +kernel
theorem dX0_restore_37 : decode cX0_restore 37 = .ok (.invokevirtual 181, 3) := by decide +kernel
theorem dX0_restore_40 : decode cX0_restore 40 = .ok (.ifCond .eq 27, 3) := by decide +kernel
theorem dX0_restore_43 : decode cX0_restore 43 = .ok (.aload_n 0, 1) := by decide +kernel
theorem dX0_restore_44 : decode cX0_restore 44 = .ok (.iload_n 2, 1) := by decide +kernel
theorem dX0_restore_45 : decode cX0_restore 45 = .ok (.invokevirtual 81, 3) := by decide +kernel
theorem dX0_restore_48 : decode cX0_restore 48 = .ok (.ifCond .eq 19, 3) := by decide +kernel
theorem dX0_restore_51 : decode cX0_restore 51 = .ok (.iload_n 2, 1) := by decide +kernel
theorem dX0_restore_52 : decode cX0_restore 52 = .ok (.iconst 4, 1) := by decide +kernel
theorem dX0_restore_53 : decode cX0_restore 53 = .ok (.aload_n 0, 1) := by decide +kernel
theorem dX0_restore_54 : decode cX0_restore 54 = .ok (.iload_n 2, 1) := by decide +kernel
theorem dX0_restore_55 : decode cX0_restore 55 = .ok (.invokevirtual 185, 3) := by decide +kernel
theorem dX0_restore_58 : decode cX0_restore 58 = .ok (.iadd, 1) := by decide +kernel
theorem dX0_restore_59 : decode cX0_restore 59 = .ok (.iadd, 1) := by decide +kernel
theorem dX0_restore_60 : decode cX0_restore 60 = .ok (.istore_n 2, 1) := by decide +kernel
theorem dX0_restore_61 : decode cX0_restore 61 = .ok (.iinc 3 1, 3) := by decide +kernel
theorem dX0_restore_64 : decode cX0_restore 64 = .ok (.goto (-37), 3) := by decide +kernel
theorem dX0_restore_67 : decode cX0_restore 67 = .ok (.aload_n 0, 1) := by decide +kernel
theorem dX0_restore_68 : decode cX0_restore 68 = .ok (.iload_n 2, 1) := by decide +kernel
theorem dX0_restore_69 : decode cX0_restore 69 = .ok (.putfield 124, 3) := by decide +kernel
theorem dX0_restore_72 : decode cX0_restore 72 = .ok (.aload_n 0, 1) := by decide +kernel
theorem dX0_restore_73 : decode cX0_restore 73 = .ok (.iload_n 2, 1) := by decide +kernel
theorem dX0_restore_74 : decode cX0_restore 74 = .ok (.putfield 127, 3) := by decide +kernel
theorem dX0_restore_77 : decode cX0_restore 77 = .ok (.return_, 1) := by decide +kernel
theorem dX0_isWhole_0 : decode cX0_isWhole 0 = .ok (.iload_n 1, 1) := by decide +kernel
theorem dX0_isWhole_1 : decode cX0_isWhole 1 = .ok (.iconst 4, 1) := by decide +kernel
theorem dX0_isWhole_2 : decode cX0_isWhole 2 = .ok (.iadd, 1) := by decide +kernel
theorem dX0_isWhole_3 : decode cX0_isWhole 3 = .ok (.iload_n 2, 1) := by decide +kernel
theorem dX0_isWhole_4 : decode cX0_isWhole 4 = .ok (.if_icmp .le 5, 3) := by decide +kernel
theorem dX0_isWhole_7 : decode cX0_isWhole 7 = .ok (.iconst 0, 1) := by decide +kernel
theorem dX0_isWhole_8 : decode cX0_isWhole 8 = .ok (.ireturn, 1) := by decide +kernel
theorem dX0_isWhole_9 : decode cX0_isWhole 9 = .ok (.iload_n 1, 1) := by decide +kernel
theorem dX0_isWhole_10 : decode cX0_isWhole 10 = .ok (.iconst 3, 1) := by decide +kernel
theorem dX0_isWhole_11 : decode cX0_isWhole 11 = .ok (.iadd, 1) := by decide +kernel
theorem dX0_isWhole_12 : decode cX0_isWhole 12 = .ok (.aload_n 0, 1) := by decide +kernel
theorem dX0_isWhole_13 : decode cX0_isWhole 13 = .ok (.iload_n 1, 1) := by decide +kernel
theorem dX0_isWhole_14 : decode cX0_isWhole 14 = .ok (.invokevirtual 185, 3) := by decide +kernel
theorem dX0_isWhole_17 : decode cX0_isWhole 17 = .ok (.iadd, 1) := by decide +kernel
theorem dX0_isWhole_18 : decode cX0_isWhole 18 = .ok (.istore_n 3, 1) := by decide +kernel
theorem dX0_isWhole_19 : decode cX0_isWhole 19 = .ok (.iload_n 3, 1) := by decide +kernel
theorem dX0_isWhole_20 : decode cX0_isWhole 20 = .ok (.iload_n 2, 1) := by decide +kernel
theorem dX0_isWhole_21 : decode cX0_isWhole 21 = .ok (.if_icmp .ge 22, 3) := by decide +kernel
theorem dX0_isWhole_24 : decode cX0_isWhole 24 = .ok (.aload_n 0, 1) := by decide +kernel
theorem dX0_isWhole_25 : decode cX0_isWhole 25 = .ok (.getfield 13, 3) := by decide +kernel
theorem dX0_isWhole_28 : decode cX0_isWhole 28 = .ok (.iload_n 3, 1) := by decide +kernel
theorem dX0_isWhole_29 : decode cX0_isWhole 29 = .ok (.iaload, 1) := by decide +kernel
theorem dX0_isWhole_30 : decode cX0_isWhole 30 = .ok (.aload_n 0, 1) := by decide +kernel
theorem dX0_isWhole_31 : decode cX0_isWhole 31 = .ok (.iload_n 1, 1) := by decide +kernel
theorem dX0_isWhole_32 : decode cX0_isWhole 32 = .ok (.iload_n 3, 1) := by decide +kernel
theorem dX0_isWhole_33 : decode cX0_isWhole 33 = .ok (.invokevirtual 178, 3) := by decide +kernel
theorem dX0_isWhole_36 : decode cX0_isWhole 36 = .ok (.if_icmp .ne 7, 3) := by decide +kernel
theorem dX0_isWhole_39 : decode cX0_isWhole 39 = .ok (.iconst 1, 1) := by decide +kernel
theorem dX0_isWhole_40 : decode cX0_isWhole 40 = .ok (.goto 4, 3) := by decide +kernel
theorem dX0_isWhole_43 : decode cX0_isWhole 43 = .ok (.iconst 0, 1) := by decide +kernel
theorem dX0_isWhole_44 : decode cX0_isWhole 44 = .ok (.ireturn, 1) := by decide +kernel
theorem dX0_lengthAt_0 : decode cX0_lengthAt 0 = .ok (.aload_n 0, 1) := by decide +kernel
theorem dX0_lengthAt_1 : decode cX0_lengthAt 1 = .ok (.getfield 13, 3) := by decide +kernel
theorem dX0_lengthAt_4 : decode cX0_lengthAt 4 = .ok (.iload_n 1, 1) := by decide +kernel
theorem dX0_lengthAt_5 : decode cX0_lengthAt 5 = .ok (.iconst 1, 1) := by decide +kernel
theorem dX0_lengthAt_6 : decode cX0_lengthAt 6 = .ok (.iadd, 1) := by decide +kernel
theorem dX0_lengthAt_7 : decode cX0_lengthAt 7 = .ok (.iaload, 1) := by decide +kernel
theorem dX0_lengthAt_8 : decode cX0_lengthAt 8 = .ok (.sipush 256, 3) := by decide +kernel
theorem dX0_lengthAt_11 : decode cX0_lengthAt 11 = .ok (.aload_n 0, 1) := by decide +kernel
theorem dX0_lengthAt_12 : decode cX0_lengthAt 12 = .ok (.getfield 13, 3) := by decide +kernel
theorem dX0_lengthAt_15 : decode cX0_lengthAt 15 = .ok (.iload_n 1, 1) := by decide +kernel
theorem dX0_lengthAt_16 : decode cX0_lengthAt 16 = .ok (.iconst 2, 1) := by decide +kernel
theorem dX0_lengthAt_17 : decode cX0_lengthAt 17 = .ok (.iadd, 1) := by decide +kernel
theorem dX0_lengthAt_18 : decode cX0_lengthAt 18 = .ok (.iaload, 1) := by decide +kernel
theorem dX0_lengthAt_19 : decode cX0_lengthAt 19 = .ok (.imul, 1) := by decide +kernel
theorem dX0_lengthAt_20 : decode cX0_lengthAt 20 = .ok (.iadd, 1) := by decide +kernel
theorem dX0_lengthAt_21 : decode cX0_lengthAt 21 = .ok (.ireturn, 1) := by decide +kernel
theorem dX0_longAt_0 : decode cX0_longAt 0 = .ok (.lconst 0, 1) := by decide +kernel
theorem dX0_longAt_1 : decode cX0_longAt 1 = .ok (.lstore_n 2, 1) := by decide +kernel
theorem dX0_longAt_2 : decode cX0_longAt 2 = .ok (.bipush 7, 2) := by decide +kernel
theorem dX0_longAt_4 : decode cX0_longAt 4 = .ok (.istore 4, 2) := by decide +kernel
theorem dX0_longAt_6 : decode cX0_longAt 6 = .ok (.iload 4, 2) := by decide +kernel
theorem dX0_longAt_8 : decode cX0_longAt 8 = .ok (.ifCond .lt 25, 3) := by decide +kernel
theorem dX0_longAt_11 : decode cX0_longAt 11 = .ok (.lload_n 2, 1) := by decide +kernel
theorem dX0_longAt_12 : decode cX0_longAt 12 = .ok (.bipush 8, 2) := by decide +kernel
theorem dX0_longAt_14 : decode cX0_longAt 14 = .ok (.lshl, 1) := by decide +kernel
theorem dX0_longAt_15 : decode cX0_longAt 15 = .ok (.aload_n 0, 1) := by decide +kernel
theorem dX0_longAt_16 : decode cX0_longAt 16 = .ok (.getfield 13, 3) := by decide +kernel
theorem dX0_longAt_19 : decode cX0_longAt 19 = .ok (.iload_n 1, 1) := by decide +kernel
theorem dX0_longAt_20 : decode cX0_longAt 20 = .ok (.iload 4, 2) := by decide +kernel
theorem dX0_longAt_22 : decode cX0_longAt 22 = .ok (.iadd, 1) := by decide +kernel
theorem dX0_longAt_23 : decode cX0_longAt 23 = .ok (.iaload, 1) := by decide +kernel
theorem dX0_longAt_24 : decode cX0_longAt 24 = .ok (.i2l, 1) := by decide +kernel
theorem dX0_longAt_25 : decode cX0_longAt 25 = .ok (.lor, 1) := by decide +kernel
theorem dX0_longAt_26 : decode cX0_longAt 26 = .ok (.lstore_n 2, 1) := by decide +kernel
theorem dX0_longAt_27 : decode cX0_longAt 27 = .ok (.iinc 4 (-1), 3) := by decide +kernel
theorem dX0_longAt_30 : decode cX0_longAt 30 = .ok (.goto (-24), 3) := by decide +kernel
theorem dX0_longAt_33 : decode cX0_longAt 33 = .ok (.lload_n 2, 1) := by decide +kernel
theorem dX0_longAt_34 : decode cX0_longAt 34 = .ok (.lreturn, 1) := by decide +kernel
theorem dX0_follow_0 : decode cX0_follow 0 = .ok (.aload_n 0, 1) := by decide +kernel
theorem dX0_follow_1 : decode cX0_follow 1 = .ok (.iload_n 1, 1) := by decide +kernel
theorem dX0_follow_2 : decode cX0_follow 2 = .ok (.invokevirtual 185, 3) := by decide +kernel
theorem dX0_follow_5 : decode cX0_follow 5 = .ok (.istore_n 2, 1) := by decide +kernel
theorem dX0_follow_6 : decode cX0_follow 6 = .ok (.iload_n 1, 1) := by decide +kernel
theorem dX0_follow_7 : decode cX0_follow 7 = .ok (.iconst 3, 1) := by decide +kernel
theorem dX0_follow_8 : decode cX0_follow 8 = .ok (.iadd, 1) := by decide +kernel
theorem dX0_follow_9 : decode cX0_follow 9 = .ok (.istore_n 3, 1) := by decide +kernel
theorem dX0_follow_10 : decode cX0_follow 10 = .ok (.aload_n 0, 1) := by decide +kernel
theorem dX0_follow_11 : decode cX0_follow 11 = .ok (.getfield 13, 3) := by decide +kernel
theorem dX0_follow_14 : decode cX0_follow 14 = .ok (.iload_n 1, 1) := by decide +kernel
theorem dX0_follow_15 : decode cX0_follow 15 = .ok (.iaload, 1) := by decide +kernel
theorem dX0_follow_16 : decode cX0_follow 16 = .ok (.tableswitch 127 1 4 #[32, 39, 71, 95], 32) := by decide +kernel
theorem dX0_follow_48 : decode cX0_follow 48 = .ok (.aload_n 0, 1) := by decide +kernel
theorem dX0_follow_49 : decode cX0_follow 49 = .ok (.iload_n 3, 1) := by decide +kernel
theorem dX0_follow_50 : decode cX0_follow 50 = .ok (.iload_n 2, 1) := by decide +kernel
theorem dX0_follow_51 : decode cX0_follow 51 = .ok (.invokevirtual 188, 3) := by decide +kernel
theorem dX0_follow_54 : decode cX0_follow 54 = .ok (.ireturn, 1) := by decide +kernel
theorem dX0_follow_55 : decode cX0_follow 55 = .ok (.iload_n 2, 1) := by decide +kernel
theorem dX0_follow_56 : decode cX0_follow 56 = .ok (.bipush 9, 2) := by decide +kernel
theorem dX0_follow_58 : decode cX0_follow 58 = .ok (.if_icmp .ne 27, 3) := by decide +kernel
theorem dX0_follow_61 : decode cX0_follow 61 = .ok (.aload_n 0, 1) := by decide +kernel
theorem dX0_follow_62 : decode cX0_follow 62 = .ok (.aload_n 0, 1) := by decide +kernel
theorem dX0_follow_63 : decode cX0_follow 63 = .ok (.getfield 13, 3) := by decide +kernel
theorem dX0_follow_66 : decode cX0_follow 66 = .ok (.iload_n 3, 1) := by decide +kernel
theorem dX0_follow_67 : decode cX0_follow 67 = .ok (.iaload, 1) := by decide +kernel
theorem dX0_follow_68 : decode cX0_follow 68 = .ok (.aload_n 0, 1) := by decide +kernel
theorem dX0_follow_69 : decode cX0_follow 69 = .ok (.iload_n 3, 1) := by decide +kernel
theorem dX0_follow_70 : decode cX0_follow 70 = .ok (.iconst 1, 1) := by decide +kernel
theorem dX0_follow_71 : decode cX0_follow 71 = .ok (.iadd, 1) := by decide +kernel
theorem dX0_follow_72 : decode cX0_follow 72 = .ok (.invokevirtual 191, 3) := by decide +kernel
theorem dX0_follow_75 : decode cX0_follow 75 = .ok (.invokevirtual 195, 3) := by decide +kernel
theorem dX0_follow_78 : decode cX0_follow 78 = .ok (.ifCond .eq 7, 3) := by decide +kernel
theorem dX0_follow_81 : decode cX0_follow 81 = .ok (.iconst 1, 1) := by decide +kernel
theorem dX0_follow_82 : decode cX0_follow 82 = .ok (.goto 4, 3) := by decide +kernel
theorem dX0_follow_85 : decode cX0_follow 85 = .ok (.iconst 0, 1) := by decide +kernel
theorem dX0_follow_86 : decode cX0_follow 86 = .ok (.ireturn, 1) := by decide +kernel
theorem dX0_follow_87 : decode cX0_follow 87 = .ok (.iload_n 2, 1) := by decide +kernel
theorem dX0_follow_88 : decode cX0_follow 88 = .ok (.iconst 1, 1) := by decide +kernel
theorem dX0_follow_89 : decode cX0_follow 89 = .ok (.if_icmp .ne 20, 3) := by decide +kernel
theorem dX0_follow_92 : decode cX0_follow 92 = .ok (.aload_n 0, 1) := by decide +kernel
theorem dX0_follow_93 : decode cX0_follow 93 = .ok (.aload_n 0, 1) := by decide +kernel
theorem dX0_follow_94 : decode cX0_follow 94 = .ok (.getfield 13, 3) := by decide +kernel
theorem dX0_follow_97 : decode cX0_follow 97 = .ok (.iload_n 3, 1) := by decide +kernel
theorem dX0_follow_98 : decode cX0_follow 98 = .ok (.iaload, 1) := by decide +kernel
theorem dX0_follow_99 : decode cX0_follow 99 = .ok (.invokevirtual 199, 3) := by decide +kernel
theorem dX0_follow_102 : decode cX0_follow 102 = .ok (.ifCond .eq 7, 3) := by decide +kernel
theorem dX0_follow_105 : decode cX0_follow 105 = .ok (.iconst 1, 1) := by decide +kernel
theorem dX0_follow_106 : decode cX0_follow 106 = .ok (.goto 4, 3) := by decide +kernel
theorem dX0_follow_109 : decode cX0_follow 109 = .ok (.iconst 0, 1) := by decide +kernel
theorem dX0_follow_110 : decode cX0_follow 110 = .ok (.ireturn, 1) := by decide +kernel
theorem dX0_follow_111 : decode cX0_follow 111 = .ok (.iload_n 2, 1) := by decide +kernel
theorem dX0_follow_112 : decode cX0_follow 112 = .ok (.bipush 16, 2) := by decide +kernel
theorem dX0_follow_114 : decode cX0_follow 114 = .ok (.if_icmp .ne 27, 3) := by decide +kernel
theorem dX0_follow_117 : decode cX0_follow 117 = .ok (.aload_n 0, 1) := by decide +kernel
theorem dX0_follow_118 : decode cX0_follow 118 = .ok (.aload_n 0, 1) := by decide +kernel
theorem dX0_follow_119 : decode cX0_follow 119 = .ok (.iload_n 3, 1) := by decide +kernel
theorem dX0_follow_120 : decode cX0_follow 120 = .ok (.invokevirtual 191, 3) := by decide +kernel
theorem dX0_follow_123 : decode cX0_follow 123 = .ok (.aload_n 0, 1) := by decide +kernel
theorem dX0_follow_124 : decode cX0_follow 124 = .ok (.iload_n 3, 1) := by decide +kernel
theorem dX0_follow_125 : decode cX0_follow 125 = .ok (.bipush 8, 2) := by decide +kernel
theorem dX0_follow_127 : decode cX0_follow 127 = .ok (.iadd, 1) := by decide +kernel
theorem dX0_follow_128 : decode cX0_follow 128 = .ok (.invokevirtual 191, 3) := by decide +kernel
theorem dX0_follow_131 : decode cX0_follow 131 = .ok (.invokevirtual 202, 3) := by decide +kernel
theorem dX0_follow_134 : decode cX0_follow 134 = .ok (.ifCond .eq 7, 3) := by decide +kernel
theorem dX0_follow_137 : decode cX0_follow 137 = .ok (.iconst 1, 1) := by decide +kernel
theorem dX0_follow_138 : decode cX0_follow 138 = .ok (.goto 4, 3) := by decide +kernel
theorem dX0_follow_141 : decode cX0_follow 141 = .ok (.iconst 0, 1) := by decide +kernel
theorem dX0_follow_142 : decode cX0_follow 142 = .ok (.ireturn, 1) := by decide +kernel
theorem dX0_follow_143 : decode cX0_follow 143 = .ok (.iconst 0, 1) := by decide +kernel
theorem dX0_follow_144 : decode cX0_follow 144 = .ok (.ireturn, 1) := by decide +kernel
theorem dX0_followBlob_0 : decode cX0_followBlob 0 = .ok (.aload_n 0, 1) := by decide +kernel
theorem dX0_followBlob_1 : decode cX0_followBlob 1 = .ok (.getfield 13, 3) := by decide +kernel
theorem dX0_followBlob_4 : decode cX0_followBlob 4 = .ok (.iload_n 1, 1) := by decide +kernel
theorem dX0_followBlob_5 : decode cX0_followBlob 5 = .ok (.iload_n 2, 1) := by decide +kernel
theorem dX0_followBlob_6 : decode cX0_followBlob 6 = .ok (.invokestatic 60, 3) := by decide +kernel
theorem dX0_followBlob_9 : decode cX0_followBlob 9 = .ok (.lstore_n 3, 1) := by decide +kernel
theorem dX0_followBlob_10 : decode cX0_followBlob 10 = .ok (.aload_n 0, 1) := by decide +kernel
theorem dX0_followBlob_11 : decode cX0_followBlob 11 = .ok (.lload_n 3, 1) := by decide +kernel
theorem dX0_followBlob_12 : decode cX0_followBlob 12 = .ok (.invokevirtual 64, 3) := by decide +kernel
theorem dX0_followBlob_15 : decode cX0_followBlob 15 = .ok (.iconst (-1), 1) := by decide +kernel
theorem dX0_followBlob_16 : decode cX0_followBlob 16 = .ok (.if_icmp .eq 5, 3) := by decide +kernel
theorem dX0_followBlob_19 : decode cX0_followBlob 19 = .ok (.iconst 1, 1) := by decide +kernel
theorem dX0_followBlob_20 : decode cX0_followBlob 20 = .ok (.ireturn, 1) := by decide +kernel
theorem dX0_followBlob_21 : decode cX0_followBlob 21 = .ok (.aload_n 0, 1) := by decide +kernel
theorem dX0_followBlob_22 : decode cX0_followBlob 22 = .ok (.getfield 68, 3) := by decide +kernel
theorem dX0_followBlob_25 : decode cX0_followBlob 25 = .ok (.bipush 20, 2) := by decide +kernel
theorem dX0_followBlob_27 : decode cX0_followBlob 27 = .ok (.if_icmp .lt 5, 3) := by decide +kernel
theorem dX0_followBlob_30 : decode cX0_followBlob 30 = .ok (.iconst 0, 1) := by decide +kernel
theorem dX0_followBlob_31 : decode cX0_followBlob 31 = .ok (.ireturn, 1) := by decide +kernel
theorem dX0_followBlob_32 : decode cX0_followBlob 32 = .ok (.aload_n 0, 1) := by decide +kernel
theorem dX0_followBlob_33 : decode cX0_followBlob 33 = .ok (.getfield 16, 3) := by decide +kernel
theorem dX0_followBlob_36 : decode cX0_followBlob 36 = .ok (.aload_n 0, 1) := by decide +kernel
theorem dX0_followBlob_37 : decode cX0_followBlob 37 = .ok (.getfield 68, 3) := by decide +kernel
theorem dX0_followBlob_40 : decode cX0_followBlob 40 = .ok (.lload_n 3, 1) := by decide +kernel
theorem dX0_followBlob_41 : decode cX0_followBlob 41 = .ok (.lastore, 1) := by decide +kernel
theorem dX0_followBlob_42 : decode cX0_followBlob 42 = .ok (.aload_n 0, 1) := by decide +kernel
theorem dX0_followBlob_43 : decode cX0_followBlob 43 = .ok (.getfield 20, 3) := by decide +kernel
theorem dX0_followBlob_46 : decode cX0_followBlob 46 = .ok (.aload_n 0, 1) := by decide +kernel
theorem dX0_followBlob_47 : decode cX0_followBlob 47 = .ok (.getfield 68, 3) := by decide +kernel
theorem dX0_followBlob_50 : decode cX0_followBlob 50 = .ok (.iload_n 1, 1) := by decide +kernel
theorem dX0_followBlob_51 : decode cX0_followBlob 51 = .ok (.iastore, 1) := by decide +kernel
theorem dX0_followBlob_52 : decode cX0_followBlob 52 = .ok (.aload_n 0, 1) := by decide +kernel
theorem dX0_followBlob_53 : decode cX0_followBlob 53 = .ok (.getfield 23, 3) := by decide +kernel
theorem dX0_followBlob_56 : decode cX0_followBlob 56 = .ok (.aload_n 0, 1) := by decide +kernel
theorem dX0_followBlob_57 : decode cX0_followBlob 57 = .ok (.getfield 68, 3) := by decide +kernel
theorem dX0_followBlob_60 : decode cX0_followBlob 60 = .ok (.iload_n 2, 1) := by decide +kernel
theorem dX0_followBlob_61 : decode cX0_followBlob 61 = .ok (.iastore, 1) := by decide +kernel
theorem dX0_followBlob_62 : decode cX0_followBlob 62 = .ok (.aload_n 0, 1) := by decide +kernel
theorem dX0_followBlob_63 : decode cX0_followBlob 63 = .ok (.dup, 1) := by decide +kernel
theorem dX0_followBlob_64 : decode cX0_followBlob 64 = .ok (.getfield 68, 3) := by decide +kernel
theorem dX0_followBlob_67 : decode cX0_followBlob 67 = .ok (.iconst 1, 1) := by decide +kernel
theorem dX0_followBlob_68 : decode cX0_followBlob 68 = .ok (.iadd, 1) := by decide +kernel
theorem dX0_followBlob_69 : decode cX0_followBlob 69 = .ok (.putfield 68, 3) := by decide +kernel
theorem dX0_followBlob_72 : decode cX0_followBlob 72 = .ok (.iconst 1, 1) := by decide +kernel
theorem dX0_followBlob_73 : decode cX0_followBlob 73 = .ok (.ireturn, 1) := by decide +kernel
theorem dX0_followTell_0 : decode cX0_followTell 0 = .ok (.aload_n 0, 1) := by decide +kernel
theorem dX0_followTell_1 : decode cX0_followTell 1 = .ok (.lload_n 2, 1) := by decide +kernel
theorem dX0_followTell_2 : decode cX0_followTell 2 = .ok (.invokevirtual 64, 3) := by decide +kernel
theorem dX0_followTell_5 : decode cX0_followTell 5 = .ok (.istore 4, 2) := by decide +kernel
theorem dX0_followTell_7 : decode cX0_followTell 7 = .ok (.iload_n 1, 1) := by decide +kernel
theorem dX0_followTell_8 : decode cX0_followTell 8 = .ok (.invokestatic 157, 3) := by decide +kernel
theorem dX0_followTell_11 : decode cX0_followTell 11 = .ok (.ifCond .eq 9, 3) := by decide +kernel
theorem dX0_followTell_14 : decode cX0_followTell 14 = .ok (.iload 4, 2) := by decide +kernel
theorem dX0_followTell_16 : decode cX0_followTell 16 = .ok (.iconst (-1), 1) := by decide +kernel
theorem dX0_followTell_17 : decode cX0_followTell 17 = .ok (.if_icmp .ne 5, 3) := by decide +kernel
theorem dX0_followTell_20 : decode cX0_followTell 20 = .ok (.iconst 0, 1) := by decide +kernel
theorem dX0_followTell_21 : decode cX0_followTell 21 = .ok (.ireturn, 1) := by decide +kernel
theorem dX0_followTell_22 : decode cX0_followTell 22 = .ok (.aload_n 0, 1) := by decide +kernel
theorem dX0_followTell_23 : decode cX0_followTell 23 = .ok (.getfield 26, 3) := by decide +kernel
theorem dX0_followTell_26 : decode cX0_followTell 26 = .ok (.iload_n 1, 1) := by decide +kernel
theorem dX0_followTell_27 : decode cX0_followTell 27 = .ok (.iload 4, 2) := by decide +kernel
theorem dX0_followTell_29 : decode cX0_followTell 29 = .ok (.iastore, 1) := by decide +kernel
theorem dX0_followTell_30 : decode cX0_followTell 30 = .ok (.iconst 1, 1) := by decide +kernel
theorem dX0_followTell_31 : decode cX0_followTell 31 = .ok (.ireturn, 1) := by decide +kernel
theorem dX0_followUntell_0 : decode cX0_followUntell 0 = .ok (.iload_n 1, 1) := by decide +kernel
theorem dX0_followUntell_1 : decode cX0_followUntell 1 = .ok (.invokestatic 157, 3) := by decide +kernel
theorem dX0_followUntell_4 : decode cX0_followUntell 4 = .ok (.ifCond .ne 5, 3) := by decide +kernel
theorem dX0_followUntell_7 : decode cX0_followUntell 7 = .ok (.iconst 0, 1) := by decide +kernel
theorem dX0_followUntell_8 : decode cX0_followUntell 8 = .ok (.ireturn, 1) := by decide +kernel
theorem dX0_followUntell_9 : decode cX0_followUntell 9 = .ok (.aload_n 0, 1) := by decide +kernel
theorem dX0_followUntell_10 : decode cX0_followUntell 10 = .ok (.getfield 26, 3) := by decide +kernel
theorem dX0_followUntell_13 : decode cX0_followUntell 13 = .ok (.iload_n 1, 1) := by decide +kernel
theorem dX0_followUntell_14 : decode cX0_followUntell 14 = .ok (.iconst (-1), 1) := by decide +kernel
theorem dX0_followUntell_15 : decode cX0_followUntell 15 = .ok (.iastore, 1) := by decide +kernel
theorem dX0_followUntell_16 : decode cX0_followUntell 16 = .ok (.iconst 1, 1) := by decide +kernel
theorem dX0_followUntell_17 : decode cX0_followUntell 17 = .ok (.ireturn, 1) := by decide +kernel
theorem dX0_followKey_0 : decode cX0_followKey 0 = .ok (.aload_n 0, 1) := by decide +kernel
theorem dX0_followKey_1 : decode cX0_followKey 1 = .ok (.lload_n 1, 1) := by decide +kernel
theorem dX0_followKey_2 : decode cX0_followKey 2 = .ok (.invokevirtual 103, 3) := by decide +kernel
theorem dX0_followKey_5 : decode cX0_followKey 5 = .ok (.istore 5, 2) := by decide +kernel
theorem dX0_followKey_7 : decode cX0_followKey 7 = .ok (.iload 5, 2) := by decide +kernel
theorem dX0_followKey_9 : decode cX0_followKey 9 = .ok (.iconst (-1), 1) := by decide +kernel
theorem dX0_followKey_10 : decode cX0_followKey 10 = .ok (.if_icmp .ne 38, 3) := by decide +kernel
theorem dX0_followKey_13 : decode cX0_followKey 13 = .ok (.aload_n 0, 1) := by decide +kernel
theorem dX0_followKey_14 : decode cX0_followKey 14 = .ok (.getfield 106, 3) := by decide +kernel
theorem dX0_followKey_17 : decode cX0_followKey 17 = .ok (.bipush 16, 2) := by decide +kernel
theorem dX0_followKey_19 : decode cX0_followKey 19 = .ok (.if_icmp .lt 5, 3) := by decide +kernel
theorem dX0_followKey_22 : decode cX0_followKey 22 = .ok (.iconst 0, 1) := by decide +kernel
theorem dX0_followKey_23 : decode cX0_followKey 23 = .ok (.ireturn, 1) := by decide +kernel
theorem dX0_followKey_24 : decode cX0_followKey 24 = .ok (.aload_n 0, 1) := by decide +kernel
theorem dX0_followKey_25 : decode cX0_followKey 25 = .ok (.getfield 106, 3) := by decide +kernel
theorem dX0_followKey_28 : decode cX0_followKey 28 = .ok (.istore 5, 2) := by decide +kernel
theorem dX0_followKey_30 : decode cX0_followKey 30 = .ok (.aload_n 0, 1) := by decide +kernel
theorem dX0_followKey_31 : decode cX0_followKey 31 = .ok (.getfield 35, 3) := by decide +kernel
theorem dX0_followKey_34 : decode cX0_followKey 34 = .ok (.iload 5, 2) := by decide +kernel
theorem dX0_followKey_36 : decode cX0_followKey 36 = .ok (.lload_n 1, 1) := by decide +kernel
theorem dX0_followKey_37 : decode cX0_followKey 37 = .ok (.lastore, 1) := by decide +kernel
theorem dX0_followKey_38 : decode cX0_followKey 38 = .ok (.aload_n 0, 1) := by decide +kernel
theorem dX0_followKey_39 : decode cX0_followKey 39 = .ok (.dup, 1) := by decide +kernel
theorem dX0_followKey_40 : decode cX0_followKey 40 = .ok (.getfield 106, 3) := by decide +kernel
theorem dX0_followKey_43 : decode cX0_followKey 43 = .ok (.iconst 1, 1) := by decide +kernel
theorem dX0_followKey_44 : decode cX0_followKey 44 = .ok (.iadd, 1) := by decide +kernel
theorem dX0_followKey_45 : decode cX0_followKey 45 = .ok (.putfield 106, 3) := by decide +kernel
theorem dX0_followKey_48 : decode cX0_followKey 48 = .ok (.aload_n 0, 1) := by decide +kernel
theorem dX0_followKey_49 : decode cX0_followKey 49 = .ok (.getfield 38, 3) := by decide +kernel
theorem dX0_followKey_52 : decode cX0_followKey 52 = .ok (.iload 5, 2) := by decide +kernel
theorem dX0_followKey_54 : decode cX0_followKey 54 = .ok (.lload_n 3, 1) := by decide +kernel
theorem dX0_followKey_55 : decode cX0_followKey 55 = .ok (.lastore, 1) := by decide +kernel
theorem dX0_followKey_56 : decode cX0_followKey 56 = .ok (.iconst 1, 1) := by decide +kernel
theorem dX0_followKey_57 : decode cX0_followKey 57 = .ok (.ireturn, 1) := by decide +kernel
theorem dX0_rewriteBlobs_0 : decode cX0_rewriteBlobs 0 = .ok (.iconst 0, 1) := by decide +kernel
theorem dX0_rewriteBlobs_1 : decode cX0_rewriteBlobs 1 = .ok (.istore_n 1, 1) := by decide +kernel
theorem dX0_rewriteBlobs_2 : decode cX0_rewriteBlobs 2 = .ok (.iload_n 1, 1) := by decide +kernel
theorem dX0_rewriteBlobs_3 : decode cX0_rewriteBlobs 3 = .ok (.aload_n 0, 1) := by decide +kernel
theorem dX0_rewriteBlobs_4 : decode cX0_rewriteBlobs 4 = .ok (.getfield 68, 3) := by decide +kernel
theorem dX0_rewriteBlobs_7 : decode cX0_rewriteBlobs 7 = .ok (.if_icmp .ge 60, 3) := by decide +kernel
theorem dX0_rewriteBlobs_10 : decode cX0_rewriteBlobs 10 = .ok (.aload_n 0, 1) := by decide +kernel
theorem dX0_rewriteBlobs_11 : decode cX0_rewriteBlobs 11 = .ok (.iload_n 1, 1) := by decide +kernel
theorem dX0_rewriteBlobs_12 : decode cX0_rewriteBlobs 12 = .ok (.invokevirtual 206, 3) := by decide +kernel
theorem dX0_rewriteBlobs_15 : decode cX0_rewriteBlobs 15 = .ok (.ifCond .eq 46, 3) := by decide +kernel
theorem dX0_rewriteBlobs_18 : decode cX0_rewriteBlobs 18 = .ok (.iconst 4, 1) := by decide +kernel
theorem dX0_rewriteBlobs_19 : decode cX0_rewriteBlobs 19 = .ok (.aload_n 0, 1) := by decide +kernel
theorem dX0_rewriteBlobs_20 : decode cX0_rewriteBlobs 20 = .ok (.getfield 23, 3) := by decide +kernel
theorem dX0_rewriteBlobs_23 : decode cX0_rewriteBlobs 23 = .ok (.iload_n 1, 1) := by decide +kernel
theorem dX0_rewriteBlobs_24 : decode cX0_rewriteBlobs 24 = .ok (.iaload, 1) := by decide +kernel
theorem dX0_rewriteBlobs_25 : decode cX0_rewriteBlobs 25 = .ok (.iadd, 1) := by decide +kernel
theorem dX0_rewriteBlobs_26 : decode cX0_rewriteBlobs 26 = .ok (.istore_n 2, 1) := by decide +kernel
theorem dX0_rewriteBlobs_27 : decode cX0_rewriteBlobs 27 = .ok (.aload_n 0, 1) := by decide +kernel
theorem dX0_rewriteBlobs_28 : decode cX0_rewriteBlobs 28 = .ok (.getfield 13, 3) := by decide +kernel
theorem dX0_rewriteBlobs_31 : decode cX0_rewriteBlobs 31 = .ok (.aload_n 0, 1) := by decide +kernel
theorem dX0_rewriteBlobs_32 : decode cX0_rewriteBlobs 32 = .ok (.getfield 20, 3) := by decide +kernel
theorem dX0_rewriteBlobs_35 : decode cX0_rewriteBlobs 35 = .ok (.iload_n 1, 1) := by decide +kernel
theorem dX0_rewriteBlobs_36 : decode cX0_rewriteBlobs 36 = .ok (.iaload, 1) := by decide +kernel
theorem dX0_rewriteBlobs_37 : decode cX0_rewriteBlobs 37 = .ok (.iconst 3, 1) := by decide +kernel
theorem dX0_rewriteBlobs_38 : decode cX0_rewriteBlobs 38 = .ok (.isub, 1) := by decide +kernel
theorem dX0_rewriteBlobs_39 : decode cX0_rewriteBlobs 39 = .ok (.aload_n 0, 1) := by decide +kernel
theorem dX0_rewriteBlobs_40 : decode cX0_rewriteBlobs 40 = .ok (.getfield 13, 3) := by decide +kernel
theorem dX0_rewriteBlobs_43 : decode cX0_rewriteBlobs 43 = .ok (.aload_n 0, 1) := by decide +kernel
theorem dX0_rewriteBlobs_44 : decode cX0_rewriteBlobs 44 = .ok (.getfield 124, 3) := by decide +kernel
theorem dX0_rewriteBlobs_47 : decode cX0_rewriteBlobs 47 = .ok (.iload_n 2, 1) := by decide +kernel
theorem dX0_rewriteBlobs_48 : decode cX0_rewriteBlobs 48 = .ok (.invokestatic 209, 3) := by decide +kernel
theorem dX0_rewriteBlobs_51 : decode cX0_rewriteBlobs 51 = .ok (.aload_n 0, 1) := by decide +kernel
theorem dX0_rewriteBlobs_52 : decode cX0_rewriteBlobs 52 = .ok (.dup, 1) := by decide +kernel
theorem dX0_rewriteBlobs_53 : decode cX0_rewriteBlobs 53 = .ok (.getfield 124, 3) := by decide +kernel
theorem dX0_rewriteBlobs_56 : decode cX0_rewriteBlobs 56 = .ok (.iload_n 2, 1) := by decide +kernel
theorem dX0_rewriteBlobs_57 : decode cX0_rewriteBlobs 57 = .ok (.iadd, 1) := by decide +kernel
theorem dX0_rewriteBlobs_58 : decode cX0_rewriteBlobs 58 = .ok (.putfield 124, 3) := by decide +kernel
theorem dX0_rewriteBlobs_61 : decode cX0_rewriteBlobs 61 = .ok (.iinc 1 1, 3) := by decide +kernel
theorem dX0_rewriteBlobs_64 : decode cX0_rewriteBlobs 64 = .ok (.goto (-62), 3) := by decide +kernel
theorem dX0_rewriteBlobs_67 : decode cX0_rewriteBlobs 67 = .ok (.return_, 1) := by decide +kernel
theorem dX0_rewriteTags_0 : decode cX0_rewriteTags 0 = .ok (.iconst 0, 1) := by decide +kernel
theorem dX0_rewriteTags_1 : decode cX0_rewriteTags 1 = .ok (.istore_n 1, 1) := by decide +kernel
theorem dX0_rewriteTags_2 : decode cX0_rewriteTags 2 = .ok (.iload_n 1, 1) := by decide +kernel
theorem dX0_rewriteTags_3 : decode cX0_rewriteTags 3 = .ok (.bipush 8, 2) := by decide +kernel
theorem dX0_rewriteTags_5 : decode cX0_rewriteTags 5 = .ok (.if_icmp .ge 33, 3) := by decide +kernel
theorem dX0_rewriteTags_8 : decode cX0_rewriteTags 8 = .ok (.aload_n 0, 1) := by decide +kernel
theorem dX0_rewriteTags_9 : decode cX0_rewriteTags 9 = .ok (.getfield 26, 3) := by decide +kernel
theorem dX0_rewriteTags_12 : decode cX0_rewriteTags 12 = .ok (.iload_n 1, 1) := by decide +kernel
theorem dX0_rewriteTags_13 : decode cX0_rewriteTags 13 = .ok (.iaload, 1) := by decide +kernel
theorem dX0_rewriteTags_14 : decode cX0_rewriteTags 14 = .ok (.istore_n 2, 1) := by decide +kernel
theorem dX0_rewriteTags_15 : decode cX0_rewriteTags 15 = .ok (.iload_n 2, 1) := by decide +kernel
theorem dX0_rewriteTags_16 : decode cX0_rewriteTags 16 = .ok (.iconst (-1), 1) := by decide +kernel
theorem dX0_rewriteTags_17 : decode cX0_rewriteTags 17 = .ok (.if_icmp .eq 15, 3) := by decide +kernel
theorem dX0_rewriteTags_20 : decode cX0_rewriteTags 20 = .ok (.aload_n 0, 1) := by decide +kernel
theorem dX0_rewriteTags_21 : decode cX0_rewriteTags 21 = .ok (.iload_n 1, 1) := by decide +kernel
theorem dX0_rewriteTags_22 : decode cX0_rewriteTags 22 = .ok (.aload_n 0, 1) := by decide +kernel
theorem dX0_rewriteTags_23 : decode cX0_rewriteTags 23 = .ok (.getfield 16, 3) := by decide +kernel
theorem dX0_rewriteTags_26 : decode cX0_rewriteTags 26 = .ok (.iload_n 2, 1) := by decide +kernel
theorem dX0_rewriteTags_27 : decode cX0_rewriteTags 27 = .ok (.laload, 1) := by decide +kernel
theorem dX0_rewriteTags_28 : decode cX0_rewriteTags 28 = .ok (.invokevirtual 93, 3) := by decide +kernel
theorem dX0_rewriteTags_31 : decode cX0_rewriteTags 31 = .ok (.pop, 1) := by decide +kernel
theorem dX0_rewriteTags_32 : decode cX0_rewriteTags 32 = .ok (.iinc 1 1, 3) := by decide +kernel
theorem dX0_rewriteTags_35 : decode cX0_rewriteTags 35 = .ok (.goto (-33), 3) := by decide +kernel
theorem dX0_rewriteTags_38 : decode cX0_rewriteTags 38 = .ok (.return_, 1) := by decide +kernel
theorem dX0_rewriteKeys_0 : decode cX0_rewriteKeys 0 = .ok (.iconst 0, 1) := by decide +kernel
theorem dX0_rewriteKeys_1 : decode cX0_rewriteKeys 1 = .ok (.istore_n 1, 1) := by decide +kernel
theorem dX0_rewriteKeys_2 : decode cX0_rewriteKeys 2 = .ok (.iload_n 1, 1) := by decide +kernel
theorem dX0_rewriteKeys_3 : decode cX0_rewriteKeys 3 = .ok (.aload_n 0, 1) := by decide +kernel
theorem dX0_rewriteKeys_4 : decode cX0_rewriteKeys 4 = .ok (.getfield 106, 3) := by decide +kernel
theorem dX0_rewriteKeys_7 : decode cX0_rewriteKeys 7 = .ok (.if_icmp .ge 50, 3) := by decide +kernel
theorem dX0_rewriteKeys_10 : decode cX0_rewriteKeys 10 = .ok (.aload_n 0, 1) := by decide +kernel
theorem dX0_rewriteKeys_11 : decode cX0_rewriteKeys 11 = .ok (.aload_n 0, 1) := by decide +kernel
theorem dX0_rewriteKeys_12 : decode cX0_rewriteKeys 12 = .ok (.getfield 38, 3) := by decide +kernel
theorem dX0_rewriteKeys_15 : decode cX0_rewriteKeys 15 = .ok (.iload_n 1, 1) := by decide +kernel
theorem dX0_rewriteKeys_16 : decode cX0_rewriteKeys 16 = .ok (.laload, 1) := by decide +kernel
theorem dX0_rewriteKeys_17 : decode cX0_rewriteKeys 17 = .ok (.invokevirtual 64, 3) := by decide +kernel
theorem dX0_rewriteKeys_20 : decode cX0_rewriteKeys 20 = .ok (.istore_n 2, 1) := by decide +kernel
theorem dX0_rewriteKeys_21 : decode cX0_rewriteKeys 21 = .ok (.iload_n 2, 1) := by decide +kernel
theorem dX0_rewriteKeys_22 : decode cX0_rewriteKeys 22 = .ok (.iconst (-1), 1) := by decide +kernel
theorem dX0_rewriteKeys_23 : decode cX0_rewriteKeys 23 = .ok (.if_icmp .eq 28, 3) := by decide +kernel
theorem dX0_rewriteKeys_26 : decode cX0_rewriteKeys 26 = .ok (.aload_n 0, 1) := by decide +kernel
theorem dX0_rewriteKeys_27 : decode cX0_rewriteKeys 27 = .ok (.iload_n 2, 1) := by decide +kernel
theorem dX0_rewriteKeys_28 : decode cX0_rewriteKeys 28 = .ok (.invokevirtual 206, 3) := by decide +kernel
theorem dX0_rewriteKeys_31 : decode cX0_rewriteKeys 31 = .ok (.ifCond .eq 20, 3) := by decide +kernel
theorem dX0_rewriteKeys_34 : decode cX0_rewriteKeys 34 = .ok (.aload_n 0, 1) := by decide +kernel
theorem dX0_rewriteKeys_35 : decode cX0_rewriteKeys 35 = .ok (.aload_n 0, 1) := by decide +kernel
theorem dX0_rewriteKeys_36 : decode cX0_rewriteKeys 36 = .ok (.getfield 35, 3) := by decide +kernel
theorem dX0_rewriteKeys_39 : decode cX0_rewriteKeys 39 = .ok (.iload_n 1, 1) := by decide +kernel
theorem dX0_rewriteKeys_40 : decode cX0_rewriteKeys 40 = .ok (.laload, 1) := by decide +kernel
theorem dX0_rewriteKeys_41 : decode cX0_rewriteKeys 41 = .ok (.aload_n 0, 1) := by decide +kernel
theorem dX0_rewriteKeys_42 : decode cX0_rewriteKeys 42 = .ok (.getfield 38, 3) := by decide +kernel
theorem dX0_rewriteKeys_45 : decode cX0_rewriteKeys 45 = .ok (.iload_n 1, 1) := by decide +kernel
theorem dX0_rewriteKeys_46 : decode cX0_rewriteKeys 46 = .ok (.laload, 1) := by decide +kernel
theorem dX0_rewriteKeys_47 : decode cX0_rewriteKeys 47 = .ok (.invokevirtual 111, 3) := by decide +kernel
theorem dX0_rewriteKeys_50 : decode cX0_rewriteKeys 50 = .ok (.pop, 1) := by decide +kernel
theorem dX0_rewriteKeys_51 : decode cX0_rewriteKeys 51 = .ok (.iinc 1 1, 3) := by decide +kernel
theorem dX0_rewriteKeys_54 : decode cX0_rewriteKeys 54 = .ok (.goto (-52), 3) := by decide +kernel
theorem dX0_rewriteKeys_57 : decode cX0_rewriteKeys 57 = .ok (.return_, 1) := by decide +kernel
theorem dX0_isTold_0 : decode cX0_isTold 0 = .ok (.iconst 0, 1) := by decide +kernel
theorem dX0_isTold_1 : decode cX0_isTold 1 = .ok (.istore_n 2, 1) := by decide +kernel
theorem dX0_isTold_2 : decode cX0_isTold 2 = .ok (.iload_n 2, 1) := by decide +kernel
theorem dX0_isTold_3 : decode cX0_isTold 3 = .ok (.bipush 8, 2) := by decide +kernel
theorem dX0_isTold_5 : decode cX0_isTold 5 = .ok (.if_icmp .ge 21, 3) := by decide +kernel
theorem dX0_isTold_8 : decode cX0_isTold 8 = .ok (.aload_n 0, 1) := by decide +kernel
theorem dX0_isTold_9 : decode cX0_isTold 9 = .ok (.getfield 26, 3) := by decide +kernel
theorem dX0_isTold_12 : decode cX0_isTold 12 = .ok (.iload_n 2, 1) := by decide +kernel
theorem dX0_isTold_13 : decode cX0_isTold 13 = .ok (.iaload, 1) := by decide +kernel
theorem dX0_isTold_14 : decode cX0_isTold 14 = .ok (.iload_n 1, 1) := by decide +kernel
theorem dX0_isTold_15 : decode cX0_isTold 15 = .ok (.if_icmp .ne 5, 3) := by decide +kernel
theorem dX0_isTold_18 : decode cX0_isTold 18 = .ok (.iconst 1, 1) := by decide +kernel
theorem dX0_isTold_19 : decode cX0_isTold 19 = .ok (.ireturn, 1) := by decide +kernel
theorem dX0_isTold_20 : decode cX0_isTold 20 = .ok (.iinc 2 1, 3) := by decide +kernel
theorem dX0_isTold_23 : decode cX0_isTold 23 = .ok (.goto (-21), 3) := by decide +kernel
theorem dX0_isTold_26 : decode cX0_isTold 26 = .ok (.iconst 0, 1) := by decide +kernel
theorem dX0_isTold_27 : decode cX0_isTold 27 = .ok (.istore_n 2, 1) := by decide +kernel
theorem dX0_isTold_28 : decode cX0_isTold 28 = .ok (.iload_n 2, 1) := by decide +kernel
theorem dX0_isTold_29 : decode cX0_isTold 29 = .ok (.iconst 4, 1) := by decide +kernel
theorem dX0_isTold_30 : decode cX0_isTold 30 = .ok (.if_icmp .ge 38, 3) := by decide +kernel
theorem dX0_isTold_33 : decode cX0_isTold 33 = .ok (.aload_n 0, 1) := by decide +kernel
theorem dX0_isTold_34 : decode cX0_isTold 34 = .ok (.getfield 41, 3) := by decide +kernel
theorem dX0_isTold_37 : decode cX0_isTold 37 = .ok (.iload_n 2, 1) := by decide +kernel
theorem dX0_isTold_38 : decode cX0_isTold 38 = .ok (.laload, 1) := by decide +kernel
theorem dX0_isTold_39 : decode cX0_isTold 39 = .ok (.lconst 0, 1) := by decide +kernel
theorem dX0_isTold_40 : decode cX0_isTold 40 = .ok (.lcmp, 1) := by decide +kernel
theorem dX0_isTold_41 : decode cX0_isTold 41 = .ok (.ifCond .eq 21, 3) := by decide +kernel
theorem dX0_isTold_44 : decode cX0_isTold 44 = .ok (.aload_n 0, 1) := by decide +kernel
theorem dX0_isTold_45 : decode cX0_isTold 45 = .ok (.getfield 41, 3) := by decide +kernel
theorem dX0_isTold_48 : decode cX0_isTold 48 = .ok (.iload_n 2, 1) := by decide +kernel
theorem dX0_isTold_49 : decode cX0_isTold 49 = .ok (.laload, 1) := by decide +kernel
theorem dX0_isTold_50 : decode cX0_isTold 50 = .ok (.aload_n 0, 1) := by decide +kernel
theorem dX0_isTold_51 : decode cX0_isTold 51 = .ok (.getfield 16, 3) := by decide +kernel
theorem dX0_isTold_54 : decode cX0_isTold 54 = .ok (.iload_n 1, 1) := by decide +kernel
theorem dX0_isTold_55 : decode cX0_isTold 55 = .ok (.laload, 1) := by decide +kernel
theorem dX0_isTold_56 : decode cX0_isTold 56 = .ok (.lcmp, 1) := by decide +kernel
theorem dX0_isTold_57 : decode cX0_isTold 57 = .ok (.ifCond .ne 5, 3) := by decide +kernel
theorem dX0_isTold_60 : decode cX0_isTold 60 = .ok (.iconst 1, 1) := by decide +kernel
theorem dX0_isTold_61 : decode cX0_isTold 61 = .ok (.ireturn, 1) := by decide +kernel
theorem dX0_isTold_62 : decode cX0_isTold 62 = .ok (.iinc 2 1, 3) := by decide +kernel
theorem dX0_isTold_65 : decode cX0_isTold 65 = .ok (.goto (-37), 3) := by decide +kernel
theorem dX0_isTold_68 : decode cX0_isTold 68 = .ok (.iconst 0, 1) := by decide +kernel
theorem dX0_isTold_69 : decode cX0_isTold 69 = .ok (.ireturn, 1) := by decide +kernel
end
section
/-! rows of our own: an int that is known as a natural number stays one; a call that only reads leaves the world -/
section XR
variable {p : Program} {l : Launch} {e : Env} {R : Room} {s : State} {m : MethodId} {args : Array Value} {below : List Frame} {meth : Method} {c : Code} {H : Heap} {locs : List Loc} {cells slots : Nat} {Q : State → Prop}
variable {cc : ByteArray} {pc : Nat} {ls : Array Slot} {rest : List Value}

theorem xr_iadd (hx : p.tables.exec = Jvm.exec) (hb : c.code = cc) {a b : Nat} (hdg : decode cc pc = .ok (.iadd, 1)) (k : W p l e R s m args below meth c H locs cells slots Q (F0 m (pc + 1) ls (.int (nI (a + b)) :: rest))) : W p l e R s m args below meth c H locs cells slots Q (F0 m pc ls (.int (nI b) :: .int (nI a) :: rest)) :=
  lv_iadd hx hb hdg (by rw [nI_add]; exact k)
theorem xr_imul (hx : p.tables.exec = Jvm.exec) (hb : c.code = cc) {a b : Nat} (hdg : decode cc pc = .ok (.imul, 1)) (k : W p l e R s m args below meth c H locs cells slots Q (F0 m (pc + 1) ls (.int (nI (a * b)) :: rest))) : W p l e R s m args below meth c H locs cells slots Q (F0 m pc ls (.int (nI b) :: .int (nI a) :: rest)) :=
  lv_imul hx hb hdg (by rw [pk_mul]; exact k)
theorem xr_isub (hx : p.tables.exec = Jvm.exec) (hb : c.code = cc) {a b : Nat} (h : b ≤ a) (hdg : decode cc pc = .ok (.isub, 1)) (k : W p l e R s m args below meth c H locs cells slots Q (F0 m (pc + 1) ls (.int (nI (a - b)) :: rest))) : W p l e R s m args below meth c H locs cells slots Q (F0 m pc ls (.int (nI b) :: .int (nI a) :: rest)) :=
  lv_isub hx hb hdg (by rw [pk_sub h]; exact k)
theorem xr_icmp_eq (hx : p.tables.exec = Jvm.exec) (hb : c.code = cc) {a b : Nat} {off : Int} {tgt : Nat} (hdg : decode cc pc = .ok (.if_icmp .eq off, 3)) (ht : (pc : Int) + off = (tgt : Int)) (ha : a < 2 ^ 31) (hb2 : b < 2 ^ 31) (kt : a = b → W p l e R s m args below meth c H locs cells slots Q (F0 m tgt ls rest)) (kf : a ≠ b → W p l e R s m args below meth c H locs cells slots Q (F0 m (pc + 3) ls rest)) : W p l e R s m args below meth c H locs cells slots Q (F0 m pc ls (.int (nI b) :: .int (nI a) :: rest)) :=
  lv_icmp_eq hx hb hdg ht (fun h => kt ((nI_eq ha hb2).mp h)) (fun h => kf (fun q => h ((nI_eq ha hb2).mpr q)))
theorem xr_icmp_ne (hx : p.tables.exec = Jvm.exec) (hb : c.code = cc) {a b : Nat} {off : Int} {tgt : Nat} (hdg : decode cc pc = .ok (.if_icmp .ne off, 3)) (ht : (pc : Int) + off = (tgt : Int)) (ha : a < 2 ^ 31) (hb2 : b < 2 ^ 31) (kt : a ≠ b → W p l e R s m args below meth c H locs cells slots Q (F0 m tgt ls rest)) (kf : a = b → W p l e R s m args below meth c H locs cells slots Q (F0 m (pc + 3) ls rest)) : W p l e R s m args below meth c H locs cells slots Q (F0 m pc ls (.int (nI b) :: .int (nI a) :: rest)) :=
  lv_icmp_ne hx hb hdg ht (fun h => kt (fun q => h ((nI_eq ha hb2).mpr q))) (fun h => kf ((nI_eq ha hb2).mp h))
theorem xr_icmp_lt (hx : p.tables.exec = Jvm.exec) (hb : c.code = cc) {a b : Nat} {off : Int} {tgt : Nat} (hdg : decode cc pc = .ok (.if_icmp .lt off, 3)) (ht : (pc : Int) + off = (tgt : Int)) (ha : a < 2 ^ 31) (hb2 : b < 2 ^ 31) (kt : a < b → W p l e R s m args below meth c H locs cells slots Q (F0 m tgt ls rest)) (kf : b ≤ a → W p l e R s m args below meth c H locs cells slots Q (F0 m (pc + 3) ls rest)) : W p l e R s m args below meth c H locs cells slots Q (F0 m pc ls (.int (nI b) :: .int (nI a) :: rest)) :=
  lv_icmp_lt hx hb hdg ht (fun h => kt ((nI_ltI ha hb2).mp h)) (fun h => kf (Nat.not_lt.mp fun q => h ((nI_ltI ha hb2).mpr q)))
theorem xr_icmp_ge (hx : p.tables.exec = Jvm.exec) (hb : c.code = cc) {a b : Nat} {off : Int} {tgt : Nat} (hdg : decode cc pc = .ok (.if_icmp .ge off, 3)) (ht : (pc : Int) + off = (tgt : Int)) (ha : a < 2 ^ 31) (hb2 : b < 2 ^ 31) (kt : b ≤ a → W p l e R s m args below meth c H locs cells slots Q (F0 m tgt ls rest)) (kf : a < b → W p l e R s m args below meth c H locs cells slots Q (F0 m (pc + 3) ls rest)) : W p l e R s m args below meth c H locs cells slots Q (F0 m pc ls (.int (nI b) :: .int (nI a) :: rest)) :=
  lv_icmp_ge hx hb hdg ht (fun h => kt ((nI_leI hb2 ha).mp h)) (fun h => kf (Nat.not_le.mp fun q => h ((nI_leI hb2 ha).mpr q)))
theorem xr_icmp_gt (hx : p.tables.exec = Jvm.exec) (hb : c.code = cc) {a b : Nat} {off : Int} {tgt : Nat} (hdg : decode cc pc = .ok (.if_icmp .gt off, 3)) (ht : (pc : Int) + off = (tgt : Int)) (ha : a < 2 ^ 31) (hb2 : b < 2 ^ 31) (kt : b < a → W p l e R s m args below meth c H locs cells slots Q (F0 m tgt ls rest)) (kf : a ≤ b → W p l e R s m args below meth c H locs cells slots Q (F0 m (pc + 3) ls rest)) : W p l e R s m args below meth c H locs cells slots Q (F0 m pc ls (.int (nI b) :: .int (nI a) :: rest)) :=
  lv_icmp_gt hx hb hdg ht (fun h => kt ((nI_ltI hb2 ha).mp h)) (fun h => kf (Nat.not_lt.mp fun q => h ((nI_ltI hb2 ha).mpr q)))
theorem xr_icmp_le (hx : p.tables.exec = Jvm.exec) (hb : c.code = cc) {a b : Nat} {off : Int} {tgt : Nat} (hdg : decode cc pc = .ok (.if_icmp .le off, 3)) (ht : (pc : Int) + off = (tgt : Int)) (ha : a < 2 ^ 31) (hb2 : b < 2 ^ 31) (kt : a ≤ b → W p l e R s m args below meth c H locs cells slots Q (F0 m tgt ls rest)) (kf : b < a → W p l e R s m args below meth c H locs cells slots Q (F0 m (pc + 3) ls rest)) : W p l e R s m args below meth c H locs cells slots Q (F0 m pc ls (.int (nI b) :: .int (nI a) :: rest)) :=
  lv_icmp_le hx hb hdg ht (fun h => kt ((nI_leI ha hb2).mp h)) (fun h => kf (Nat.not_le.mp fun q => h ((nI_leI ha hb2).mpr q)))
theorem xr_lcmp_eq (hx : p.tables.exec = Jvm.exec) (hb : c.code = cc) {x y : Int64} {off : Int} {tgt : Nat} (hdg0 : decode cc pc = .ok (.lcmp, 1)) (hdg : decode cc (pc + 1) = .ok (.ifCond .eq off, 3)) (ht : ((pc + 1 : Nat) : Int) + off = (tgt : Int)) (kt : x = y → W p l e R s m args below meth c H locs cells slots Q (F0 m tgt ls rest)) (kf : x ≠ y → W p l e R s m args below meth c H locs cells slots Q (F0 m (pc + 1 + 3) ls rest)) : W p l e R s m args below meth c H locs cells slots Q (F0 m pc ls (.long y :: .long x :: rest)) :=
  W.lcmp hx hb hdg0 (lv_if_eq hx hb hdg ht (fun h => kt ((lg_cmp_eq x y).mp h)) (fun h => kf (fun q => h ((lg_cmp_eq x y).mpr q))))
theorem xr_lcmp_ne (hx : p.tables.exec = Jvm.exec) (hb : c.code = cc) {x y : Int64} {off : Int} {tgt : Nat} (hdg0 : decode cc pc = .ok (.lcmp, 1)) (hdg : decode cc (pc + 1) = .ok (.ifCond .ne off, 3)) (ht : ((pc + 1 : Nat) : Int) + off = (tgt : Int)) (kt : x ≠ y → W p l e R s m args below meth c H locs cells slots Q (F0 m tgt ls rest)) (kf : x = y → W p l e R s m args below meth c H locs cells slots Q (F0 m (pc + 1 + 3) ls rest)) : W p l e R s m args below meth c H locs cells slots Q (F0 m pc ls (.long y :: .long x :: rest)) :=
  W.lcmp hx hb hdg0 (lv_if_ne hx hb hdg ht (fun h => kt (fun q => h ((lg_cmp_eq x y).mpr q))) (fun h => kf ((lg_cmp_eq x y).mp h)))
def optI : Option Nat → Int32
  | none => -1
  | some i => nI i
theorem optI_none {n : Nat} (h : n < 2 ^ 31) : nI n ≠ -1 := by
  intro q
  have h1 := congrArg Int32.toInt q
  rw [nI_toInt h] at h1
  have h2 : ((-1 : Int32)).toInt = -1 := by decide
  omega
theorem optI_inj {a b : Option Nat} (ha : ∀ i, a = some i → i < 2 ^ 31) (hb : ∀ i, b = some i → i < 2 ^ 31) : optI a = optI b ↔ a = b := by
  cases a with
  | none => cases b with
    | none => simp
    | some j => exact ⟨fun q => absurd q.symm (optI_none (hb j rfl)), fun q => by cases q⟩
  | some i => cases b with
    | none => exact ⟨fun q => absurd q (optI_none (ha i rfl)), fun q => by cases q⟩
    | some j => exact ⟨fun q => by rw [(nI_eq (ha i rfl) (hb j rfl)).mp q], fun q => by cases q; rfl⟩
theorem xr_vin {i n : Nat} (h : i < n) (hn : n < 2 ^ 31) : vp_in (nI i) n := vp_in_nI h hn

theorem xr_iald (hx : p.tables.exec = Jvm.exec) (hb : c.code = cc) {D : va_G} {cl : List vw_C} {tys : List (ClassId × FieldType)} {ws : va_W} (hK : va_K D cl tys s) (hP : va_P D cl ws H) (q0 t0 : Nat) {a : Nat} {cA : ClassId} {n : Nat} {f : Nat → Int32} (ha : ws[q0]? = some (a, .inl (cA, n, .inl f))) (ht : tys[t0]? = some (cA, .int)) {i : Nat} (hin : i < n) (hn : n < 2 ^ 31) (hdg : decode cc pc = .ok (.iaload, 1)) (kk : W p l e R s m args below meth c H locs cells slots Q (F0 m (pc + 1) ls (.int (f i) :: rest))) : W p l e R s m args below meth c H locs cells slots Q (F0 m pc ls (.int (nI i) :: .ref a :: rest)) :=
  va_iald hx hb hK hP q0 t0 ha ht (vp_in_nI hin hn) hdg (by rw [nI_clamp (Nat.lt_trans hin hn)]; exact kk)
theorem xr_lald (hx : p.tables.exec = Jvm.exec) (hb : c.code = cc) {D : va_G} {cl : List vw_C} {tys : List (ClassId × FieldType)} {ws : va_W} (hK : va_K D cl tys s) (hP : va_P D cl ws H) (q0 t0 : Nat) {a : Nat} {cA : ClassId} {n : Nat} {f : Nat → Int64} (ha : ws[q0]? = some (a, .inl (cA, n, .inr (.inl f)))) (ht : tys[t0]? = some (cA, .long)) {i : Nat} (hin : i < n) (hn : n < 2 ^ 31) (hdg : decode cc pc = .ok (.laload, 1)) (kk : W p l e R s m args below meth c H locs cells slots Q (F0 m (pc + 1) ls (.long (f i) :: rest))) : W p l e R s m args below meth c H locs cells slots Q (F0 m pc ls (.int (nI i) :: .ref a :: rest)) :=
  va_lald hx hb hK hP q0 t0 ha ht (vp_in_nI hin hn) hdg (by rw [nI_clamp (Nat.lt_trans hin hn)]; exact kk)
theorem xr_iast (hx : p.tables.exec = Jvm.exec) (hb : c.code = cc) {D : va_G} {cl : List vw_C} {tys : List (ClassId × FieldType)} {ws : va_W} {A : Nat → Prop} {H0 : Heap} (hK : va_K D cl tys s) (hP : va_P D cl ws H) (hD : va_D A ws) (hS : va_S A H0 H locs) (q0 t0 : Nat) {a : Nat} {cA : ClassId} {n : Nat} {f : Nat → Int32} (ha : ws[q0]? = some (a, .inl (cA, n, .inl f))) (ht : tys[t0]? = some (cA, .int)) {i : Nat} {x : Int32} (hin : i < n) (hn : n < 2 ^ 31) (hdg : decode cc pc = .ok (.iastore, 1)) (kk : ∀ (H1 : Heap) (locs1 : List Loc), va_P D cl (ws.set q0 (a, .inl (cA, n, .inl (upd f i x)))) H1 → va_D A (ws.set q0 (a, .inl (cA, n, .inl (upd f i x)))) → va_S A H0 H1 locs1 → W p l e R s m args below meth c H1 locs1 cells slots Q (F0 m (pc + 1) ls rest)) : W p l e R s m args below meth c H locs cells slots Q (F0 m pc ls (.int x :: .int (nI i) :: .ref a :: rest)) :=
  va_iast hx hb hK hP hD hS q0 t0 ha ht (vp_in_nI hin hn) hdg (by rw [nI_clamp (Nat.lt_trans hin hn)]; exact kk)
theorem xr_last (hx : p.tables.exec = Jvm.exec) (hb : c.code = cc) {D : va_G} {cl : List vw_C} {tys : List (ClassId × FieldType)} {ws : va_W} {A : Nat → Prop} {H0 : Heap} (hK : va_K D cl tys s) (hP : va_P D cl ws H) (hD : va_D A ws) (hS : va_S A H0 H locs) (q0 t0 : Nat) {a : Nat} {cA : ClassId} {n : Nat} {f : Nat → Int64} (ha : ws[q0]? = some (a, .inl (cA, n, .inr (.inl f)))) (ht : tys[t0]? = some (cA, .long)) {i : Nat} {x : Int64} (hin : i < n) (hn : n < 2 ^ 31) (hdg : decode cc pc = .ok (.lastore, 1)) (kk : ∀ (H1 : Heap) (locs1 : List Loc), va_P D cl (ws.set q0 (a, .inl (cA, n, .inr (.inl (vp_updL f i x))))) H1 → va_D A (ws.set q0 (a, .inl (cA, n, .inr (.inl (vp_updL f i x))))) → va_S A H0 H1 locs1 → W p l e R s m args below meth c H1 locs1 cells slots Q (F0 m (pc + 1) ls rest)) : W p l e R s m args below meth c H locs cells slots Q (F0 m pc ls (.long x :: .int (nI i) :: .ref a :: rest)) :=
  va_last hx hb hK hP hD hS q0 t0 ha ht (vp_in_nI hin hn) hdg (by rw [nI_clamp (Nat.lt_trans hin hn)]; exact kk)
theorem xr_roi {D : va_G} {cl : List vw_C} {ws : va_W} {A : Nat → Prop} {H0 : Heap} {a : Array Value} {st0 : List Value} {r : Int32} (hr : va_Run p l e R s m args below meth c H locs cells slots 0 0 (F0 m pc ls st0) rest (va_Qi (fun (r' : Int32) (_ : Unit) => r' = r) (fun _ _ => True) (fun q => H.size ≤ q) a) (fun q => H.size ≤ q)) (hP : va_P D cl ws H) (hS : va_S A H0 H locs) (hA : ∀ q, H0.size ≤ q → A q) (kk : ∀ (H1 : Heap) (locs1 : List Loc), va_P D cl ws H1 → va_S A H0 H1 locs1 → H.size ≤ H1.size → W p l e R s m args below meth c H1 locs1 cells slots Q (F0 m (pc + 3) ls (.int r :: rest))) : W p l e R s m args below meth c H locs cells slots Q (F0 m pc ls st0) := by
  refine va_calli hr hS (fun q h1 h2 => absurd h1 (Nat.not_lt.mpr h2)) (fun q h => hA q (Nat.le_trans hS.1 h)) (fun r' u t H1 locs1 ht hvm hw hB hz hk hS1 => ?_)
  subst hw
  exact kk H1 locs1 (hP.kept fun k q hq => hk q.1 (hP k q hq).lt (fun h => absurd ((hP k q hq).lt) (Nat.not_lt.mpr h))) hS1 hz
theorem xr_rol {D : va_G} {cl : List vw_C} {ws : va_W} {A : Nat → Prop} {H0 : Heap} {a : Array Value} {st0 : List Value} {r : Int64} (hr : va_Run p l e R s m args below meth c H locs cells slots 0 0 (F0 m pc ls st0) rest (va_Ql (fun (r' : Int64) (_ : Unit) => r' = r) (fun _ _ => True) (fun q => H.size ≤ q) a) (fun q => H.size ≤ q)) (hP : va_P D cl ws H) (hS : va_S A H0 H locs) (hA : ∀ q, H0.size ≤ q → A q) (kk : ∀ (H1 : Heap) (locs1 : List Loc), va_P D cl ws H1 → va_S A H0 H1 locs1 → H.size ≤ H1.size → W p l e R s m args below meth c H1 locs1 cells slots Q (F0 m (pc + 3) ls (.long r :: rest))) : W p l e R s m args below meth c H locs cells slots Q (F0 m pc ls st0) := by
  refine va_calll hr hS (fun q h1 h2 => absurd h1 (Nat.not_lt.mpr h2)) (fun q h => hA q (Nat.le_trans hS.1 h)) (fun r' u t H1 locs1 ht hvm hw hB hz hk hS1 => ?_)
  subst hw
  exact kk H1 locs1 (hP.kept fun k q hq => hk q.1 (hP k q hq).lt (fun h => absurd ((hP k q hq).lt) (Nat.not_lt.mpr h))) hS1 hz
end XR
section XC
variable {p : Program} {l : Launch} {e : Env} {R : Room} {s : State} {m : MethodId} {args : Array Value} {below : List Frame} {meth : Method} {c : Code} {H : Heap} {locs : List Loc} {cells slots : Nat} {Q : State → Prop}
variable {pc : Nat} {ls : Array Slot} {rest : List Value}
/-- a stretch of a row of ints moves within it -/
theorem xr_copy {cc : ByteArray} (hx : p.tables.exec = Jvm.exec) (hb : c.code = cc) (hml : c.maxLocals = ls.size) {own : String} {index : Nat} (hown : s.vm.findClass own = some m.cls) (hlink : (Cond.methodLink own index arraycopyName).before args s = true) (hnat : (Cond.native arraycopyName).before args s = true) (hstat : (Cond.static arraycopyName).before args s = true) (hini : (Cond.initialized "java/lang/System").before args s = true)
    {D : va_G} {cl : List vw_C} {tys : List (ClassId × FieldType)} {ws : va_W} {A : Nat → Prop} {H0 : Heap} (hK : va_K D cl tys s) (hP : va_P D cl ws H) (hD : va_D A ws) (hS : va_S A H0 H locs) (q0 t0 : Nat) {a : Nat} {c0 : ClassId} {n0 : Nat} {f : Nat → Int32} (ha0 : ws[q0]? = some (a, .inl (c0, n0, .inl f))) (ht0 : tys[t0]? = some (c0, .int))
    {sp dp n : Nat} (h4 : sp + n ≤ n0) (h5 : dp + n ≤ n0) (hn0 : n0 < 2 ^ 31)
    (hframes : 1 ≤ R.frames) (hlocals : (rest.map fun v => v.category).sum + (nativeFrameWords "java/lang/System" "arraycopy" 5 + 11) ≤ R.locals) (hdg : decode cc pc = .ok (.invokestatic index, 3))
    (kk : ∀ (H1 : Heap) (locs1 : List Loc), va_P D cl (ws.set q0 (a, .inl (c0, n0, .inl (va_cpy f f sp dp n)))) H1 → va_D A (ws.set q0 (a, .inl (c0, n0, .inl (va_cpy f f sp dp n)))) → va_S A H0 H1 locs1 → W p l e R s m args below meth c H1 locs1 cells slots Q (F0 m (pc + 3) ls rest)) :
    W p l e R s m args below meth c H locs cells slots Q (F0 m pc ls (.int (nI n) :: .int (nI dp) :: .ref a :: .int (nI sp) :: .ref a :: rest)) := by
  have e1 : (nI sp).toNatClampNeg = sp := nI_clamp (by omega)
  have e2 : (nI dp).toNatClampNeg = dp := nI_clamp (by omega)
  have e3 : (nI n).toNatClampNeg = n := nI_clamp (by omega)
  refine va_copyi hx hb hml hown hlink hnat hstat hini hK hP hD hS q0 q0 t0 t0 ha0 ha0 ht0 ht0 rfl (nI_pos (by omega)) (nI_pos (by omega)) (nI_pos (by omega)) (by rw [e1, e3]; exact h4) (by rw [e2, e3]; exact h5) (fun i hi => rfl) hframes hlocals hdg ?_
  rw [e1, e2, e3]
  exact kk
end XC
end
section
/-! methods that throw: what is known where one has thrown; a call that throws, let through or caught -/
def tx_End (first t : State) (L : List Loc) (k n : Nat) : Prop := first.WarmedH t.vm ∧ first.sameButNew ({ t with vm := first.vm } : State) L k n
def tx_Z (below : List Frame) (Qc : Array Value → State → Addr → State → Prop) (a : Array Value) (s : State) (mc ms : Nat) (free : Addr → Prop) : State → Prop := fun t =>
  ∃ x, t.status = .running ∧ Ended t below (.threw x) ∧ Qc a s x t ∧ ∃ L, tx_End s t L mc ms ∧ ∀ q ∈ L, free q.base
/-- the contract of a method that throws -/
def MetT (l : Launch) (y : MethodName) (ws : List Cond) (rm : Room) (Pc : Array Value → State → Prop) (Qc : Array Value → State → Addr → State → Prop) (mc ms : Nat) (free : Addr → Prop) : Prop :=
  MetFree l y (headSpec ws rm) Pc (fun _ _ _ _ _ => True) (fun a st o t => ∃ x, o = .threw x ∧ Qc a st x t ∧ ∃ L, tx_End st t L mc ms ∧ ∀ q ∈ L, free q.base)
theorem MetT.ofW {l : Launch} {y : MethodName} {ws ws' : List Cond} {rm : Room} {Pc : Array Value → State → Prop} {Qc : Array Value → State → Addr → State → Prop} {mc ms : Nat} {free : Addr → Prop} {cc : ByteArray} {maxL : Nat} {ret : Option FieldType}
    (hy : plainName y.cls = true) (hw : ws = Cond.code y cc maxL ret :: ws')
    (body : ∀ p e s m args below meth c s₁, BodyLoose p l y (headSpec ws rm) cc maxL ret e s m args below meth c s₁ → c.maxLocals = maxL → Pc args s →
      W p l e (headSpec ws rm).room s m args below meth c s.heap [] 0 0 (tx_Z below Qc args s mc ms free) (entryFrame m args maxL)) : MetT l y ws rm Pc Qc mc ms free := by
  refine MetFree.of_bodyS (code := cc) (maxLocals := maxL) (ret := ret) hy ?_ ?_
  · intro args s m h hn
    obtain ⟨meth, c, h1, h2, h3, h4, h5, h6, -, -⟩ := Cond.code_spec hn (atoms_spec (ws := ws) h _ (by rw [hw]; exact List.mem_cons_self))
    exact ⟨meth, c, h1, h2, h3, h4, h5, h6⟩
  · intro p e s m args below meth c s₁ B hml hP _
    have hh0 : s₁.heap = s.heap := by rw [B.state]; rfl
    obtain ⟨t, a1, x, b1, b2, b3, b4⟩ := body p e s m args below meth c s₁ B hml hP s₁ hh0 (Stand.of_body B)
    exact ⟨t, .threw x, a1, b1, b2, x, rfl, b3, b4⟩
/-- what stands where a method has thrown: nothing old has changed, and an object of the class E is in flight -/
def tx_Q (E : String) : Array Value → State → Addr → State → Prop := fun _ st x t =>
  va_F (fun q => st.heap.size ≤ q) st t ∧ ∃ ce : Cell, t.heap[x]? = some ce ∧ ce.vm = .none ∧ t.vm.findClass E = some ce.cls
section TX
variable {p : Program} {l : Launch} {e : Env} {R : Room} {s : State} {m : MethodId} {args : Array Value} {below : List Frame} {meth : Method} {c : Code} {H : Heap} {locs : List Loc} {cells slots : Nat} {Q : State → Prop}
/-- the walk with x in flight over the frame g -/
def tx_W (p : Program) (l : Launch) (e : Env) (R : Room) (s : State) (m : MethodId) (args : Array Value) (below : List Frame) (meth : Method) (c : Code) (H : Heap) (locs : List Loc) (cells slots : Nat) (Q : State → Prop) (g : JFrame) (x : Addr) : Prop :=
  ∀ T : State, T.heap = H → Stand p l e R s m args below meth c T locs cells slots → ∃ t, Steps p.tables e below ((T.setTop g).pushFrame (.throwing x)) t ∧ Q t
theorem tx_call {T : State} (X : Stand p l e R s m args below meth c T locs cells slots) {y : MethodName} {ws : List Cond} {rm : Room} {Pc : Array Value → State → Prop} {Qc : Array Value → State → Addr → State → Prop} {mc ms : Nat} {free : Addr → Prop} {bytes : ByteArray} {maxL : Nat} {ret : Option FieldType}
    (hM : MetT l y ws rm Pc Qc mc ms free) (hblind : FrameBlind Pc) (hrc : rm.cells = mc) (hrs : rm.slots = ms) (hframes : rm.frames + 1 ≤ R.frames) (hlocals : 8 + (maxL + 11) + rm.locals ≤ R.locals)
    (hws : ∀ w ∈ ws, ∀ (a' : Array Value) (U : State), s.WarmedH U.vm → w.before a' U = true) (hcode : Cond.code y bytes maxL ret ∈ ws) (hinit : (Cond.initialized y.cls).before args s = true)
    {g : JFrame} (hg : g.method = m) (hsize : g.locals.size = c.maxLocals) {ig : Instr} {len : Nat} (hdg : decode c.code g.pc = .ok (ig, len)) (hW : 2 * g.monitorRoom + (g.stack.map fun v => v.category).sum ≤ 8)
    {mk : MethodId} (hn : T.methodNamed? y = some mk) {a : Array Value} (hf : cells + mc ≤ R.cells ∧ slots + ms ≤ R.slots) (hp : Pc a T) :
    ∃ (x : Addr) (st t T' : State) (L : List Loc), st.heap = T.heap ∧ Stand p l e R s m args below meth c T' (locs ++ L) (cells + mc) (slots + ms) ∧ (∀ q ∈ L, free q.base) ∧ T'.heap = t.heap ∧ T'.vm = t.vm ∧ Qc a st x t ∧
      Steps p.tables e below (doInvoke e (T.setTop g) [] mk a).1 ((T'.setTop g).pushFrame (.throwing x)) := by
  have h2 : (Cond.code y bytes maxL ret).before a T = true := hws _ hcode _ _ X.warmed
  have h3 : (Cond.initialized y.cls).before a T = true := word_at X.warmed (Or.inl (by first | rfl | simp [Cond.onTables, Cond.keeps, Cond.steady])) hinit
  obtain ⟨methY, cY, hmY, hcY, -, hlY, -, -, -, -⟩ := Cond.code_spec hn h2
  obtain ⟨kY, hkY, -⟩ := className_of_methodNamed hn
  have hinitY : kY.init = .initialized := Cond.initialized_spec (findClass_of_methodNamed hn) hkY h3
  have hAt : At T g.method c below := by rw [hg]; exact X.here
  have happ : (headSpec ws rm).appliesLoose y e.platform (T.calling g mk a) = true :=
    Spec.appliesLoose_calling (g := g) hAt hdg hn hkY hinitY
      (X.room_calling (g := g) (R' := rm) hsize hmY hcY hframes (by rw [hlY]; omega) (by rw [hrc]; exact hf.1) (by rw [hrs]; exact hf.2)) (atoms_intro fun w hw => hws w hw _ _ X.warmed)
  obtain ⟨mid, hmid⟩ := hAt.above
  have hfr : (T.setTop g).frames = (.java g :: mid) ++ below := by rw [State.frames_setTop' g hAt.top, hmid]; rfl
  obtain ⟨o, s₂, hsteps, -, hend, x, ho, hq, L, ⟨hWe, hsame⟩, hL⟩ := Steps.callFree hM p X.admits X.cas X.clock (acts := []) hfr happ (hblind _ _ g mk hp) trivial
  subst ho
  rw [State.frames_setTop' g hAt.top, X.tail] at hend
  obtain ⟨T', X', hW', hsame', ht⟩ := X.outOfThrown hg hend hWe hsame
  refine ⟨x, T.calling g mk a, s₂, T', L, ?_, X', hL, ?_, ?_, hq, ?_⟩
  · rw [State.calling_eq X.here.top]; rfl
  · rw [ht]; exact (Stand.throwing_heap T' g x).symm
  · rw [ht]; exact (Stand.throwing_vm T' g x).symm
  · rw [← ht]; exact hsteps
variable {y : MethodName} {bytes cc : ByteArray} {maxL nL mc ms n index : Nat} {ret : Option FieldType} {ws : List Cond} {rm : Room} {Pc : Array Value → State → Prop} {Qc : Array Value → State → Addr → State → Prop} {free : Addr → Prop} {Ts : List Cond} {own C : String} {b : Addr} {As rest : List Value} {g : JFrame}
/-- a call by the object's class that throws -/
theorem tx_runV (S : CallFix p m c cc nL s args Ts own) (hM : MetT l y ws rm Pc Qc mc ms free) (cw : CallW R s args own C index y bytes maxL ret ws rm mc ms n) (hp : PreV s H C b Pc As)
    (hg : g.method = m) (hn : As.length = n) (hsize : g.locals.size = nL) (hstack : g.stack = As.reverse ++ .ref b :: rest) (hW : 2 * g.monitorRoom + (rest.map fun v => v.category).sum ≤ 8) (hdg : decode cc g.pc = .ok (.invokevirtual index, 3)) (hf : cells + mc ≤ R.cells ∧ slots + ms ≤ R.slots)
    (kk : ∀ (x : Addr) (st t : State) (H1 : Heap) (L : List Loc), st.heap = H → t.heap = H1 → s.vm.Alike t.vm → Qc (Value.ref b :: As).toArray st x t → (∀ q ∈ L, free q.base) → tx_W p l e R s m args below meth c H1 (locs ++ L) (cells + mc) (slots + ms) Q { g with stack := rest } x) :
    W p l e R s m args below meth c H locs cells slots Q g := by
  obtain ⟨⟨hrc, hrs, hfr, hlo, hws, hcw, hcode, hini, hy, hlen, hl⟩, hin, hsel⟩ := cw
  obtain ⟨hx, hb, hml, ho, -⟩ := S
  obtain ⟨hbl, ⟨cellB, hcB, hoB, hclB⟩, hPc⟩ := hp
  intro T hT X
  obtain ⟨mk, methM, hnamed, hmethM, hstM, habM⟩ := Cond.instanceMethod_spec hin
  obtain ⟨methM', cM, hmethM', -, -, -, -, -, -, hsigM⟩ := Cond.code_spec hnamed hcode
  cases hmethM.symm.trans hmethM'
  obtain ⟨c2, r2, m2, q1, q2, q3, q4, kP, hkP, hkPi⟩ := Cond.selects_spec hsel
  cases hclB.symm.trans q1
  cases (State.methodFound?_of_named hnamed hy).symm.trans q2
  cases hnamed.symm.trans q3
  have hselP : selectMethod e.platform s.vm cellB.cls mk = .method mk := by rw [Launch.admits_selectMethod X.admits]; exact q4
  obtain ⟨vm₁, X₁, hstep₁⟩ := X.invokevirtual hx ho hl hnamed hmethM hstM hkP hkPi hy (a := b) (cell := cellB) (by rw [hT]; exact hcB)
    (fun z h => by rw [h] at hoB; cases hoB) hselP hmethM habM hkP hkPi (g := g) hg (argsL := As) (rest := rest) (hn.trans (hlen _ hsigM)) hstack (by rw [hb]; exact hdg)
  obtain ⟨x, st, t, T', L, h0, X', hL, e1, e2, hq, hsteps⟩ := tx_call X₁ hM hbl hrc hrs hfr hlo hws hcw hini (g := { g with stack := rest }) hg (hsize.trans hml.symm) (by rw [hb]; exact hdg) hW (X₁.named hnamed) hf (hPc (T.setVm vm₁) hT X₁.warmed)
  obtain ⟨t2, a1, b1⟩ := kk x st t T'.heap L (h0.trans hT) e1.symm (by rw [← e2]; exact X'.warmed.alike) hq hL T' rfl X'
  exact ⟨t2, hstep₁ _ (fun acts => by rw [doInvoke_state]; exact hsteps.trans a1), b1⟩
/-- a call of a static method that throws -/
theorem tx_runS (S : CallFix p m c cc nL s args Ts own) (hM : MetT l y ws rm Pc Qc mc ms free) (cw : CallB R s args own index y bytes maxL ret ws rm mc ms n ∧ (Cond.static y).before args s = true) (hp : PreS s H Pc As)
    (hg : g.method = m) (hn : As.length = n) (hsize : g.locals.size = nL) (hstack : g.stack = As.reverse ++ rest) (hW : 2 * g.monitorRoom + (rest.map fun v => v.category).sum ≤ 8) (hdg : decode cc g.pc = .ok (.invokestatic index, 3)) (hf : cells + mc ≤ R.cells ∧ slots + ms ≤ R.slots)
    (kk : ∀ (x : Addr) (st t : State) (H1 : Heap) (L : List Loc), st.heap = H → t.heap = H1 → s.vm.Alike t.vm → Qc As.toArray st x t → (∀ q ∈ L, free q.base) → tx_W p l e R s m args below meth c H1 (locs ++ L) (cells + mc) (slots + ms) Q { g with stack := rest } x) :
    W p l e R s m args below meth c H locs cells slots Q g := by
  obtain ⟨⟨hrc, hrs, hfr, hlo, hws, hcw, hcode, hini, hy, hlen, hl⟩, hstat⟩ := cw
  obtain ⟨hx, hb, hml, ho, -⟩ := S
  intro T hT X
  obtain ⟨mk, hnamed⟩ := Cond.code_named hcode
  obtain ⟨methM, cM, hmethM, -, -, -, -, -, -, hsigM⟩ := Cond.code_spec hnamed hcode
  have hstatic : methM.isStatic = true := Cond.static_spec hnamed hmethM hstat
  obtain ⟨kP, hkP, -⟩ := className_of_methodNamed hnamed
  have hinitP : kP.init = .initialized := Cond.initialized_spec (findClass_of_methodNamed hnamed) hkP hini
  obtain ⟨vm₁, X₁, hstep₁⟩ := X.invokestatic hx ho hl hnamed hmethM hstatic hkP hinitP hy (g := g) hg (argsL := As) (rest := rest) (hn.trans (hlen _ hsigM)) hstack (by rw [hb]; exact hdg)
  obtain ⟨x, st, t, T', L, h0, X', hL, e1, e2, hq, hsteps⟩ := tx_call X₁ hM hp.1 hrc hrs hfr hlo hws hcw hini (g := { g with stack := rest }) hg (hsize.trans hml.symm) (by rw [hb]; exact hdg) hW (X₁.named hnamed) hf (hp.2 (T.setVm vm₁) hT X₁.warmed)
  obtain ⟨t2, a1, b1⟩ := kk x st t T'.heap L (h0.trans hT) e1.symm (by rw [← e2]; exact X'.warmed.alike) hq hL T' rfl X'
  exact ⟨t2, hstep₁ _ (fun acts => by rw [doInvoke_state]; exact hsteps.trans a1), b1⟩
/-- in flight, and this method has no table: it leaves -/
theorem tx_out {Qd : Array Value → State → Addr → State → Prop} {free0 : Addr → Prop} {x : Addr} (hlocks : meth.locks = false) (hout : c.exceptionTable.isEmpty = true) {pc : Nat} {ls : Array Slot} {st : List Value}
    (hq : ∀ t : State, t.heap = H → s.WarmedH t.vm → Qd args s x t) (hf : ∀ q ∈ locs, free0 q.base) :
    tx_W p l e R s m args below meth c H locs cells slots (tx_Z below Qd args s cells slots free0) (F0 m pc ls st) x := by
  intro T hT X
  obtain ⟨st1, hrun, hend, hW, hsm⟩ := X.leaveThrown x (g := F0 m pc ls st) rfl rfl rfl (fun z hz => by
    have h0 : c.exceptionTable.toList = [] := by simpa using hout
    rw [h0] at hz; cases hz) hlocks
  exact ⟨_, st1, x, hrun, hend, hq _ hT hW, locs, ⟨hW, hsm⟩, hf⟩
theorem tx_widen {g : JFrame} {x : Addr} {k n : Nat} (h1 : cells ≤ k) (h2 : slots ≤ n) (kk : tx_W p l e R s m args below meth c H locs k n Q g x) : tx_W p l e R s m args below meth c H locs cells slots Q g x :=
  fun T hT X => kk T hT (stand_widen X h1 h2)
end TX
/-! a thrown object is caught by a row of the method's own table: rows before it that don't cover the place, or name a class that the object isn't of, are passed; the pool's entries may be cold -/
section TC
variable {Q : Handler → Pre} {E : CtlPost} {e : Env} {d : Bool} {acts : List Action} {s : State} {f : JFrame} {a : Addr}
theorem tc_one {x : ExceptionTableEntry} {t : List ExceptionTableEntry} {cx : ClassId} {cell : Cell} (hx : covers x f.pc = true) (h0 : x.catchType ≠ 0)
    (hl : s.vm.ClassLinks e.platform f.method.cls x.catchType cx) (hcell : s.heap[a]? = some cell) (hobj : ∀ k, cell.vm ≠ .statics k) (hk : ∃ k, s.vm.classes[cell.cls]? = some k) (hc : ∃ k, s.vm.classes[cx]? = some k) :
    wp (findHandler.go f a (x :: t)) Q E e d acts s ↔ if s.vm.assignable cell.cls cx = true then Q (.found x.handlerPc) d acts (s.setVm (s.vm.noted f.method.cls x.catchType (.cls cx)))
      else wp (findHandler.go f a t) Q E e d acts (s.setVm (s.vm.noted f.method.cls x.catchType (.cls cx))) := by
  have hx' := hx
  simp only [covers] at hx'
  obtain ⟨ha, ht⟩ := (resolveClass_links e.toSetting hl).op (op := VmOp.resolveClass f.method.cls x.catchType) rfl
  have hal : s.vm.Alike (s.vm.noted f.method.cls x.catchType (.cls cx)) := (Vm.Alike.refl s.vm).noted _ _ _
  obtain ⟨k1, hk1⟩ := hk
  obtain ⟨k2, hk2⟩ := hc
  obtain ⟨k1', hk1', -⟩ := hal.2.2 _ _ hk1
  obtain ⟨k2', hk2', -⟩ := hal.2.2 _ _ hk2
  have hsame : (s.vm.noted f.method.cls x.catchType (.cls cx)).assignable cell.cls cx = s.vm.assignable cell.cls cx := by rw [hal.assignable]
  cases hfit : s.vm.assignable cell.cls cx
  · rw [hfit] at hsame
    simp [findHandler.go, hx', h0, ha, ht, hcell, hobj, hk1', hk2', hsame, VmOp.dirties, VmOp.acts]
  · rw [hfit] at hsame
    simp [findHandler.go, hx', h0, ha, ht, hcell, hobj, hk1', hk2', hsame, VmOp.dirties, VmOp.acts]
/-- a row that is passed -/
def tc_pass (pl : Platform) (s₀ : State) (d : ClassId) (pc : Nat) (thrown : ClassId) (z : ExceptionTableEntry) : Prop :=
  covers z pc = false ∨ (z.catchType ≠ 0 ∧ ∃ cz, s₀.vm.ClassLinks pl d z.catchType cz ∧ s₀.vm.assignable thrown cz = false)
theorem tc_seek {s₀ : State} {cell : Cell} (hobj : ∀ k, cell.vm ≠ .statics k) (hk0 : ∃ k, s₀.vm.classes[cell.cls]? = some k) (x : ExceptionTableEntry) (suf : List ExceptionTableEntry) (hx : covers x f.pc = true) (h0 : x.catchType ≠ 0) {cx : ClassId}
    (hl : s₀.vm.ClassLinks e.platform f.method.cls x.catchType cx) (hfit : s₀.vm.assignable cell.cls cx = true) :
    ∀ (pre : List ExceptionTableEntry) (S : State), s₀.WarmedH S.vm → S.heap[a]? = some cell → (∀ z ∈ pre, tc_pass e.platform s₀ f.method.cls f.pc cell.cls z) →
      ∃ vm', s₀.WarmedH vm' ∧ ∀ (Q : Handler → Pre) (E : CtlPost) (d : Bool) (acts : List Action), wp (findHandler.go f a (pre ++ x :: suf)) Q E e d acts S ↔ Q (.found x.handlerPc) d acts (S.setVm vm') := by
  obtain ⟨k0, hk0⟩ := hk0
  intro pre
  induction pre with
  | nil =>
    intro S hW hcell _
    obtain ⟨k0', hk0', -⟩ := hW.alike.2.2 _ _ hk0
    obtain ⟨dk, _, _, kt, hd, _, _, _, _, hkt, _, hopen⟩ := hl.here
    obtain ⟨kt', hkt', -⟩ := hW.alike.2.2 _ _ hkt
    refine ⟨_, hW.noted hd hopen (State.rightAt_cls hl), fun Q E d acts => ?_⟩
    rw [List.nil_append, tc_one hx h0 (hW.classLinks hl) hcell hobj ⟨k0', hk0'⟩ ⟨kt', hkt'⟩, if_pos (by rw [hW.alike.assignable]; exact hfit)]
  | cons z zs ih =>
    intro S hW hcell hpass
    have hrest : ∀ w ∈ zs, tc_pass e.platform s₀ f.method.cls f.pc cell.cls w := fun w hw => hpass w (List.mem_cons_of_mem _ hw)
    cases hcov : covers z f.pc with
    | false =>
      obtain ⟨vm', hW', hq⟩ := ih S hW hcell hrest
      refine ⟨vm', hW', fun Q E d acts => ?_⟩
      rw [List.cons_append, W.findHandler_go_skip hcov]
      exact hq Q E d acts
    | true =>
      rcases hpass z List.mem_cons_self with h | ⟨h0z, cz, hlz, hno⟩
      · rw [h] at hcov; cases hcov
      · obtain ⟨k0', hk0', -⟩ := hW.alike.2.2 _ _ hk0
        obtain ⟨dk, _, _, kt, hd, _, _, _, _, hkt, _, hopen⟩ := hlz.here
        obtain ⟨kt', hkt', -⟩ := hW.alike.2.2 _ _ hkt
        obtain ⟨vm', hW', hq⟩ := ih (S.setVm (S.vm.noted f.method.cls z.catchType (.cls cz))) (hW.noted hd hopen (State.rightAt_cls hlz)) hcell hrest
        refine ⟨vm', hW', fun Q E d acts => ?_⟩
        rw [List.cons_append, tc_one hcov h0z (hW.classLinks hlz) hcell hobj ⟨k0', hk0'⟩ ⟨kt', hkt'⟩, if_neg (by rw [hW.alike.assignable, hno]; decide)]
        exact hq Q E d acts
/-- one step: from the note to the handler -/
theorem tc_step {r : List Frame} {pc : Nat} {vm' : Vm} (hfind : ∀ (Q : Handler → Pre) (E : CtlPost) (d : Bool) (acts : List Action), wp (findHandler f a) Q E e d acts s ↔ Q (.found pc) d acts (s.setVm vm')) :
    (stepThrowing e s a (.java f :: r)).1 = (s.setVm vm').setFrames (.java { f with pc := pc, stack := [.ref a] } :: r) := by
  simp only [stepThrowing, searchFrame, vmDo]
  generalize hr : Sem.go _ e false [] s = res
  obtain ⟨as, rfl, ha⟩ := Sem.eq_ok_of hr (a := Handler.found pc) (s' := s.setVm vm') (acts' := []) (by simp [hfind _ _ _ _])
  rfl
end TC
section TD
variable {p : Program} {l : Launch} {e : Env} {R : Room} {s : State} {m : MethodId} {args : Array Value} {below : List Frame} {meth : Method} {c : Code} {H : Heap} {locs : List Loc} {cells slots : Nat} {Q : State → Prop}
theorem tc_frames (u : State) (vm' : Vm) (F G : List Frame) : ((u.setFrames F).setVm vm').setFrames G = (u.setVm vm').setFrames G := by
  have h1 : (u.setFrames F).setVm vm' = (u.setVm vm').setFrames F := rfl
  rw [h1, State.setFrames_setFrames]
/-- caught: the walk goes on at the handler, the object alone on the stack -/
theorem tx_catch {E own name : String} {ce : Cell} {x : Addr} {pc : Nat} {ls : Array Slot} {st : List Value} (hown : s.vm.findClass own = some m.cls)
    (pre : List ExceptionTableEntry) (z : ExceptionTableEntry) (suf : List ExceptionTableEntry) (hsplit : c.exceptionTable.toList = pre ++ z :: suf)
    (hcell : H[x]? = some ce) (hv : ce.vm = .none) (hcl : s.vm.findClass E = some ce.cls)
    (hpass : ∀ w ∈ pre, covers w pc = false ∨ (w.catchType ≠ 0 ∧ ∃ nm : String, (Cond.classLink own w.catchType nm).before args s = true ∧ ∀ cT : ClassId, s.vm.findClass nm = some cT → s.vm.assignable ce.cls cT = false))
    (hz : covers z pc = true) (h0 : z.catchType ≠ 0) (hlink : (Cond.classLink own z.catchType name).before args s = true) (hcast : ∀ cT : ClassId, s.vm.findClass name = some cT → s.vm.assignable ce.cls cT = true)
    (kk : W p l e R s m args below meth c H locs cells slots Q (F0 m z.handlerPc ls [.ref x])) :
    tx_W p l e R s m args below meth c H locs cells slots Q (F0 m pc ls st) x := by
  intro T hT X
  have hpl : e.platform.magicAccessors = ({} : Platform).magicAccessors := by rw [X.admits.platform]
  obtain ⟨cT, hcT, hclT⟩ := Cond.classLink_spec hown hlink e.platform hpl
  have hasg := hcast cT hcT
  have hobj : ∀ k, ce.vm ≠ .statics k := fun k h => by rw [hv] at h; cases h
  have hk0 : ∃ k, s.vm.classes[ce.cls]? = some k := Vm.classAt_of_findClass hcl
  have hcell' : ((T.setTop (F0 m pc ls st)).pushFrame (.throwing x)).heap[x]? = some ce := by rw [Stand.throwing_heap, hT]; exact hcell
  have hWp : s.WarmedH ((T.setTop (F0 m pc ls st)).pushFrame (.throwing x)).vm := by rw [Stand.throwing_vm]; exact X.warmed
  obtain ⟨vm', hW', hq⟩ := tc_seek (e := e) (f := F0 m pc ls st) (a := x) (s₀ := s) hobj hk0 z suf hz h0 hclT hasg pre _ hWp hcell' (fun w hw => by
    rcases hpass w hw with h | ⟨h0w, nm, hlw, hno⟩
    · exact Or.inl h
    · obtain ⟨cw, hcw, hclw⟩ := Cond.classLink_spec hown hlw e.platform hpl
      exact Or.inr ⟨h0w, cw, hclw, hno cw hcw⟩)
  have hm' : ((T.setTop (F0 m pc ls st)).pushFrame (.throwing x)).vm.method? (F0 m pc ls st).method = some meth := by rw [Stand.throwing_vm]; exact X.method'
  have hfind : ∀ (Q : Handler → Pre) (E : CtlPost) (d : Bool) (acts : List Action), wp (findHandler (F0 m pc ls st) x) Q E e d acts ((T.setTop (F0 m pc ls st)).pushFrame (.throwing x)) ↔ Q (.found z.handlerPc) d acts (((T.setTop (F0 m pc ls st)).pushFrame (.throwing x)).setVm vm') :=
    fun Q E d acts => by rw [W.findHandler_eq hm' X.code, hsplit]; exact hq Q E d acts
  obtain ⟨t, a1, b1⟩ := kk (T.setVm vm') hT (X.noted hW')
  refine ⟨t, ?_, b1⟩
  have hAt : At T (F0 m pc ls st).method c below := X.here
  obtain ⟨hgo, hw⟩ := hAt.throwing x
  refine Steps.head hgo hw ?_
  rw [stepThread_throwing (frames_entered hAt.top _), tc_step (s := (T.setTop (F0 m pc ls st)).pushFrame (.throwing x)) hfind]
  obtain ⟨g₀, hg⟩ := Option.isSome_iff_exists.mp hAt.top
  obtain ⟨r, hr⟩ := State.topJava?_eq_some.mp hg
  have hr' : (T.setVm vm').frames = .java g₀ :: r := hr
  rw [State.setTop_of_frames _ hr'] at a1
  rw [hr, List.tail_cons, State.pushFrame, tc_frames, State.setTop_of_frames _ hr, tc_frames]
  exact a1
end TD
/-! 'throw new E("text")' where E's own constructor hands the text on by any entry of its pool (NoSuchElementException: 13); the library's BundleOwnThrow is followed, with another first link and a shorter end -/
def tx_rest (own : String) (ic : Nat) (X : String) : List Cond :=
  [.methodLink own ic (Bundle.initS X), .instantiable X 6, .selects X Bundle.tFill0 Bundle.tFill0, .selects X Bundle.tFill Bundle.tFill,
   .lays X Bundle.tN "cause" "Ljava/lang/Throwable;", .lays X Bundle.tN "stackTrace" Bundle.steD, .lays X Bundle.tN "suppressedExceptions" Bundle.listD, .lays X Bundle.tN "detailMessage" "Ljava/lang/String;",
   .isRef (.static Bundle.tN "UNASSIGNED_STACK" Bundle.steD), .isRef (.static Bundle.tN "SUPPRESSED_SENTINEL" Bundle.listD),
   .fieldLink Bundle.tN 198 Bundle.tN "backtrace" "Ljava/lang/Object;", .lays Bundle.tN Bundle.tN "backtrace" "Ljava/lang/Object;", .lays X Bundle.tN "backtrace" "Ljava/lang/Object;"]
def tx_own (own : String) (ic : Nat) (X sup : String) (ix : Nat) (rx : ByteArray) (names : List String) : List Cond :=
  Bundle.throwableAtoms ++ (Bundle.throwableSAtoms ++ (Bundle.passSAtoms X sup ix rx ++ (Bundle.chainSAtoms sup names ++ tx_rest own ic X)))
set_option maxHeartbeats 1000000 in
theorem tx_ctorX {p : Program} {l : Launch} {e : Env} {R : Room} {s : State} {m₀ : MethodId} {args : Array Value} {below : List Frame} {meth : Method} {c : Code} {V : State} {locs : List Loc} {cells slots : Nat}
    (X : Stand p l e R s m₀ args below meth c V locs cells slots) (hexec : p.tables.exec = Jvm.exec) (htr : e.platform.stackTraces = false) {own cls sup : String} {names : List String} {ic ix : Nat} {rx : ByteArray}
    (hown : s.vm.findClass own = some m₀.cls) (hcls : Bundle.fit cls = true) (hsup : Bundle.fit sup = true) (hnames : ∀ n ∈ names, Bundle.fit n = true)
    (r0 : decode rx 0 = .ok (.aload_n 0, 1)) (r1 : decode rx 1 = .ok (.aload_n 1, 1)) (r2 : decode rx 2 = .ok (.invokespecial ix, 3)) (r5 : decode rx 5 = .ok (.return_, 1))
    (h : ∀ a ∈ tx_own own ic cls sup ix rx names, a.before args s = true)
    (hlocs : ∀ x ∈ locs, ∀ cell, s.heap[x.base]? = some cell → cell.vm.isStatics = false)
    {a : Addr} {cX : ClassId} {kX : Class} (hfoundX : s.vm.findClass cls = some cX) (hkX : s.vm.classes[cX]? = some kX) (hcell : V.heap[a]? = some (freshCell cX kX)) (hnew : s.heap.size ≤ a)
    {msg : Value} (hmsg : msg.isRef = true)
    {g : JFrame} (hg : g.method = m₀) (hsize : g.locals.size = c.maxLocals) (hlocked : g.locked = none) (hentered : g.entered = []) {rest : List Value} (hstack : g.stack = msg :: .ref a :: .ref a :: rest)
    (hd6 : decode c.code g.pc = .ok (.invokespecial ic, 3)) (hd9 : decode c.code (g.pc + 3) = .ok (.athrow, 1)) (hout : ∀ x ∈ c.exceptionTable.toList, covers x (g.pc + 3) = false)
    (hRframes : names.length + 4 < R.frames) (hRlocals : 2 * g.monitorRoom + ((Value.ref a :: rest).map fun v => v.category).sum + (13 * (names.length + 2) + 42) ≤ R.locals) (hlocks : meth.locks = false) :
    ∃ U : State, Steps p.tables e below (V.setTop g) U ∧ U.status = .running ∧ Ended U below (.threw a) ∧ s.WarmedH U.vm ∧ s.sameButNew ({ U with vm := s.vm } : State) locs cells slots ∧
      ∃ ce, U.heap[a]? = some ce ∧ ce.vm = .none ∧ s.vm.findClass cls = some ce.cls := by
  have howns : e.platform.frameOwnsMonitors = true := by rw [X.admits.platform]
  have hfin : e.platform.finalization = false := by rw [X.admits.platform]
  have hpl : e.platform.magicAccessors = ({} : Platform).magicAccessors := by rw [X.admits.platform]
  have inR : ∀ x, x ∈ tx_rest own ic cls → x.holds args s none s [] = true := fun x hx => h x (by simp only [tx_own, List.mem_append]; exact Or.inr (Or.inr (Or.inr (Or.inr hx))))
  obtain ⟨T, Z0, L, -, Y⟩ := ThrowableC.of_atoms (args := args) howns hfin hpl (fun x hx => h x (by simp only [tx_own, List.mem_append]; exact Or.inl hx))
  obtain ⟨Z, M, LZ, LM, hnZ⟩ := Init0T.ofS_atoms (args := args) hpl L Y (fun x hx => h x (by simp only [tx_own, List.mem_append]; exact Or.inr (Or.inl hx)))
  have hpass : ∀ x ∈ Bundle.passSAtoms cls sup ix rx, x.before args s = true := fun x hx => h x (by simp only [tx_own, List.mem_append]; exact Or.inr (Or.inr (Or.inl hx)))
  obtain ⟨P0, L0, hP0m, hP0s⟩ := PassC.ofS_atoms (args := args) (s := s) hpl (Bundle.fit_spec hcls).1 (Bundle.fit_spec hsup).2 r0 r1 r2 r5 hpass
  obtain ⟨P1, Ps, hlen, L1, hL, hP1m, hlink1, hlink⟩ := Bundle.chainS (args := args) hpl hnZ names sup hsup hnames (fun x hx => h x (by simp only [tx_own, List.mem_append]; exact Or.inr (Or.inr (Or.inr (Or.inl hx)))))
  have hsup0 : P0.sup = P1.m := Option.some.inj (hP0s.symm.trans hP1m)
  have hfound : s.vm.findClass cls = some P0.m.cls := findClass_of_methodNamed hP0m
  cases Option.some.inj (hfoundX.symm.trans hfound)
  obtain ⟨c1, kX', hc1, hk, hord, -, -, hn6⟩ := Cond.instantiable_spec (inR (.instantiable cls 6) (by simp [tx_rest]))
  cases Option.some.inj (hc1.symm.trans hfound)
  cases Option.some.inj (hkX.symm.trans hk)
  have hsel0 : selectMethod e.platform s.vm P0.m.cls T.fill0 = .method T.fill0 := by
    obtain ⟨c2, r2', m2, q1, q2, q3, q4, -⟩ := Cond.selects_spec (inR (.selects cls Bundle.tFill0 Bundle.tFill0) (by simp [tx_rest]))
    cases Option.some.inj (q1.symm.trans hfound)
    cases Option.some.inj (q2.symm.trans (State.methodFound?_of_named Y.fill0 (by decide)))
    cases Option.some.inj (q3.symm.trans Y.fill0)
    rw [Launch.admits_selectMethod X.admits]; exact q4
  have hselF : selectMethod e.platform s.vm P0.m.cls T.fill = .method T.fill := by
    obtain ⟨c2, r2', m2, q1, q2, q3, q4, -⟩ := Cond.selects_spec (inR (.selects cls Bundle.tFill Bundle.tFill) (by simp [tx_rest]))
    cases Option.some.inj (q1.symm.trans hfound)
    cases Option.some.inj (q2.symm.trans (State.methodFound?_of_named Y.fill (by decide)))
    cases Option.some.inj (q3.symm.trans Y.fill)
    rw [Launch.admits_selectMethod X.admits]; exact q4
  obtain ⟨cellS0, hcS0, hiss⟩ := Y.statics
  obtain ⟨u0, hu0⟩ := Cond.staticRefV Y.unassigned L.unassignedStatic L.statics hcS0 hiss (inR (.isRef (.static Bundle.tN "UNASSIGNED_STACK" Bundle.steD)) (by simp [tx_rest]))
  obtain ⟨sen, hsen⟩ := Cond.staticRefV Y.sentinel L.sentinelStatic L.statics hcS0 hiss (inR (.isRef (.static Bundle.tN "SUPPRESSED_SENTINEL" Bundle.listD)) (by simp [tx_rest]))
  obtain ⟨ci198, i198, fB, hk198, hg198, ha198, hsB, -, hnB, htB, hffB⟩ := Cond.ownField (t := .object "java/lang/Object") Y.found L.cls (by decide +kernel) (inR (.fieldLink Bundle.tN 198 Bundle.tN "backtrace" "Ljava/lang/Object;") (by simp [tx_rest])) (inR (.lays Bundle.tN Bundle.tN "backtrace" "Ljava/lang/Object;") (by simp [tx_rest])) e.platform hpl
  obtain ⟨cellS, hcS', heS, -, hkeep⟩ := X.same.2.2.2.2.2 T.aS cellS0 hcS0
  have hcellS : V.heap[T.aS]? = some cellS := hcS'
  have hout' : ∀ i, (⟨T.aS, i⟩ : Loc) ∉ locs := fun i hmem => by
    have := hlocs _ hmem cellS0 hcS0
    rw [hiss] at this; cases this
  have hknownS : cellS.vm ≠ .unknown := by
    rw [heS]; intro hu
    rw [show cellS0.vm = .unknown from hu] at hiss
    cases hiss
  have hneS : T.aS ≠ a := Nat.ne_of_lt (Nat.lt_of_lt_of_le (Array.getElem?_eq_some_iff.mp hcS0).1 hnew)
  obtain ⟨iM, hffM⟩ := Y.msg
  obtain ⟨tyC, dC, hdC, hdnC⟩ := Cond.laysAt hfound hk Y.cause (inR (.lays cls Bundle.tN "cause" "Ljava/lang/Throwable;") (by simp [tx_rest]))
  obtain ⟨tyS, dS, hdS, hdnS⟩ := Cond.laysAt hfound hk Y.stack (inR (.lays cls Bundle.tN "stackTrace" Bundle.steD) (by simp [tx_rest]))
  obtain ⟨tyP, dP, hdP, hdnP⟩ := Cond.laysAt hfound hk Y.supp (inR (.lays cls Bundle.tN "suppressedExceptions" Bundle.listD) (by simp [tx_rest]))
  obtain ⟨tyM, dM, hdM, hdnM⟩ := Cond.laysAt hfound hk hffM (inR (.lays cls Bundle.tN "detailMessage" "Ljava/lang/String;") (by simp [tx_rest]))
  obtain ⟨tyB, dB, hdB, hdnB⟩ := Cond.laysAt hfound hk hffB (inR (.lays cls Bundle.tN "backtrace" "Ljava/lang/Object;") (by simp [tx_rest]))
  have bC := Cond.laysApart hdB hdC hdnB hdnC (by rw [hnB, Y.causeName]; decide)
  have bS := Cond.laysApart hdB hdS hdnB hdnS (by rw [hnB, Y.stackName]; decide)
  have bP := Cond.laysApart hdB hdP hdnB hdnP (by rw [hnB, Y.suppName]; decide)
  have hskip : SkipFacts T e.platform s (fun u => u) u0 ((preparedCellV T.toThrowableT (freshCell P0.m.cls kX) a u0 sen).withEntry V.cur) :=
    ⟨{ ci198 := ci198, i198 := i198, fBack := fB }, ⟨hk198, hg198, ha198, hsB⟩, by
      have := fresh_default (c := P0.m.cls) tyB
      rw [htB] at this
      simpa [preparedCellV, Cell.setSlot, Cell.withEntry, Array.getElem?_setIfInBounds, bC, bS, bP, bC.symm, bS.symm, bP.symm, defaultValue] using this, fun _ _ => rfl⟩
  obtain ⟨tm, methC, cdC, kC, vm₁, hnC, -, -, -, -, -, -, -, hW₁, st1⟩ := Steps.initColdS (tb := p.tables) (e := e) (below := below) (s := s) (U := V) X.here hexec X.warmed hpl hown (t := Bundle.initS cls) rfl rfl (Bundle.fit_spec hcls).2
    (inR (.methodLink own ic (Bundle.initS cls)) (by simp [tx_rest])) (hpass (.instanceMethod (Bundle.initS cls)) (by simp [Bundle.passSAtoms])) (bytes := rx) (maxL := 2) (hpass (.code (Bundle.initS cls) rx 2 none) (by simp [Bundle.passSAtoms]))
    (f := g) hg (a := a) (msg := msg) (rest := .ref a :: rest) hstack hd6
  cases Option.some.inj (hnC.symm.trans hP0m)
  have X₁ := X.noted hW₁
  obtain ⟨vm₂, X₂, st2⟩ := X₁.ctorMessageOffV hexec (g := { g with stack := .ref a :: rest }) hg hsize T L Z LZ M LM (P0 :: P1 :: Ps)
    (fun P hP => by
      rcases List.mem_cons.mp hP with rfl | hP
      · exact L0
      · rcases List.mem_cons.mp hP with rfl | hP
        · exact L1
        · exact hL P hP) ⟨hsup0, hlink1, hlink⟩ (u0 := u0) (sen := sen) (self := a) hmsg (cell := freshCell P0.m.cls kX) (cellS := cellS)
    hcell (fun _ => by simp) (by simp) rfl rfl hsel0 hselF hcellS hneS hknownS (by rw [hkeep _ (hout' _)]; exact hu0) (by rw [hkeep _ (hout' _)]; exact hsen)
    (Takes.of_laid hk hord tyC (by rw [Y.causeType]; rfl)) (Takes.of_laid hk hord tyS (by rw [Y.stackType]; exact fits_refV_array _ u0)) (Takes.of_laid hk hord tyP (by rw [Y.suppType]; exact fits_refV_object _ sen))
    (Takes.of_laid hk hord tyM (by rw [Y.msgType]; exact fits_refV_object _ ⟨msg, hmsg⟩)) Y.objLocals hskip htr [] hd6
    (by simp only [List.length_cons, hlen]; omega) (by simp only [List.length_cons, hlen]; exact hRlocals)
  obtain ⟨hwalk, hrun, hended, hWU, hsame⟩ := X₂.athrowLeaves hexec (g := { g with stack := .ref a :: rest, pc := g.pc + 3 }) hg hlocked hentered hout (a := a) (rest := rest) rfl hd9 hlocks
  have hlt : a < ((V.setVm vm₁).setVm vm₂).heap.size := (Array.getElem?_eq_some_iff.mp hcell).1
  have hU := heapAt_setCell_self (s := (V.setVm vm₁).setVm vm₂) (plainBareV T.toThrowableT (freshCell P0.m.cls kX) a u0 sen msg) hlt
  refine ⟨_, st1 _ (fun acts => ?_), hrun, hended, hWU, hsame.weaken (fun y hy hlt' => ?_) (Nat.le_refl _) (Nat.le_refl _), _, hU, rfl, hfound⟩
  · rw [doInvoke_state]
    exact st2 _ hwalk
  · rcases List.mem_append.mp hy with h1 | h1
    · exact h1
    · exfalso
      have hb : y.base = a := by
        simp only [List.mem_cons, List.not_mem_nil, or_false] at h1
        rcases h1 with rfl | rfl | rfl | rfl | rfl <;> rfl
      rw [hb] at hlt'
      exact Nat.not_lt.mpr hnew hlt'
/-! 'throw new E("text")': words that speak of the heap or of a resolved text stand apart from the tables' words; they hold on, as long as no old cell changes -/
def tx_four : List Cond := [.laysStatic Bundle.tN "UNASSIGNED_STACK" Bundle.steD, .laysStatic Bundle.tN "SUPPRESSED_SENTINEL" Bundle.listD, .isRef (.static Bundle.tN "UNASSIGNED_STACK" Bundle.steD), .isRef (.static Bundle.tN "SUPPRESSED_SENTINEL" Bundle.listD)]
theorem tx_layKeep {s U : State} {a a' : Array Value} {o n d : String} (h : (Cond.laysStatic o n d).before a s = true) (hW : s.WarmedH U.vm) (hh : ∀ q : Nat, q < s.heap.size → U.heap[q]? = s.heap[q]?) : (Cond.laysStatic o n d).before a' U = true := by
  have h1 : (Cond.laysStatic o n d).before a (s.setVm U.vm) = true := Cond.holds_shifted (State.Shifted.of_warmed hW) (.laysStatic o n d) [] rfl h
  simp only [Cond.before, Cond.holds, Cond.value] at h1 ⊢
  have e1 : (s.setVm U.vm).fieldFound? o n d = U.fieldFound? o n d := rfl
  rw [e1] at h1
  cases hc : (s.setVm U.vm).vm.findClass o with
  | none =>
    have hc' : U.vm.findClass o = none := hc
    simp [hc'] at h1
  | some c =>
    have hc' : U.vm.findClass o = some c := hc
    cases hf : U.fieldFound? o n d with
    | none => simp [hc, hf] at h1
    | some q =>
      obtain ⟨c', k, i, f⟩ := q
      simp only [hc, hf, hc'] at h1 ⊢
      cases hk : k.statics with
      | none => simp [hk] at h1
      | some b =>
        simp only [hk, Option.bind_some] at h1 ⊢
        have hb : b < s.heap.size := by
          cases hx : (s.setVm U.vm).heap[b]? with
          | none =>
            have hx' : s.heap[b]? = none := hx
            simp [hx'] at h1
          | some cell => exact (Array.getElem?_eq_some_iff.mp hx).1
        rw [hh b hb]
        exact h1
theorem tx_refKeep {s U : State} {a a' : Array Value} {o n d : String} (h : (Cond.isRef (.static o n d)).before a s = true) (hW : s.WarmedH U.vm) (hh : ∀ q : Nat, q < s.heap.size → U.heap[q]? = s.heap[q]?) : (Cond.isRef (.static o n d)).before a' U = true := by
  have h1 : (Cond.isRef (.static o n d)).before a (s.setVm U.vm) = true := Cond.holds_shifted (State.Shifted.of_warmed hW) (.isRef (.static o n d)) [] rfl h
  simp only [Cond.before, Cond.holds, Cond.value, Term.eval] at h1 ⊢
  have e1 : (s.setVm U.vm).fieldNamed? o n d true = U.fieldNamed? o n d true := rfl
  rw [e1] at h1
  cases hf : U.fieldNamed? o n d true with
  | none => simp [hf] at h1
  | some q =>
    obtain ⟨c', k, i⟩ := q
    simp only [hf, Option.bind_eq_bind, Option.bind_some] at h1 ⊢
    cases hk : k.statics with
    | none => simp [hk] at h1
    | some b =>
      simp only [hk, Option.bind_some] at h1 ⊢
      have hb : b < s.heap.size := by
        cases hx : (s.setVm U.vm).heap[b]? with
        | none =>
          have hx' : s.heap[b]? = none := hx
          simp [hx'] at h1
        | some cell => exact (Array.getElem?_eq_some_iff.mp hx).1
      rw [hh b hb]
      exact h1
theorem tx_strKeep {s U : State} {a a' : Array Value} {o tx : String} {k : Nat} (h : (Cond.stringRef o k tx).before a s = true) (hW : s.WarmedH U.vm) : (Cond.stringRef o k tx).before a' U = true := by
  have h1 := Cond.stringRef_warmed (vm' := U.vm) hW h
  exact h1
/-- the words that stand apart: the four, and the texts of the class's throws -/
def tx_H (tx : List (String × Nat × String)) (U : State) : Prop := (∀ w ∈ tx_four, w.before #[] U = true) ∧ ∀ q ∈ tx, (Cond.stringRef q.1 q.2.1 q.2.2).before #[] U = true
theorem tx_H.keep {tx : List (String × Nat × String)} {s U : State} (h : tx_H tx s) (hW : s.WarmedH U.vm) (hh : ∀ q : Nat, q < s.heap.size → U.heap[q]? = s.heap[q]?) : tx_H tx U := by
  refine ⟨fun w hw => ?_, fun q hq => tx_strKeep (h.2 q hq) hW⟩
  have h0 := h.1 w hw
  simp only [tx_four, List.mem_cons, List.not_mem_nil, or_false] at hw
  rcases hw with rfl | rfl | rfl | rfl
  · exact tx_layKeep h0 hW hh
  · exact tx_layKeep h0 hW hh
  · exact tx_refKeep h0 hW hh
  · exact tx_refKeep h0 hW hh
theorem tx_H.calling {tx : List (String × Nat × String)} {U : State} (h : tx_H tx U) (g : JFrame) (mk : MethodId) (a : Array Value) : tx_H tx (U.calling g mk a) :=
  ⟨fun w hw => by
    have h0 := h.1 w hw
    simp only [tx_four, List.mem_cons, List.not_mem_nil, or_false] at hw
    rcases hw with rfl | rfl | rfl | rfl <;> exact h0, fun q hq => h.2 q hq⟩
theorem tx_refl (vm : Vm) (c : ClassId) : vm.assignable c c = true := by
  show vm.assignableAux (255 + 1) c c = true
  rw [Vm.assignableAux]
  simp
theorem tx_cast {E : String} {args : Array Value} {s : State} {n : Nat} (h : (Cond.instantiable E n).before args s = true) : (Cond.castable E E).before args s = true := by
  obtain ⟨c, k, hc, -⟩ := Cond.instantiable_spec h
  simp only [Cond.before, Cond.holds, Cond.value, hc]
  simp [tx_refl]
theorem tx_decl {x : MethodName} {args : Array Value} {s : State} {b : ByteArray} {n : Nat} {r : Option FieldType} (h1 : (Cond.instanceMethod x).before args s = true) (h2 : (Cond.code x b n r).before args s = true) : (Cond.declares x).before args s = true := by
  obtain ⟨mk, methM, hn, hm, hst, hab⟩ := Cond.instanceMethod_spec h1
  obtain ⟨methM', cM, hm', -, -, -, -, -, -, hsig⟩ := Cond.code_spec hn h2
  cases hm.symm.trans hm'
  simp only [Cond.before, Cond.holds, Cond.value, hn, Option.bind_some, hm, Option.map_some]
  simp [hst, hsig]
section TN
variable {p : Program} {l : Launch} {e : Env} {R : Room} {s : State} {m : MethodId} {args : Array Value} {below : List Frame} {meth : Method} {c : Code} {H : Heap} {locs : List Loc} {cells slots : Nat}
theorem tx_throwS {cc : ByteArray} {pc : Nat} {ls : Array Slot} {rest : List Value} (hx : p.tables.exec = Jvm.exec) (hb : c.code = cc) (hl0 : l.stackTraces = false) (hlocks : meth.locks = false) (hout : c.exceptionTable.isEmpty = true) (hsize : ls.size = c.maxLocals)
    {own E sup text : String} {names : List String} {ik is ic ix : Nat} {rx : ByteArray} {tx : List (String × Nat × String)} (hown : s.vm.findClass own = some m.cls) (hE : Bundle.fit E = true) (hsup : Bundle.fit sup = true) (hnames : ∀ n ∈ names, Bundle.fit n = true)
    (r0 : decode rx 0 = .ok (.aload_n 0, 1)) (r1 : decode rx 1 = .ok (.aload_n 1, 1)) (r2 : decode rx 2 = .ok (.invokespecial ix, 3)) (r5 : decode rx 5 = .ok (.return_, 1))
    (hH : tx_H tx s) (hall : (∀ w ∈ tx_four, w.before args s = true) → ∀ w ∈ tx_own own ic E sup ix rx names, w.before args s = true) (hcl : (Cond.classLink own ik E).before args s = true) (hins : (Cond.instantiable E 6).before args s = true) (hini : (Cond.initialized E).before args s = true)
    (htx : (own, is, text) ∈ tx)
    (hS : va_S (fun q => s.heap.size ≤ q) s.heap H locs)
    (d0 : decode cc pc = .ok (.new ik, 3)) (d3 : decode cc (pc + 3) = .ok (.dup, 1)) (d4 : decode cc (pc + 4) = .ok (.ldc is, 2)) (d6 : decode cc (pc + 6) = .ok (.invokespecial ic, 3)) (d9 : decode cc (pc + 9) = .ok (.athrow, 1))
    (hfr : names.length + 4 < R.frames) (hlo : (rest.map fun v => v.category).sum + 1 + (13 * (names.length + 2) + 42) ≤ R.locals) (hc1 : cells + 1 ≤ R.cells) (hs1 : slots + 6 ≤ R.slots)
    {mc ms : Nat} (hmc : cells + 1 ≤ mc) (hms : slots + 6 ≤ ms) :
    W p l e R s m args below meth c H locs cells slots (tx_Z below (tx_Q E) args s mc ms (fun q => s.heap.size ≤ q)) (F0 m pc ls rest) := by
  have hstr := hH.2 _ htx
  obtain ⟨k, cf, i, a, -, -, -, -, -, hev⟩ := Cond.stringRef_spec (args := #[]) (first := s) (o := none) (idx := []) hown hstr
  refine W.newc hx hb hown hcl hins hini rfl d0 hc1 hs1 (fun cC kC h1 h2 h3 h4 => ?_)
  refine lv_dup hx hb d3 rfl ?_
  refine va_ldcS (own := own) (tx := text) (index := is) (q := a) hx hb hown ⟨hstr, hev⟩ d4 ?_
  intro T hT X
  have htr : e.platform.stackTraces = false := by
    have h9 := X.admits.2.2.2.2.1
    rw [h9]; exact hl0
  have hall : ∀ w ∈ tx_own own ic E sup ix rx names, w.before args s = true := hall (fun w h9 => by
    have h0 := hH.1 w h9
    simp only [tx_four, List.mem_cons, List.not_mem_nil, or_false] at h9
    rcases h9 with rfl | rfl | rfl | rfl <;> exact h0)
  have hlocs : ∀ z ∈ locs, ∀ cell, s.heap[z.base]? = some cell → cell.vm.isStatics = false := fun z hz cell hc => by
    have h9 := (Array.getElem?_eq_some_iff.mp hc).1
    exact absurd (hS.2.2 z hz) (Nat.not_le.mpr h9)
  obtain ⟨U, hst, hrun, hend, hW, hsame, ce, hce, hv, hO⟩ := tx_ctorX X hx htr (own := own) (cls := E) (sup := sup) (names := names) (ic := ic) (ix := ix) (rx := rx) hown hE hsup hnames r0 r1 r2 r5 hall hlocs (a := H.size) (cX := cC) (kX := kC) h1 h2 (by rw [hT]; simp) hS.1 (msg := .ref a) rfl
    (g := F0 m (pc + 6) ls (.ref a :: .ref H.size :: .ref H.size :: rest)) rfl hsize rfl rfl (rest := rest) rfl (by rw [hb]; exact d6) (by rw [hb]; exact d9) (fun z hz => by
      have h0 : c.exceptionTable.toList = [] := by simpa using hout
      rw [h0] at hz; cases hz) hfr (by simp [JFrame.monitorRoom, Value.category] at hlo ⊢; omega) hlocks
  have hsame' := hsame.weaken (l' := []) (c' := mc) (n' := ms) (fun y hy hlt => absurd (hS.2.2 y hy) (Nat.not_le.mpr hlt)) hmc hms
  refine ⟨U, hst, H.size, hrun, hend, ⟨⟨hsame'.2.1, fun q hq _ => ?_⟩, ce, hce, hv, ?_⟩, [], ⟨hW, hsame'⟩, fun q hq => by cases hq⟩
  · obtain ⟨c0, hc0⟩ : ∃ c0, s.heap[q]? = some c0 := ⟨_, Array.getElem?_eq_getElem hq⟩
    obtain ⟨c', hc', e1, e2, e3⟩ := hsame'.2.2.2.2.2 q c0 hc0
    have hc'' : U.heap[q]? = some c' := hc'
    rw [hc'', hc0]
    congr 1
    rw [e1]
    have e4 : c'.slots = c0.slots := by
      apply Array.ext_getElem?
      intro i
      exact e3 i (by simp)
    rw [e4]
  · rw [hW.alike.findClass]; exact hO
end TN
end
section
def setN {α : Type} (f : Nat → α) (k : Nat) (v : α) : Nat → α := fun j => if j = k then v else f j
theorem setN_setN {α : Type} (f : Nat → α) (k : Nat) (a b : α) : setN (setN f k a) k b = setN f k b := by
  funext j
  unfold setN
  by_cases h : j = k
  · rw [if_pos h, if_pos h]
  · rw [if_neg h, if_neg h, if_neg h]
theorem setN_comm {α : Type} (f : Nat → α) {k l : Nat} (a b : α) (h : k ≠ l) : setN (setN f k a) l b = setN (setN f l b) k a := by
  funext j
  unfold setN
  by_cases h1 : j = k
  · by_cases h2 : j = l
    · exact absurd (h1.symm.trans h2) h
    · rw [if_neg h2, if_pos h1, if_pos h1]
  · by_cases h2 : j = l
    · rw [if_pos h2, if_neg h1, if_pos h2]
    · rw [if_neg h2, if_neg h1, if_neg h1, if_neg h2]
/-! the class's state: what its fields and rows hold; the cells in which it lies -/
abbrev BJ : Type := (Nat → Nat) × (Nat → Nat → Int32) × (Nat → Nat → Int64)
def jgT (σ : BJ) : Nat → Int32 := σ.2.1 0
def jgTc (σ : BJ) : Nat := σ.1 0
def jgW (σ : BJ) : Nat → Int32 := σ.2.1 1
def jgWc (σ : BJ) : Nat := σ.1 1
def jgSc (σ : BJ) : Nat := σ.1 2
def jgBD (σ : BJ) : Nat → Int64 := σ.2.2 0
def jgBS (σ : BJ) : Nat → Int32 := σ.2.1 2
def jgBL (σ : BJ) : Nat → Int32 := σ.2.1 3
def jgBc (σ : BJ) : Nat := σ.1 3
def jgTB (σ : BJ) : Nat → Int32 := σ.2.1 4
def jgKS (σ : BJ) : Nat → Int64 := σ.2.2 1
def jgKD (σ : BJ) : Nat → Int64 := σ.2.2 2
def jgKc (σ : BJ) : Nat := σ.1 4
def jgPD (σ : BJ) : Nat → Int64 := σ.2.2 3
def juT (σ : BJ) (z : Nat → Int32) : BJ := (σ.1, setN σ.2.1 0 z, σ.2.2)
def juTc (σ : BJ) (z : Nat) : BJ := (setN σ.1 0 z, σ.2.1, σ.2.2)
def juW (σ : BJ) (z : Nat → Int32) : BJ := (σ.1, setN σ.2.1 1 z, σ.2.2)
def juWc (σ : BJ) (z : Nat) : BJ := (setN σ.1 1 z, σ.2.1, σ.2.2)
def juSc (σ : BJ) (z : Nat) : BJ := (setN σ.1 2 z, σ.2.1, σ.2.2)
def juBD (σ : BJ) (z : Nat → Int64) : BJ := (σ.1, σ.2.1, setN σ.2.2 0 z)
def juBS (σ : BJ) (z : Nat → Int32) : BJ := (σ.1, setN σ.2.1 2 z, σ.2.2)
def juBL (σ : BJ) (z : Nat → Int32) : BJ := (σ.1, setN σ.2.1 3 z, σ.2.2)
def juBc (σ : BJ) (z : Nat) : BJ := (setN σ.1 3 z, σ.2.1, σ.2.2)
def juTB (σ : BJ) (z : Nat → Int32) : BJ := (σ.1, setN σ.2.1 4 z, σ.2.2)
def juKS (σ : BJ) (z : Nat → Int64) : BJ := (σ.1, σ.2.1, setN σ.2.2 1 z)
def juKD (σ : BJ) (z : Nat → Int64) : BJ := (σ.1, σ.2.1, setN σ.2.2 2 z)
def juKc (σ : BJ) (z : Nat) : BJ := (setN σ.1 4 z, σ.2.1, σ.2.2)
def juPD (σ : BJ) (z : Nat → Int64) : BJ := (σ.1, σ.2.1, setN σ.2.2 3 z)
def fsBJ (h : Nat → Nat) (σ : BJ) : List Value := [.ref (h 1), .int (nI (jgTc σ)), .ref (h 2), .int (nI (jgWc σ)), .int (nI (jgSc σ)), .ref (h 3), .ref (h 4), .ref (h 5), .int (nI (jgBc σ)), .ref (h 6), .ref (h 7), .ref (h 8), .int (nI (jgKc σ)), .ref (h 9)]
def wBJ (cI cJ : ClassId) (h : Nat → Nat) (σ : BJ) : va_W := [(h 0, .inr (0, fsBJ h σ)), (h 1, .inl (cI, 64, .inl (jgT σ))), (h 2, .inl (cI, 700, .inl (jgW σ))), (h 3, .inl (cJ, 20, .inr (.inl (jgBD σ)))), (h 4, .inl (cI, 20, .inl (jgBS σ))), (h 5, .inl (cI, 20, .inl (jgBL σ))), (h 6, .inl (cI, 8, .inl (jgTB σ))), (h 7, .inl (cJ, 16, .inr (.inl (jgKS σ)))), (h 8, .inl (cJ, 16, .inr (.inl (jgKD σ)))), (h 9, .inl (cJ, 4, .inr (.inl (jgPD σ))))]
theorem wBJ_T (cI cJ : ClassId) (h : Nat → Nat) (σ : BJ) (z : Nat → Int32) : (wBJ cI cJ h σ).set 1 (h 1, .inl (cI, 64, .inl z)) = wBJ cI cJ h (juT σ z) := rfl
theorem wBJ_Tc (cI cJ : ClassId) (h : Nat → Nat) (σ : BJ) (z : Nat) : (wBJ cI cJ h σ).set 0 (h 0, .inr (0, (fsBJ h σ).set 1 (.int (nI z)))) = wBJ cI cJ h (juTc σ z) := rfl
theorem wBJ_W (cI cJ : ClassId) (h : Nat → Nat) (σ : BJ) (z : Nat → Int32) : (wBJ cI cJ h σ).set 2 (h 2, .inl (cI, 700, .inl z)) = wBJ cI cJ h (juW σ z) := rfl
theorem wBJ_Wc (cI cJ : ClassId) (h : Nat → Nat) (σ : BJ) (z : Nat) : (wBJ cI cJ h σ).set 0 (h 0, .inr (0, (fsBJ h σ).set 3 (.int (nI z)))) = wBJ cI cJ h (juWc σ z) := rfl
theorem wBJ_Sc (cI cJ : ClassId) (h : Nat → Nat) (σ : BJ) (z : Nat) : (wBJ cI cJ h σ).set 0 (h 0, .inr (0, (fsBJ h σ).set 4 (.int (nI z)))) = wBJ cI cJ h (juSc σ z) := rfl
theorem wBJ_BD (cI cJ : ClassId) (h : Nat → Nat) (σ : BJ) (z : Nat → Int64) : (wBJ cI cJ h σ).set 3 (h 3, .inl (cJ, 20, .inr (.inl z))) = wBJ cI cJ h (juBD σ z) := rfl
theorem wBJ_BS (cI cJ : ClassId) (h : Nat → Nat) (σ : BJ) (z : Nat → Int32) : (wBJ cI cJ h σ).set 4 (h 4, .inl (cI, 20, .inl z)) = wBJ cI cJ h (juBS σ z) := rfl
theorem wBJ_BL (cI cJ : ClassId) (h : Nat → Nat) (σ : BJ) (z : Nat → Int32) : (wBJ cI cJ h σ).set 5 (h 5, .inl (cI, 20, .inl z)) = wBJ cI cJ h (juBL σ z) := rfl
theorem wBJ_Bc (cI cJ : ClassId) (h : Nat → Nat) (σ : BJ) (z : Nat) : (wBJ cI cJ h σ).set 0 (h 0, .inr (0, (fsBJ h σ).set 8 (.int (nI z)))) = wBJ cI cJ h (juBc σ z) := rfl
theorem wBJ_TB (cI cJ : ClassId) (h : Nat → Nat) (σ : BJ) (z : Nat → Int32) : (wBJ cI cJ h σ).set 6 (h 6, .inl (cI, 8, .inl z)) = wBJ cI cJ h (juTB σ z) := rfl
theorem wBJ_KS (cI cJ : ClassId) (h : Nat → Nat) (σ : BJ) (z : Nat → Int64) : (wBJ cI cJ h σ).set 7 (h 7, .inl (cJ, 16, .inr (.inl z))) = wBJ cI cJ h (juKS σ z) := rfl
theorem wBJ_KD (cI cJ : ClassId) (h : Nat → Nat) (σ : BJ) (z : Nat → Int64) : (wBJ cI cJ h σ).set 8 (h 8, .inl (cJ, 16, .inr (.inl z))) = wBJ cI cJ h (juKD σ z) := rfl
theorem wBJ_Kc (cI cJ : ClassId) (h : Nat → Nat) (σ : BJ) (z : Nat) : (wBJ cI cJ h σ).set 0 (h 0, .inr (0, (fsBJ h σ).set 12 (.int (nI z)))) = wBJ cI cJ h (juKc σ z) := rfl
theorem wBJ_PD (cI cJ : ClassId) (h : Nat → Nat) (σ : BJ) (z : Nat → Int64) : (wBJ cI cJ h σ).set 9 (h 9, .inl (cJ, 4, .inr (.inl z))) = wBJ cI cJ h (juPD σ z) := rfl
/-! what the class's methods do, in pure words -/
def bI : Bool → Int32
  | true => nI 1
  | false => nI 0
section XB
variable {p : Program} {l : Launch} {e : Env} {R : Room} {s : State} {m : MethodId} {args : Array Value} {below : List Frame} {meth : Method} {c : Code} {H : Heap} {locs : List Loc} {cells slots : Nat} {Q : State → Prop}
variable {cc : ByteArray} {pc : Nat} {ls : Array Slot} {rest : List Value}
theorem xr_ifeqB (hx : p.tables.exec = Jvm.exec) (hb : c.code = cc) {b : Bool} {off : Int} {tgt : Nat} (hdg : decode cc pc = .ok (.ifCond .eq off, 3)) (ht : (pc : Int) + off = (tgt : Int)) (kt : b = false → W p l e R s m args below meth c H locs cells slots Q (F0 m tgt ls rest)) (kf : b = true → W p l e R s m args below meth c H locs cells slots Q (F0 m (pc + 3) ls rest)) : W p l e R s m args below meth c H locs cells slots Q (F0 m pc ls (.int (bI b) :: rest)) :=
  lv_if_eq hx hb hdg ht (fun h => kt (by cases b with | false => rfl | true => exact absurd h (by decide))) (fun h => kf (by cases b with | true => rfl | false => exact absurd rfl h))
theorem xr_ifneB (hx : p.tables.exec = Jvm.exec) (hb : c.code = cc) {b : Bool} {off : Int} {tgt : Nat} (hdg : decode cc pc = .ok (.ifCond .ne off, 3)) (ht : (pc : Int) + off = (tgt : Int)) (kt : b = true → W p l e R s m args below meth c H locs cells slots Q (F0 m tgt ls rest)) (kf : b = false → W p l e R s m args below meth c H locs cells slots Q (F0 m (pc + 3) ls rest)) : W p l e R s m args below meth c H locs cells slots Q (F0 m pc ls (.int (bI b) :: rest)) :=
  lv_if_ne hx hb hdg ht (fun h => kt (by cases b with | true => rfl | false => exact absurd rfl h)) (fun h => kf (by cases b with | false => rfl | true => exact absurd h (by decide)))
end XB
/-- the digest of n of f's numbers from st on -/
def dgL (f : Nat → Int32) (st : Nat) : Nat → Int64
  | 0 => -7046029254386353131
  | n + 1 => (dgL f st n ^^^ (f (st + n)).toInt64) * 1099511628211
def dgE (h : Int64) (n : Nat) : Int64 := (h ^^^ (nI n).toInt64) * (-2960836687156293229)
def dgX (h : Int64) : Int64 := h ^^^ ((h).toUInt64 >>> ((nI 32).toInt64.toUInt64 &&& Int64.toUInt64 63)).toInt64
def dg (f : Nat → Int32) (st n : Nat) : Int64 := dgX (dgE (dgL f st n) n)
/-- the first place below n at which f holds d -/
def fnd (f : Nat → Int64) (d : Int64) : Nat → Option Nat
  | 0 => none
  | n + 1 => match fnd f d n with
    | some i => some i
    | none => if f n = d then some n else none
theorem fnd_lt {f : Nat → Int64} {d : Int64} : ∀ {n i : Nat}, fnd f d n = some i → i < n ∧ f i = d
  | 0, i, h => by cases h
  | n + 1, i, h => by
    unfold fnd at h
    cases hq : fnd f d n with
    | some j =>
      rw [hq] at h
      cases h
      have := fnd_lt hq
      exact ⟨by omega, this.2⟩
    | none =>
      rw [hq] at h
      by_cases hd : f n = d
      · simp [hd] at h
        subst h
        exact ⟨by omega, hd⟩
      · simp [hd] at h
theorem fnd_hit {f : Nat → Int64} {d : Int64} {i : Nat} (h : fnd f d i = none) (hd : f i = d) : ∀ {n : Nat}, i < n → fnd f d n = some i
  | 0, hn => absurd hn (by omega)
  | n + 1, hn => by
    unfold fnd
    by_cases hi : i = n
    · subst hi
      rw [h]
      simp [hd]
    · rw [fnd_hit h hd (n := n) (by omega)]
theorem fnd_miss {f : Nat → Int64} {d : Int64} {i : Nat} (h : fnd f d i = none) (hd : f i ≠ d) : fnd f d (i + 1) = none := by
  unfold fnd
  rw [h]
  simp [hd]
theorem fnd_none {f : Nat → Int64} {d : Int64} : ∀ {n : Nat}, fnd f d n = none ↔ ∀ i, i < n → f i ≠ d
  | 0 => by simp [fnd]
  | n + 1 => by
    unfold fnd
    cases hq : fnd f d n with
    | some j =>
      have := fnd_lt hq
      simp
      exact ⟨j, by omega, this.2⟩
    | none =>
      have h0 := fnd_none.mp hq
      by_cases hd : f n = d
      · simp [hd]
        exact ⟨n, by omega, hd⟩
      · simp [hd]
        intro i hi
        by_cases hi2 : i = n
        · subst hi2; exact hd
        · exact h0 i (by omega)
/-- the sum of n of f's numbers from st on -/
def smL (f : Nat → Int32) (st : Nat) : Nat → Int32
  | 0 => 0
  | n + 1 => smL f st n + f (st + n)
end
section
/-! contracts of the class's methods in one form, and calls of them over the class's world -/
def pBJ (dC : Nat → ClassId) (dI : Nat → Nat → Nat) (cI cJ : ClassId) (h : Nat → Nat) (sz : Nat) (σ : BJ) (U : State) : Prop := U.heap.size = sz ∧ va_P (dC, dI) vwCl (wBJ cI cJ h σ) U.heap ∧ va_K (dC, dI) vwCl [(cI, .int), (cJ, .long)] U ∧ va_D (fun _ => True) (wBJ cI cJ h σ)
def aBJ (dC : Nat → ClassId) (dI : Nat → Nat → Nat) (cI cJ : ClassId) (h : Nat → Nat) (A : Nat → Prop) (σ : BJ) (t : State) : Prop := va_P (dC, dI) vwCl (wBJ cI cJ h σ) t.heap ∧ va_K (dC, dI) vwCl [(cI, .int), (cJ, .long)] t ∧ va_D A (wBJ cI cJ h σ)
theorem pBJ.moved {dC : Nat → ClassId} {dI : Nat → Nat → Nat} {cI cJ : ClassId} {h : Nat → Nat} {sz : Nat} {σ : BJ} {U : State} (q : pBJ dC dI cI cJ h sz σ U) (g : JFrame) (mk : MethodId) (a : Array Value) : pBJ dC dI cI cJ h sz σ (U.calling g mk a) := by
  obtain ⟨q1, qP, qK, qD⟩ := q
  exact ⟨q1, qP, va_K.moved (u := U) (U := U.calling g mk a) (Vm.Alike.refl U.vm) qK, qD⟩
theorem pBJ.blind {dC : Nat → ClassId} {dI : Nat → Nat → Nat} {cI cJ : ClassId} {h : Nat → Nat} {sz : Nat} {σ : BJ} {av : List Value} : FrameBlind (va_Pc av (pBJ dC dI cI cJ h sz σ)) :=
  fun a U g mk q => ⟨q.1, q.2.moved g mk a⟩
/-- reads, answers an int (a boolean) | a long -/
def rBi (l : Launch) (y : MethodName) (ws : List Cond) (rm : Room) (σ : BJ) (As : List Value) (r : Int32) : Prop := ∀ (dC : Nat → ClassId) (dI : Nat → Nat → Nat) (cI cJ : ClassId) (h : Nat → Nat) (sz : Nat),
  Met l y ws rm (va_Pc (.ref (h 0) :: As) (pBJ dC dI cI cJ h sz σ)) (va_Qi (fun (r' : Int32) (_ : Unit) => r' = r) (fun _ _ => True) (fun q => sz ≤ q)) 0 0 (fun q => sz ≤ q)
def rBl (l : Launch) (y : MethodName) (ws : List Cond) (rm : Room) (σ : BJ) (As : List Value) (r : Int64) : Prop := ∀ (dC : Nat → ClassId) (dI : Nat → Nat → Nat) (cI cJ : ClassId) (h : Nat → Nat) (sz : Nat),
  Met l y ws rm (va_Pc (.ref (h 0) :: As) (pBJ dC dI cI cJ h sz σ)) (va_Ql (fun (r' : Int64) (_ : Unit) => r' = r) (fun _ _ => True) (fun q => sz ≤ q)) 0 0 (fun q => sz ≤ q)
def rBv (l : Launch) (y : MethodName) (ws : List Cond) (rm : Room) (σ : BJ) (As : List Value) : Prop := ∀ (dC : Nat → ClassId) (dI : Nat → Nat → Nat) (cI cJ : ClassId) (h : Nat → Nat) (sz : Nat),
  Met l y ws rm (va_Pc (.ref (h 0) :: As) (pBJ dC dI cI cJ h sz σ)) (va_Qv (fun (_ : Unit) => True) (fun _ _ => True) (fun q => sz ≤ q)) 0 0 (fun q => sz ≤ q)
/-- writes, answers nothing | an int (a boolean) | a long -/
def wBv (l : Launch) (y : MethodName) (ws : List Cond) (rm : Room) (σ : BJ) (As : List Value) (σ' : BJ) : Prop := ∀ (dC : Nat → ClassId) (dI : Nat → Nat → Nat) (cI cJ : ClassId) (h : Nat → Nat) (sz : Nat),
  Met l y ws rm (va_Pc (.ref (h 0) :: As) (pBJ dC dI cI cJ h sz σ)) (va_Qv (fun (_ : Unit) => True) (fun _ => aBJ dC dI cI cJ h (va_A (wBJ cI cJ h σ) sz) σ') (va_A (wBJ cI cJ h σ) sz)) 0 0 (va_A (wBJ cI cJ h σ) sz)
def wBi (l : Launch) (y : MethodName) (ws : List Cond) (rm : Room) (σ : BJ) (As : List Value) (r : Int32) (σ' : BJ) : Prop := ∀ (dC : Nat → ClassId) (dI : Nat → Nat → Nat) (cI cJ : ClassId) (h : Nat → Nat) (sz : Nat),
  Met l y ws rm (va_Pc (.ref (h 0) :: As) (pBJ dC dI cI cJ h sz σ)) (va_Qi (fun (r' : Int32) (_ : Unit) => r' = r) (fun _ => aBJ dC dI cI cJ h (va_A (wBJ cI cJ h σ) sz) σ') (va_A (wBJ cI cJ h σ) sz)) 0 0 (va_A (wBJ cI cJ h σ) sz)
def wBl (l : Launch) (y : MethodName) (ws : List Cond) (rm : Room) (σ : BJ) (As : List Value) (r : Int64) (σ' : BJ) : Prop := ∀ (dC : Nat → ClassId) (dI : Nat → Nat → Nat) (cI cJ : ClassId) (h : Nat → Nat) (sz : Nat),
  Met l y ws rm (va_Pc (.ref (h 0) :: As) (pBJ dC dI cI cJ h sz σ)) (va_Ql (fun (r' : Int64) (_ : Unit) => r' = r) (fun _ => aBJ dC dI cI cJ h (va_A (wBJ cI cJ h σ) sz) σ') (va_A (wBJ cI cJ h σ) sz)) 0 0 (va_A (wBJ cI cJ h σ) sz)
/-- throws an E, and changes nothing -/
def tB (l : Launch) (y : MethodName) (ws : List Cond) (rm : Room) (tx : List (String × Nat × String)) (σ : BJ) (As : List Value) (E : String) : Prop := ∀ (dC : Nat → ClassId) (dI : Nat → Nat → Nat) (cI cJ : ClassId) (h : Nat → Nat) (sz : Nat),
  MetT l y ws rm (va_Pc (.ref (h 0) :: As) (fun U => pBJ dC dI cI cJ h sz σ U ∧ tx_H tx U)) (tx_Q E) 1 6 (fun q => sz ≤ q)
section BJC
variable {p : Program} {l : Launch} {e : Env} {R : Room} {s : State} {m : MethodId} {args : Array Value} {below : List Frame} {meth : Method} {c : Code} {H : Heap} {locs : List Loc} {cells slots : Nat} {Q : State → Prop}
variable {cc bytes : ByteArray} {pc nL maxL n index : Nat} {ls : Array Slot} {As rest st0 : List Value} {Ts ws : List Cond} {own : String} {y : MethodName} {ret : Option FieldType} {rm : Room}
variable {dC : Nat → ClassId} {dI : Nat → Nat → Nat} {cI cJ : ClassId} {h : Nat → Nat} {σ σ' : BJ} {A A' : Nat → Prop} {H0 : Heap}
theorem bj_ri {r : Int32} (S : CallFix p m c cc nL s args Ts own) (hM : rBi l y ws rm σ As r) (cw : CallW R s args own RX0 index y bytes maxL ret ws rm 0 0 n)
    (hK : va_K (dC, dI) vwCl [(cI, .int), (cJ, .long)] s) (hP : va_P (dC, dI) vwCl (wBJ cI cJ h σ) H) (hD : va_D A' (wBJ cI cJ h σ)) (hS : va_S A H0 H locs) (hA : ∀ q, H0.size ≤ q → A q)
    (hl : ls.size = nL) (hn : As.length = n) (hst : st0 = As.reverse ++ .ref (h 0) :: rest) (hroom : (rest.map fun v => v.category).sum ≤ 8) (hdg : decode cc pc = .ok (.invokevirtual index, 3)) (hc : cells ≤ R.cells) (hs : slots ≤ R.slots)
    (kk : ∀ (H1 : Heap) (locs1 : List Loc), va_P (dC, dI) vwCl (wBJ cI cJ h σ) H1 → va_S A H0 H1 locs1 → W p l e R s m args below meth c H1 locs1 cells slots Q (F0 m (pc + 3) ls (.int r :: rest))) :
    W p l e R s m args below meth c H locs cells slots Q (F0 m pc ls st0) :=
  xr_roi (va_runV (As := As) (rest := rest) S (hM dC dI cI cJ h H.size) cw ⟨pBJ.blind, va_recv hK hP (ci := 0) (q0 := 0) rfl rfl, fun U hU hW => ⟨rfl, by rw [hU], by rw [hU]; exact hP, va_K.moved hW.alike hK, hD.weaken (fun _ _ _ _ => trivial)⟩⟩ rfl hn hl hst (lv_room hroom) hdg ⟨hc, hs⟩) hP hS hA (fun H1 locs1 hP1 hS1 _ => kk H1 locs1 hP1 hS1)
theorem bj_rl {r : Int64} (S : CallFix p m c cc nL s args Ts own) (hM : rBl l y ws rm σ As r) (cw : CallW R s args own RX0 index y bytes maxL ret ws rm 0 0 n)
    (hK : va_K (dC, dI) vwCl [(cI, .int), (cJ, .long)] s) (hP : va_P (dC, dI) vwCl (wBJ cI cJ h σ) H) (hD : va_D A' (wBJ cI cJ h σ)) (hS : va_S A H0 H locs) (hA : ∀ q, H0.size ≤ q → A q)
    (hl : ls.size = nL) (hn : As.length = n) (hst : st0 = As.reverse ++ .ref (h 0) :: rest) (hroom : (rest.map fun v => v.category).sum ≤ 8) (hdg : decode cc pc = .ok (.invokevirtual index, 3)) (hc : cells ≤ R.cells) (hs : slots ≤ R.slots)
    (kk : ∀ (H1 : Heap) (locs1 : List Loc), va_P (dC, dI) vwCl (wBJ cI cJ h σ) H1 → va_S A H0 H1 locs1 → W p l e R s m args below meth c H1 locs1 cells slots Q (F0 m (pc + 3) ls (.long r :: rest))) :
    W p l e R s m args below meth c H locs cells slots Q (F0 m pc ls st0) :=
  xr_rol (va_runV (As := As) (rest := rest) S (hM dC dI cI cJ h H.size) cw ⟨pBJ.blind, va_recv hK hP (ci := 0) (q0 := 0) rfl rfl, fun U hU hW => ⟨rfl, by rw [hU], by rw [hU]; exact hP, va_K.moved hW.alike hK, hD.weaken (fun _ _ _ _ => trivial)⟩⟩ rfl hn hl hst (lv_room hroom) hdg ⟨hc, hs⟩) hP hS hA (fun H1 locs1 hP1 hS1 _ => kk H1 locs1 hP1 hS1)
theorem xr_rov {D : va_G} {cl : List vw_C} {wz : va_W} {a : Array Value} (hr : va_Run p l e R s m args below meth c H locs cells slots 0 0 (F0 m pc ls st0) rest (va_Qv (fun (_ : Unit) => True) (fun _ _ => True) (fun q => H.size ≤ q) a) (fun q => H.size ≤ q)) (hP : va_P D cl wz H) (hS : va_S A H0 H locs) (hA : ∀ q, H0.size ≤ q → A q) (kk : ∀ (H1 : Heap) (locs1 : List Loc), va_P D cl wz H1 → va_S A H0 H1 locs1 → H.size ≤ H1.size → W p l e R s m args below meth c H1 locs1 cells slots Q (F0 m (pc + 3) ls rest)) : W p l e R s m args below meth c H locs cells slots Q (F0 m pc ls st0) := by
  refine va_callv hr hS (fun q h1 h2 => absurd h1 (Nat.not_lt.mpr h2)) (fun q h => hA q (Nat.le_trans hS.1 h)) (fun u t H1 locs1 ht hvm hw hB hz hk hS1 => ?_)
  exact kk H1 locs1 (hP.kept fun k q hq => hk q.1 (hP k q hq).lt (fun h => absurd ((hP k q hq).lt) (Nat.not_lt.mpr h))) hS1 hz
theorem bj_rv (S : CallFix p m c cc nL s args Ts own) (hM : rBv l y ws rm σ As) (cw : CallW R s args own RX0 index y bytes maxL ret ws rm 0 0 n)
    (hK : va_K (dC, dI) vwCl [(cI, .int), (cJ, .long)] s) (hP : va_P (dC, dI) vwCl (wBJ cI cJ h σ) H) (hD : va_D A' (wBJ cI cJ h σ)) (hS : va_S A H0 H locs) (hA : ∀ q, H0.size ≤ q → A q)
    (hl : ls.size = nL) (hn : As.length = n) (hst : st0 = As.reverse ++ .ref (h 0) :: rest) (hroom : (rest.map fun v => v.category).sum ≤ 8) (hdg : decode cc pc = .ok (.invokevirtual index, 3)) (hc : cells ≤ R.cells) (hs : slots ≤ R.slots)
    (kk : ∀ (H1 : Heap) (locs1 : List Loc), va_P (dC, dI) vwCl (wBJ cI cJ h σ) H1 → va_S A H0 H1 locs1 → W p l e R s m args below meth c H1 locs1 cells slots Q (F0 m (pc + 3) ls rest)) :
    W p l e R s m args below meth c H locs cells slots Q (F0 m pc ls st0) :=
  xr_rov (va_runV (As := As) (rest := rest) S (hM dC dI cI cJ h H.size) cw ⟨pBJ.blind, va_recv hK hP (ci := 0) (q0 := 0) rfl rfl, fun U hU hW => ⟨rfl, by rw [hU], by rw [hU]; exact hP, va_K.moved hW.alike hK, hD.weaken (fun _ _ _ _ => trivial)⟩⟩ rfl hn hl hst (lv_room hroom) hdg ⟨hc, hs⟩) hP hS hA (fun H1 locs1 hP1 hS1 _ => kk H1 locs1 hP1 hS1)
theorem bj_wv (S : CallFix p m c cc nL s args Ts own) (hM : wBv l y ws rm σ As σ') (cw : CallW R s args own RX0 index y bytes maxL ret ws rm 0 0 n)
    (hK : va_K (dC, dI) vwCl [(cI, .int), (cJ, .long)] s) (hP : va_P (dC, dI) vwCl (wBJ cI cJ h σ) H) (hD : va_D A (wBJ cI cJ h σ)) (hS : va_S A H0 H locs) (hA : ∀ q, H0.size ≤ q → A q)
    (hl : ls.size = nL) (hn : As.length = n) (hst : st0 = As.reverse ++ .ref (h 0) :: rest) (hroom : (rest.map fun v => v.category).sum ≤ 8) (hdg : decode cc pc = .ok (.invokevirtual index, 3)) (hc : cells ≤ R.cells) (hs : slots ≤ R.slots)
    (kk : ∀ (H1 : Heap) (locs1 : List Loc), va_P (dC, dI) vwCl (wBJ cI cJ h σ') H1 → va_D A (wBJ cI cJ h σ') → va_S A H0 H1 locs1 → W p l e R s m args below meth c H1 locs1 cells slots Q (F0 m (pc + 3) ls rest)) :
    W p l e R s m args below meth c H locs cells slots Q (F0 m pc ls st0) := by
  have hFc := va_free (wc := wBJ cI cJ h σ) hD hS hA [0, 1, 2, 3, 4, 5, 6, 7, 8, 9] rfl
  refine va_callv (va_runV (As := As) (rest := rest) S (hM dC dI cI cJ h H.size) cw ⟨pBJ.blind, va_recv hK hP (ci := 0) (q0 := 0) rfl rfl, fun U hU hW => ⟨rfl, by rw [hU], by rw [hU]; exact hP, va_K.moved hW.alike hK, hD.weaken (fun _ _ _ _ => trivial)⟩⟩ rfl hn hl hst (lv_room hroom) hdg ⟨hc, hs⟩) hS (fun q _ h => hFc q h) hFc (fun u t H1 locs1 ht hvm hw hB hz1 hk1 hS1 => ?_)
  obtain ⟨hP1, hK1, hD1⟩ := hB
  rw [ht] at hP1
  obtain ⟨hP2, hD2⟩ := va_join (wr := []) (w1 := wBJ cI cJ h σ') hP hD [0, 1, 2, 3, 4, 5, 6, 7, 8, 9] [] rfl rfl (by decide) (by decide) hk1 hFc hP1 hD1
  exact kk H1 locs1 hP2 hD2 hS1
theorem bj_wi {r : Int32} (S : CallFix p m c cc nL s args Ts own) (hM : wBi l y ws rm σ As r σ') (cw : CallW R s args own RX0 index y bytes maxL ret ws rm 0 0 n)
    (hK : va_K (dC, dI) vwCl [(cI, .int), (cJ, .long)] s) (hP : va_P (dC, dI) vwCl (wBJ cI cJ h σ) H) (hD : va_D A (wBJ cI cJ h σ)) (hS : va_S A H0 H locs) (hA : ∀ q, H0.size ≤ q → A q)
    (hl : ls.size = nL) (hn : As.length = n) (hst : st0 = As.reverse ++ .ref (h 0) :: rest) (hroom : (rest.map fun v => v.category).sum ≤ 8) (hdg : decode cc pc = .ok (.invokevirtual index, 3)) (hc : cells ≤ R.cells) (hs : slots ≤ R.slots)
    (kk : ∀ (H1 : Heap) (locs1 : List Loc), va_P (dC, dI) vwCl (wBJ cI cJ h σ') H1 → va_D A (wBJ cI cJ h σ') → va_S A H0 H1 locs1 → W p l e R s m args below meth c H1 locs1 cells slots Q (F0 m (pc + 3) ls (.int r :: rest))) :
    W p l e R s m args below meth c H locs cells slots Q (F0 m pc ls st0) := by
  have hFc := va_free (wc := wBJ cI cJ h σ) hD hS hA [0, 1, 2, 3, 4, 5, 6, 7, 8, 9] rfl
  refine va_calli (va_runV (As := As) (rest := rest) S (hM dC dI cI cJ h H.size) cw ⟨pBJ.blind, va_recv hK hP (ci := 0) (q0 := 0) rfl rfl, fun U hU hW => ⟨rfl, by rw [hU], by rw [hU]; exact hP, va_K.moved hW.alike hK, hD.weaken (fun _ _ _ _ => trivial)⟩⟩ rfl hn hl hst (lv_room hroom) hdg ⟨hc, hs⟩) hS (fun q _ h => hFc q h) hFc (fun r' u t H1 locs1 ht hvm hw hB hz1 hk1 hS1 => ?_)
  subst hw
  obtain ⟨hP1, hK1, hD1⟩ := hB
  rw [ht] at hP1
  obtain ⟨hP2, hD2⟩ := va_join (wr := []) (w1 := wBJ cI cJ h σ') hP hD [0, 1, 2, 3, 4, 5, 6, 7, 8, 9] [] rfl rfl (by decide) (by decide) hk1 hFc hP1 hD1
  exact kk H1 locs1 hP2 hD2 hS1
/-- a callee throws, and so does the caller -/
theorem tx_thru {E : String} {a : Array Value} {x : Addr} {st t : State} {H1 : Heap} {L : List Loc} {pc : Nat} {ls : Array Slot} {stk : List Value} (hlocks : meth.locks = false) (hout : c.exceptionTable.isEmpty = true) (hS : va_S (fun q => s.heap.size ≤ q) s.heap H locs)
    (h0 : st.heap = H) (ht : t.heap = H1) (hvm : s.vm.Alike t.vm) (hq : tx_Q E a st x t) (hL : ∀ q ∈ L, H.size ≤ q.base) : tx_W p l e R s m args below meth c H1 (locs ++ L) cells slots (tx_Z below (tx_Q E) args s cells slots (fun q => s.heap.size ≤ q)) (F0 m pc ls stk) x := by
  obtain ⟨⟨q1, q2⟩, ce, hce, hv, hcl⟩ := hq
  rw [h0] at q1 q2
  refine tx_out hlocks hout (fun t2 ht2 hW2 => ⟨⟨?_, fun q hq _ => ?_⟩, ce, ?_, hv, ?_⟩) (fun q hq => ?_)
  · rw [ht2, ← ht]; exact Nat.le_trans hS.1 q1
  · rw [ht2, ← ht, q2 q (Nat.lt_of_lt_of_le hq hS.1) (Nat.not_le.mpr (Nat.lt_of_lt_of_le hq hS.1))]
    exact hS.2.1 q hq (Nat.not_le.mpr hq)
  · rw [ht2, ← ht]; exact hce
  · rw [hW2.alike.findClass, ← hvm.findClass]; exact hcl
  · rcases List.mem_append.mp hq with h | h
    · exact hS.2.2 q h
    · exact Nat.le_trans hS.1 (hL q h)
theorem bj_tv {E : String} {tx : List (String × Nat × String)} (hlocks : meth.locks = false) (hout : c.exceptionTable.isEmpty = true) (S : CallFix p m c cc nL s args Ts own) (hM : tB l y ws rm tx σ As E) (cw : CallW R s args own RX0 index y bytes maxL ret ws rm 1 6 n)
    (hK : va_K (dC, dI) vwCl [(cI, .int), (cJ, .long)] s) (hP : va_P (dC, dI) vwCl (wBJ cI cJ h σ) H) (hD : va_D A' (wBJ cI cJ h σ)) (hS : va_S (fun q => s.heap.size ≤ q) s.heap H locs) (hH : tx_H tx s)
    (hl : ls.size = nL) (hn : As.length = n) (hst : st0 = As.reverse ++ .ref (h 0) :: rest) (hroom : (rest.map fun v => v.category).sum ≤ 8) (hdg : decode cc pc = .ok (.invokevirtual index, 3)) (hc : 0 + 1 ≤ R.cells) (hs : 0 + 6 ≤ R.slots) :
    W p l e R s m args below meth c H locs 0 0 (tx_Z below (tx_Q E) args s 1 6 (fun q => s.heap.size ≤ q)) (F0 m pc ls st0) :=
  tx_runV (As := As) (rest := rest) S (hM dC dI cI cJ h H.size) cw ⟨fun a U g mk q => ⟨q.1, q.2.1.moved g mk a, q.2.2.calling g mk a⟩, va_recv hK hP (ci := 0) (q0 := 0) rfl rfl, fun U hU hW => ⟨rfl, ⟨by rw [hU], by rw [hU]; exact hP, va_K.moved hW.alike hK, hD.weaken (fun _ _ _ _ => trivial)⟩, hH.keep hW (fun q hq => by rw [hU]; exact hS.2.1 q hq (Nat.not_le.mpr hq))⟩⟩ rfl hn hl hst (lv_room hroom) hdg ⟨hc, hs⟩
    (fun x st t H1 L h0 ht hvm hq hL => tx_thru hlocks hout hS h0 ht hvm hq hL)
end BJC
end
section
/-! writing: bytes, records -/
def wB (σ : BJ) (v : Int32) : BJ := juWc (juW σ (upd (jgW σ) (jgWc σ) v)) (jgWc σ + 1)
def wL (σ : BJ) : List Int32 → BJ
  | [] => σ
  | b :: bs => wL (wB σ b) bs
theorem wL_app (σ : BJ) (a b : List Int32) : wL σ (a ++ b) = wL (wL σ a) b := by
  induction a generalizing σ with
  | nil => rfl
  | cons x a ih => exact ih (wB σ x)
theorem wL_snoc (σ : BJ) (a : List Int32) (b : Int32) : wB (wL σ a) b = wL σ (a ++ [b]) := (wL_app σ a [b]).symm
theorem wL_wc (σ : BJ) (a : List Int32) : jgWc (wL σ a) = jgWc σ + a.length := by
  induction a generalizing σ with
  | nil => rfl
  | cons x a ih =>
    show jgWc (wL (wB σ x) a) = _
    rw [ih]
    show jgWc σ + 1 + a.length = _
    simp only [List.length_cons]
    omega
/-- byte i of a long, as the class cuts it -/
def b8 (v : Int64) (i : Nat) : Int32 := ((v).toUInt64 >>> ((nI (8 * i)).toInt64.toUInt64 &&& Int64.toUInt64 63)).toInt64.toInt32 &&& nI 255
def l8 (v : Int64) : List Int32 := (List.range 8).map (b8 v)
def hd (k : Int32) (n : Nat) : List Int32 := [k, nI n &&& nI 255, ((nI n).toUInt32 >>> ((nI 8).toUInt32 &&& Int32.toUInt32 31)).toInt32]
def sm (f : Nat → Int32) (st n : Nat) : Int32 := smL f st n &&& nI 255
/-- a record: its bytes, and their sum -/
def wR (σ : BJ) (bs : List Int32) : BJ := wB (wL σ bs) (sm (jgW (wL σ bs)) (jgWc σ) bs.length)
def tyB (σ : BJ) : List Int32 := (List.range (jgTc σ)).map (jgT σ)
def rTyped (σ : BJ) : List Int32 := hd (nI 1) (jgTc σ) ++ tyB σ
def rTell (t : Nat) (d : Int64) : List Int32 := hd (nI 2) 9 ++ [nI t] ++ l8 d
def rUntell (t : Nat) : List Int32 := hd (nI 3) 1 ++ [nI t]
def rKey (k d : Int64) : List Int32 := hd (nI 4) 16 ++ (l8 k ++ l8 d)
/-! reading -/
def nb (f : Nat → Int32) (i : Nat) : Nat := (f i).toNatClampNeg
/-- the first n numbers of f are bytes -/
def byt (f : Nat → Int32) (n : Nat) : Prop := ∀ i, i < n → f i = nI (nb f i) ∧ nb f i < 256
def lenAt (f : Nat → Int32) (a : Nat) : Nat := nb f (a + 1) + 256 * nb f (a + 2)
def laL (f : Nat → Int32) (a : Nat) : Nat → Int64
  | 0 => 0
  | k + 1 => (laL f a k <<< ((nI 8).toInt64 &&& 63)) ||| (f (a + (7 - k))).toInt64
def longAt (f : Nat → Int32) (a : Nat) : Int64 := laL f a 8
def isWh (f : Nat → Int32) (a en : Nat) : Bool := decide (a + 4 ≤ en) && (decide (a + 3 + lenAt f a < en) && decide (f (a + 3 + lenAt f a) = sm f a (3 + lenAt f a)))
def fBlob (σ : BJ) (st n : Nat) : Option BJ := match fnd (jgBD σ) (dg (jgW σ) st n) (jgBc σ) with
  | some _ => some σ
  | none => if jgBc σ < 20 then some (juBc (juBL (juBS (juBD σ (vp_updL (jgBD σ) (jgBc σ) (dg (jgW σ) st n))) (upd (jgBS σ) (jgBc σ) (nI st))) (upd (jgBL σ) (jgBc σ) (nI n))) (jgBc σ + 1)) else none
def fTell (σ : BJ) (t : Nat) (d : Int64) : Option BJ := match fnd (jgBD σ) d (jgBc σ) with
  | some b => if t < 8 then some (juTB σ (upd (jgTB σ) t (nI b))) else none
  | none => none
def fUntell (σ : BJ) (t : Nat) : Option BJ := if t < 8 then some (juTB σ (upd (jgTB σ) t (-1))) else none
def fKey (σ : BJ) (k d : Int64) : Option BJ := match fnd (jgKS σ) k (jgKc σ) with
  | some i => some (juKD σ (vp_updL (jgKD σ) i d))
  | none => if jgKc σ < 16 then some (juKD (juKc (juKS σ (vp_updL (jgKS σ) (jgKc σ) k)) (jgKc σ + 1)) (vp_updL (jgKD σ) (jgKc σ) d)) else none
def follow (σ : BJ) (a : Nat) : Option BJ :=
  if jgW σ a = 1 then fBlob σ (a + 3) (lenAt (jgW σ) a)
  else if jgW σ a = 2 then (if lenAt (jgW σ) a = 9 then fTell σ (nb (jgW σ) (a + 3)) (longAt (jgW σ) (a + 3 + 1)) else none)
  else if jgW σ a = 3 then (if lenAt (jgW σ) a = 1 then fUntell σ (nb (jgW σ) (a + 3)) else none)
  else if jgW σ a = 4 then (if lenAt (jgW σ) a = 16 then fKey σ (longAt (jgW σ) (a + 3)) (longAt (jgW σ) (a + 3 + 8)) else none)
  else none
def ofO (o : Option BJ) (σ : BJ) : BJ := o.getD σ
/-- so many records at most are followed -/
def rsL (en : Nat) : Nat → Nat → BJ → Nat × BJ
  | 0, a, σ => (a, σ)
  | n + 1, a, σ => if isWh (jgW σ) a en = true then (match follow σ a with
      | some σ' => rsL en n (a + (4 + lenAt (jgW σ) a)) σ'
      | none => (a, σ)) else (a, σ)
def flI (f : Nat → Int32) (v : Int32) : Nat → (Nat → Int32)
  | 0 => f
  | n + 1 => upd (flI f v n) n v
def flJ (f : Nat → Int64) (v : Int64) : Nat → (Nat → Int64)
  | 0 => f
  | n + 1 => vp_updL (flJ f v n) n v
theorem flI_at {f : Nat → Int32} {v : Int32} {n j : Nat} (h : j < n) : flI f v n j = v := by
  induction n with
  | zero => omega
  | succ n ih =>
    show upd (flI f v n) n v j = v
    by_cases e : j = n
    · rw [upd, if_pos e]
    · rw [upd, if_neg e]; exact ih (by omega)
theorem flJ_at {f : Nat → Int64} {v : Int64} {n j : Nat} (h : j < n) : flJ f v n j = v := by
  induction n with
  | zero => omega
  | succ n ih =>
    show vp_updL (flJ f v n) n v j = v
    by_cases e : j = n
    · rw [vp_updL, if_pos e]
    · rw [vp_updL, if_neg e]; exact ih (by omega)
def rs0 (σ : BJ) : BJ := juTB (juKc (juBc σ 0) 0) (flI (jgTB σ) (-1) 8)
def restore (σ : BJ) : BJ := juSc (juWc (rsL (jgWc σ) 175 0 (rs0 σ)).2 (rsL (jgWc σ) 175 0 (rs0 σ)).1) (rsL (jgWc σ) 175 0 (rs0 σ)).1
/-! collecting -/
def anyB (q : Nat → Bool) : Nat → Bool
  | 0 => false
  | n + 1 => anyB q n || q n
def isTold (σ : BJ) (i : Nat) : Bool := anyB (fun t => decide (jgTB σ t = nI i)) 8 || anyB (fun k => decide (jgPD σ k ≠ 0) && decide (jgPD σ k = jgBD σ i)) 4
def rbS (σ : BJ) (i : Nat) : BJ := if isTold σ i = true then juWc (juW σ (va_cpy (jgW σ) (jgW σ) (nb (jgBS σ) i - 3) (jgWc σ) (4 + nb (jgBL σ) i))) (jgWc σ + (4 + nb (jgBL σ) i)) else σ
def rbL (σ : BJ) : Nat → BJ
  | 0 => σ
  | n + 1 => rbS (rbL σ n) n
def rtS (σ : BJ) (t : Nat) : BJ := if jgTB σ t = -1 then σ else wR σ (rTell t (jgBD σ (nb (jgTB σ) t)))
def rtL (σ : BJ) : Nat → BJ
  | 0 => σ
  | n + 1 => rtS (rtL σ n) n
def rkS (σ : BJ) (i : Nat) : BJ := match fnd (jgBD σ) (jgKD σ i) (jgBc σ) with
  | some b => if isTold σ b = true then wR σ (rKey (jgKS σ i) (jgKD σ i)) else σ
  | none => σ
def rkL (σ : BJ) : Nat → BJ
  | 0 => σ
  | n + 1 => rkS (rkL σ n) n
def isTg (t : Int32) : Bool := decide (¬ t < 0) && decide (¬ nI 8 ≤ t)
theorem isTg_no {t : Int32} (h : t < 0 ∨ nI 8 ≤ t) : nI 0 = bI (isTg t) := by
  rcases h with h | h
  · rw [isTg, decide_eq_false (by simpa using h)]; rfl
  · rw [isTg, decide_eq_false (p := ¬ nI 8 ≤ t) (by simpa using h), Bool.and_false]; rfl
theorem bI_nar (b : Bool) : narrow .boolean (.int (bI b)) = .int (bI b) := by cases b <;> decide
theorem lenAt_lt {f : Nat → Int32} {a : Nat} (h : byt f 700) (ha : a + 2 < 700) : lenAt f a < 65536 := by
  have h1 := (h (a + 1) (by omega)).2
  have h2 := (h (a + 2) (by omega)).2
  unfold lenAt
  omega
theorem anyB_hit {q : Nat → Bool} {i n : Nat} (hi : i < n) (h : q i = true) : anyB q n = true := by
  induction n with
  | zero => omega
  | succ n ih =>
    show (anyB q n || q n) = true
    by_cases e : i = n
    · subst e; rw [h, Bool.or_true]
    · rw [ih (by omega), Bool.true_or]
theorem anyB_miss {q : Nat → Bool} {i : Nat} (h0 : anyB q i = false) (h : q i = false) : anyB q (i + 1) = false := by
  show (anyB q i || q i) = false
  rw [h0, h]; rfl
theorem wL_Tc (σ : BJ) (a : List Int32) : jgTc (wL σ a) = jgTc σ := by
  induction a generalizing σ with
  | nil => rfl
  | cons x a ih => exact ih (wB σ x)
theorem wL_T (σ : BJ) (a : List Int32) : jgT (wL σ a) = jgT σ := by
  induction a generalizing σ with
  | nil => rfl
  | cons x a ih => exact ih (wB σ x)
theorem fBlob_some {σ : BJ} {st n i : Nat} (h : fnd (jgBD σ) (dg (jgW σ) st n) (jgBc σ) = some i) : fBlob σ st n = some σ := by rw [fBlob, h]
theorem fBlob_new {σ : BJ} {st n : Nat} (h : fnd (jgBD σ) (dg (jgW σ) st n) (jgBc σ) = none) (hb : jgBc σ < 20) : fBlob σ st n = some (juBc (juBL (juBS (juBD σ (vp_updL (jgBD σ) (jgBc σ) (dg (jgW σ) st n))) (upd (jgBS σ) (jgBc σ) (nI st))) (upd (jgBL σ) (jgBc σ) (nI n))) (jgBc σ + 1)) := by rw [fBlob, h]; exact if_pos hb
theorem fBlob_full {σ : BJ} {st n : Nat} (h : fnd (jgBD σ) (dg (jgW σ) st n) (jgBc σ) = none) (hb : ¬ jgBc σ < 20) : fBlob σ st n = none := by rw [fBlob, h]; exact if_neg hb
theorem fTell_some {σ : BJ} {t i : Nat} {d : Int64} (h : fnd (jgBD σ) d (jgBc σ) = some i) (ht : t < 8) : fTell σ t d = some (juTB σ (upd (jgTB σ) t (nI i))) := by rw [fTell, h]; exact if_pos ht
theorem fTell_none {σ : BJ} {t : Nat} {d : Int64} (h : fnd (jgBD σ) d (jgBc σ) = none) : fTell σ t d = none := by rw [fTell, h]
theorem fTell_out {σ : BJ} {t : Nat} {d : Int64} (ht : ¬ t < 8) : fTell σ t d = none := by
  rw [fTell]
  cases fnd (jgBD σ) d (jgBc σ) with
  | none => rfl
  | some i => exact if_neg ht
theorem fKey_some {σ : BJ} {i : Nat} {k d : Int64} (h : fnd (jgKS σ) k (jgKc σ) = some i) : fKey σ k d = some (juKD σ (vp_updL (jgKD σ) i d)) := by rw [fKey, h]
theorem fKey_new {σ : BJ} {k d : Int64} (h : fnd (jgKS σ) k (jgKc σ) = none) (hk : jgKc σ < 16) : fKey σ k d = some (juKD (juKc (juKS σ (vp_updL (jgKS σ) (jgKc σ) k)) (jgKc σ + 1)) (vp_updL (jgKD σ) (jgKc σ) d)) := by rw [fKey, h]; exact if_pos hk
theorem fKey_full {σ : BJ} {k d : Int64} (h : fnd (jgKS σ) k (jgKc σ) = none) (hk : ¬ jgKc σ < 16) : fKey σ k d = none := by rw [fKey, h]; exact if_neg hk
theorem isTg_nI {t : Nat} (h : t < 2 ^ 31) : isTg (nI t) = decide (t < 8) := by
  rw [isTg, decide_eq_true (nI_pos h), Bool.true_and]
  by_cases q : t < 8
  · rw [decide_eq_true q, decide_eq_true (p := ¬ nI 8 ≤ nI t) (fun z => absurd ((nI_leI (by omega) h).mp z) (by omega))]
  · rw [decide_eq_false q, decide_eq_false (p := ¬ nI 8 ≤ nI t) (fun z => z ((nI_leI (by omega) h).mpr (by omega)))]
theorem isWh_iff {f : Nat → Int32} {a en : Nat} : isWh f a en = true ↔ a + 4 ≤ en ∧ a + 3 + lenAt f a < en ∧ f (a + 3 + lenAt f a) = sm f a (3 + lenAt f a) := by
  simp only [isWh, Bool.and_eq_true, decide_eq_true_eq]
theorem fBlob_keep {σ τ : BJ} {st n : Nat} (h : fBlob σ st n = some τ) : jgW τ = jgW σ ∧ jgWc τ = jgWc σ ∧ (jgBc σ ≤ 20 → jgBc τ ≤ 20) ∧ jgKc τ = jgKc σ := by
  rw [fBlob] at h
  cases hq : fnd (jgBD σ) (dg (jgW σ) st n) (jgBc σ) with
  | some i => rw [hq] at h; cases h; exact ⟨rfl, rfl, id, rfl⟩
  | none =>
    rw [hq] at h
    by_cases hb : jgBc σ < 20
    · simp only [if_pos hb] at h; cases h; exact ⟨rfl, rfl, fun _ => hb, rfl⟩
    · simp only [if_neg hb] at h; cases h
theorem fTell_keep {σ τ : BJ} {t : Nat} {d : Int64} (h : fTell σ t d = some τ) : jgW τ = jgW σ ∧ jgWc τ = jgWc σ ∧ jgBc τ = jgBc σ ∧ jgKc τ = jgKc σ := by
  rw [fTell] at h
  cases hq : fnd (jgBD σ) d (jgBc σ) with
  | none => rw [hq] at h; cases h
  | some i =>
    rw [hq] at h
    by_cases ht : t < 8
    · simp only [if_pos ht] at h; cases h; exact ⟨rfl, rfl, rfl, rfl⟩
    · simp only [if_neg ht] at h; cases h
theorem fUntell_keep {σ τ : BJ} {t : Nat} (h : fUntell σ t = some τ) : jgW τ = jgW σ ∧ jgWc τ = jgWc σ ∧ jgBc τ = jgBc σ ∧ jgKc τ = jgKc σ := by
  rw [fUntell] at h
  by_cases ht : t < 8
  · rw [if_pos ht] at h; cases h; exact ⟨rfl, rfl, rfl, rfl⟩
  · rw [if_neg ht] at h; cases h
theorem fKey_keep {σ τ : BJ} {k d : Int64} (h : fKey σ k d = some τ) : jgW τ = jgW σ ∧ jgWc τ = jgWc σ ∧ jgBc τ = jgBc σ ∧ (jgKc σ ≤ 16 → jgKc τ ≤ 16) := by
  rw [fKey] at h
  cases hq : fnd (jgKS σ) k (jgKc σ) with
  | some i => rw [hq] at h; cases h; exact ⟨rfl, rfl, rfl, id⟩
  | none =>
    rw [hq] at h
    by_cases hb : jgKc σ < 16
    · simp only [if_pos hb] at h; cases h; exact ⟨rfl, rfl, rfl, fun _ => hb⟩
    · simp only [if_neg hb] at h; cases h
theorem follow_keep {σ τ : BJ} {a : Nat} (h : follow σ a = some τ) : jgW τ = jgW σ ∧ jgWc τ = jgWc σ ∧ (jgBc σ ≤ 20 → jgBc τ ≤ 20) ∧ (jgKc σ ≤ 16 → jgKc τ ≤ 16) := by
  rw [follow] at h
  by_cases h1 : jgW σ a = 1
  · rw [if_pos h1] at h
    have q := fBlob_keep h
    exact ⟨q.1, q.2.1, q.2.2.1, fun z => by rw [q.2.2.2]; exact z⟩
  · rw [if_neg h1] at h
    by_cases h2 : jgW σ a = 2
    · rw [if_pos h2] at h
      by_cases h9 : lenAt (jgW σ) a = 9
      · rw [if_pos h9] at h
        have q := fTell_keep h
        exact ⟨q.1, q.2.1, fun z => by rw [q.2.2.1]; exact z, fun z => by rw [q.2.2.2]; exact z⟩
      · rw [if_neg h9] at h; cases h
    · rw [if_neg h2] at h
      by_cases h3 : jgW σ a = 3
      · rw [if_pos h3] at h
        by_cases h9 : lenAt (jgW σ) a = 1
        · rw [if_pos h9] at h
          have q := fUntell_keep h
          exact ⟨q.1, q.2.1, fun z => by rw [q.2.2.1]; exact z, fun z => by rw [q.2.2.2]; exact z⟩
        · rw [if_neg h9] at h; cases h
      · rw [if_neg h3] at h
        by_cases h4 : jgW σ a = 4
        · rw [if_pos h4] at h
          by_cases h9 : lenAt (jgW σ) a = 16
          · rw [if_pos h9] at h
            have q := fKey_keep h
            exact ⟨q.1, q.2.1, fun z => by rw [q.2.2.1]; exact z, q.2.2.2⟩
          · rw [if_neg h9] at h; cases h
        · rw [if_neg h4] at h; cases h
theorem rsL_no {en n a : Nat} {σ : BJ} (h : isWh (jgW σ) a en = false) : rsL en n a σ = (a, σ) := by
  cases n with
  | zero => rfl
  | succ n => rw [rsL, if_neg (by rw [h]; decide)]
theorem rsL_stop {en n a : Nat} {σ : BJ} (h : follow σ a = none) : rsL en n a σ = (a, σ) := by
  cases n with
  | zero => rfl
  | succ n =>
    rw [rsL]
    by_cases hw : isWh (jgW σ) a en = true
    · rw [if_pos hw, h]
    · rw [if_neg hw]
theorem rsL_go {en n a : Nat} {σ τ : BJ} (hw : isWh (jgW σ) a en = true) (h : follow σ a = some τ) : rsL en (n + 1) a σ = rsL en n (a + (4 + lenAt (jgW σ) a)) τ := by
  rw [rsL, if_pos hw, h]
def by4 (v : Int32) (i : Nat) : Int32 := ((v).toUInt32 >>> ((nI (8 * i)).toUInt32 &&& Int32.toUInt32 31)).toInt32 &&& nI 255
def tyL (f : Nat → Int32) (tc : Nat) (v : Int32) : Nat → (Nat → Int32)
  | 0 => f
  | i + 1 => upd (tyL f tc v i) (tc + i) (by4 v i)
def lenS (σ : BJ) (d : Int64) : Int32 := match fnd (jgBD σ) d (jgBc σ) with
  | none => -1
  | some i => jgBL σ i
/-- what a blob's record must be for its moving: its place and length are naturals, it ends in the row, and it moves to no later place -/
def rbOk (σ : BJ) (i : Nat) : Prop := jgBS σ i = nI (nb (jgBS σ) i) ∧ 3 ≤ nb (jgBS σ) i ∧ jgBL σ i = nI (nb (jgBL σ) i) ∧ nb (jgBS σ) i + nb (jgBL σ) i + 1 ≤ 700 ∧ jgWc (rbL σ i) + 3 ≤ nb (jgBS σ) i
theorem rbS_keep (σ : BJ) (i : Nat) : jgBc (rbS σ i) = jgBc σ ∧ jgBS (rbS σ i) = jgBS σ ∧ jgBL (rbS σ i) = jgBL σ ∧ jgBD (rbS σ i) = jgBD σ := by
  unfold rbS
  by_cases h : isTold σ i = true
  · rw [if_pos h]; exact ⟨rfl, rfl, rfl, rfl⟩
  · rw [if_neg h]; exact ⟨rfl, rfl, rfl, rfl⟩
theorem rbL_keep (σ : BJ) (i : Nat) : jgBc (rbL σ i) = jgBc σ ∧ jgBS (rbL σ i) = jgBS σ ∧ jgBL (rbL σ i) = jgBL σ ∧ jgBD (rbL σ i) = jgBD σ := by
  induction i with
  | zero => exact ⟨rfl, rfl, rfl, rfl⟩
  | succ i ih =>
    have q := rbS_keep (rbL σ i) i
    exact ⟨q.1.trans ih.1, q.2.1.trans ih.2.1, q.2.2.1.trans ih.2.2.1, q.2.2.2.trans ih.2.2.2⟩
theorem wL_keep (σ : BJ) (a : List Int32) : jgTB (wL σ a) = jgTB σ ∧ jgBD (wL σ a) = jgBD σ ∧ jgBc (wL σ a) = jgBc σ ∧ jgKc (wL σ a) = jgKc σ ∧ jgKD (wL σ a) = jgKD σ ∧ jgKS (wL σ a) = jgKS σ ∧ jgPD (wL σ a) = jgPD σ ∧ jgBS (wL σ a) = jgBS σ ∧ jgBL (wL σ a) = jgBL σ := by
  induction a generalizing σ with
  | nil => exact ⟨rfl, rfl, rfl, rfl, rfl, rfl, rfl, rfl, rfl⟩
  | cons x a ih => exact ih (wB σ x)
theorem wR_keep (σ : BJ) (a : List Int32) : jgTB (wR σ a) = jgTB σ ∧ jgBD (wR σ a) = jgBD σ ∧ jgBc (wR σ a) = jgBc σ ∧ jgKc (wR σ a) = jgKc σ ∧ jgKD (wR σ a) = jgKD σ ∧ jgKS (wR σ a) = jgKS σ ∧ jgPD (wR σ a) = jgPD σ ∧ jgBS (wR σ a) = jgBS σ ∧ jgBL (wR σ a) = jgBL σ := wL_keep σ a
def rtOk (σ : BJ) (t : Nat) : Prop := jgTB σ t = -1 ∨ (jgTB σ t = nI (nb (jgTB σ) t) ∧ nb (jgTB σ) t < 20 ∧ jgWc (rtL σ t) + 13 ≤ 700)
theorem rtL_keep (σ : BJ) (i : Nat) : jgTB (rtL σ i) = jgTB σ ∧ jgBD (rtL σ i) = jgBD σ := by
  induction i with
  | zero => exact ⟨rfl, rfl⟩
  | succ i ih =>
    show jgTB (rtS (rtL σ i) i) = _ ∧ jgBD (rtS (rtL σ i) i) = _
    rw [rtS]
    by_cases h : jgTB (rtL σ i) i = -1
    · rw [if_pos h]; exact ih
    · rw [if_neg h, (wR_keep _ _).1, (wR_keep _ _).2.1]; exact ih
def rkOk (σ : BJ) (i : Nat) : Prop := ∀ b, fnd (jgBD (rkL σ i)) (jgKD (rkL σ i) i) (jgBc (rkL σ i)) = some b → isTold (rkL σ i) b = true → jgWc (rkL σ i) + 20 ≤ 700
theorem rkL_keep (σ : BJ) (i : Nat) : jgKc (rkL σ i) = jgKc σ ∧ jgBc (rkL σ i) = jgBc σ ∧ jgBD (rkL σ i) = jgBD σ := by
  induction i with
  | zero => exact ⟨rfl, rfl, rfl⟩
  | succ i ih =>
    show jgKc (rkS (rkL σ i) i) = _ ∧ jgBc (rkS (rkL σ i) i) = _ ∧ jgBD (rkS (rkL σ i) i) = _
    rw [rkS]
    cases fnd (jgBD (rkL σ i)) (jgKD (rkL σ i) i) (jgBc (rkL σ i)) with
    | none => exact ih
    | some b =>
      by_cases h : isTold (rkL σ i) b = true
      · simp only [if_pos h]
        have q := wR_keep (rkL σ i) (rKey (jgKS (rkL σ i) i) (jgKD (rkL σ i) i))
        exact ⟨q.2.2.2.1.trans ih.1, q.2.2.1.trans ih.2.1, q.2.1.trans ih.2.2⟩
      · simp only [if_neg h]; exact ih
def co1 (σ : BJ) : BJ := rbL (juWc σ 0) (jgBc σ)
def co2 (σ : BJ) : BJ := rtL (co1 σ) 8
def co3 (σ : BJ) : BJ := rkL (co2 σ) (jgKc σ)
theorem rbL_kc (σ : BJ) (i : Nat) : jgKc (rbL σ i) = jgKc σ := by
  induction i with
  | zero => rfl
  | succ i ih =>
    show jgKc (rbS (rbL σ i) i) = _
    rw [rbS]
    by_cases h : isTold (rbL σ i) i = true
    · rw [if_pos h]; exact ih
    · rw [if_neg h]; exact ih
theorem rtL_bk (σ : BJ) (i : Nat) : jgBc (rtL σ i) = jgBc σ ∧ jgKc (rtL σ i) = jgKc σ := by
  induction i with
  | zero => exact ⟨rfl, rfl⟩
  | succ i ih =>
    show jgBc (rtS (rtL σ i) i) = _ ∧ jgKc (rtS (rtL σ i) i) = _
    rw [rtS]
    by_cases h : jgTB (rtL σ i) i = -1
    · rw [if_pos h]; exact ih
    · rw [if_neg h, (wR_keep _ _).2.2.1, (wR_keep _ _).2.2.2.1]; exact ih
theorem co2_bc (σ : BJ) : jgBc (co2 σ) = jgBc σ := (rtL_bk _ _).1.trans (rbL_keep _ _).1
theorem co2_kc (σ : BJ) : jgKc (co2 σ) = jgKc σ := (rtL_bk _ _).2.trans (rbL_kc _ _)
end
section
theorem dJ7_fillI_0 : decode cJ7_fillI 0 = .ok (.iconst 0, 1) := by decide +kernel
theorem dJ7_fillI_1 : decode cJ7_fillI 1 = .ok (.istore_n 2, 1) := by decide +kernel
theorem dJ7_fillI_2 : decode cJ7_fillI 2 = .ok (.aload_n 0, 1) := by decide +kernel
theorem dJ7_fillI_3 : decode cJ7_fillI 3 = .ok (.arraylength, 1) := by decide +kernel
theorem dJ7_fillI_4 : decode cJ7_fillI 4 = .ok (.istore_n 3, 1) := by decide +kernel
theorem dJ7_fillI_5 : decode cJ7_fillI 5 = .ok (.iload_n 2, 1) := by decide +kernel
theorem dJ7_fillI_6 : decode cJ7_fillI 6 = .ok (.iload_n 3, 1) := by decide +kernel
theorem dJ7_fillI_7 : decode cJ7_fillI 7 = .ok (.if_icmp .ge 13, 3) := by decide +kernel
theorem dJ7_fillI_10 : decode cJ7_fillI 10 = .ok (.aload_n 0, 1) := by decide +kernel
theorem dJ7_fillI_11 : decode cJ7_fillI 11 = .ok (.iload_n 2, 1) := by decide +kernel
theorem dJ7_fillI_12 : decode cJ7_fillI 12 = .ok (.iload_n 1, 1) := by decide +kernel
theorem dJ7_fillI_13 : decode cJ7_fillI 13 = .ok (.iastore, 1) := by decide +kernel
theorem dJ7_fillI_14 : decode cJ7_fillI 14 = .ok (.iinc 2 1, 3) := by decide +kernel
theorem dJ7_fillI_17 : decode cJ7_fillI 17 = .ok (.goto (-12), 3) := by decide +kernel
theorem dJ7_fillI_20 : decode cJ7_fillI 20 = .ok (.return_, 1) := by decide +kernel
theorem dJ7_fillJ_0 : decode cJ7_fillJ 0 = .ok (.iconst 0, 1) := by decide +kernel
theorem dJ7_fillJ_1 : decode cJ7_fillJ 1 = .ok (.istore_n 3, 1) := by decide +kernel
theorem dJ7_fillJ_2 : decode cJ7_fillJ 2 = .ok (.aload_n 0, 1) := by decide +kernel
theorem dJ7_fillJ_3 : decode cJ7_fillJ 3 = .ok (.arraylength, 1) := by decide +kernel
theorem dJ7_fillJ_4 : decode cJ7_fillJ 4 = .ok (.istore 4, 2) := by decide +kernel
theorem dJ7_fillJ_6 : decode cJ7_fillJ 6 = .ok (.iload_n 3, 1) := by decide +kernel
theorem dJ7_fillJ_7 : decode cJ7_fillJ 7 = .ok (.iload 4, 2) := by decide +kernel
theorem dJ7_fillJ_9 : decode cJ7_fillJ 9 = .ok (.if_icmp .ge 13, 3) := by decide +kernel
theorem dJ7_fillJ_12 : decode cJ7_fillJ 12 = .ok (.aload_n 0, 1) := by decide +kernel
theorem dJ7_fillJ_13 : decode cJ7_fillJ 13 = .ok (.iload_n 3, 1) := by decide +kernel
theorem dJ7_fillJ_14 : decode cJ7_fillJ 14 = .ok (.lload_n 1, 1) := by decide +kernel
theorem dJ7_fillJ_15 : decode cJ7_fillJ 15 = .ok (.lastore, 1) := by decide +kernel
theorem dJ7_fillJ_16 : decode cJ7_fillJ 16 = .ok (.iinc 3 1, 3) := by decide +kernel
theorem dJ7_fillJ_19 : decode cJ7_fillJ 19 = .ok (.goto (-13), 3) := by decide +kernel
theorem dJ7_fillJ_22 : decode cJ7_fillJ 22 = .ok (.return_, 1) := by decide +kernel
set_option maxRecDepth 100000 in
set_option maxHeartbeats 4000000 in
theorem c_fillI (l : Launch) (f : Nat → Int32) (N : Nat) (v : Int32) (hN : N < 2 ^ 31) (dC : Nat → ClassId) (dI : Nat → Nat → Nat) (cI : ClassId) (a sz : Nat) : Met l yJ7_fillI wsJ7_fillI ({ frames := 0, cells := 0, slots := 0, locals := 0 } : Room) (va_Pc [.ref a, .int v] (fun U => U.heap.size = sz ∧ va_P (dC, dI) vwCl [(a, .inl (cI, N, .inl f))] U.heap ∧ va_K (dC, dI) vwCl [(cI, .int)] U ∧ va_D (fun _ => True) [(a, .inl (cI, N, .inl f))])) (va_Qv (fun (_ : Unit) => True) (fun _ t => va_P (dC, dI) vwCl [(a, .inl (cI, N, .inl (flI f v N)))] t.heap ∧ va_D (va_A [(a, .inl (cI, N, .inl f))] sz) [(a, .inl (cI, N, .inl (flI f v N)))]) (va_A [(a, .inl (cI, N, .inl f))] sz)) 0 0 (va_A [(a, .inl (cI, N, .inl f))] sz) := by
  refine Met.ofW (cc := cJ7_fillI) (maxL := 4) (ret := none) (by decide) rfl ?_
  intro p e s m args below meth c s₁ B hml hv
  obtain ⟨rfl, hsz, hP, hK, hD0⟩ := hv
  have hx := B.exec
  have hb := B.bytes
  have hr := B.returns
  have hlocks := B.notSynchronized
  subst hsz
  have hD := hD0.self (sz := s.heap.size)
  generalize hAe : va_A [(a, .inl (cI, N, .inl f))] s.heap.size = A at hD ⊢
  have hS : va_S A s.heap s.heap [] := va_S.rf
  have hl := lv_entry [.ref a, .int v] (n := 4) (Nat.le_of_ble_eq_true rfl)
  rw [lg_entry_eq]
  generalize (lg_sl [.ref a, .int v] ++ List.replicate (4 - (lg_sl [.ref a, .int v]).length) Slot.unset).toArray = ls at hl ⊢
  have hl : lv_has ls 4 [(0, .ref a), (1, .int v)] := hl
  refine lv_iconst (v := nI 0) hx hb dJ7_fillI_0 (by decide) ?_
  refine lv_istore_n (lv' := [(2, .int (nI 0)), (0, .ref a), (1, .int v)]) hx hb dJ7_fillI_1 rfl hl (by decide) rfl (fun ls hl => ?_)
  refine lv_aload_n hx hb dJ7_fillI_2 rfl (lv_at hl 1 rfl) ?_
  refine va_alen (v := nI N) hx hb hK hP 0 0 rfl rfl rfl dJ7_fillI_3 ?_
  refine lv_istore_n (lv' := [(3, .int (nI N)), (2, .int (nI 0)), (0, .ref a), (1, .int v)]) hx hb dJ7_fillI_4 rfl hl (by decide) rfl (fun ls hl => ?_)
  have loop : ∀ (k i : Nat) (g : Nat → Int32), i ≤ N → N < i + k → g = flI f v i → ∀ (H : Heap) (locs : List Loc), va_P (dC, dI) vwCl [(a, .inl (cI, N, .inl g))] H → va_D A [(a, .inl (cI, N, .inl g))] → va_S A s.heap H locs → ∀ (ls : Array Slot), lv_has ls 4 [(2, .int (nI i)), (3, .int (nI N)), (0, .ref a), (1, .int v)] → W p l e (headSpec wsJ7_fillI ({ frames := 0, cells := 0, slots := 0, locals := 0 } : Room)).room s m ([.ref a, .int v].toArray) below meth c H locs 0 0 (MQ below (va_Qv (fun (_ : Unit) => True) (fun _ t => va_P (dC, dI) vwCl [(a, .inl (cI, N, .inl (flI f v N)))] t.heap ∧ va_D A [(a, .inl (cI, N, .inl (flI f v N)))]) A) ([.ref a, .int v].toArray) s 0 0 A) (F0 m 5 ls []) := by
    intro k
    induction k with
    | zero => intro i g h1 h2; exact absurd h2 (by omega)
    | succ k ih =>
      intro i g hi hin eg H locs hP hD hS ls hl
      refine lv_iload_n hx hb dJ7_fillI_5 rfl (lv_at hl 0 rfl) ?_
      refine lv_iload_n hx hb dJ7_fillI_6 rfl (lv_at hl 1 rfl) ?_
      refine xr_icmp_ge (tgt := 20) hx hb dJ7_fillI_7 (by decide) (by omega) (by omega) (fun c7 => ?_) (fun c7 => ?_)
      · have e9 : g = flI f v N := by rw [eg, show i = N by omega]
        rw [e9] at hP hD
        exact W.vret hx hb hr (fun t ht hW => ⟨⟨(), rfl, trivial, by rw [ht]; exact hP, hD⟩, hS.F ht⟩) hS.2.2 dJ7_fillI_20
      · refine lv_aload_n hx hb dJ7_fillI_10 rfl (lv_at hl 2 rfl) ?_
        refine lv_iload_n hx hb dJ7_fillI_11 rfl (lv_at hl 0 rfl) ?_
        refine lv_iload_n hx hb dJ7_fillI_12 rfl (lv_at hl 3 rfl) ?_
        refine xr_iast (f := g) (i := i) (x := v) hx hb hK hP hD hS 0 0 rfl rfl (by omega) hN dJ7_fillI_13 (fun H locs hP hD hS => ?_)
        have hP : va_P (dC, dI) vwCl [(a, .inl (cI, N, .inl (upd g i v)))] H := hP
        have hD : va_D A [(a, .inl (cI, N, .inl (upd g i v)))] := hD
        refine lv_iinc (v := nI (i + 1)) (lv' := [(2, .int (nI (i + 1))), (3, .int (nI N)), (0, .ref a), (1, .int v)]) hx hb dJ7_fillI_14 hl (k := 0) rfl (nI_add _ 1) (by decide) rfl (fun ls hl => ?_)
        refine lv_goto (tgt := 5) hx hb dJ7_fillI_17 (by decide) ?_
        exact ih (i + 1) _ (by omega) (by omega) (by rw [eg]; rfl) H locs hP hD hS ls (lv_sub hl [0, 1, 2, 3] rfl)
  exact loop (N + 1) 0 _ (by omega) (by omega) rfl _ _ hP hD hS ls (lv_sub hl [1, 0, 2, 3] rfl)
theorem xr_fillI {p : Program} {l : Launch} {e : Env} {R : Room} {s : State} {m : MethodId} {args : Array Value} {below : List Frame} {meth : Method} {c : Code} {H : Heap} {locs : List Loc} {cells slots : Nat} {Q : State → Prop} {cc : ByteArray} {pc nL index : Nat} {ls : Array Slot} {rest : List Value} {own : String} {dC : Nat → ClassId} {dI : Nat → Nat → Nat} {tys : List (ClassId × FieldType)} {ws : va_W} {A : Nat → Prop} {H0 : Heap}
    (S : CallFix p m c cc nL s args GW own) (hg : GoodIn GW (va_wsS own index yJ7_fillI wsJ7_fillI)) (hfr : 1 ≤ R.frames) (hlo : 8 + (4 + 11) ≤ R.locals) (hK : va_K (dC, dI) vwCl tys s) (hP : va_P (dC, dI) vwCl ws H) (hD : va_D A ws) (hS : va_S A H0 H locs) (hA : ∀ q, H0.size ≤ q → A q)
    (q t0 : Nat) {a : Nat} {cI : ClassId} {N : Nat} {f : Nat → Int32} {v : Int32} (ha : ws[q]? = some (a, .inl (cI, N, .inl f))) (ht0 : tys[t0]? = some (cI, .int)) (hN : N < 2 ^ 31) (hl : ls.size = nL) (hroom : (rest.map fun v => v.category).sum ≤ 8) (hdg : decode cc pc = .ok (.invokestatic index, 3)) (hc : cells ≤ R.cells) (hs : slots ≤ R.slots)
    (kk : ∀ (H1 : Heap) (locs1 : List Loc), va_P (dC, dI) vwCl (ws.set q (a, .inl (cI, N, .inl (flI f v N)))) H1 → va_D A (ws.set q (a, .inl (cI, N, .inl (flI f v N)))) → va_S A H0 H1 locs1 → W p l e R s m args below meth c H1 locs1 cells slots Q (F0 m (pc + 3) ls rest)) :
    W p l e R s m args below meth c H locs cells slots Q (F0 m pc ls (.int v :: .ref a :: rest)) := by
  have hz0 : q < ws.length := (List.getElem?_eq_some_iff.mp ha).1
  have hsub : [q].map (fun i => ws[i]?) = [(a, .inl (cI, N, .inl f))].map some := by simp only [List.map_cons, List.map_nil, ha]
  have hPc : va_P (dC, dI) vwCl [(a, .inl (cI, N, .inl f))] H := hP.sub [q] (by simp [List.filterMap, ha])
  have hDc : va_D A [(a, .inl (cI, N, .inl f))] := hD.sub [q] (by simp [va_nd]) hsub
  have hKc : va_K (dC, dI) vwCl [(cI, .int)] s := hK.sub [t0] (by simp [List.filterMap, ht0])
  have hFc := va_free (wc := [(a, .inl (cI, N, .inl f))]) hD hS hA [q] hsub
  refine va_callv (va_runS (As := [.ref a, .int v]) (rest := rest) S (c_fillI l f N v hN dC dI cI a H.size) (va_cwS 2 S.2.2.2.2 hg rfl rfl rfl (by decide +kernel) ⟨hfr, hlo⟩) ⟨fun a U g mk q => ⟨q.1, q.2.1, q.2.2.1, va_K.moved (u := U) (U := U.calling g mk a) (Vm.Alike.refl U.vm) q.2.2.2.1, q.2.2.2.2⟩, fun U hU hW => ⟨rfl, by rw [hU], by rw [hU]; exact hPc, va_K.moved hW.alike hKc, hDc.weaken (fun _ _ _ _ => trivial)⟩⟩ rfl rfl hl rfl (lv_room hroom) hdg ⟨hc, hs⟩) hS (fun q _ h => hFc q h) hFc (fun u t H1 locs1 ht hvm hw hB hz1 hk1 hS1 => ?_)
  obtain ⟨hP1, hD1⟩ := hB
  rw [ht] at hP1
  refine kk H1 locs1 (fun k x hx => ?_) (hD.set ha) hS1
  by_cases hkq : k = q
  · subst hkq
    rw [List.getElem?_set_self hz0] at hx
    cases hx
    exact hP1 0 _ rfl
  · rw [List.getElem?_set_ne (Ne.symm hkq)] at hx
    refine (hP k x hx).kept (hk1 x.1 (hP k x hx).lt (fun h9 => ?_))
    rcases h9 with ⟨k2, e2, h9⟩ | h9
    · have h10 : k2 = 0 := by
        cases k2 with
        | zero => rfl
        | succ k2 => simp at h9
      subst h10
      cases h9
      exact hkq (hD.1 k q x _ hx ha rfl)
    · exact absurd (hP k x hx).lt (Nat.not_lt.mpr h9)
set_option maxRecDepth 100000 in
set_option maxHeartbeats 4000000 in
theorem c_fillJ (l : Launch) (f : Nat → Int64) (N : Nat) (v : Int64) (hN : N < 2 ^ 31) (dC : Nat → ClassId) (dI : Nat → Nat → Nat) (cI : ClassId) (a sz : Nat) : Met l yJ7_fillJ wsJ7_fillJ ({ frames := 0, cells := 0, slots := 0, locals := 0 } : Room) (va_Pc [.ref a, .long v] (fun U => U.heap.size = sz ∧ va_P (dC, dI) vwCl [(a, .inl (cI, N, .inr (.inl f)))] U.heap ∧ va_K (dC, dI) vwCl [(cI, .long)] U ∧ va_D (fun _ => True) [(a, .inl (cI, N, .inr (.inl f)))])) (va_Qv (fun (_ : Unit) => True) (fun _ t => va_P (dC, dI) vwCl [(a, .inl (cI, N, .inr (.inl (flJ f v N))))] t.heap ∧ va_D (va_A [(a, .inl (cI, N, .inr (.inl f)))] sz) [(a, .inl (cI, N, .inr (.inl (flJ f v N))))]) (va_A [(a, .inl (cI, N, .inr (.inl f)))] sz)) 0 0 (va_A [(a, .inl (cI, N, .inr (.inl f)))] sz) := by
  refine Met.ofW (cc := cJ7_fillJ) (maxL := 5) (ret := none) (by decide) rfl ?_
  intro p e s m args below meth c s₁ B hml hv
  obtain ⟨rfl, hsz, hP, hK, hD0⟩ := hv
  have hx := B.exec
  have hb := B.bytes
  have hr := B.returns
  have hlocks := B.notSynchronized
  subst hsz
  have hD := hD0.self (sz := s.heap.size)
  generalize hAe : va_A [(a, .inl (cI, N, .inr (.inl f)))] s.heap.size = A at hD ⊢
  have hS : va_S A s.heap s.heap [] := va_S.rf
  have hl := lv_entry [.ref a, .long v] (n := 5) (Nat.le_of_ble_eq_true rfl)
  rw [lg_entry_eq]
  generalize (lg_sl [.ref a, .long v] ++ List.replicate (5 - (lg_sl [.ref a, .long v]).length) Slot.unset).toArray = ls at hl ⊢
  have hl : lv_has ls 5 [(0, .ref a), (1, .long v)] := hl
  refine lv_iconst (v := nI 0) hx hb dJ7_fillJ_0 (by decide) ?_
  refine lv_istore_n (lv' := [(3, .int (nI 0)), (0, .ref a), (1, .long v)]) hx hb dJ7_fillJ_1 rfl hl (by decide) rfl (fun ls hl => ?_)
  refine lv_aload_n hx hb dJ7_fillJ_2 rfl (lv_at hl 1 rfl) ?_
  refine va_alen (v := nI N) hx hb hK hP 0 0 rfl rfl rfl dJ7_fillJ_3 ?_
  refine lv_istore (lv' := [(4, .int (nI N)), (3, .int (nI 0)), (0, .ref a), (1, .long v)]) hx hb dJ7_fillJ_4 hl (by decide) rfl (fun ls hl => ?_)
  have loop : ∀ (k i : Nat) (g : Nat → Int64), i ≤ N → N < i + k → g = flJ f v i → ∀ (H : Heap) (locs : List Loc), va_P (dC, dI) vwCl [(a, .inl (cI, N, .inr (.inl g)))] H → va_D A [(a, .inl (cI, N, .inr (.inl g)))] → va_S A s.heap H locs → ∀ (ls : Array Slot), lv_has ls 5 [(3, .int (nI i)), (4, .int (nI N)), (0, .ref a), (1, .long v)] → W p l e (headSpec wsJ7_fillJ ({ frames := 0, cells := 0, slots := 0, locals := 0 } : Room)).room s m ([.ref a, .long v].toArray) below meth c H locs 0 0 (MQ below (va_Qv (fun (_ : Unit) => True) (fun _ t => va_P (dC, dI) vwCl [(a, .inl (cI, N, .inr (.inl (flJ f v N))))] t.heap ∧ va_D A [(a, .inl (cI, N, .inr (.inl (flJ f v N))))]) A) ([.ref a, .long v].toArray) s 0 0 A) (F0 m 6 ls []) := by
    intro k
    induction k with
    | zero => intro i g h1 h2; exact absurd h2 (by omega)
    | succ k ih =>
      intro i g hi hin eg H locs hP hD hS ls hl
      refine lv_iload_n hx hb dJ7_fillJ_6 rfl (lv_at hl 0 rfl) ?_
      refine lv_iload hx hb dJ7_fillJ_7 (lv_at hl 1 rfl) ?_
      refine xr_icmp_ge (tgt := 22) hx hb dJ7_fillJ_9 (by decide) (by omega) (by omega) (fun c9 => ?_) (fun c9 => ?_)
      · have e9 : g = flJ f v N := by rw [eg, show i = N by omega]
        rw [e9] at hP hD
        exact W.vret hx hb hr (fun t ht hW => ⟨⟨(), rfl, trivial, by rw [ht]; exact hP, hD⟩, hS.F ht⟩) hS.2.2 dJ7_fillJ_22
      · refine lv_aload_n hx hb dJ7_fillJ_12 rfl (lv_at hl 2 rfl) ?_
        refine lv_iload_n hx hb dJ7_fillJ_13 rfl (lv_at hl 0 rfl) ?_
        refine lv_lload_n hx hb dJ7_fillJ_14 rfl (lv_at hl 3 rfl) ?_
        refine xr_last (f := g) (i := i) (x := v) hx hb hK hP hD hS 0 0 rfl rfl (by omega) hN dJ7_fillJ_15 (fun H locs hP hD hS => ?_)
        have hP : va_P (dC, dI) vwCl [(a, .inl (cI, N, .inr (.inl (vp_updL g i v))))] H := hP
        have hD : va_D A [(a, .inl (cI, N, .inr (.inl (vp_updL g i v))))] := hD
        refine lv_iinc (v := nI (i + 1)) (lv' := [(3, .int (nI (i + 1))), (4, .int (nI N)), (0, .ref a), (1, .long v)]) hx hb dJ7_fillJ_16 hl (k := 0) rfl (nI_add _ 1) (by decide) rfl (fun ls hl => ?_)
        refine lv_goto (tgt := 6) hx hb dJ7_fillJ_19 (by decide) ?_
        exact ih (i + 1) _ (by omega) (by omega) (by rw [eg]; rfl) H locs hP hD hS ls (lv_sub hl [0, 1, 2, 3] rfl)
  exact loop (N + 1) 0 _ (by omega) (by omega) rfl _ _ hP hD hS ls (lv_sub hl [1, 0, 2, 3] rfl)
theorem xr_fillJ {p : Program} {l : Launch} {e : Env} {R : Room} {s : State} {m : MethodId} {args : Array Value} {below : List Frame} {meth : Method} {c : Code} {H : Heap} {locs : List Loc} {cells slots : Nat} {Q : State → Prop} {cc : ByteArray} {pc nL index : Nat} {ls : Array Slot} {rest : List Value} {own : String} {dC : Nat → ClassId} {dI : Nat → Nat → Nat} {tys : List (ClassId × FieldType)} {ws : va_W} {A : Nat → Prop} {H0 : Heap}
    (S : CallFix p m c cc nL s args GW own) (hg : GoodIn GW (va_wsS own index yJ7_fillJ wsJ7_fillJ)) (hfr : 1 ≤ R.frames) (hlo : 8 + (5 + 11) ≤ R.locals) (hK : va_K (dC, dI) vwCl tys s) (hP : va_P (dC, dI) vwCl ws H) (hD : va_D A ws) (hS : va_S A H0 H locs) (hA : ∀ q, H0.size ≤ q → A q)
    (q t0 : Nat) {a : Nat} {cI : ClassId} {N : Nat} {f : Nat → Int64} {v : Int64} (ha : ws[q]? = some (a, .inl (cI, N, .inr (.inl f)))) (ht0 : tys[t0]? = some (cI, .long)) (hN : N < 2 ^ 31) (hl : ls.size = nL) (hroom : (rest.map fun v => v.category).sum ≤ 8) (hdg : decode cc pc = .ok (.invokestatic index, 3)) (hc : cells ≤ R.cells) (hs : slots ≤ R.slots)
    (kk : ∀ (H1 : Heap) (locs1 : List Loc), va_P (dC, dI) vwCl (ws.set q (a, .inl (cI, N, .inr (.inl (flJ f v N))))) H1 → va_D A (ws.set q (a, .inl (cI, N, .inr (.inl (flJ f v N))))) → va_S A H0 H1 locs1 → W p l e R s m args below meth c H1 locs1 cells slots Q (F0 m (pc + 3) ls rest)) :
    W p l e R s m args below meth c H locs cells slots Q (F0 m pc ls (.long v :: .ref a :: rest)) := by
  have hz0 : q < ws.length := (List.getElem?_eq_some_iff.mp ha).1
  have hsub : [q].map (fun i => ws[i]?) = [(a, .inl (cI, N, .inr (.inl f)))].map some := by simp only [List.map_cons, List.map_nil, ha]
  have hPc : va_P (dC, dI) vwCl [(a, .inl (cI, N, .inr (.inl f)))] H := hP.sub [q] (by simp [List.filterMap, ha])
  have hDc : va_D A [(a, .inl (cI, N, .inr (.inl f)))] := hD.sub [q] (by simp [va_nd]) hsub
  have hKc : va_K (dC, dI) vwCl [(cI, .long)] s := hK.sub [t0] (by simp [List.filterMap, ht0])
  have hFc := va_free (wc := [(a, .inl (cI, N, .inr (.inl f)))]) hD hS hA [q] hsub
  refine va_callv (va_runS (As := [.ref a, .long v]) (rest := rest) S (c_fillJ l f N v hN dC dI cI a H.size) (va_cwS 2 S.2.2.2.2 hg rfl rfl rfl (by decide +kernel) ⟨hfr, hlo⟩) ⟨fun a U g mk q => ⟨q.1, q.2.1, q.2.2.1, va_K.moved (u := U) (U := U.calling g mk a) (Vm.Alike.refl U.vm) q.2.2.2.1, q.2.2.2.2⟩, fun U hU hW => ⟨rfl, by rw [hU], by rw [hU]; exact hPc, va_K.moved hW.alike hKc, hDc.weaken (fun _ _ _ _ => trivial)⟩⟩ rfl rfl hl rfl (lv_room hroom) hdg ⟨hc, hs⟩) hS (fun q _ h => hFc q h) hFc (fun u t H1 locs1 ht hvm hw hB hz1 hk1 hS1 => ?_)
  obtain ⟨hP1, hD1⟩ := hB
  rw [ht] at hP1
  refine kk H1 locs1 (fun k x hx => ?_) (hD.set ha) hS1
  by_cases hkq : k = q
  · subst hkq
    rw [List.getElem?_set_self hz0] at hx
    cases hx
    exact hP1 0 _ rfl
  · rw [List.getElem?_set_ne (Ne.symm hkq)] at hx
    refine (hP k x hx).kept (hk1 x.1 (hP k x hx).lt (fun h9 => ?_))
    rcases h9 with ⟨k2, e2, h9⟩ | h9
    · have h10 : k2 = 0 := by
        cases k2 with
        | zero => rfl
        | succ k2 => simp at h9
      subst h10
      cases h9
      exact hkq (hD.1 k q x _ hx ha rfl)
    · exact absurd (hP k x hx).lt (Nat.not_lt.mpr h9)
end
section
set_option maxRecDepth 100000 in
set_option maxHeartbeats 4000000 in
theorem c_isTag (l : Launch) (t : Int32) (dC : Nat → ClassId) (dI : Nat → Nat → Nat) (cI : ClassId) (a sz : Nat) : Met l yX0_isTag wsX0_isTag ({ frames := 0, cells := 0, slots := 0, locals := 0 } : Room) (va_Pc [.int t] (fun U => U.heap.size = sz)) (va_Qi (fun (r' : Int32) (_ : Unit) => r' = (bI (isTg t))) (fun _ _ => True) (fun q => sz ≤ q)) 0 0 (fun q => sz ≤ q) := by
  refine Met.ofW (cc := cX0_isTag) (maxL := 1) (ret := (some .boolean)) (by decide) rfl ?_
  intro p e s m args below meth c s₁ B hml hv
  obtain ⟨rfl, hsz⟩ := hv
  have hx := B.exec
  have hb := B.bytes
  have hr := B.returns
  have hts := atoms_spec (ws := wsX0_isTag) B.pre
  have hown : s.vm.findClass RX0 = some m.cls := findClass_of_methodNamed B.named
  have htg : ∀ w ∈ GW, w.before _ s = true := fun w h => hts w (List.mem_cons_of_mem _ h)
  have hlocks := B.notSynchronized
  subst hsz
  have hA : ∀ q : Nat, s.heap.size ≤ q → (fun q => s.heap.size ≤ q) q := fun _ h => h
  have hS : va_S (fun q => s.heap.size ≤ q) s.heap s.heap [] := va_S.rf
  have hl := lv_entry [.int t] (n := 1) (Nat.le_of_ble_eq_true rfl)
  rw [lg_entry_eq]
  generalize (lg_sl [.int t] ++ List.replicate (1 - (lg_sl [.int t]).length) Slot.unset).toArray = ls at hl ⊢
  have hl : lv_has ls 1 [(0, .int t)] := hl
  refine lv_iload_n hx hb dX0_isTag_0 rfl (lv_at hl 0 rfl) ?_
  refine lv_if_lt (tgt := 14) hx hb dX0_isTag_1 (by decide) (fun c1 => ?_) (fun c1 => ?_)
  · refine lv_iconst (v := nI 0) hx hb dX0_isTag_14 (by decide) ?_
    exact W.zret (ty := .boolean) (v := nI 0) hx hb hr (by first | rfl | decide) (fun t ht hW => ⟨⟨_, (), rfl, isTg_no (by first | exact Or.inl c1 | exact Or.inr c7), trivial⟩, hS.F ht⟩) hS.2.2 dX0_isTag_15
  · refine lv_iload_n hx hb dX0_isTag_4 rfl (lv_at hl 0 rfl) ?_
    refine lv_bipush (v := nI 8) hx hb dX0_isTag_5 (by decide) ?_
    refine lv_icmp_ge (tgt := 14) hx hb dX0_isTag_7 (by decide) (fun c7 => ?_) (fun c7 => ?_)
    · refine lv_iconst (v := nI 0) hx hb dX0_isTag_14 (by decide) ?_
      exact W.zret (ty := .boolean) (v := nI 0) hx hb hr (by first | rfl | decide) (fun t ht hW => ⟨⟨_, (), rfl, isTg_no (by first | exact Or.inl c1 | exact Or.inr c7), trivial⟩, hS.F ht⟩) hS.2.2 dX0_isTag_15
    · refine lv_iconst (v := nI 1) hx hb dX0_isTag_10 (by decide) ?_
      refine lv_goto (tgt := 15) hx hb dX0_isTag_11 (by decide) ?_
      exact W.zret (ty := .boolean) (v := nI 1) hx hb hr (by first | rfl | decide) (fun t ht hW => ⟨⟨_, (), rfl, by rw [isTg, decide_eq_true c1, decide_eq_true c7]; rfl, trivial⟩, hS.F ht⟩) hS.2.2 dX0_isTag_15
set_option maxRecDepth 100000 in
set_option maxHeartbeats 4000000 in
theorem c_digestOf (l : Launch) (f : Nat → Int32) (N : Nat) (st : Nat) (n : Nat) (hn : st + n ≤ N) (hN : N < 2 ^ 31) (dC : Nat → ClassId) (dI : Nat → Nat → Nat) (cI : ClassId) (a sz : Nat) : Met l yX0_digestOf wsX0_digestOf ({ frames := 0, cells := 0, slots := 0, locals := 0 } : Room) (va_Pc [.ref a, .int (nI st), .int (nI n)] (fun U => U.heap.size = sz ∧ va_P (dC, dI) vwCl [(a, .inl (cI, N, .inl f))] U.heap ∧ va_K (dC, dI) vwCl [(cI, .int)] U)) (va_Ql (fun (r' : Int64) (_ : Unit) => r' = (dg f st n)) (fun _ _ => True) (fun q => sz ≤ q)) 0 0 (fun q => sz ≤ q) := by
  refine Met.ofW (cc := cX0_digestOf) (maxL := 6) (ret := (some .long)) (by decide) rfl ?_
  intro p e s m args below meth c s₁ B hml hv
  obtain ⟨rfl, hsz, hP, hK⟩ := hv
  have hx := B.exec
  have hb := B.bytes
  have hr := B.returns
  have hts := atoms_spec (ws := wsX0_digestOf) B.pre
  have hown : s.vm.findClass RX0 = some m.cls := findClass_of_methodNamed B.named
  have htg : ∀ w ∈ GW, w.before _ s = true := fun w h => hts w (List.mem_cons_of_mem _ h)
  have hlocks := B.notSynchronized
  subst hsz
  have hA : ∀ q : Nat, s.heap.size ≤ q → (fun q => s.heap.size ≤ q) q := fun _ h => h
  have hS : va_S (fun q => s.heap.size ≤ q) s.heap s.heap [] := va_S.rf
  have hl := lv_entry [.ref a, .int (nI st), .int (nI n)] (n := 6) (Nat.le_of_ble_eq_true rfl)
  rw [lg_entry_eq]
  generalize (lg_sl [.ref a, .int (nI st), .int (nI n)] ++ List.replicate (6 - (lg_sl [.ref a, .int (nI st), .int (nI n)]).length) Slot.unset).toArray = ls at hl ⊢
  have hl : lv_has ls 6 [(0, .ref a), (1, .int (nI st)), (2, .int (nI n))] := hl
  refine lv_ldc2 hx hb hown (htg _ qX0_151) dX0_digestOf_0 ?_
  refine lv_lstore_n (lv' := [(3, .long (-7046029254386353131)), (0, .ref a), (1, .int (nI st)), (2, .int (nI n))]) hx hb dX0_digestOf_3 rfl hl (by decide) rfl (fun ls hl => ?_)
  refine lv_iload_n hx hb dX0_digestOf_4 rfl (lv_at hl 2 rfl) ?_
  refine lv_istore (lv' := [(5, .int (nI st)), (3, .long (-7046029254386353131)), (0, .ref a), (1, .int (nI st)), (2, .int (nI n))]) hx hb dX0_digestOf_5 hl (by decide) rfl (fun ls hl => ?_)
  have loop : ∀ (k i : Nat) (x : Int64), i ≤ n → n < i + k → x = dgL f st i → ∀ (H : Heap) (locs : List Loc), va_P (dC, dI) vwCl [(a, .inl (cI, N, .inl f))] H → va_S (fun q => s.heap.size ≤ q) s.heap H locs → ∀ (ls : Array Slot), lv_has ls 6 [(5, .int (nI (st + i))), (3, .long x), (0, .ref a), (1, .int (nI st)), (2, .int (nI n))] → W p l e (headSpec wsX0_digestOf ({ frames := 0, cells := 0, slots := 0, locals := 0 } : Room)).room s m ([.ref a, .int (nI st), .int (nI n)].toArray) below meth c H locs 0 0 (MQ below (va_Ql (fun (r' : Int64) (_ : Unit) => r' = (dg f st n)) (fun _ _ => True) (fun q => s.heap.size ≤ q)) ([.ref a, .int (nI st), .int (nI n)].toArray) s 0 0 (fun q => s.heap.size ≤ q)) (F0 m 7 ls []) := by
    intro k
    induction k with
    | zero => intro i x h1 h2; exact absurd h2 (by omega)
    | succ k ih =>
      intro i x hi hin e3 H locs hP hS ls hl
      refine lv_iload hx hb dX0_digestOf_7 (lv_at hl 0 rfl) ?_
      refine lv_iload_n hx hb dX0_digestOf_9 rfl (lv_at hl 3 rfl) ?_
      refine lv_iload_n hx hb dX0_digestOf_10 rfl (lv_at hl 4 rfl) ?_
      refine xr_iadd hx hb dX0_digestOf_11 ?_
      refine xr_icmp_ge (tgt := 33) hx hb dX0_digestOf_12 (by decide) (by omega) (by omega) (fun c12 => ?_) (fun c12 => ?_)
      · refine lv_lload_n hx hb dX0_digestOf_33 rfl (lv_at hl 1 rfl) ?_
        refine lv_iload_n hx hb dX0_digestOf_34 rfl (lv_at hl 4 rfl) ?_
        refine lv_i2l (v := (nI n).toInt64) hx hb dX0_digestOf_35 rfl ?_
        refine lv_lxor hx hb dX0_digestOf_36 ?_
        refine lv_ldc2 hx hb hown (htg _ qX0_155) dX0_digestOf_37 ?_
        refine lv_lmul hx hb dX0_digestOf_40 ?_
        refine lv_lstore_n (lv' := [(3, .long ((x ^^^ ((nI n).toInt64)) * (-2960836687156293229))), (5, .int (nI (st + i))), (0, .ref a), (1, .int (nI st)), (2, .int (nI n))]) hx hb dX0_digestOf_41 rfl hl (by decide) rfl (fun ls hl => ?_)
        refine lv_lload_n hx hb dX0_digestOf_42 rfl (lv_at hl 0 rfl) ?_
        refine lv_lload_n hx hb dX0_digestOf_43 rfl (lv_at hl 0 rfl) ?_
        refine lv_bipush (v := nI 32) hx hb dX0_digestOf_44 (by decide) ?_
        refine lv_lushr (v := ((((x ^^^ ((nI n).toInt64)) * (-2960836687156293229))).toUInt64 >>> (((nI 32)).toInt64.toUInt64 &&& Int64.toUInt64 63)).toInt64) hx hb dX0_digestOf_46 rfl ?_
        refine lv_lxor hx hb dX0_digestOf_47 ?_
        exact W.lret (v := ((x ^^^ ((nI n).toInt64)) * (-2960836687156293229)) ^^^ (((((x ^^^ ((nI n).toInt64)) * (-2960836687156293229))).toUInt64 >>> (((nI 32)).toInt64.toUInt64 &&& Int64.toUInt64 63)).toInt64)) hx hb hr (fun t ht hW => ⟨⟨_, (), rfl, by rw [e3, show i = n by omega]; rfl, trivial⟩, hS.F ht⟩) hS.2.2 dX0_digestOf_48
      · refine lv_lload_n hx hb dX0_digestOf_15 rfl (lv_at hl 1 rfl) ?_
        refine lv_aload_n hx hb dX0_digestOf_16 rfl (lv_at hl 2 rfl) ?_
        refine lv_iload hx hb dX0_digestOf_17 (lv_at hl 0 rfl) ?_
        refine xr_iald (f := f) (i := st + i) hx hb hK hP 0 0 rfl rfl (by omega) hN dX0_digestOf_19 ?_
        refine lv_i2l (v := (f (st + i)).toInt64) hx hb dX0_digestOf_20 rfl ?_
        refine lv_lxor hx hb dX0_digestOf_21 ?_
        refine lv_ldc2 hx hb hown (htg _ qX0_153) dX0_digestOf_22 ?_
        refine lv_lmul hx hb dX0_digestOf_25 ?_
        refine lv_lstore_n (lv' := [(3, .long ((x ^^^ ((f (st + i)).toInt64)) * 1099511628211)), (5, .int (nI (st + i))), (0, .ref a), (1, .int (nI st)), (2, .int (nI n))]) hx hb dX0_digestOf_26 rfl hl (by decide) rfl (fun ls hl => ?_)
        refine lv_iinc (v := nI (st + i + 1)) (lv' := [(5, .int (nI (st + i + 1))), (3, .long ((x ^^^ ((f (st + i)).toInt64)) * 1099511628211)), (0, .ref a), (1, .int (nI st)), (2, .int (nI n))]) hx hb dX0_digestOf_27 hl (k := 1) rfl (nI_add _ 1) (by decide) rfl (fun ls hl => ?_)
        refine lv_goto (tgt := 7) hx hb dX0_digestOf_30 (by decide) ?_
        exact ih (i + 1) ((x ^^^ ((f (st + i)).toInt64)) * 1099511628211) (by omega) (by omega) (by rw [e3]; rfl) H locs hP hS ls (lv_sub hl [0, 1, 2, 3, 4] rfl)
  exact loop (n + 1) 0 _ (by omega) (by omega) rfl _ _ hP hS ls (lv_sub hl [0, 1, 2, 3, 4] rfl)
set_option maxRecDepth 100000 in
set_option maxHeartbeats 4000000 in
theorem c_findBlob (l : Launch) (σ : BJ) (d : Int64) (hc : jgBc σ ≤ 20) : rBi l yX0_findBlob wsX0_findBlob ({ frames := 0, cells := 0, slots := 0, locals := 0 } : Room) σ [.long d] (optI (fnd (jgBD σ) d (jgBc σ))) := by
  intro dC dI cI cJ h sz
  refine Met.ofW (cc := cX0_findBlob) (maxL := 4) (ret := (some .int)) (by decide) rfl ?_
  intro p e s m args below meth c s₁ B hml hv
  obtain ⟨rfl, hsz, hP, hK, hD0⟩ := hv
  have hx := B.exec
  have hb := B.bytes
  have hr := B.returns
  have hts := atoms_spec (ws := wsX0_findBlob) B.pre
  have hown : s.vm.findClass RX0 = some m.cls := findClass_of_methodNamed B.named
  have hlocks := B.notSynchronized
  subst hsz
  have htg : ∀ w ∈ GW, w.before _ s = true := fun w h => hts w (List.mem_cons_of_mem _ h)
  have hD := hD0
  have hA : ∀ q : Nat, s.heap.size ≤ q → (fun q => s.heap.size ≤ q) q := fun _ h => h
  have hS : va_S (fun q => s.heap.size ≤ q) s.heap s.heap [] := va_S.rf
  have hl := lv_entry [.ref (h 0), .long d] (n := 4) (Nat.le_of_ble_eq_true rfl)
  rw [lg_entry_eq]
  generalize (lg_sl [.ref (h 0), .long d] ++ List.replicate (4 - (lg_sl [.ref (h 0), .long d]).length) Slot.unset).toArray = ls at hl ⊢
  have hl : lv_has ls 4 [(0, .ref (h 0)), (1, .long d)] := hl
  have hP : va_P (dC, dI) vwCl (wBJ cI cJ h σ) s.heap := hP
  refine lv_iconst (v := nI 0) hx hb dX0_findBlob_0 (by decide) ?_
  refine lv_istore_n (lv' := [(3, .int (nI 0)), (0, .ref (h 0)), (1, .long d)]) hx hb dX0_findBlob_1 rfl hl (by decide) rfl (fun ls hl => ?_)
  have loop : ∀ (n i : Nat), i ≤ jgBc σ → jgBc σ < i + n → fnd (jgBD σ) d i = none → ∀ (H : Heap) (locs : List Loc), va_P (dC, dI) vwCl (wBJ cI cJ h σ) H → va_S (fun q => s.heap.size ≤ q) s.heap H locs → ∀ (ls : Array Slot), lv_has ls 4 [(3, .int (nI i)), (0, .ref (h 0)), (1, .long d)] → W p l e (headSpec wsX0_findBlob ({ frames := 0, cells := 0, slots := 0, locals := 0 } : Room)).room s m ([.ref (h 0), .long d].toArray) below meth c H locs 0 0 (MQ below (va_Qi (fun (r' : Int32) (_ : Unit) => r' = (optI (fnd (jgBD σ) d (jgBc σ)))) (fun _ _ => True) (fun q => s.heap.size ≤ q)) ([.ref (h 0), .long d].toArray) s 0 0 (fun q => s.heap.size ≤ q)) (F0 m 2 ls []) := by
    intro n
    induction n with
    | zero => intro i h1 h2; exact absurd h2 (by omega)
    | succ n ih =>
      intro i hi hin h0 H locs hP hS ls hl
      refine lv_iload_n hx hb dX0_findBlob_2 rfl (lv_at hl 0 rfl) ?_
      refine lv_aload_n hx hb dX0_findBlob_3 rfl (lv_at hl 1 rfl) ?_
      refine va_get (D := (dC, dI)) (ci := 0) (v := .int (nI (jgBc σ))) (C := RX0) (T := TX0) (N := 14) hx hb htg inX0 (fs := fsBJ h σ) hown hK hP 0 rfl rfl 8 (by decide) (htg _ fX0_68) (fun _ h9 => h9) rfl dX0_findBlob_4 ?_
      refine xr_icmp_ge (tgt := 29) hx hb dX0_findBlob_7 (by decide) (by omega) (by omega) (fun c7 => ?_) (fun c7 => ?_)
      · refine lv_iconst (v := -1) hx hb dX0_findBlob_29 (by decide) ?_
        exact W.iret (v := -1) hx hb hr (fun t ht hW => ⟨⟨_, (), rfl, by rw [← show i = jgBc σ by omega, h0]; rfl, trivial⟩, hS.F ht⟩) hS.2.2 dX0_findBlob_30
      · refine lv_aload_n hx hb dX0_findBlob_10 rfl (lv_at hl 1 rfl) ?_
        refine va_get (D := (dC, dI)) (ci := 0) (v := .ref (h 3)) (C := RX0) (T := TX0) (N := 14) hx hb htg inX0 (fs := fsBJ h σ) hown hK hP 0 rfl rfl 5 (by decide) (htg _ fX0_16) (fun _ h9 => h9) rfl dX0_findBlob_11 ?_
        refine lv_iload_n hx hb dX0_findBlob_14 rfl (lv_at hl 0 rfl) ?_
        refine xr_lald (f := jgBD σ) (i := i) hx hb hK hP 3 1 rfl rfl (by omega) (by decide) dX0_findBlob_15 ?_
        refine lv_lload_n hx hb dX0_findBlob_16 rfl (lv_at hl 2 rfl) ?_
        refine xr_lcmp_ne (tgt := 23) hx hb dX0_findBlob_17 dX0_findBlob_18 (by decide) (fun c17 => ?_) (fun c17 => ?_)
        · refine lv_iinc (v := nI (i + 1)) (lv' := [(3, .int (nI (i + 1))), (0, .ref (h 0)), (1, .long d)]) hx hb dX0_findBlob_23 hl (k := 0) rfl (nI_add _ 1) (by decide) rfl (fun ls hl => ?_)
          refine lv_goto (tgt := 2) hx hb dX0_findBlob_26 (by decide) ?_
          exact ih (i + 1) (by omega) (by omega) (fnd_miss h0 c17) H locs hP hS ls (lv_sub hl [0, 1, 2] rfl)
        · refine lv_iload_n hx hb dX0_findBlob_21 rfl (lv_at hl 0 rfl) ?_
          exact W.iret (v := nI i) hx hb hr (fun t ht hW => ⟨⟨_, (), rfl, by rw [fnd_hit h0 c17 c7]; rfl, trivial⟩, hS.F ht⟩) hS.2.2 dX0_findBlob_22
  exact loop (jgBc σ + 1) 0 (by omega) (by omega) (rfl) _ _ hP hS ls (lv_sub hl [0, 1, 2] rfl)
set_option maxRecDepth 100000 in
set_option maxHeartbeats 4000000 in
theorem c_findKey (l : Launch) (σ : BJ) (d : Int64) (hc : jgKc σ ≤ 16) : rBi l yX0_findKey wsX0_findKey ({ frames := 0, cells := 0, slots := 0, locals := 0 } : Room) σ [.long d] (optI (fnd (jgKS σ) d (jgKc σ))) := by
  intro dC dI cI cJ h sz
  refine Met.ofW (cc := cX0_findKey) (maxL := 4) (ret := (some .int)) (by decide) rfl ?_
  intro p e s m args below meth c s₁ B hml hv
  obtain ⟨rfl, hsz, hP, hK, hD0⟩ := hv
  have hx := B.exec
  have hb := B.bytes
  have hr := B.returns
  have hts := atoms_spec (ws := wsX0_findKey) B.pre
  have hown : s.vm.findClass RX0 = some m.cls := findClass_of_methodNamed B.named
  have hlocks := B.notSynchronized
  subst hsz
  have htg : ∀ w ∈ GW, w.before _ s = true := fun w h => hts w (List.mem_cons_of_mem _ h)
  have hD := hD0
  have hA : ∀ q : Nat, s.heap.size ≤ q → (fun q => s.heap.size ≤ q) q := fun _ h => h
  have hS : va_S (fun q => s.heap.size ≤ q) s.heap s.heap [] := va_S.rf
  have hl := lv_entry [.ref (h 0), .long d] (n := 4) (Nat.le_of_ble_eq_true rfl)
  rw [lg_entry_eq]
  generalize (lg_sl [.ref (h 0), .long d] ++ List.replicate (4 - (lg_sl [.ref (h 0), .long d]).length) Slot.unset).toArray = ls at hl ⊢
  have hl : lv_has ls 4 [(0, .ref (h 0)), (1, .long d)] := hl
  have hP : va_P (dC, dI) vwCl (wBJ cI cJ h σ) s.heap := hP
  refine lv_iconst (v := nI 0) hx hb dX0_findKey_0 (by decide) ?_
  refine lv_istore_n (lv' := [(3, .int (nI 0)), (0, .ref (h 0)), (1, .long d)]) hx hb dX0_findKey_1 rfl hl (by decide) rfl (fun ls hl => ?_)
  have loop : ∀ (n i : Nat), i ≤ jgKc σ → jgKc σ < i + n → fnd (jgKS σ) d i = none → ∀ (H : Heap) (locs : List Loc), va_P (dC, dI) vwCl (wBJ cI cJ h σ) H → va_S (fun q => s.heap.size ≤ q) s.heap H locs → ∀ (ls : Array Slot), lv_has ls 4 [(3, .int (nI i)), (0, .ref (h 0)), (1, .long d)] → W p l e (headSpec wsX0_findKey ({ frames := 0, cells := 0, slots := 0, locals := 0 } : Room)).room s m ([.ref (h 0), .long d].toArray) below meth c H locs 0 0 (MQ below (va_Qi (fun (r' : Int32) (_ : Unit) => r' = (optI (fnd (jgKS σ) d (jgKc σ)))) (fun _ _ => True) (fun q => s.heap.size ≤ q)) ([.ref (h 0), .long d].toArray) s 0 0 (fun q => s.heap.size ≤ q)) (F0 m 2 ls []) := by
    intro n
    induction n with
    | zero => intro i h1 h2; exact absurd h2 (by omega)
    | succ n ih =>
      intro i hi hin h0 H locs hP hS ls hl
      refine lv_iload_n hx hb dX0_findKey_2 rfl (lv_at hl 0 rfl) ?_
      refine lv_aload_n hx hb dX0_findKey_3 rfl (lv_at hl 1 rfl) ?_
      refine va_get (D := (dC, dI)) (ci := 0) (v := .int (nI (jgKc σ))) (C := RX0) (T := TX0) (N := 14) hx hb htg inX0 (fs := fsBJ h σ) hown hK hP 0 rfl rfl 12 (by decide) (htg _ fX0_106) (fun _ h9 => h9) rfl dX0_findKey_4 ?_
      refine xr_icmp_ge (tgt := 29) hx hb dX0_findKey_7 (by decide) (by omega) (by omega) (fun c7 => ?_) (fun c7 => ?_)
      · refine lv_iconst (v := -1) hx hb dX0_findKey_29 (by decide) ?_
        exact W.iret (v := -1) hx hb hr (fun t ht hW => ⟨⟨_, (), rfl, by rw [← show i = jgKc σ by omega, h0]; rfl, trivial⟩, hS.F ht⟩) hS.2.2 dX0_findKey_30
      · refine lv_aload_n hx hb dX0_findKey_10 rfl (lv_at hl 1 rfl) ?_
        refine va_get (D := (dC, dI)) (ci := 0) (v := .ref (h 7)) (C := RX0) (T := TX0) (N := 14) hx hb htg inX0 (fs := fsBJ h σ) hown hK hP 0 rfl rfl 10 (by decide) (htg _ fX0_35) (fun _ h9 => h9) rfl dX0_findKey_11 ?_
        refine lv_iload_n hx hb dX0_findKey_14 rfl (lv_at hl 0 rfl) ?_
        refine xr_lald (f := jgKS σ) (i := i) hx hb hK hP 7 1 rfl rfl (by omega) (by decide) dX0_findKey_15 ?_
        refine lv_lload_n hx hb dX0_findKey_16 rfl (lv_at hl 2 rfl) ?_
        refine xr_lcmp_ne (tgt := 23) hx hb dX0_findKey_17 dX0_findKey_18 (by decide) (fun c17 => ?_) (fun c17 => ?_)
        · refine lv_iinc (v := nI (i + 1)) (lv' := [(3, .int (nI (i + 1))), (0, .ref (h 0)), (1, .long d)]) hx hb dX0_findKey_23 hl (k := 0) rfl (nI_add _ 1) (by decide) rfl (fun ls hl => ?_)
          refine lv_goto (tgt := 2) hx hb dX0_findKey_26 (by decide) ?_
          exact ih (i + 1) (by omega) (by omega) (fnd_miss h0 c17) H locs hP hS ls (lv_sub hl [0, 1, 2] rfl)
        · refine lv_iload_n hx hb dX0_findKey_21 rfl (lv_at hl 0 rfl) ?_
          exact W.iret (v := nI i) hx hb hr (fun t ht hW => ⟨⟨_, (), rfl, by rw [fnd_hit h0 c17 c7]; rfl, trivial⟩, hS.F ht⟩) hS.2.2 dX0_findKey_22
  exact loop (jgKc σ + 1) 0 (by omega) (by omega) (rfl) _ _ hP hS ls (lv_sub hl [0, 1, 2] rfl)
set_option maxRecDepth 100000 in
set_option maxHeartbeats 4000000 in
theorem c_lengthAt (l : Launch) (σ : BJ) (a : Nat) (ha : a + 2 < 700) (hby : byt (jgW σ) 700) : rBi l yX0_lengthAt wsX0_lengthAt ({ frames := 0, cells := 0, slots := 0, locals := 0 } : Room) σ [.int (nI a)] (nI (lenAt (jgW σ) a)) := by
  intro dC dI cI cJ h sz
  refine Met.ofW (cc := cX0_lengthAt) (maxL := 2) (ret := (some .int)) (by decide) rfl ?_
  intro p e s m args below meth c s₁ B hml hv
  obtain ⟨rfl, hsz, hP, hK, hD0⟩ := hv
  have hx := B.exec
  have hb := B.bytes
  have hr := B.returns
  have hts := atoms_spec (ws := wsX0_lengthAt) B.pre
  have hown : s.vm.findClass RX0 = some m.cls := findClass_of_methodNamed B.named
  have hlocks := B.notSynchronized
  subst hsz
  have htg : ∀ w ∈ GW, w.before _ s = true := fun w h => hts w (List.mem_cons_of_mem _ h)
  have hD := hD0
  have hA : ∀ q : Nat, s.heap.size ≤ q → (fun q => s.heap.size ≤ q) q := fun _ h => h
  have hS : va_S (fun q => s.heap.size ≤ q) s.heap s.heap [] := va_S.rf
  have hl := lv_entry [.ref (h 0), .int (nI a)] (n := 2) (Nat.le_of_ble_eq_true rfl)
  rw [lg_entry_eq]
  generalize (lg_sl [.ref (h 0), .int (nI a)] ++ List.replicate (2 - (lg_sl [.ref (h 0), .int (nI a)]).length) Slot.unset).toArray = ls at hl ⊢
  have hl : lv_has ls 2 [(0, .ref (h 0)), (1, .int (nI a))] := hl
  have hP : va_P (dC, dI) vwCl (wBJ cI cJ h σ) s.heap := hP
  refine lv_aload_n hx hb dX0_lengthAt_0 rfl (lv_at hl 0 rfl) ?_
  refine va_get (D := (dC, dI)) (ci := 0) (v := .ref (h 2)) (C := RX0) (T := TX0) (N := 14) hx hb htg inX0 (fs := fsBJ h σ) hown hK hP 0 rfl rfl 2 (by decide) (htg _ fX0_13) (fun _ h9 => h9) rfl dX0_lengthAt_1 ?_
  refine lv_iload_n hx hb dX0_lengthAt_4 rfl (lv_at hl 1 rfl) ?_
  refine lv_iconst (v := nI 1) hx hb dX0_lengthAt_5 (by decide) ?_
  refine xr_iadd hx hb dX0_lengthAt_6 ?_
  refine xr_iald (f := jgW σ) (i := a + 1) hx hb hK hP 2 0 rfl rfl (by omega) (by decide) dX0_lengthAt_7 ?_
  refine W.eq (g2 := F0 m 8 ls [.int (nI (nb (jgW σ) (a + 1)))]) (by rw [(hby (a + 1) (by omega)).1]) ?_
  refine lv_sipush (v := nI 256) hx hb dX0_lengthAt_8 (by decide) ?_
  refine lv_aload_n hx hb dX0_lengthAt_11 rfl (lv_at hl 0 rfl) ?_
  refine va_get (D := (dC, dI)) (ci := 0) (v := .ref (h 2)) (C := RX0) (T := TX0) (N := 14) hx hb htg inX0 (fs := fsBJ h σ) hown hK hP 0 rfl rfl 2 (by decide) (htg _ fX0_13) (fun _ h9 => h9) rfl dX0_lengthAt_12 ?_
  refine lv_iload_n hx hb dX0_lengthAt_15 rfl (lv_at hl 1 rfl) ?_
  refine lv_iconst (v := nI 2) hx hb dX0_lengthAt_16 (by decide) ?_
  refine xr_iadd hx hb dX0_lengthAt_17 ?_
  refine xr_iald (f := jgW σ) (i := a + 2) hx hb hK hP 2 0 rfl rfl (by omega) (by decide) dX0_lengthAt_18 ?_
  refine W.eq (g2 := F0 m 19 ls [.int (nI (nb (jgW σ) (a + 2))), .int (nI 256), .int (nI (nb (jgW σ) (a + 1)))]) (by rw [(hby (a + 2) (by omega)).1]) ?_
  refine xr_imul hx hb dX0_lengthAt_19 ?_
  refine xr_iadd hx hb dX0_lengthAt_20 ?_
  exact W.iret (v := nI (nb (jgW σ) (a + 1) + (256 * (nb (jgW σ) (a + 2))))) hx hb hr (fun t ht hW => ⟨⟨_, (), rfl, rfl, trivial⟩, hS.F ht⟩) hS.2.2 dX0_lengthAt_21
set_option maxRecDepth 100000 in
set_option maxHeartbeats 4000000 in
theorem c_sumOf (l : Launch) (σ : BJ) (a : Nat) (b : Nat) (hab : a ≤ b) (hb7 : b ≤ 700) : rBi l yX0_sumOf wsX0_sumOf ({ frames := 0, cells := 0, slots := 0, locals := 0 } : Room) σ [.int (nI a), .int (nI b)] (sm (jgW σ) a (b - a)) := by
  intro dC dI cI cJ h sz
  refine Met.ofW (cc := cX0_sumOf) (maxL := 5) (ret := (some .int)) (by decide) rfl ?_
  intro p e s m args below meth c s₁ B hml hv
  obtain ⟨rfl, hsz, hP, hK, hD0⟩ := hv
  have hx := B.exec
  have hb := B.bytes
  have hr := B.returns
  have hts := atoms_spec (ws := wsX0_sumOf) B.pre
  have hown : s.vm.findClass RX0 = some m.cls := findClass_of_methodNamed B.named
  have hlocks := B.notSynchronized
  subst hsz
  have htg : ∀ w ∈ GW, w.before _ s = true := fun w h => hts w (List.mem_cons_of_mem _ h)
  have hD := hD0
  have hA : ∀ q : Nat, s.heap.size ≤ q → (fun q => s.heap.size ≤ q) q := fun _ h => h
  have hS : va_S (fun q => s.heap.size ≤ q) s.heap s.heap [] := va_S.rf
  have hl := lv_entry [.ref (h 0), .int (nI a), .int (nI b)] (n := 5) (Nat.le_of_ble_eq_true rfl)
  rw [lg_entry_eq]
  generalize (lg_sl [.ref (h 0), .int (nI a), .int (nI b)] ++ List.replicate (5 - (lg_sl [.ref (h 0), .int (nI a), .int (nI b)]).length) Slot.unset).toArray = ls at hl ⊢
  have hl : lv_has ls 5 [(0, .ref (h 0)), (1, .int (nI a)), (2, .int (nI b))] := hl
  have hP : va_P (dC, dI) vwCl (wBJ cI cJ h σ) s.heap := hP
  refine lv_iconst (v := nI 0) hx hb dX0_sumOf_0 (by decide) ?_
  refine lv_istore_n (lv' := [(3, .int (nI 0)), (0, .ref (h 0)), (1, .int (nI a)), (2, .int (nI b))]) hx hb dX0_sumOf_1 rfl hl (by decide) rfl (fun ls hl => ?_)
  refine lv_iload_n hx hb dX0_sumOf_2 rfl (lv_at hl 2 rfl) ?_
  refine lv_istore (lv' := [(4, .int (nI a)), (3, .int (nI 0)), (0, .ref (h 0)), (1, .int (nI a)), (2, .int (nI b))]) hx hb dX0_sumOf_3 hl (by decide) rfl (fun ls hl => ?_)
  have loop : ∀ (n i : Nat) (x : Int32), i ≤ b → b < i + n → a ≤ i → x = smL (jgW σ) a (i - a) → ∀ (H : Heap) (locs : List Loc), va_P (dC, dI) vwCl (wBJ cI cJ h σ) H → va_S (fun q => s.heap.size ≤ q) s.heap H locs → ∀ (ls : Array Slot), lv_has ls 5 [(4, .int (nI i)), (3, .int x), (0, .ref (h 0)), (1, .int (nI a)), (2, .int (nI b))] → W p l e (headSpec wsX0_sumOf ({ frames := 0, cells := 0, slots := 0, locals := 0 } : Room)).room s m ([.ref (h 0), .int (nI a), .int (nI b)].toArray) below meth c H locs 0 0 (MQ below (va_Qi (fun (r' : Int32) (_ : Unit) => r' = (sm (jgW σ) a (b - a))) (fun _ _ => True) (fun q => s.heap.size ≤ q)) ([.ref (h 0), .int (nI a), .int (nI b)].toArray) s 0 0 (fun q => s.heap.size ≤ q)) (F0 m 5 ls []) := by
    intro n
    induction n with
    | zero => intro i x h1 h2; exact absurd h2 (by omega)
    | succ n ih =>
      intro i x hi hin hai e3 H locs hP hS ls hl
      refine lv_iload hx hb dX0_sumOf_5 (lv_at hl 0 rfl) ?_
      refine lv_iload_n hx hb dX0_sumOf_7 rfl (lv_at hl 4 rfl) ?_
      refine xr_icmp_ge (tgt := 27) hx hb dX0_sumOf_8 (by decide) (by omega) (by omega) (fun c8 => ?_) (fun c8 => ?_)
      · refine lv_iload_n hx hb dX0_sumOf_27 rfl (lv_at hl 1 rfl) ?_
        refine lv_sipush (v := nI 255) hx hb dX0_sumOf_28 (by decide) ?_
        refine lv_iand hx hb dX0_sumOf_31 ?_
        exact W.iret (v := x &&& (nI 255)) hx hb hr (fun t ht hW => ⟨⟨_, (), rfl, by rw [e3, show i = b by omega]; rfl, trivial⟩, hS.F ht⟩) hS.2.2 dX0_sumOf_32
      · refine lv_iload_n hx hb dX0_sumOf_11 rfl (lv_at hl 1 rfl) ?_
        refine lv_aload_n hx hb dX0_sumOf_12 rfl (lv_at hl 2 rfl) ?_
        refine va_get (D := (dC, dI)) (ci := 0) (v := .ref (h 2)) (C := RX0) (T := TX0) (N := 14) hx hb htg inX0 (fs := fsBJ h σ) hown hK hP 0 rfl rfl 2 (by decide) (htg _ fX0_13) (fun _ h9 => h9) rfl dX0_sumOf_13 ?_
        refine lv_iload hx hb dX0_sumOf_16 (lv_at hl 0 rfl) ?_
        refine xr_iald (f := jgW σ) (i := i) hx hb hK hP 2 0 rfl rfl (by omega) (by decide) dX0_sumOf_18 ?_
        refine lv_iadd hx hb dX0_sumOf_19 ?_
        refine lv_istore_n (lv' := [(3, .int (x + ((jgW σ) i))), (4, .int (nI i)), (0, .ref (h 0)), (1, .int (nI a)), (2, .int (nI b))]) hx hb dX0_sumOf_20 rfl hl (by decide) rfl (fun ls hl => ?_)
        refine lv_iinc (v := nI (i + 1)) (lv' := [(4, .int (nI (i + 1))), (3, .int (x + ((jgW σ) i))), (0, .ref (h 0)), (1, .int (nI a)), (2, .int (nI b))]) hx hb dX0_sumOf_21 hl (k := 1) rfl (nI_add _ 1) (by decide) rfl (fun ls hl => ?_)
        refine lv_goto (tgt := 5) hx hb dX0_sumOf_24 (by decide) ?_
        exact ih (i + 1) (x + ((jgW σ) i)) (by omega) (by omega) (by omega) (by rw [show i + 1 - a = (i - a) + 1 by omega, e3]; show _ = smL _ _ _ + _; rw [show a + (i - a) = i by omega]) H locs hP hS ls (lv_sub hl [0, 1, 2, 3, 4] rfl)
  exact loop (b + 1) a (nI 0) (by omega) (by omega) (Nat.le_refl _) (by rw [Nat.sub_self]; rfl) _ _ hP hS ls (lv_sub hl [0, 1, 2, 3, 4] rfl)
set_option maxRecDepth 100000 in
set_option maxHeartbeats 4000000 in
theorem c_longAt (l : Launch) (σ : BJ) (a : Nat) (ha : a + 7 < 700) : rBl l yX0_longAt wsX0_longAt ({ frames := 0, cells := 0, slots := 0, locals := 0 } : Room) σ [.int (nI a)] (longAt (jgW σ) a) := by
  intro dC dI cI cJ h sz
  refine Met.ofW (cc := cX0_longAt) (maxL := 5) (ret := (some .long)) (by decide) rfl ?_
  intro p e s m args below meth c s₁ B hml hv
  obtain ⟨rfl, hsz, hP, hK, hD0⟩ := hv
  have hx := B.exec
  have hb := B.bytes
  have hr := B.returns
  have hts := atoms_spec (ws := wsX0_longAt) B.pre
  have hown : s.vm.findClass RX0 = some m.cls := findClass_of_methodNamed B.named
  have hlocks := B.notSynchronized
  subst hsz
  have htg : ∀ w ∈ GW, w.before _ s = true := fun w h => hts w (List.mem_cons_of_mem _ h)
  have hD := hD0
  have hA : ∀ q : Nat, s.heap.size ≤ q → (fun q => s.heap.size ≤ q) q := fun _ h => h
  have hS : va_S (fun q => s.heap.size ≤ q) s.heap s.heap [] := va_S.rf
  have hl := lv_entry [.ref (h 0), .int (nI a)] (n := 5) (Nat.le_of_ble_eq_true rfl)
  rw [lg_entry_eq]
  generalize (lg_sl [.ref (h 0), .int (nI a)] ++ List.replicate (5 - (lg_sl [.ref (h 0), .int (nI a)]).length) Slot.unset).toArray = ls at hl ⊢
  have hl : lv_has ls 5 [(0, .ref (h 0)), (1, .int (nI a))] := hl
  have hP : va_P (dC, dI) vwCl (wBJ cI cJ h σ) s.heap := hP
  refine lv_lconst (v := 0) hx hb dX0_longAt_0 (by decide) ?_
  refine lv_lstore_n (lv' := [(2, .long 0), (0, .ref (h 0)), (1, .int (nI a))]) hx hb dX0_longAt_1 rfl hl (by decide) rfl (fun ls hl => ?_)
  refine lv_bipush (v := nI 7) hx hb dX0_longAt_2 (by decide) ?_
  refine lv_istore (lv' := [(4, .int (nI 7)), (2, .long 0), (0, .ref (h 0)), (1, .int (nI a))]) hx hb dX0_longAt_4 hl (by decide) rfl (fun ls hl => ?_)
  have loop : ∀ (n i k : Nat) (x : Int64), i < n → i + k = 8 → x = laL (jgW σ) a k → ∀ (H : Heap) (locs : List Loc), va_P (dC, dI) vwCl (wBJ cI cJ h σ) H → va_S (fun q => s.heap.size ≤ q) s.heap H locs → ∀ (ls : Array Slot), lv_has ls 5 [(4, .int (nI i - 1)), (2, .long x), (0, .ref (h 0)), (1, .int (nI a))] → W p l e (headSpec wsX0_longAt ({ frames := 0, cells := 0, slots := 0, locals := 0 } : Room)).room s m ([.ref (h 0), .int (nI a)].toArray) below meth c H locs 0 0 (MQ below (va_Ql (fun (r' : Int64) (_ : Unit) => r' = (longAt (jgW σ) a)) (fun _ _ => True) (fun q => s.heap.size ≤ q)) ([.ref (h 0), .int (nI a)].toArray) s 0 0 (fun q => s.heap.size ≤ q)) (F0 m 6 ls []) := by
    intro n
    induction n with
    | zero => intro i k x h1; exact absurd h1 (by omega)
    | succ n ih =>
      intro i k x hin hik e3 H locs hP hS ls hl
      cases i with
      | zero =>
        have hl : lv_has ls 5 [(4, .int (-1)), (2, .long x), (0, .ref (h 0)), (1, .int (nI a))] := hl
        refine lv_iload hx hb dX0_longAt_6 (lv_at hl 0 rfl) ?_
        refine lv_if_lt (tgt := 33) hx hb dX0_longAt_8 (by decide) (fun c8 => ?_) (fun c8 => absurd c8 (by decide))
        refine lv_lload_n hx hb dX0_longAt_33 rfl (lv_at hl 1 rfl) ?_
        exact W.lret (v := x) hx hb hr (fun t ht hW => ⟨⟨_, (), rfl, by rw [e3, show k = 8 by omega]; rfl, trivial⟩, hS.F ht⟩) hS.2.2 dX0_longAt_34
      | succ i =>
        have hl : lv_has ls 5 [(4, .int (nI i)), (2, .long x), (0, .ref (h 0)), (1, .int (nI a))] := by rw [nI_pred] at hl; exact hl
        refine lv_iload hx hb dX0_longAt_6 (lv_at hl 0 rfl) ?_
        refine lv_if_lt (tgt := 33) hx hb dX0_longAt_8 (by decide) (fun c8 => absurd c8 (by exact nI_pos (by omega))) (fun c8 => ?_)
        refine lv_lload_n hx hb dX0_longAt_11 rfl (lv_at hl 1 rfl) ?_
        refine lv_bipush (v := nI 8) hx hb dX0_longAt_12 (by decide) ?_
        refine lv_lshl (v := x <<< (((nI 8)).toInt64 &&& 63)) hx hb dX0_longAt_14 rfl ?_
        refine lv_aload_n hx hb dX0_longAt_15 rfl (lv_at hl 2 rfl) ?_
        refine va_get (D := (dC, dI)) (ci := 0) (v := .ref (h 2)) (C := RX0) (T := TX0) (N := 14) hx hb htg inX0 (fs := fsBJ h σ) hown hK hP 0 rfl rfl 2 (by decide) (htg _ fX0_13) (fun _ h9 => h9) rfl dX0_longAt_16 ?_
        refine lv_iload_n hx hb dX0_longAt_19 rfl (lv_at hl 3 rfl) ?_
        refine lv_iload hx hb dX0_longAt_20 (lv_at hl 0 rfl) ?_
        refine xr_iadd hx hb dX0_longAt_22 ?_
        refine xr_iald (f := jgW σ) (i := a + i) hx hb hK hP 2 0 rfl rfl (by omega) (by decide) dX0_longAt_23 ?_
        refine lv_i2l (v := ((jgW σ) (a + i)).toInt64) hx hb dX0_longAt_24 rfl ?_
        refine lv_lor hx hb dX0_longAt_25 ?_
        refine lv_lstore_n (lv' := [(2, .long ((x <<< (((nI 8)).toInt64 &&& 63)) ||| (((jgW σ) (a + i)).toInt64))), (4, .int (nI i)), (0, .ref (h 0)), (1, .int (nI a))]) hx hb dX0_longAt_26 rfl hl (by decide) rfl (fun ls hl => ?_)
        refine lv_iinc (v := nI i - 1) (lv' := [(4, .int (nI i - 1)), (2, .long ((x <<< (((nI 8)).toInt64 &&& 63)) ||| (((jgW σ) (a + i)).toInt64))), (0, .ref (h 0)), (1, .int (nI a))]) hx hb dX0_longAt_27 hl (k := 1) rfl (by rw [Int32.sub_eq_add_neg]; rfl) (by decide) rfl (fun ls hl => ?_)
        refine lv_goto (tgt := 6) hx hb dX0_longAt_30 (by decide) ?_
        exact ih i (k + 1) ((x <<< (((nI 8)).toInt64 &&& 63)) ||| (((jgW σ) (a + i)).toInt64)) (by omega) (by omega) (by rw [e3]; show _ = (_ <<< _) ||| _; rw [show 7 - k = i by omega]) H locs hP hS ls (lv_sub hl [0, 1, 2, 3] rfl)
  exact loop 9 8 0 0 (by omega) (by omega) rfl _ _ hP hS ls (by have hl := lv_sub hl [0, 1, 2, 3] rfl; exact hl)
set_option maxRecDepth 100000 in
set_option maxHeartbeats 4000000 in
theorem c_isWhole (l : Launch) (σ : BJ) (a : Nat) (en : Nat) (ha : a < 2 ^ 30) (hen : en ≤ 700) (hby : byt (jgW σ) 700) : rBi l yX0_isWhole wsX0_isWhole ({ frames := 1, cells := 0, slots := 0, locals := 24 } : Room) σ [.int (nI a), .int (nI en)] (bI (isWh (jgW σ) a en)) := by
  intro dC dI cI cJ h sz
  refine Met.ofW (cc := cX0_isWhole) (maxL := 4) (ret := (some .boolean)) (by decide) rfl ?_
  intro p e s m args below meth c s₁ B hml hv
  obtain ⟨rfl, hsz, hP, hK, hD0⟩ := hv
  have hx := B.exec
  have hb := B.bytes
  have hr := B.returns
  have hts := atoms_spec (ws := wsX0_isWhole) B.pre
  have hown : s.vm.findClass RX0 = some m.cls := findClass_of_methodNamed B.named
  have hlocks := B.notSynchronized
  subst hsz
  have htg : ∀ w ∈ GW, w.before _ s = true := fun w h => hts w (List.mem_cons_of_mem _ h)
  have hD := hD0
  have hA : ∀ q : Nat, s.heap.size ≤ q → (fun q => s.heap.size ≤ q) q := fun _ h => h
  have hS : va_S (fun q => s.heap.size ≤ q) s.heap s.heap [] := va_S.rf
  have hl := lv_entry [.ref (h 0), .int (nI a), .int (nI en)] (n := 4) (Nat.le_of_ble_eq_true rfl)
  rw [lg_entry_eq]
  generalize (lg_sl [.ref (h 0), .int (nI a), .int (nI en)] ++ List.replicate (4 - (lg_sl [.ref (h 0), .int (nI a), .int (nI en)]).length) Slot.unset).toArray = ls at hl ⊢
  have hl : lv_has ls 4 [(0, .ref (h 0)), (1, .int (nI a)), (2, .int (nI en))] := hl
  have hP : va_P (dC, dI) vwCl (wBJ cI cJ h σ) s.heap := hP
  refine lv_iload_n hx hb dX0_isWhole_0 rfl (lv_at hl 1 rfl) ?_
  refine lv_iconst (v := nI 4) hx hb dX0_isWhole_1 (by decide) ?_
  refine xr_iadd hx hb dX0_isWhole_2 ?_
  refine lv_iload_n hx hb dX0_isWhole_3 rfl (lv_at hl 2 rfl) ?_
  refine xr_icmp_le (tgt := 9) hx hb dX0_isWhole_4 (by decide) (by omega) (by omega) (fun c4 => ?_) (fun c4 => ?_)
  · refine lv_iload_n hx hb dX0_isWhole_9 rfl (lv_at hl 1 rfl) ?_
    refine lv_iconst (v := nI 3) hx hb dX0_isWhole_10 (by decide) ?_
    refine xr_iadd hx hb dX0_isWhole_11 ?_
    refine lv_aload_n hx hb dX0_isWhole_12 rfl (lv_at hl 0 rfl) ?_
    refine lv_iload_n hx hb dX0_isWhole_13 rfl (lv_at hl 1 rfl) ?_
    refine bj_ri (As := [.int (nI a)]) (rest := [.int (nI (a + 3))]) (n := 1) ⟨hx, hb, hml, hown, htg⟩ (c_lengthAt l σ a (by omega) (hby)) (cwV 1 htg gX0_185 rfl rfl rfl (by decide +kernel) ⟨Nat.le_of_ble_eq_true rfl, Nat.le_of_ble_eq_true rfl⟩) hK hP hD hS hA hl.1 rfl rfl (Nat.le_of_ble_eq_true rfl) dX0_isWhole_14 (Nat.zero_le _) (Nat.zero_le _) (fun H locs hP hS => ?_)
    have hlen := lenAt_lt (a := a) hby (by omega)
    refine xr_iadd hx hb dX0_isWhole_17 ?_
    refine lv_istore_n (lv' := [(3, .int (nI (a + 3 + (lenAt (jgW σ) a)))), (0, .ref (h 0)), (1, .int (nI a)), (2, .int (nI en))]) hx hb dX0_isWhole_18 rfl hl (by decide) rfl (fun ls hl => ?_)
    refine lv_iload_n hx hb dX0_isWhole_19 rfl (lv_at hl 0 rfl) ?_
    refine lv_iload_n hx hb dX0_isWhole_20 rfl (lv_at hl 3 rfl) ?_
    refine xr_icmp_ge (tgt := 43) hx hb dX0_isWhole_21 (by decide) (by omega) (by omega) (fun c21 => ?_) (fun c21 => ?_)
    · refine lv_iconst (v := nI 0) hx hb dX0_isWhole_43 (by decide) ?_
      exact W.zret (ty := .boolean) (v := nI 0) hx hb hr (by first | rfl | decide | exact bI_nar _) (fun t ht hW => ⟨⟨_, (), rfl, by first | (rw [isWh, decide_eq_false c36, Bool.and_false, Bool.and_false]; rfl) | (rw [isWh, decide_eq_false (p := a + 3 + lenAt (jgW σ) a < en) (by omega), Bool.false_and, Bool.and_false]; rfl), trivial⟩, hS.F ht⟩) hS.2.2 dX0_isWhole_44
    · refine lv_aload_n hx hb dX0_isWhole_24 rfl (lv_at hl 1 rfl) ?_
      refine va_get (D := (dC, dI)) (ci := 0) (v := .ref (h 2)) (C := RX0) (T := TX0) (N := 14) hx hb htg inX0 (fs := fsBJ h σ) hown hK hP 0 rfl rfl 2 (by decide) (htg _ fX0_13) (fun _ h9 => h9) rfl dX0_isWhole_25 ?_
      refine lv_iload_n hx hb dX0_isWhole_28 rfl (lv_at hl 0 rfl) ?_
      refine xr_iald (f := jgW σ) (i := a + 3 + (lenAt (jgW σ) a)) hx hb hK hP 2 0 rfl rfl (by omega) (by decide) dX0_isWhole_29 ?_
      refine lv_aload_n hx hb dX0_isWhole_30 rfl (lv_at hl 1 rfl) ?_
      refine lv_iload_n hx hb dX0_isWhole_31 rfl (lv_at hl 2 rfl) ?_
      refine lv_iload_n hx hb dX0_isWhole_32 rfl (lv_at hl 0 rfl) ?_
      refine bj_ri (As := [.int (nI a), .int (nI (a + 3 + (lenAt (jgW σ) a)))]) (rest := [.int ((jgW σ) (a + 3 + (lenAt (jgW σ) a)))]) (n := 2) ⟨hx, hb, hml, hown, htg⟩ (c_sumOf l σ a (a + 3 + (lenAt (jgW σ) a)) (by omega) (by omega)) (cwV 2 htg gX0_178 rfl rfl rfl (by decide +kernel) ⟨Nat.le_of_ble_eq_true rfl, Nat.le_of_ble_eq_true rfl⟩) hK hP hD hS hA hl.1 rfl rfl (Nat.le_of_ble_eq_true rfl) dX0_isWhole_33 (Nat.zero_le _) (Nat.zero_le _) (fun H locs hP hS => ?_)
      rw [show a + 3 + lenAt (jgW σ) a - a = 3 + lenAt (jgW σ) a by omega]
      refine lv_icmp_ne (tgt := 43) hx hb dX0_isWhole_36 (by decide) (fun c36 => ?_) (fun c36 => ?_)
      · refine lv_iconst (v := nI 0) hx hb dX0_isWhole_43 (by decide) ?_
        exact W.zret (ty := .boolean) (v := nI 0) hx hb hr (by first | rfl | decide | exact bI_nar _) (fun t ht hW => ⟨⟨_, (), rfl, by first | (rw [isWh, decide_eq_false c36, Bool.and_false, Bool.and_false]; rfl) | (rw [isWh, decide_eq_false (p := a + 3 + lenAt (jgW σ) a < en) (by omega), Bool.false_and, Bool.and_false]; rfl), trivial⟩, hS.F ht⟩) hS.2.2 dX0_isWhole_44
      · refine lv_iconst (v := nI 1) hx hb dX0_isWhole_39 (by decide) ?_
        refine lv_goto (tgt := 44) hx hb dX0_isWhole_40 (by decide) ?_
        exact W.zret (ty := .boolean) (v := nI 1) hx hb hr (by first | rfl | decide | exact bI_nar _) (fun t ht hW => ⟨⟨_, (), rfl, by rw [isWh, decide_eq_true (p := a + 4 ≤ en) (by omega), decide_eq_true (p := a + 3 + lenAt (jgW σ) a < en) c21, decide_eq_true c36]; rfl, trivial⟩, hS.F ht⟩) hS.2.2 dX0_isWhole_44
  · refine lv_iconst (v := nI 0) hx hb dX0_isWhole_7 (by decide) ?_
    exact W.zret (ty := .boolean) (v := nI 0) hx hb hr (by first | rfl | decide | exact bI_nar _) (fun t ht hW => ⟨⟨_, (), rfl, by rw [isWh, decide_eq_false (p := a + 4 ≤ en) (by omega)]; rfl, trivial⟩, hS.F ht⟩) hS.2.2 dX0_isWhole_8
set_option maxRecDepth 100000 in
set_option maxHeartbeats 4000000 in
theorem c_isTold (l : Launch) (σ : BJ) (b : Nat) (hb2 : b < 20) : rBi l yX0_isTold wsX0_isTold ({ frames := 0, cells := 0, slots := 0, locals := 0 } : Room) σ [.int (nI b)] (bI (isTold σ b)) := by
  intro dC dI cI cJ h sz
  refine Met.ofW (cc := cX0_isTold) (maxL := 3) (ret := (some .boolean)) (by decide) rfl ?_
  intro p e s m args below meth c s₁ B hml hv
  obtain ⟨rfl, hsz, hP, hK, hD0⟩ := hv
  have hx := B.exec
  have hb := B.bytes
  have hr := B.returns
  have hts := atoms_spec (ws := wsX0_isTold) B.pre
  have hown : s.vm.findClass RX0 = some m.cls := findClass_of_methodNamed B.named
  have hlocks := B.notSynchronized
  subst hsz
  have htg : ∀ w ∈ GW, w.before _ s = true := fun w h => hts w (List.mem_cons_of_mem _ h)
  have hD := hD0
  have hA : ∀ q : Nat, s.heap.size ≤ q → (fun q => s.heap.size ≤ q) q := fun _ h => h
  have hS : va_S (fun q => s.heap.size ≤ q) s.heap s.heap [] := va_S.rf
  have hl := lv_entry [.ref (h 0), .int (nI b)] (n := 3) (Nat.le_of_ble_eq_true rfl)
  rw [lg_entry_eq]
  generalize (lg_sl [.ref (h 0), .int (nI b)] ++ List.replicate (3 - (lg_sl [.ref (h 0), .int (nI b)]).length) Slot.unset).toArray = ls at hl ⊢
  have hl : lv_has ls 3 [(0, .ref (h 0)), (1, .int (nI b))] := hl
  have hP : va_P (dC, dI) vwCl (wBJ cI cJ h σ) s.heap := hP
  refine lv_iconst (v := nI 0) hx hb dX0_isTold_0 (by decide) ?_
  refine lv_istore_n (lv' := [(2, .int (nI 0)), (0, .ref (h 0)), (1, .int (nI b))]) hx hb dX0_isTold_1 rfl hl (by decide) rfl (fun ls hl => ?_)
  have loop : ∀ (n i : Nat), i ≤ 8 → 8 < i + n → anyB (fun t => decide (jgTB σ t = nI b)) i = false → ∀ (H : Heap) (locs : List Loc), va_P (dC, dI) vwCl (wBJ cI cJ h σ) H → va_S (fun q => s.heap.size ≤ q) s.heap H locs → ∀ (ls : Array Slot), lv_has ls 3 [(2, .int (nI i)), (0, .ref (h 0)), (1, .int (nI b))] → W p l e (headSpec wsX0_isTold ({ frames := 0, cells := 0, slots := 0, locals := 0 } : Room)).room s m ([.ref (h 0), .int (nI b)].toArray) below meth c H locs 0 0 (MQ below (va_Qi (fun (r' : Int32) (_ : Unit) => r' = (bI (isTold σ b))) (fun _ _ => True) (fun q => s.heap.size ≤ q)) ([.ref (h 0), .int (nI b)].toArray) s 0 0 (fun q => s.heap.size ≤ q)) (F0 m 2 ls []) := by
    intro n
    induction n with
    | zero => intro i h1 h2; exact absurd h2 (by omega)
    | succ n ih =>
      intro i hi hin h0 H locs hP hS ls hl
      refine lv_iload_n hx hb dX0_isTold_2 rfl (lv_at hl 0 rfl) ?_
      refine lv_bipush (v := nI 8) hx hb dX0_isTold_3 (by decide) ?_
      refine xr_icmp_ge (tgt := 26) hx hb dX0_isTold_5 (by decide) (by omega) (by omega) (fun c5 => ?_) (fun c5 => ?_)
      · refine lv_iconst (v := nI 0) hx hb dX0_isTold_26 (by decide) ?_
        refine lv_istore_n (lv' := [(2, .int (nI 0)), (0, .ref (h 0)), (1, .int (nI b))]) hx hb dX0_isTold_27 rfl hl (by decide) rfl (fun ls hl => ?_)
        have loop : ∀ (n j : Nat), j ≤ 4 → 4 < j + n → anyB (fun t => decide (jgTB σ t = nI b)) 8 = false → anyB (fun k => decide (jgPD σ k ≠ 0) && decide (jgPD σ k = jgBD σ b)) j = false → ∀ (H : Heap) (locs : List Loc), va_P (dC, dI) vwCl (wBJ cI cJ h σ) H → va_S (fun q => s.heap.size ≤ q) s.heap H locs → ∀ (ls : Array Slot), lv_has ls 3 [(2, .int (nI j)), (0, .ref (h 0)), (1, .int (nI b))] → W p l e (headSpec wsX0_isTold ({ frames := 0, cells := 0, slots := 0, locals := 0 } : Room)).room s m ([.ref (h 0), .int (nI b)].toArray) below meth c H locs 0 0 (MQ below (va_Qi (fun (r' : Int32) (_ : Unit) => r' = (bI (isTold σ b))) (fun _ _ => True) (fun q => s.heap.size ≤ q)) ([.ref (h 0), .int (nI b)].toArray) s 0 0 (fun q => s.heap.size ≤ q)) (F0 m 28 ls []) := by
          intro n
          induction n with
          | zero => intro j h1 h2; exact absurd h2 (by omega)
          | succ n ih =>
            intro j hi hin h8 h9 H locs hP hS ls hl
            refine lv_iload_n hx hb dX0_isTold_28 rfl (lv_at hl 0 rfl) ?_
            refine lv_iconst (v := nI 4) hx hb dX0_isTold_29 (by decide) ?_
            refine xr_icmp_ge (tgt := 68) hx hb dX0_isTold_30 (by decide) (by omega) (by omega) (fun c30 => ?_) (fun c30 => ?_)
            · refine lv_iconst (v := nI 0) hx hb dX0_isTold_68 (by decide) ?_
              exact W.zret (ty := .boolean) (v := nI 0) hx hb hr (by first | rfl | decide | exact bI_nar _) (fun t ht hW => ⟨⟨_, (), rfl, by rw [isTold, h8, ← show j = 4 by omega, h9]; rfl, trivial⟩, hS.F ht⟩) hS.2.2 dX0_isTold_69
            · refine lv_aload_n hx hb dX0_isTold_33 rfl (lv_at hl 1 rfl) ?_
              refine va_get (D := (dC, dI)) (ci := 0) (v := .ref (h 9)) (C := RX0) (T := TX0) (N := 14) hx hb htg inX0 (fs := fsBJ h σ) hown hK hP 0 rfl rfl 13 (by decide) (htg _ fX0_41) (fun _ h9 => h9) rfl dX0_isTold_34 ?_
              refine lv_iload_n hx hb dX0_isTold_37 rfl (lv_at hl 0 rfl) ?_
              refine xr_lald (f := jgPD σ) (i := j) hx hb hK hP 9 1 rfl rfl (by omega) (by decide) dX0_isTold_38 ?_
              refine lv_lconst (v := 0) hx hb dX0_isTold_39 (by decide) ?_
              refine xr_lcmp_eq (tgt := 62) hx hb dX0_isTold_40 dX0_isTold_41 (by decide) (fun c40 => ?_) (fun c40 => ?_)
              · refine lv_iinc (v := nI (j + 1)) (lv' := [(2, .int (nI (j + 1))), (0, .ref (h 0)), (1, .int (nI b))]) hx hb dX0_isTold_62 hl (k := 0) rfl (nI_add _ 1) (by decide) rfl (fun ls hl => ?_)
                refine lv_goto (tgt := 28) hx hb dX0_isTold_65 (by decide) ?_
                exact ih (j + 1) (by omega) (by omega) (h8) (anyB_miss h9 (by first | (simp only [Bool.and_eq_false_iff, decide_eq_false_iff_not]; exact Or.inr c56) | (rw [show jgPD σ j = 0 from c40]; rfl))) H locs hP hS ls (lv_sub hl [0, 1, 2] rfl)
              · refine lv_aload_n hx hb dX0_isTold_44 rfl (lv_at hl 1 rfl) ?_
                refine va_get (D := (dC, dI)) (ci := 0) (v := .ref (h 9)) (C := RX0) (T := TX0) (N := 14) hx hb htg inX0 (fs := fsBJ h σ) hown hK hP 0 rfl rfl 13 (by decide) (htg _ fX0_41) (fun _ h9 => h9) rfl dX0_isTold_45 ?_
                refine lv_iload_n hx hb dX0_isTold_48 rfl (lv_at hl 0 rfl) ?_
                refine xr_lald (f := jgPD σ) (i := j) hx hb hK hP 9 1 rfl rfl (by omega) (by decide) dX0_isTold_49 ?_
                refine lv_aload_n hx hb dX0_isTold_50 rfl (lv_at hl 1 rfl) ?_
                refine va_get (D := (dC, dI)) (ci := 0) (v := .ref (h 3)) (C := RX0) (T := TX0) (N := 14) hx hb htg inX0 (fs := fsBJ h σ) hown hK hP 0 rfl rfl 5 (by decide) (htg _ fX0_16) (fun _ h9 => h9) rfl dX0_isTold_51 ?_
                refine lv_iload_n hx hb dX0_isTold_54 rfl (lv_at hl 2 rfl) ?_
                refine xr_lald (f := jgBD σ) (i := b) hx hb hK hP 3 1 rfl rfl (by omega) (by decide) dX0_isTold_55 ?_
                refine xr_lcmp_ne (tgt := 62) hx hb dX0_isTold_56 dX0_isTold_57 (by decide) (fun c56 => ?_) (fun c56 => ?_)
                · refine lv_iinc (v := nI (j + 1)) (lv' := [(2, .int (nI (j + 1))), (0, .ref (h 0)), (1, .int (nI b))]) hx hb dX0_isTold_62 hl (k := 0) rfl (nI_add _ 1) (by decide) rfl (fun ls hl => ?_)
                  refine lv_goto (tgt := 28) hx hb dX0_isTold_65 (by decide) ?_
                  exact ih (j + 1) (by omega) (by omega) (h8) (anyB_miss h9 (by first | (simp only [Bool.and_eq_false_iff, decide_eq_false_iff_not]; exact Or.inr c56) | (rw [show jgPD σ j = 0 from c40]; rfl))) H locs hP hS ls (lv_sub hl [0, 1, 2] rfl)
                · refine lv_iconst (v := nI 1) hx hb dX0_isTold_60 (by decide) ?_
                  exact W.zret (ty := .boolean) (v := nI 1) hx hb hr (by first | rfl | decide | exact bI_nar _) (fun t ht hW => ⟨⟨_, (), rfl, by rw [isTold, anyB_hit (q := (fun k => decide (jgPD σ k ≠ 0) && decide (jgPD σ k = jgBD σ b))) c30 (by simp only [Bool.and_eq_true, decide_eq_true_eq]; exact ⟨c40, c56⟩), Bool.or_true]; rfl, trivial⟩, hS.F ht⟩) hS.2.2 dX0_isTold_61
        exact loop (4 + 1) 0 (by omega) (by omega) (by rw [← show i = 8 by omega]; exact h0) (rfl) _ _ hP hS ls (lv_sub hl [0, 1, 2] rfl)
      · refine lv_aload_n hx hb dX0_isTold_8 rfl (lv_at hl 1 rfl) ?_
        refine va_get (D := (dC, dI)) (ci := 0) (v := .ref (h 6)) (C := RX0) (T := TX0) (N := 14) hx hb htg inX0 (fs := fsBJ h σ) hown hK hP 0 rfl rfl 9 (by decide) (htg _ fX0_26) (fun _ h9 => h9) rfl dX0_isTold_9 ?_
        refine lv_iload_n hx hb dX0_isTold_12 rfl (lv_at hl 0 rfl) ?_
        refine xr_iald (f := jgTB σ) (i := i) hx hb hK hP 6 0 rfl rfl (by omega) (by decide) dX0_isTold_13 ?_
        refine lv_iload_n hx hb dX0_isTold_14 rfl (lv_at hl 2 rfl) ?_
        refine lv_icmp_ne (tgt := 20) hx hb dX0_isTold_15 (by decide) (fun c15 => ?_) (fun c15 => ?_)
        · refine lv_iinc (v := nI (i + 1)) (lv' := [(2, .int (nI (i + 1))), (0, .ref (h 0)), (1, .int (nI b))]) hx hb dX0_isTold_20 hl (k := 0) rfl (nI_add _ 1) (by decide) rfl (fun ls hl => ?_)
          refine lv_goto (tgt := 2) hx hb dX0_isTold_23 (by decide) ?_
          exact ih (i + 1) (by omega) (by omega) (anyB_miss h0 (by simpa using c15)) H locs hP hS ls (lv_sub hl [0, 1, 2] rfl)
        · refine lv_iconst (v := nI 1) hx hb dX0_isTold_18 (by decide) ?_
          exact W.zret (ty := .boolean) (v := nI 1) hx hb hr (by first | rfl | decide | exact bI_nar _) (fun t ht hW => ⟨⟨_, (), rfl, by rw [isTold, anyB_hit (q := (fun t => decide (jgTB σ t = nI b))) c5 (by simpa using c15)]; rfl, trivial⟩, hS.F ht⟩) hS.2.2 dX0_isTold_19
  exact loop (8 + 1) 0 (by omega) (by omega) (rfl) _ _ hP hS ls (lv_sub hl [0, 1, 2] rfl)
end
section
set_option maxRecDepth 100000 in
set_option maxHeartbeats 4000000 in
theorem c_writeByte (l : Launch) (σ : BJ) (v : Int32) (hw : jgWc σ < 700) : wBv l yX0_writeByte wsX0_writeByte ({ frames := 0, cells := 0, slots := 0, locals := 0 } : Room) σ [.int v] (wB σ v) := by
  intro dC dI cI cJ h sz
  refine Met.ofW (cc := cX0_writeByte) (maxL := 2) (ret := none) (by decide) rfl ?_
  intro p e s m args below meth c s₁ B hml hv
  obtain ⟨rfl, hsz, hP, hK, hD0⟩ := hv
  have hx := B.exec
  have hb := B.bytes
  have hr := B.returns
  have hts := atoms_spec (ws := wsX0_writeByte) B.pre
  have hown : s.vm.findClass RX0 = some m.cls := findClass_of_methodNamed B.named
  have hlocks := B.notSynchronized
  subst hsz
  have htg : ∀ w ∈ GW, w.before _ s = true := fun w h => hts w (List.mem_cons_of_mem _ h)
  have hD := hD0.self (sz := s.heap.size)
  generalize hAe : va_A (wBJ cI cJ h σ) s.heap.size = A at hD ⊢
  have hA : ∀ q : Nat, s.heap.size ≤ q → A q := fun q h => by rw [← hAe]; exact Or.inr h
  have hS : va_S A s.heap s.heap [] := va_S.rf
  have hl := lv_entry [.ref (h 0), .int v] (n := 2) (Nat.le_of_ble_eq_true rfl)
  rw [lg_entry_eq]
  generalize (lg_sl [.ref (h 0), .int v] ++ List.replicate (2 - (lg_sl [.ref (h 0), .int v]).length) Slot.unset).toArray = ls at hl ⊢
  have hl : lv_has ls 2 [(0, .ref (h 0)), (1, .int v)] := hl
  have hP : va_P (dC, dI) vwCl (wBJ cI cJ h σ) s.heap := hP
  refine lv_aload_n hx hb dX0_writeByte_0 rfl (lv_at hl 0 rfl) ?_
  refine va_get (D := (dC, dI)) (ci := 0) (v := .int (nI (jgWc σ))) (C := RX0) (T := TX0) (N := 14) hx hb htg inX0 (fs := fsBJ h σ) hown hK hP 0 rfl rfl 3 (by decide) (htg _ fX0_124) (fun _ h9 => h9) rfl dX0_writeByte_1 ?_
  refine lv_sipush (v := nI 700) hx hb dX0_writeByte_4 (by decide) ?_
  refine xr_icmp_ge (tgt := 30) hx hb dX0_writeByte_7 (by decide) (by omega) (by omega) (fun c7 => absurd c7 (by omega)) (fun c7 => ?_)
  refine lv_aload_n hx hb dX0_writeByte_10 rfl (lv_at hl 0 rfl) ?_
  refine va_get (D := (dC, dI)) (ci := 0) (v := .ref (h 2)) (C := RX0) (T := TX0) (N := 14) hx hb htg inX0 (fs := fsBJ h σ) hown hK hP 0 rfl rfl 2 (by decide) (htg _ fX0_13) (fun _ h9 => h9) rfl dX0_writeByte_11 ?_
  refine lv_aload_n hx hb dX0_writeByte_14 rfl (lv_at hl 0 rfl) ?_
  refine va_get (D := (dC, dI)) (ci := 0) (v := .int (nI (jgWc σ))) (C := RX0) (T := TX0) (N := 14) hx hb htg inX0 (fs := fsBJ h σ) hown hK hP 0 rfl rfl 3 (by decide) (htg _ fX0_124) (fun _ h9 => h9) rfl dX0_writeByte_15 ?_
  refine lv_iload_n hx hb dX0_writeByte_18 rfl (lv_at hl 1 rfl) ?_
  refine xr_iast (f := jgW σ) (i := jgWc σ) (x := v) hx hb hK hP hD hS 2 0 rfl rfl (by omega) (by decide) dX0_writeByte_19 (fun H locs hP hD hS => ?_)
  rw [wBJ_W] at hP hD
  refine lv_aload_n hx hb dX0_writeByte_20 rfl (lv_at hl 0 rfl) ?_
  refine lv_dup hx hb dX0_writeByte_21 rfl ?_
  refine va_get (D := (dC, dI)) (ci := 0) (v := .int (nI (jgWc σ))) (C := RX0) (T := TX0) (N := 14) hx hb htg inX0 (fs := fsBJ h (juW σ (upd (jgW σ) (jgWc σ) v))) hown hK hP 0 rfl rfl 3 (by decide) (htg _ fX0_124) (fun _ h9 => h9) rfl dX0_writeByte_22 ?_
  refine lv_iconst (v := nI 1) hx hb dX0_writeByte_25 (by decide) ?_
  refine xr_iadd hx hb dX0_writeByte_26 ?_
  refine va_put (D := (dC, dI)) (ci := 0) (v := .int (nI (jgWc σ + 1))) (ty := .int) (C := RX0) (T := TX0) (N := 14) hx hb htg inX0 tyX0 tyX0_ok nmX0 (fs := fsBJ h (juW σ (upd (jgW σ) (jgWc σ) v))) hown hK hP hD hS 0 rfl rfl 3 (by decide) (htg _ fX0_124) (fun _ h9 => h9) rfl (by decide +kernel) rfl rfl (Nat.le_of_ble_eq_true rfl) dX0_writeByte_27 (fun H locs hP hD hS => ?_)
  rw [wBJ_Wc] at hP hD
  have hfin : juWc (juW σ (upd (jgW σ) (jgWc σ) v)) (jgWc σ + 1) = wB σ v := rfl
  rw [hfin] at hP hD
  exact W.vret hx hb hr (fun t ht hW => ⟨⟨(), rfl, trivial, by rw [ht]; exact hP, va_K.moved hW.alike hK, hD⟩, hS.F ht⟩) hS.2.2 dX0_writeByte_30
set_option maxRecDepth 100000 in
set_option maxHeartbeats 4000000 in
theorem c_writeHead (l : Launch) (σ : BJ) (k : Int32) (n : Nat) (hw : jgWc σ + 3 ≤ 700) : wBi l yX0_writeHead wsX0_writeHead ({ frames := 1, cells := 0, slots := 0, locals := 21 } : Room) σ [.int k, .int (nI n)] (nI (jgWc σ)) (wL σ (hd k n)) := by
  intro dC dI cI cJ h sz
  refine Met.ofW (cc := cX0_writeHead) (maxL := 4) (ret := (some .int)) (by decide) rfl ?_
  intro p e s m args below meth c s₁ B hml hv
  obtain ⟨rfl, hsz, hP, hK, hD0⟩ := hv
  have hx := B.exec
  have hb := B.bytes
  have hr := B.returns
  have hts := atoms_spec (ws := wsX0_writeHead) B.pre
  have hown : s.vm.findClass RX0 = some m.cls := findClass_of_methodNamed B.named
  have hlocks := B.notSynchronized
  subst hsz
  have htg : ∀ w ∈ GW, w.before _ s = true := fun w h => hts w (List.mem_cons_of_mem _ h)
  have hD := hD0.self (sz := s.heap.size)
  generalize hAe : va_A (wBJ cI cJ h σ) s.heap.size = A at hD ⊢
  have hA : ∀ q : Nat, s.heap.size ≤ q → A q := fun q h => by rw [← hAe]; exact Or.inr h
  have hS : va_S A s.heap s.heap [] := va_S.rf
  have hl := lv_entry [.ref (h 0), .int k, .int (nI n)] (n := 4) (Nat.le_of_ble_eq_true rfl)
  rw [lg_entry_eq]
  generalize (lg_sl [.ref (h 0), .int k, .int (nI n)] ++ List.replicate (4 - (lg_sl [.ref (h 0), .int k, .int (nI n)]).length) Slot.unset).toArray = ls at hl ⊢
  have hl : lv_has ls 4 [(0, .ref (h 0)), (1, .int k), (2, .int (nI n))] := hl
  have hP : va_P (dC, dI) vwCl (wBJ cI cJ h σ) s.heap := hP
  refine lv_aload_n hx hb dX0_writeHead_0 rfl (lv_at hl 0 rfl) ?_
  refine va_get (D := (dC, dI)) (ci := 0) (v := .int (nI (jgWc σ))) (C := RX0) (T := TX0) (N := 14) hx hb htg inX0 (fs := fsBJ h σ) hown hK hP 0 rfl rfl 3 (by decide) (htg _ fX0_124) (fun _ h9 => h9) rfl dX0_writeHead_1 ?_
  refine lv_istore_n (lv' := [(3, .int (nI (jgWc σ))), (0, .ref (h 0)), (1, .int k), (2, .int (nI n))]) hx hb dX0_writeHead_4 rfl hl (by decide) rfl (fun ls hl => ?_)
  refine lv_aload_n hx hb dX0_writeHead_5 rfl (lv_at hl 1 rfl) ?_
  refine lv_iload_n hx hb dX0_writeHead_6 rfl (lv_at hl 2 rfl) ?_
  refine bj_wv (As := [.int k]) (rest := []) (n := 1) ⟨hx, hb, hml, hown, htg⟩ (c_writeByte l σ k (by omega)) (cwV 1 htg gX0_168 rfl rfl rfl (by decide +kernel) ⟨Nat.le_of_ble_eq_true rfl, Nat.le_of_ble_eq_true rfl⟩) hK hP hD hS hA hl.1 rfl rfl (Nat.le_of_ble_eq_true rfl) dX0_writeHead_7 (Nat.zero_le _) (Nat.zero_le _) (fun H locs hP hD hS => ?_)
  obtain ⟨z1, ez1⟩ : ∃ zq : BJ, zq = wB σ k := ⟨_, rfl⟩
  rw [← ez1] at hP hD
  have wz1 : jgWc z1 = jgWc σ + 1 := by rw [ez1]; rfl
  refine lv_aload_n hx hb dX0_writeHead_10 rfl (lv_at hl 1 rfl) ?_
  refine lv_iload_n hx hb dX0_writeHead_11 rfl (lv_at hl 3 rfl) ?_
  refine lv_sipush (v := nI 255) hx hb dX0_writeHead_12 (by decide) ?_
  refine lv_iand hx hb dX0_writeHead_15 ?_
  refine bj_wv (As := [.int ((nI n) &&& (nI 255))]) (rest := []) (n := 1) ⟨hx, hb, hml, hown, htg⟩ (c_writeByte l z1 ((nI n) &&& (nI 255)) (by omega)) (cwV 1 htg gX0_168 rfl rfl rfl (by decide +kernel) ⟨Nat.le_of_ble_eq_true rfl, Nat.le_of_ble_eq_true rfl⟩) hK hP hD hS hA hl.1 rfl rfl (Nat.le_of_ble_eq_true rfl) dX0_writeHead_16 (Nat.zero_le _) (Nat.zero_le _) (fun H locs hP hD hS => ?_)
  obtain ⟨z2, ez2⟩ : ∃ zq : BJ, zq = wB z1 ((nI n) &&& (nI 255)) := ⟨_, rfl⟩
  rw [← ez2] at hP hD
  have wz2 : jgWc z2 = jgWc σ + 2 := by rw [ez2]; show jgWc _ + 1 = _; omega
  refine lv_aload_n hx hb dX0_writeHead_19 rfl (lv_at hl 1 rfl) ?_
  refine lv_iload_n hx hb dX0_writeHead_20 rfl (lv_at hl 3 rfl) ?_
  refine lv_bipush (v := nI 8) hx hb dX0_writeHead_21 (by decide) ?_
  refine lv_iushr (v := (((nI n)).toUInt32 >>> (((nI 8)).toUInt32 &&& Int32.toUInt32 31)).toInt32) hx hb dX0_writeHead_23 rfl ?_
  refine bj_wv (As := [.int ((((nI n)).toUInt32 >>> (((nI 8)).toUInt32 &&& Int32.toUInt32 31)).toInt32)]) (rest := []) (n := 1) ⟨hx, hb, hml, hown, htg⟩ (c_writeByte l z2 ((((nI n)).toUInt32 >>> (((nI 8)).toUInt32 &&& Int32.toUInt32 31)).toInt32) (by omega)) (cwV 1 htg gX0_168 rfl rfl rfl (by decide +kernel) ⟨Nat.le_of_ble_eq_true rfl, Nat.le_of_ble_eq_true rfl⟩) hK hP hD hS hA hl.1 rfl rfl (Nat.le_of_ble_eq_true rfl) dX0_writeHead_24 (Nat.zero_le _) (Nat.zero_le _) (fun H locs hP hD hS => ?_)
  obtain ⟨z3, ez3⟩ : ∃ zq : BJ, zq = wB z2 ((((nI n)).toUInt32 >>> (((nI 8)).toUInt32 &&& Int32.toUInt32 31)).toInt32) := ⟨_, rfl⟩
  rw [← ez3] at hP hD
  have wz3 : jgWc z3 = jgWc σ + 3 := by rw [ez3]; show jgWc _ + 1 = _; omega
  refine lv_iload_n hx hb dX0_writeHead_27 rfl (lv_at hl 0 rfl) ?_
  have hfin : z3 = wL σ (hd k n) := by rw [ez3, ez2, ez1]; rfl
  rw [hfin] at hP hD
  exact W.iret (v := nI (jgWc σ)) hx hb hr (fun t ht hW => ⟨⟨_, (), rfl, rfl, by rw [ht]; exact hP, va_K.moved hW.alike hK, hD⟩, hS.F ht⟩) hS.2.2 dX0_writeHead_28
set_option maxRecDepth 100000 in
set_option maxHeartbeats 4000000 in
theorem c_writeLong (l : Launch) (σ : BJ) (v : Int64) (hw : jgWc σ + 8 ≤ 700) : wBv l yX0_writeLong wsX0_writeLong ({ frames := 1, cells := 0, slots := 0, locals := 21 } : Room) σ [.long v] (wL σ (l8 v)) := by
  intro dC dI cI cJ h sz
  refine Met.ofW (cc := cX0_writeLong) (maxL := 4) (ret := none) (by decide) rfl ?_
  intro p e s m args below meth c s₁ B hml hv
  obtain ⟨rfl, hsz, hP, hK, hD0⟩ := hv
  have hx := B.exec
  have hb := B.bytes
  have hr := B.returns
  have hts := atoms_spec (ws := wsX0_writeLong) B.pre
  have hown : s.vm.findClass RX0 = some m.cls := findClass_of_methodNamed B.named
  have hlocks := B.notSynchronized
  subst hsz
  have htg : ∀ w ∈ GW, w.before _ s = true := fun w h => hts w (List.mem_cons_of_mem _ h)
  have hD := hD0.self (sz := s.heap.size)
  generalize hAe : va_A (wBJ cI cJ h σ) s.heap.size = A at hD ⊢
  have hA : ∀ q : Nat, s.heap.size ≤ q → A q := fun q h => by rw [← hAe]; exact Or.inr h
  have hS : va_S A s.heap s.heap [] := va_S.rf
  have hl := lv_entry [.ref (h 0), .long v] (n := 4) (Nat.le_of_ble_eq_true rfl)
  rw [lg_entry_eq]
  generalize (lg_sl [.ref (h 0), .long v] ++ List.replicate (4 - (lg_sl [.ref (h 0), .long v]).length) Slot.unset).toArray = ls at hl ⊢
  have hl : lv_has ls 4 [(0, .ref (h 0)), (1, .long v)] := hl
  have hP : va_P (dC, dI) vwCl (wBJ cI cJ h σ) s.heap := hP
  refine lv_iconst (v := nI 0) hx hb dX0_writeLong_0 (by decide) ?_
  refine lv_istore_n (lv' := [(3, .int (nI 0)), (0, .ref (h 0)), (1, .long v)]) hx hb dX0_writeLong_1 rfl hl (by decide) rfl (fun ls hl => ?_)
  have loop : ∀ (n i : Nat) (z : BJ), i ≤ 8 → 8 < i + n → z = wL σ ((List.range i).map (b8 v)) → ∀ (H : Heap) (locs : List Loc), va_P (dC, dI) vwCl (wBJ cI cJ h z) H → va_D A (wBJ cI cJ h z) → va_S A s.heap H locs → ∀ (ls : Array Slot), lv_has ls 4 [(3, .int (nI i)), (0, .ref (h 0)), (1, .long v)] → W p l e (headSpec wsX0_writeLong ({ frames := 1, cells := 0, slots := 0, locals := 21 } : Room)).room s m ([.ref (h 0), .long v].toArray) below meth c H locs 0 0 (MQ below (va_Qv (fun (_ : Unit) => True) (fun _ => aBJ dC dI cI cJ h A (wL σ (l8 v))) A) ([.ref (h 0), .long v].toArray) s 0 0 A) (F0 m 2 ls []) := by
    intro n
    induction n with
    | zero => intro i z h1 h2; exact absurd h2 (by omega)
    | succ n ih =>
      intro i z hi hin ez H locs hP hD hS ls hl
      refine lv_iload_n hx hb dX0_writeLong_2 rfl (lv_at hl 0 rfl) ?_
      refine lv_bipush (v := nI 8) hx hb dX0_writeLong_3 (by decide) ?_
      refine xr_icmp_ge (tgt := 29) hx hb dX0_writeLong_5 (by decide) (by omega) (by omega) (fun c5 => ?_) (fun c5 => ?_)
      · have hfin : z = wL σ (l8 v) := by rw [ez, show i = 8 by omega]; rfl
        rw [hfin] at hP hD
        exact W.vret hx hb hr (fun t ht hW => ⟨⟨(), rfl, trivial, by rw [ht]; exact hP, va_K.moved hW.alike hK, hD⟩, hS.F ht⟩) hS.2.2 dX0_writeLong_29
      · refine lv_aload_n hx hb dX0_writeLong_8 rfl (lv_at hl 1 rfl) ?_
        refine lv_lload_n hx hb dX0_writeLong_9 rfl (lv_at hl 2 rfl) ?_
        refine lv_bipush (v := nI 8) hx hb dX0_writeLong_10 (by decide) ?_
        refine lv_iload_n hx hb dX0_writeLong_12 rfl (lv_at hl 0 rfl) ?_
        refine xr_imul hx hb dX0_writeLong_13 ?_
        refine lv_lushr (v := ((v).toUInt64 >>> (((nI (8 * i))).toInt64.toUInt64 &&& Int64.toUInt64 63)).toInt64) hx hb dX0_writeLong_14 rfl ?_
        refine lv_l2i (v := (((v).toUInt64 >>> (((nI (8 * i))).toInt64.toUInt64 &&& Int64.toUInt64 63)).toInt64).toInt32) hx hb dX0_writeLong_15 rfl ?_
        refine lv_sipush (v := nI 255) hx hb dX0_writeLong_16 (by decide) ?_
        refine lv_iand hx hb dX0_writeLong_19 ?_
        refine bj_wv (As := [.int (((((v).toUInt64 >>> (((nI (8 * i))).toInt64.toUInt64 &&& Int64.toUInt64 63)).toInt64).toInt32) &&& (nI 255))]) (rest := []) (n := 1) ⟨hx, hb, hml, hown, htg⟩ (c_writeByte l z (((((v).toUInt64 >>> (((nI (8 * i))).toInt64.toUInt64 &&& Int64.toUInt64 63)).toInt64).toInt32) &&& (nI 255)) (by rw [ez, wL_wc]; simp; omega)) (cwV 1 htg gX0_168 rfl rfl rfl (by decide +kernel) ⟨Nat.le_of_ble_eq_true rfl, Nat.le_of_ble_eq_true rfl⟩) hK hP hD hS hA hl.1 rfl rfl (Nat.le_of_ble_eq_true rfl) dX0_writeLong_20 (Nat.zero_le _) (Nat.zero_le _) (fun H locs hP hD hS => ?_)
        obtain ⟨z1, ez1⟩ : ∃ zq : BJ, zq = wB z (((((v).toUInt64 >>> (((nI (8 * i))).toInt64.toUInt64 &&& Int64.toUInt64 63)).toInt64).toInt32) &&& (nI 255)) := ⟨_, rfl⟩
        rw [← ez1] at hP hD
        refine lv_iinc (v := nI (i + 1)) (lv' := [(3, .int (nI (i + 1))), (0, .ref (h 0)), (1, .long v)]) hx hb dX0_writeLong_23 hl (k := 0) rfl (nI_add _ 1) (by decide) rfl (fun ls hl => ?_)
        refine lv_goto (tgt := 2) hx hb dX0_writeLong_26 (by decide) ?_
        exact ih (i + 1) z1 (by omega) (by omega) (by rw [ez1, ez, wL_snoc]; rw [List.range_succ, List.map_append]; rfl) H locs hP hD hS ls (lv_sub hl [0, 1, 2] rfl)
  exact loop (8 + 1) 0 σ (by omega) (by omega) (rfl) _ _ hP hD hS ls (lv_sub hl [0, 1, 2] rfl)
set_option maxRecDepth 100000 in
set_option maxHeartbeats 4000000 in
theorem c_writeSum (l : Launch) (σ : BJ) (a : Nat) (ha : a ≤ jgWc σ) (hw : jgWc σ < 700) : wBv l yX0_writeSum wsX0_writeSum ({ frames := 1, cells := 0, slots := 0, locals := 24 } : Room) σ [.int (nI a)] (wB σ (sm (jgW σ) a (jgWc σ - a))) := by
  intro dC dI cI cJ h sz
  refine Met.ofW (cc := cX0_writeSum) (maxL := 2) (ret := none) (by decide) rfl ?_
  intro p e s m args below meth c s₁ B hml hv
  obtain ⟨rfl, hsz, hP, hK, hD0⟩ := hv
  have hx := B.exec
  have hb := B.bytes
  have hr := B.returns
  have hts := atoms_spec (ws := wsX0_writeSum) B.pre
  have hown : s.vm.findClass RX0 = some m.cls := findClass_of_methodNamed B.named
  have hlocks := B.notSynchronized
  subst hsz
  have htg : ∀ w ∈ GW, w.before _ s = true := fun w h => hts w (List.mem_cons_of_mem _ h)
  have hD := hD0.self (sz := s.heap.size)
  generalize hAe : va_A (wBJ cI cJ h σ) s.heap.size = A at hD ⊢
  have hA : ∀ q : Nat, s.heap.size ≤ q → A q := fun q h => by rw [← hAe]; exact Or.inr h
  have hS : va_S A s.heap s.heap [] := va_S.rf
  have hl := lv_entry [.ref (h 0), .int (nI a)] (n := 2) (Nat.le_of_ble_eq_true rfl)
  rw [lg_entry_eq]
  generalize (lg_sl [.ref (h 0), .int (nI a)] ++ List.replicate (2 - (lg_sl [.ref (h 0), .int (nI a)]).length) Slot.unset).toArray = ls at hl ⊢
  have hl : lv_has ls 2 [(0, .ref (h 0)), (1, .int (nI a))] := hl
  have hP : va_P (dC, dI) vwCl (wBJ cI cJ h σ) s.heap := hP
  refine lv_aload_n hx hb dX0_writeSum_0 rfl (lv_at hl 0 rfl) ?_
  refine lv_aload_n hx hb dX0_writeSum_1 rfl (lv_at hl 0 rfl) ?_
  refine lv_iload_n hx hb dX0_writeSum_2 rfl (lv_at hl 1 rfl) ?_
  refine lv_aload_n hx hb dX0_writeSum_3 rfl (lv_at hl 0 rfl) ?_
  refine va_get (D := (dC, dI)) (ci := 0) (v := .int (nI (jgWc σ))) (C := RX0) (T := TX0) (N := 14) hx hb htg inX0 (fs := fsBJ h σ) hown hK hP 0 rfl rfl 3 (by decide) (htg _ fX0_124) (fun _ h9 => h9) rfl dX0_writeSum_4 ?_
  refine bj_ri (As := [.int (nI a), .int (nI (jgWc σ))]) (rest := [.ref (h 0)]) (n := 2) ⟨hx, hb, hml, hown, htg⟩ (c_sumOf l σ a (jgWc σ) (ha) (by omega)) (cwV 2 htg gX0_178 rfl rfl rfl (by decide +kernel) ⟨Nat.le_of_ble_eq_true rfl, Nat.le_of_ble_eq_true rfl⟩) hK hP hD hS hA hl.1 rfl rfl (Nat.le_of_ble_eq_true rfl) dX0_writeSum_7 (Nat.zero_le _) (Nat.zero_le _) (fun H locs hP hS => ?_)
  refine bj_wv (As := [.int (sm (jgW σ) a ((jgWc σ) - a))]) (rest := []) (n := 1) ⟨hx, hb, hml, hown, htg⟩ (c_writeByte l σ (sm (jgW σ) a ((jgWc σ) - a)) (by omega)) (cwV 1 htg gX0_168 rfl rfl rfl (by decide +kernel) ⟨Nat.le_of_ble_eq_true rfl, Nat.le_of_ble_eq_true rfl⟩) hK hP hD hS hA hl.1 rfl rfl (Nat.le_of_ble_eq_true rfl) dX0_writeSum_10 (Nat.zero_le _) (Nat.zero_le _) (fun H locs hP hD hS => ?_)
  obtain ⟨z1, ez1⟩ : ∃ zq : BJ, zq = wB σ (sm (jgW σ) a ((jgWc σ) - a)) := ⟨_, rfl⟩
  rw [← ez1] at hP hD
  have hfin : z1 = wB σ (sm (jgW σ) a (jgWc σ - a)) := by rw [ez1]
  rw [hfin] at hP hD
  exact W.vret hx hb hr (fun t ht hW => ⟨⟨(), rfl, trivial, by rw [ht]; exact hP, va_K.moved hW.alike hK, hD⟩, hS.F ht⟩) hS.2.2 dX0_writeSum_13
set_option maxRecDepth 100000 in
set_option maxHeartbeats 4000000 in
theorem c_writeTell (l : Launch) (σ : BJ) (t : Nat) (d : Int64) (hw : jgWc σ + 13 ≤ 700) : wBi l yX0_writeTell wsX0_writeTell ({ frames := 2, cells := 0, slots := 0, locals := 45 } : Room) σ [.int (nI t), .long d] (nI (jgWc σ)) (wR σ (rTell t d)) := by
  intro dC dI cI cJ h sz
  refine Met.ofW (cc := cX0_writeTell) (maxL := 5) (ret := (some .int)) (by decide) rfl ?_
  intro p e s m args below meth c s₁ B hml hv
  obtain ⟨rfl, hsz, hP, hK, hD0⟩ := hv
  have hx := B.exec
  have hb := B.bytes
  have hr := B.returns
  have hts := atoms_spec (ws := wsX0_writeTell) B.pre
  have hown : s.vm.findClass RX0 = some m.cls := findClass_of_methodNamed B.named
  have hlocks := B.notSynchronized
  subst hsz
  have htg : ∀ w ∈ GW, w.before _ s = true := fun w h => hts w (List.mem_cons_of_mem _ h)
  have hD := hD0.self (sz := s.heap.size)
  generalize hAe : va_A (wBJ cI cJ h σ) s.heap.size = A at hD ⊢
  have hA : ∀ q : Nat, s.heap.size ≤ q → A q := fun q h => by rw [← hAe]; exact Or.inr h
  have hS : va_S A s.heap s.heap [] := va_S.rf
  have hl := lv_entry [.ref (h 0), .int (nI t), .long d] (n := 5) (Nat.le_of_ble_eq_true rfl)
  rw [lg_entry_eq]
  generalize (lg_sl [.ref (h 0), .int (nI t), .long d] ++ List.replicate (5 - (lg_sl [.ref (h 0), .int (nI t), .long d]).length) Slot.unset).toArray = ls at hl ⊢
  have hl : lv_has ls 5 [(0, .ref (h 0)), (1, .int (nI t)), (2, .long d)] := hl
  have hP : va_P (dC, dI) vwCl (wBJ cI cJ h σ) s.heap := hP
  refine lv_aload_n hx hb dX0_writeTell_0 rfl (lv_at hl 0 rfl) ?_
  refine lv_iconst (v := nI 2) hx hb dX0_writeTell_1 (by decide) ?_
  refine lv_bipush (v := nI 9) hx hb dX0_writeTell_2 (by decide) ?_
  refine bj_wi (As := [.int (nI 2), .int (nI 9)]) (rest := []) (n := 2) ⟨hx, hb, hml, hown, htg⟩ (c_writeHead l σ (nI 2) 9 (by omega)) (cwV 2 htg gX0_164 rfl rfl rfl (by decide +kernel) ⟨Nat.le_of_ble_eq_true rfl, Nat.le_of_ble_eq_true rfl⟩) hK hP hD hS hA hl.1 rfl rfl (Nat.le_of_ble_eq_true rfl) dX0_writeTell_4 (Nat.zero_le _) (Nat.zero_le _) (fun H locs hP hD hS => ?_)
  obtain ⟨z1, ez1⟩ : ∃ zq : BJ, zq = wL σ (hd (nI 2) 9) := ⟨_, rfl⟩
  rw [← ez1] at hP hD
  have wz1 : jgWc z1 = jgWc σ + 3 := by rw [ez1, wL_wc]; rfl
  refine lv_istore (lv' := [(4, .int (nI (jgWc σ))), (0, .ref (h 0)), (1, .int (nI t)), (2, .long d)]) hx hb dX0_writeTell_7 hl (by decide) rfl (fun ls hl => ?_)
  refine lv_aload_n hx hb dX0_writeTell_9 rfl (lv_at hl 1 rfl) ?_
  refine lv_iload_n hx hb dX0_writeTell_10 rfl (lv_at hl 2 rfl) ?_
  refine bj_wv (As := [.int (nI t)]) (rest := []) (n := 1) ⟨hx, hb, hml, hown, htg⟩ (c_writeByte l z1 (nI t) (by omega)) (cwV 1 htg gX0_168 rfl rfl rfl (by decide +kernel) ⟨Nat.le_of_ble_eq_true rfl, Nat.le_of_ble_eq_true rfl⟩) hK hP hD hS hA hl.1 rfl rfl (Nat.le_of_ble_eq_true rfl) dX0_writeTell_11 (Nat.zero_le _) (Nat.zero_le _) (fun H locs hP hD hS => ?_)
  obtain ⟨z2, ez2⟩ : ∃ zq : BJ, zq = wB z1 (nI t) := ⟨_, rfl⟩
  rw [← ez2] at hP hD
  have wz2 : jgWc z2 = jgWc σ + 4 := by rw [ez2]; show jgWc _ + 1 = _; omega
  refine lv_aload_n hx hb dX0_writeTell_14 rfl (lv_at hl 1 rfl) ?_
  refine lv_lload_n hx hb dX0_writeTell_15 rfl (lv_at hl 3 rfl) ?_
  refine bj_wv (As := [.long d]) (rest := []) (n := 1) ⟨hx, hb, hml, hown, htg⟩ (c_writeLong l z2 d (by omega)) (cwV 1 htg gX0_174 rfl rfl rfl (by decide +kernel) ⟨Nat.le_of_ble_eq_true rfl, Nat.le_of_ble_eq_true rfl⟩) hK hP hD hS hA hl.1 rfl rfl (Nat.le_of_ble_eq_true rfl) dX0_writeTell_16 (Nat.zero_le _) (Nat.zero_le _) (fun H locs hP hD hS => ?_)
  obtain ⟨z3, ez3⟩ : ∃ zq : BJ, zq = wL z2 (l8 d) := ⟨_, rfl⟩
  rw [← ez3] at hP hD
  have wz3 : jgWc z3 = jgWc σ + 12 := by rw [ez3, wL_wc]; simp [l8]; omega
  refine lv_aload_n hx hb dX0_writeTell_19 rfl (lv_at hl 1 rfl) ?_
  refine lv_iload hx hb dX0_writeTell_20 (lv_at hl 0 rfl) ?_
  refine bj_wv (As := [.int (nI (jgWc σ))]) (rest := []) (n := 1) ⟨hx, hb, hml, hown, htg⟩ (c_writeSum l z3 (jgWc σ) (by omega) (by omega)) (cwV 1 htg gX0_171 rfl rfl rfl (by decide +kernel) ⟨Nat.le_of_ble_eq_true rfl, Nat.le_of_ble_eq_true rfl⟩) hK hP hD hS hA hl.1 rfl rfl (Nat.le_of_ble_eq_true rfl) dX0_writeTell_22 (Nat.zero_le _) (Nat.zero_le _) (fun H locs hP hD hS => ?_)
  obtain ⟨z4, ez4⟩ : ∃ zq : BJ, zq = wB z3 (sm (jgW z3) (jgWc σ) (jgWc z3 - (jgWc σ))) := ⟨_, rfl⟩
  rw [← ez4] at hP hD
  refine lv_iload hx hb dX0_writeTell_25 (lv_at hl 0 rfl) ?_
  have hfin : z4 = wR σ (rTell t d) := by
      have e9 : z3 = wL σ (rTell t d) := by rw [ez3, ez2, ez1, wL_snoc, ← wL_app]; rfl
      rw [ez4, wz3, e9, wR]; congr 2; simp [rTell, hd, l8]
  rw [hfin] at hP hD
  exact W.iret (v := nI (jgWc σ)) hx hb hr (fun t ht hW => ⟨⟨_, (), rfl, rfl, by rw [ht]; exact hP, va_K.moved hW.alike hK, hD⟩, hS.F ht⟩) hS.2.2 dX0_writeTell_27
set_option maxRecDepth 100000 in
set_option maxHeartbeats 4000000 in
theorem c_writeUntell (l : Launch) (σ : BJ) (t : Nat) (hw : jgWc σ + 5 ≤ 700) : wBi l yX0_writeUntell wsX0_writeUntell ({ frames := 2, cells := 0, slots := 0, locals := 45 } : Room) σ [.int (nI t)] (nI (jgWc σ)) (wR σ (rUntell t)) := by
  intro dC dI cI cJ h sz
  refine Met.ofW (cc := cX0_writeUntell) (maxL := 3) (ret := (some .int)) (by decide) rfl ?_
  intro p e s m args below meth c s₁ B hml hv
  obtain ⟨rfl, hsz, hP, hK, hD0⟩ := hv
  have hx := B.exec
  have hb := B.bytes
  have hr := B.returns
  have hts := atoms_spec (ws := wsX0_writeUntell) B.pre
  have hown : s.vm.findClass RX0 = some m.cls := findClass_of_methodNamed B.named
  have hlocks := B.notSynchronized
  subst hsz
  have htg : ∀ w ∈ GW, w.before _ s = true := fun w h => hts w (List.mem_cons_of_mem _ h)
  have hD := hD0.self (sz := s.heap.size)
  generalize hAe : va_A (wBJ cI cJ h σ) s.heap.size = A at hD ⊢
  have hA : ∀ q : Nat, s.heap.size ≤ q → A q := fun q h => by rw [← hAe]; exact Or.inr h
  have hS : va_S A s.heap s.heap [] := va_S.rf
  have hl := lv_entry [.ref (h 0), .int (nI t)] (n := 3) (Nat.le_of_ble_eq_true rfl)
  rw [lg_entry_eq]
  generalize (lg_sl [.ref (h 0), .int (nI t)] ++ List.replicate (3 - (lg_sl [.ref (h 0), .int (nI t)]).length) Slot.unset).toArray = ls at hl ⊢
  have hl : lv_has ls 3 [(0, .ref (h 0)), (1, .int (nI t))] := hl
  have hP : va_P (dC, dI) vwCl (wBJ cI cJ h σ) s.heap := hP
  refine lv_aload_n hx hb dX0_writeUntell_0 rfl (lv_at hl 0 rfl) ?_
  refine lv_iconst (v := nI 3) hx hb dX0_writeUntell_1 (by decide) ?_
  refine lv_iconst (v := nI 1) hx hb dX0_writeUntell_2 (by decide) ?_
  refine bj_wi (As := [.int (nI 3), .int (nI 1)]) (rest := []) (n := 2) ⟨hx, hb, hml, hown, htg⟩ (c_writeHead l σ (nI 3) 1 (by omega)) (cwV 2 htg gX0_164 rfl rfl rfl (by decide +kernel) ⟨Nat.le_of_ble_eq_true rfl, Nat.le_of_ble_eq_true rfl⟩) hK hP hD hS hA hl.1 rfl rfl (Nat.le_of_ble_eq_true rfl) dX0_writeUntell_3 (Nat.zero_le _) (Nat.zero_le _) (fun H locs hP hD hS => ?_)
  obtain ⟨z1, ez1⟩ : ∃ zq : BJ, zq = wL σ (hd (nI 3) 1) := ⟨_, rfl⟩
  rw [← ez1] at hP hD
  have wz1 : jgWc z1 = jgWc σ + 3 := by rw [ez1, wL_wc]; rfl
  refine lv_istore_n (lv' := [(2, .int (nI (jgWc σ))), (0, .ref (h 0)), (1, .int (nI t))]) hx hb dX0_writeUntell_6 rfl hl (by decide) rfl (fun ls hl => ?_)
  refine lv_aload_n hx hb dX0_writeUntell_7 rfl (lv_at hl 1 rfl) ?_
  refine lv_iload_n hx hb dX0_writeUntell_8 rfl (lv_at hl 2 rfl) ?_
  refine bj_wv (As := [.int (nI t)]) (rest := []) (n := 1) ⟨hx, hb, hml, hown, htg⟩ (c_writeByte l z1 (nI t) (by omega)) (cwV 1 htg gX0_168 rfl rfl rfl (by decide +kernel) ⟨Nat.le_of_ble_eq_true rfl, Nat.le_of_ble_eq_true rfl⟩) hK hP hD hS hA hl.1 rfl rfl (Nat.le_of_ble_eq_true rfl) dX0_writeUntell_9 (Nat.zero_le _) (Nat.zero_le _) (fun H locs hP hD hS => ?_)
  obtain ⟨z2, ez2⟩ : ∃ zq : BJ, zq = wB z1 (nI t) := ⟨_, rfl⟩
  rw [← ez2] at hP hD
  have wz2 : jgWc z2 = jgWc σ + 4 := by rw [ez2]; show jgWc _ + 1 = _; omega
  refine lv_aload_n hx hb dX0_writeUntell_12 rfl (lv_at hl 1 rfl) ?_
  refine lv_iload_n hx hb dX0_writeUntell_13 rfl (lv_at hl 0 rfl) ?_
  refine bj_wv (As := [.int (nI (jgWc σ))]) (rest := []) (n := 1) ⟨hx, hb, hml, hown, htg⟩ (c_writeSum l z2 (jgWc σ) (by omega) (by omega)) (cwV 1 htg gX0_171 rfl rfl rfl (by decide +kernel) ⟨Nat.le_of_ble_eq_true rfl, Nat.le_of_ble_eq_true rfl⟩) hK hP hD hS hA hl.1 rfl rfl (Nat.le_of_ble_eq_true rfl) dX0_writeUntell_14 (Nat.zero_le _) (Nat.zero_le _) (fun H locs hP hD hS => ?_)
  obtain ⟨z3, ez3⟩ : ∃ zq : BJ, zq = wB z2 (sm (jgW z2) (jgWc σ) (jgWc z2 - (jgWc σ))) := ⟨_, rfl⟩
  rw [← ez3] at hP hD
  refine lv_iload_n hx hb dX0_writeUntell_17 rfl (lv_at hl 0 rfl) ?_
  have hfin : z3 = wR σ (rUntell t) := by
      have e9 : z2 = wL σ (rUntell t) := by rw [ez2, ez1, wL_snoc]; rfl
      rw [ez3, wz2, e9, wR]; congr 2; simp [rUntell, hd]
  rw [hfin] at hP hD
  exact W.iret (v := nI (jgWc σ)) hx hb hr (fun t ht hW => ⟨⟨_, (), rfl, rfl, by rw [ht]; exact hP, va_K.moved hW.alike hK, hD⟩, hS.F ht⟩) hS.2.2 dX0_writeUntell_18
set_option maxRecDepth 100000 in
set_option maxHeartbeats 4000000 in
theorem c_writeKey (l : Launch) (σ : BJ) (k : Int64) (d : Int64) (hw : jgWc σ + 20 ≤ 700) : wBi l yX0_writeKey wsX0_writeKey ({ frames := 2, cells := 0, slots := 0, locals := 45 } : Room) σ [.long k, .long d] (nI (jgWc σ)) (wR σ (rKey k d)) := by
  intro dC dI cI cJ h sz
  refine Met.ofW (cc := cX0_writeKey) (maxL := 6) (ret := (some .int)) (by decide) rfl ?_
  intro p e s m args below meth c s₁ B hml hv
  obtain ⟨rfl, hsz, hP, hK, hD0⟩ := hv
  have hx := B.exec
  have hb := B.bytes
  have hr := B.returns
  have hts := atoms_spec (ws := wsX0_writeKey) B.pre
  have hown : s.vm.findClass RX0 = some m.cls := findClass_of_methodNamed B.named
  have hlocks := B.notSynchronized
  subst hsz
  have htg : ∀ w ∈ GW, w.before _ s = true := fun w h => hts w (List.mem_cons_of_mem _ h)
  have hD := hD0.self (sz := s.heap.size)
  generalize hAe : va_A (wBJ cI cJ h σ) s.heap.size = A at hD ⊢
  have hA : ∀ q : Nat, s.heap.size ≤ q → A q := fun q h => by rw [← hAe]; exact Or.inr h
  have hS : va_S A s.heap s.heap [] := va_S.rf
  have hl := lv_entry [.ref (h 0), .long k, .long d] (n := 6) (Nat.le_of_ble_eq_true rfl)
  rw [lg_entry_eq]
  generalize (lg_sl [.ref (h 0), .long k, .long d] ++ List.replicate (6 - (lg_sl [.ref (h 0), .long k, .long d]).length) Slot.unset).toArray = ls at hl ⊢
  have hl : lv_has ls 6 [(0, .ref (h 0)), (1, .long k), (3, .long d)] := hl
  have hP : va_P (dC, dI) vwCl (wBJ cI cJ h σ) s.heap := hP
  refine lv_aload_n hx hb dX0_writeKey_0 rfl (lv_at hl 0 rfl) ?_
  refine lv_iconst (v := nI 4) hx hb dX0_writeKey_1 (by decide) ?_
  refine lv_bipush (v := nI 16) hx hb dX0_writeKey_2 (by decide) ?_
  refine bj_wi (As := [.int (nI 4), .int (nI 16)]) (rest := []) (n := 2) ⟨hx, hb, hml, hown, htg⟩ (c_writeHead l σ (nI 4) 16 (by omega)) (cwV 2 htg gX0_164 rfl rfl rfl (by decide +kernel) ⟨Nat.le_of_ble_eq_true rfl, Nat.le_of_ble_eq_true rfl⟩) hK hP hD hS hA hl.1 rfl rfl (Nat.le_of_ble_eq_true rfl) dX0_writeKey_4 (Nat.zero_le _) (Nat.zero_le _) (fun H locs hP hD hS => ?_)
  obtain ⟨z1, ez1⟩ : ∃ zq : BJ, zq = wL σ (hd (nI 4) 16) := ⟨_, rfl⟩
  rw [← ez1] at hP hD
  have wz1 : jgWc z1 = jgWc σ + 3 := by rw [ez1, wL_wc]; rfl
  refine lv_istore (lv' := [(5, .int (nI (jgWc σ))), (0, .ref (h 0)), (1, .long k), (3, .long d)]) hx hb dX0_writeKey_7 hl (by decide) rfl (fun ls hl => ?_)
  refine lv_aload_n hx hb dX0_writeKey_9 rfl (lv_at hl 1 rfl) ?_
  refine lv_lload_n hx hb dX0_writeKey_10 rfl (lv_at hl 2 rfl) ?_
  refine bj_wv (As := [.long k]) (rest := []) (n := 1) ⟨hx, hb, hml, hown, htg⟩ (c_writeLong l z1 k (by omega)) (cwV 1 htg gX0_174 rfl rfl rfl (by decide +kernel) ⟨Nat.le_of_ble_eq_true rfl, Nat.le_of_ble_eq_true rfl⟩) hK hP hD hS hA hl.1 rfl rfl (Nat.le_of_ble_eq_true rfl) dX0_writeKey_11 (Nat.zero_le _) (Nat.zero_le _) (fun H locs hP hD hS => ?_)
  obtain ⟨z2, ez2⟩ : ∃ zq : BJ, zq = wL z1 (l8 k) := ⟨_, rfl⟩
  rw [← ez2] at hP hD
  have wz2 : jgWc z2 = jgWc σ + 11 := by rw [ez2, wL_wc]; simp [l8]; omega
  refine lv_aload_n hx hb dX0_writeKey_14 rfl (lv_at hl 1 rfl) ?_
  refine lv_lload_n hx hb dX0_writeKey_15 rfl (lv_at hl 3 rfl) ?_
  refine bj_wv (As := [.long d]) (rest := []) (n := 1) ⟨hx, hb, hml, hown, htg⟩ (c_writeLong l z2 d (by omega)) (cwV 1 htg gX0_174 rfl rfl rfl (by decide +kernel) ⟨Nat.le_of_ble_eq_true rfl, Nat.le_of_ble_eq_true rfl⟩) hK hP hD hS hA hl.1 rfl rfl (Nat.le_of_ble_eq_true rfl) dX0_writeKey_16 (Nat.zero_le _) (Nat.zero_le _) (fun H locs hP hD hS => ?_)
  obtain ⟨z3, ez3⟩ : ∃ zq : BJ, zq = wL z2 (l8 d) := ⟨_, rfl⟩
  rw [← ez3] at hP hD
  have wz3 : jgWc z3 = jgWc σ + 19 := by rw [ez3, wL_wc]; simp [l8]; omega
  refine lv_aload_n hx hb dX0_writeKey_19 rfl (lv_at hl 1 rfl) ?_
  refine lv_iload hx hb dX0_writeKey_20 (lv_at hl 0 rfl) ?_
  refine bj_wv (As := [.int (nI (jgWc σ))]) (rest := []) (n := 1) ⟨hx, hb, hml, hown, htg⟩ (c_writeSum l z3 (jgWc σ) (by omega) (by omega)) (cwV 1 htg gX0_171 rfl rfl rfl (by decide +kernel) ⟨Nat.le_of_ble_eq_true rfl, Nat.le_of_ble_eq_true rfl⟩) hK hP hD hS hA hl.1 rfl rfl (Nat.le_of_ble_eq_true rfl) dX0_writeKey_22 (Nat.zero_le _) (Nat.zero_le _) (fun H locs hP hD hS => ?_)
  obtain ⟨z4, ez4⟩ : ∃ zq : BJ, zq = wB z3 (sm (jgW z3) (jgWc σ) (jgWc z3 - (jgWc σ))) := ⟨_, rfl⟩
  rw [← ez4] at hP hD
  refine lv_iload hx hb dX0_writeKey_25 (lv_at hl 0 rfl) ?_
  have hfin : z4 = wR σ (rKey k d) := by
      have e9 : z3 = wL σ (rKey k d) := by rw [ez3, ez2, ez1, ← wL_app, ← wL_app]; rfl
      rw [ez4, wz3, e9, wR]; congr 2; simp [rKey, hd, l8]
  rw [hfin] at hP hD
  exact W.iret (v := nI (jgWc σ)) hx hb hr (fun t ht hW => ⟨⟨_, (), rfl, rfl, by rw [ht]; exact hP, va_K.moved hW.alike hK, hD⟩, hS.F ht⟩) hS.2.2 dX0_writeKey_27
set_option maxRecDepth 100000 in
set_option maxHeartbeats 4000000 in
theorem c_writeTyped (l : Launch) (σ : BJ) (ht : jgTc σ ≤ 64) (hw : jgWc σ + jgTc σ + 4 ≤ 700) : wBi l yX0_writeTyped wsX0_writeTyped ({ frames := 2, cells := 0, slots := 0, locals := 45 } : Room) σ [] (nI (jgWc σ)) (wR σ (rTyped σ)) := by
  intro dC dI cI cJ h sz
  refine Met.ofW (cc := cX0_writeTyped) (maxL := 3) (ret := (some .int)) (by decide) rfl ?_
  intro p e s m args below meth c s₁ B hml hv
  obtain ⟨rfl, hsz, hP, hK, hD0⟩ := hv
  have hx := B.exec
  have hb := B.bytes
  have hr := B.returns
  have hts := atoms_spec (ws := wsX0_writeTyped) B.pre
  have hown : s.vm.findClass RX0 = some m.cls := findClass_of_methodNamed B.named
  have hlocks := B.notSynchronized
  subst hsz
  have htg : ∀ w ∈ GW, w.before _ s = true := fun w h => hts w (List.mem_cons_of_mem _ h)
  have hD := hD0.self (sz := s.heap.size)
  generalize hAe : va_A (wBJ cI cJ h σ) s.heap.size = A at hD ⊢
  have hA : ∀ q : Nat, s.heap.size ≤ q → A q := fun q h => by rw [← hAe]; exact Or.inr h
  have hS : va_S A s.heap s.heap [] := va_S.rf
  have hl := lv_entry [.ref (h 0)] (n := 3) (Nat.le_of_ble_eq_true rfl)
  rw [lg_entry_eq]
  generalize (lg_sl [.ref (h 0)] ++ List.replicate (3 - (lg_sl [.ref (h 0)]).length) Slot.unset).toArray = ls at hl ⊢
  have hl : lv_has ls 3 [(0, .ref (h 0))] := hl
  have hP : va_P (dC, dI) vwCl (wBJ cI cJ h σ) s.heap := hP
  refine lv_aload_n hx hb dX0_writeTyped_0 rfl (lv_at hl 0 rfl) ?_
  refine lv_iconst (v := nI 1) hx hb dX0_writeTyped_1 (by decide) ?_
  refine lv_aload_n hx hb dX0_writeTyped_2 rfl (lv_at hl 0 rfl) ?_
  refine va_get (D := (dC, dI)) (ci := 0) (v := .int (nI (jgTc σ))) (C := RX0) (T := TX0) (N := 14) hx hb htg inX0 (fs := fsBJ h σ) hown hK hP 0 rfl rfl 1 (by decide) (htg _ fX0_44) (fun _ h9 => h9) rfl dX0_writeTyped_3 ?_
  refine bj_wi (As := [.int (nI 1), .int (nI (jgTc σ))]) (rest := []) (n := 2) ⟨hx, hb, hml, hown, htg⟩ (c_writeHead l σ (nI 1) (jgTc σ) (by omega)) (cwV 2 htg gX0_164 rfl rfl rfl (by decide +kernel) ⟨Nat.le_of_ble_eq_true rfl, Nat.le_of_ble_eq_true rfl⟩) hK hP hD hS hA hl.1 rfl rfl (Nat.le_of_ble_eq_true rfl) dX0_writeTyped_6 (Nat.zero_le _) (Nat.zero_le _) (fun H locs hP hD hS => ?_)
  obtain ⟨z1, ez1⟩ : ∃ zq : BJ, zq = wL σ (hd (nI 1) (jgTc σ)) := ⟨_, rfl⟩
  rw [← ez1] at hP hD
  refine lv_istore_n (lv' := [(1, .int (nI (jgWc σ))), (0, .ref (h 0))]) hx hb dX0_writeTyped_9 rfl hl (by decide) rfl (fun ls hl => ?_)
  refine lv_iconst (v := nI 0) hx hb dX0_writeTyped_10 (by decide) ?_
  refine lv_istore_n (lv' := [(2, .int (nI 0)), (1, .int (nI (jgWc σ))), (0, .ref (h 0))]) hx hb dX0_writeTyped_11 rfl hl (by decide) rfl (fun ls hl => ?_)
  have loop : ∀ (n i : Nat) (z : BJ), i ≤ jgTc σ → jgTc σ < i + n → z = wL σ (hd (nI 1) (jgTc σ) ++ (List.range i).map (jgT σ)) → ∀ (H : Heap) (locs : List Loc), va_P (dC, dI) vwCl (wBJ cI cJ h z) H → va_D A (wBJ cI cJ h z) → va_S A s.heap H locs → ∀ (ls : Array Slot), lv_has ls 3 [(2, .int (nI i)), (1, .int (nI (jgWc σ))), (0, .ref (h 0))] → W p l e (headSpec wsX0_writeTyped ({ frames := 2, cells := 0, slots := 0, locals := 45 } : Room)).room s m ([.ref (h 0)].toArray) below meth c H locs 0 0 (MQ below (va_Qi (fun (r' : Int32) (_ : Unit) => r' = (nI (jgWc σ))) (fun _ => aBJ dC dI cI cJ h A (wR σ (rTyped σ))) A) ([.ref (h 0)].toArray) s 0 0 A) (F0 m 12 ls []) := by
    intro n
    induction n with
    | zero => intro i z h1 h2; exact absurd h2 (by omega)
    | succ n ih =>
      intro i z hi hin ez H locs hP hD hS ls hl
      refine lv_iload_n hx hb dX0_writeTyped_12 rfl (lv_at hl 0 rfl) ?_
      have hTc : jgTc z = jgTc σ := by rw [ez]; exact wL_Tc _ _
      have hT : jgT z = jgT σ := by rw [ez]; exact wL_T _ _
      refine lv_aload_n hx hb dX0_writeTyped_13 rfl (lv_at hl 2 rfl) ?_
      refine va_get (D := (dC, dI)) (ci := 0) (v := .int (nI (jgTc z))) (C := RX0) (T := TX0) (N := 14) hx hb htg inX0 (fs := fsBJ h z) hown hK hP 0 rfl rfl 1 (by decide) (htg _ fX0_44) (fun _ h9 => h9) rfl dX0_writeTyped_14 ?_
      refine xr_icmp_ge (tgt := 36) hx hb dX0_writeTyped_17 (by decide) (by omega) (by omega) (fun c17 => ?_) (fun c17 => ?_)
      · refine lv_aload_n hx hb dX0_writeTyped_36 rfl (lv_at hl 2 rfl) ?_
        refine lv_iload_n hx hb dX0_writeTyped_37 rfl (lv_at hl 1 rfl) ?_
        refine bj_wv (As := [.int (nI (jgWc σ))]) (rest := []) (n := 1) ⟨hx, hb, hml, hown, htg⟩ (c_writeSum l z (jgWc σ) (by rw [ez, wL_wc]; simp [hd] <;> omega) (by rw [ez, wL_wc]; simp [hd] <;> omega)) (cwV 1 htg gX0_171 rfl rfl rfl (by decide +kernel) ⟨Nat.le_of_ble_eq_true rfl, Nat.le_of_ble_eq_true rfl⟩) hK hP hD hS hA hl.1 rfl rfl (Nat.le_of_ble_eq_true rfl) dX0_writeTyped_38 (Nat.zero_le _) (Nat.zero_le _) (fun H locs hP hD hS => ?_)
        obtain ⟨z2, ez2⟩ : ∃ zq : BJ, zq = wB z (sm (jgW z) (jgWc σ) (jgWc z - (jgWc σ))) := ⟨_, rfl⟩
        rw [← ez2] at hP hD
        refine lv_iload_n hx hb dX0_writeTyped_41 rfl (lv_at hl 1 rfl) ?_
        have hfin : z2 = wR σ (rTyped σ) := by
                   have e9 : z = wL σ (rTyped σ) := by rw [ez, show i = jgTc σ by omega]; rfl
                   rw [ez2, e9, wR, wL_wc]; congr 2; omega
        rw [hfin] at hP hD
        exact W.iret (v := nI (jgWc σ)) hx hb hr (fun t ht hW => ⟨⟨_, (), rfl, rfl, by rw [ht]; exact hP, va_K.moved hW.alike hK, hD⟩, hS.F ht⟩) hS.2.2 dX0_writeTyped_42
      · refine lv_aload_n hx hb dX0_writeTyped_20 rfl (lv_at hl 2 rfl) ?_
        refine lv_aload_n hx hb dX0_writeTyped_21 rfl (lv_at hl 2 rfl) ?_
        refine va_get (D := (dC, dI)) (ci := 0) (v := .ref (h 1)) (C := RX0) (T := TX0) (N := 14) hx hb htg inX0 (fs := fsBJ h z) hown hK hP 0 rfl rfl 0 (by decide) (htg _ fX0_9) (fun _ h9 => h9) rfl dX0_writeTyped_22 ?_
        refine lv_iload_n hx hb dX0_writeTyped_25 rfl (lv_at hl 0 rfl) ?_
        refine xr_iald (f := jgT z) (i := i) hx hb hK hP 1 0 rfl rfl (by omega) (by decide) dX0_writeTyped_26 ?_
        refine bj_wv (As := [.int ((jgT z) i)]) (rest := []) (n := 1) ⟨hx, hb, hml, hown, htg⟩ (c_writeByte l z ((jgT z) i) (by rw [ez, wL_wc]; simp [hd] <;> omega)) (cwV 1 htg gX0_168 rfl rfl rfl (by decide +kernel) ⟨Nat.le_of_ble_eq_true rfl, Nat.le_of_ble_eq_true rfl⟩) hK hP hD hS hA hl.1 rfl rfl (Nat.le_of_ble_eq_true rfl) dX0_writeTyped_27 (Nat.zero_le _) (Nat.zero_le _) (fun H locs hP hD hS => ?_)
        obtain ⟨z3, ez3⟩ : ∃ zq : BJ, zq = wB z ((jgT z) i) := ⟨_, rfl⟩
        rw [← ez3] at hP hD
        refine lv_iinc (v := nI (i + 1)) (lv' := [(2, .int (nI (i + 1))), (1, .int (nI (jgWc σ))), (0, .ref (h 0))]) hx hb dX0_writeTyped_30 hl (k := 0) rfl (nI_add _ 1) (by decide) rfl (fun ls hl => ?_)
        refine lv_goto (tgt := 12) hx hb dX0_writeTyped_33 (by decide) ?_
        exact ih (i + 1) z3 (by omega) (by omega) (by rw [ez3, hT, ez, wL_snoc, List.append_assoc, List.range_succ, List.map_append]; rfl) H locs hP hD hS ls (lv_sub hl [0, 1, 2] rfl)
  exact loop (jgTc σ + 1) 0 z1 (by omega) (by omega) (by rw [ez1, List.range_zero, List.map_nil, List.append_nil]) _ _ hP hD hS ls (lv_sub hl [0, 1, 2] rfl)
end
section
set_option maxRecDepth 100000 in
set_option maxHeartbeats 4000000 in
theorem c_followBlob (l : Launch) (σ : BJ) (st : Nat) (n : Nat) (hn : st + n ≤ 700) (hc : jgBc σ ≤ 20) : wBi l yX0_followBlob wsX0_followBlob ({ frames := 1, cells := 0, slots := 0, locals := 25 } : Room) σ [.int (nI st), .int (nI n)] (bI ((fBlob σ st n).isSome)) (ofO (fBlob σ st n) σ) := by
  intro dC dI cI cJ h sz
  refine Met.ofW (cc := cX0_followBlob) (maxL := 5) (ret := (some .boolean)) (by decide) rfl ?_
  intro p e s m args below meth c s₁ B hml hv
  obtain ⟨rfl, hsz, hP, hK, hD0⟩ := hv
  have hx := B.exec
  have hb := B.bytes
  have hr := B.returns
  have hts := atoms_spec (ws := wsX0_followBlob) B.pre
  have hown : s.vm.findClass RX0 = some m.cls := findClass_of_methodNamed B.named
  have hlocks := B.notSynchronized
  subst hsz
  have htg : ∀ w ∈ GW, w.before _ s = true := fun w h => hts w (List.mem_cons_of_mem _ h)
  have hD := hD0.self (sz := s.heap.size)
  generalize hAe : va_A (wBJ cI cJ h σ) s.heap.size = A at hD ⊢
  have hA : ∀ q : Nat, s.heap.size ≤ q → A q := fun q h => by rw [← hAe]; exact Or.inr h
  have hS : va_S A s.heap s.heap [] := va_S.rf
  have hl := lv_entry [.ref (h 0), .int (nI st), .int (nI n)] (n := 5) (Nat.le_of_ble_eq_true rfl)
  rw [lg_entry_eq]
  generalize (lg_sl [.ref (h 0), .int (nI st), .int (nI n)] ++ List.replicate (5 - (lg_sl [.ref (h 0), .int (nI st), .int (nI n)]).length) Slot.unset).toArray = ls at hl ⊢
  have hl : lv_has ls 5 [(0, .ref (h 0)), (1, .int (nI st)), (2, .int (nI n))] := hl
  have hP : va_P (dC, dI) vwCl (wBJ cI cJ h σ) s.heap := hP
  refine lv_aload_n hx hb dX0_followBlob_0 rfl (lv_at hl 0 rfl) ?_
  refine va_get (D := (dC, dI)) (ci := 0) (v := .ref (h 2)) (C := RX0) (T := TX0) (N := 14) hx hb htg inX0 (fs := fsBJ h σ) hown hK hP 0 rfl rfl 2 (by decide) (htg _ fX0_13) (fun _ h9 => h9) rfl dX0_followBlob_1 ?_
  refine lv_iload_n hx hb dX0_followBlob_4 rfl (lv_at hl 1 rfl) ?_
  refine lv_iload_n hx hb dX0_followBlob_5 rfl (lv_at hl 2 rfl) ?_
  refine xr_rol (va_runS (As := [.ref (h 2), .int (nI st), .int (nI n)]) (rest := []) ⟨hx, hb, hml, hown, htg⟩ (c_digestOf l (jgW σ) 700 st n (by omega) (by decide) dC dI cI (h 2) _) (va_cwS 3 htg gX0_60 rfl rfl rfl (by decide +kernel) ⟨Nat.le_of_ble_eq_true rfl, Nat.le_of_ble_eq_true rfl⟩) ⟨fun a U g mk q => ⟨q.1, q.2.1, q.2.2.1, va_K.moved (u := U) (U := U.calling g mk a) (Vm.Alike.refl U.vm) q.2.2.2⟩, fun U hU hW => ⟨rfl, by rw [hU], by rw [hU]; exact hP.sub [2] rfl, va_K.moved hW.alike (hK.sub [0] rfl)⟩⟩ rfl rfl hl.1 rfl (lv_room (Nat.le_of_ble_eq_true rfl)) dX0_followBlob_6 ⟨Nat.zero_le _, Nat.zero_le _⟩) hP hS hA (fun H locs hP hS _ => ?_)
  refine lv_lstore_n (lv' := [(3, .long (dg (jgW σ) st n)), (0, .ref (h 0)), (1, .int (nI st)), (2, .int (nI n))]) hx hb dX0_followBlob_9 rfl hl (by decide) rfl (fun ls hl => ?_)
  refine lv_aload_n hx hb dX0_followBlob_10 rfl (lv_at hl 1 rfl) ?_
  refine lv_lload_n hx hb dX0_followBlob_11 rfl (lv_at hl 0 rfl) ?_
  refine bj_ri (As := [.long (dg (jgW σ) st n)]) (rest := []) (n := 1) ⟨hx, hb, hml, hown, htg⟩ (c_findBlob l σ (dg (jgW σ) st n) (by omega)) (cwV 1 htg gX0_64 rfl rfl rfl (by decide +kernel) ⟨Nat.le_of_ble_eq_true rfl, Nat.le_of_ble_eq_true rfl⟩) hK hP hD hS hA hl.1 rfl rfl (Nat.le_of_ble_eq_true rfl) dX0_followBlob_12 (Nat.zero_le _) (Nat.zero_le _) (fun H locs hP hS => ?_)
  obtain ⟨o, ho⟩ : ∃ zq, zq = fnd (jgBD σ) (dg (jgW σ) st n) (jgBc σ) := ⟨_, rfl⟩
  rw [← ho]
  cases o with
  | none =>
    refine W.eq (g2 := F0 m 15 ls [.int (-1)]) rfl ?_
    refine lv_iconst (v := -1) hx hb dX0_followBlob_15 (by decide) ?_
    refine lv_icmp_eq (tgt := 21) hx hb dX0_followBlob_16 (by decide) (fun _ => ?_) (fun c => absurd rfl c)
    refine lv_aload_n hx hb dX0_followBlob_21 rfl (lv_at hl 1 rfl) ?_
    refine va_get (D := (dC, dI)) (ci := 0) (v := .int (nI (jgBc σ))) (C := RX0) (T := TX0) (N := 14) hx hb htg inX0 (fs := fsBJ h σ) hown hK hP 0 rfl rfl 8 (by decide) (htg _ fX0_68) (fun _ h9 => h9) rfl dX0_followBlob_22 ?_
    refine lv_bipush (v := nI 20) hx hb dX0_followBlob_25 (by decide) ?_
    refine xr_icmp_lt (tgt := 32) hx hb dX0_followBlob_27 (by decide) (by omega) (by omega) (fun c27 => ?_) (fun c27 => ?_)
    · refine lv_aload_n hx hb dX0_followBlob_32 rfl (lv_at hl 1 rfl) ?_
      refine va_get (D := (dC, dI)) (ci := 0) (v := .ref (h 3)) (C := RX0) (T := TX0) (N := 14) hx hb htg inX0 (fs := fsBJ h σ) hown hK hP 0 rfl rfl 5 (by decide) (htg _ fX0_16) (fun _ h9 => h9) rfl dX0_followBlob_33 ?_
      refine lv_aload_n hx hb dX0_followBlob_36 rfl (lv_at hl 1 rfl) ?_
      refine va_get (D := (dC, dI)) (ci := 0) (v := .int (nI (jgBc σ))) (C := RX0) (T := TX0) (N := 14) hx hb htg inX0 (fs := fsBJ h σ) hown hK hP 0 rfl rfl 8 (by decide) (htg _ fX0_68) (fun _ h9 => h9) rfl dX0_followBlob_37 ?_
      refine lv_lload_n hx hb dX0_followBlob_40 rfl (lv_at hl 0 rfl) ?_
      refine xr_last (f := jgBD σ) (i := jgBc σ) (x := dg (jgW σ) st n) hx hb hK hP hD hS 3 1 rfl rfl (by omega) (by decide) dX0_followBlob_41 (fun H locs hP hD hS => ?_)
      rw [wBJ_BD] at hP hD
      refine lv_aload_n hx hb dX0_followBlob_42 rfl (lv_at hl 1 rfl) ?_
      refine va_get (D := (dC, dI)) (ci := 0) (v := .ref (h 4)) (C := RX0) (T := TX0) (N := 14) hx hb htg inX0 (fs := fsBJ h (juBD σ (vp_updL (jgBD σ) (jgBc σ) (dg (jgW σ) st n)))) hown hK hP 0 rfl rfl 6 (by decide) (htg _ fX0_20) (fun _ h9 => h9) rfl dX0_followBlob_43 ?_
      refine lv_aload_n hx hb dX0_followBlob_46 rfl (lv_at hl 1 rfl) ?_
      refine va_get (D := (dC, dI)) (ci := 0) (v := .int (nI (jgBc σ))) (C := RX0) (T := TX0) (N := 14) hx hb htg inX0 (fs := fsBJ h (juBD σ (vp_updL (jgBD σ) (jgBc σ) (dg (jgW σ) st n)))) hown hK hP 0 rfl rfl 8 (by decide) (htg _ fX0_68) (fun _ h9 => h9) rfl dX0_followBlob_47 ?_
      refine lv_iload_n hx hb dX0_followBlob_50 rfl (lv_at hl 2 rfl) ?_
      refine xr_iast (f := jgBS σ) (i := jgBc σ) (x := nI st) hx hb hK hP hD hS 4 0 rfl rfl (by omega) (by decide) dX0_followBlob_51 (fun H locs hP hD hS => ?_)
      rw [wBJ_BS] at hP hD
      refine lv_aload_n hx hb dX0_followBlob_52 rfl (lv_at hl 1 rfl) ?_
      refine va_get (D := (dC, dI)) (ci := 0) (v := .ref (h 5)) (C := RX0) (T := TX0) (N := 14) hx hb htg inX0 (fs := fsBJ h (juBS (juBD σ (vp_updL (jgBD σ) (jgBc σ) (dg (jgW σ) st n))) (upd (jgBS σ) (jgBc σ) (nI st)))) hown hK hP 0 rfl rfl 7 (by decide) (htg _ fX0_23) (fun _ h9 => h9) rfl dX0_followBlob_53 ?_
      refine lv_aload_n hx hb dX0_followBlob_56 rfl (lv_at hl 1 rfl) ?_
      refine va_get (D := (dC, dI)) (ci := 0) (v := .int (nI (jgBc σ))) (C := RX0) (T := TX0) (N := 14) hx hb htg inX0 (fs := fsBJ h (juBS (juBD σ (vp_updL (jgBD σ) (jgBc σ) (dg (jgW σ) st n))) (upd (jgBS σ) (jgBc σ) (nI st)))) hown hK hP 0 rfl rfl 8 (by decide) (htg _ fX0_68) (fun _ h9 => h9) rfl dX0_followBlob_57 ?_
      refine lv_iload_n hx hb dX0_followBlob_60 rfl (lv_at hl 3 rfl) ?_
      refine xr_iast (f := jgBL σ) (i := jgBc σ) (x := nI n) hx hb hK hP hD hS 5 0 rfl rfl (by omega) (by decide) dX0_followBlob_61 (fun H locs hP hD hS => ?_)
      rw [wBJ_BL] at hP hD
      refine lv_aload_n hx hb dX0_followBlob_62 rfl (lv_at hl 1 rfl) ?_
      refine lv_dup hx hb dX0_followBlob_63 rfl ?_
      refine va_get (D := (dC, dI)) (ci := 0) (v := .int (nI (jgBc σ))) (C := RX0) (T := TX0) (N := 14) hx hb htg inX0 (fs := fsBJ h (juBL (juBS (juBD σ (vp_updL (jgBD σ) (jgBc σ) (dg (jgW σ) st n))) (upd (jgBS σ) (jgBc σ) (nI st))) (upd (jgBL σ) (jgBc σ) (nI n)))) hown hK hP 0 rfl rfl 8 (by decide) (htg _ fX0_68) (fun _ h9 => h9) rfl dX0_followBlob_64 ?_
      refine lv_iconst (v := nI 1) hx hb dX0_followBlob_67 (by decide) ?_
      refine xr_iadd hx hb dX0_followBlob_68 ?_
      refine va_put (D := (dC, dI)) (ci := 0) (v := .int (nI (jgBc σ + 1))) (ty := .int) (C := RX0) (T := TX0) (N := 14) hx hb htg inX0 tyX0 tyX0_ok nmX0 (fs := fsBJ h (juBL (juBS (juBD σ (vp_updL (jgBD σ) (jgBc σ) (dg (jgW σ) st n))) (upd (jgBS σ) (jgBc σ) (nI st))) (upd (jgBL σ) (jgBc σ) (nI n)))) hown hK hP hD hS 0 rfl rfl 8 (by decide) (htg _ fX0_68) (fun _ h9 => h9) rfl (by decide +kernel) rfl rfl (Nat.le_of_ble_eq_true rfl) dX0_followBlob_69 (fun H locs hP hD hS => ?_)
      rw [wBJ_Bc] at hP hD
      refine lv_iconst (v := nI 1) hx hb dX0_followBlob_72 (by decide) ?_
      have hfin : juBc (juBL (juBS (juBD σ (vp_updL (jgBD σ) (jgBc σ) (dg (jgW σ) st n))) (upd (jgBS σ) (jgBc σ) (nI st))) (upd (jgBL σ) (jgBc σ) (nI n))) (jgBc σ + 1) = ofO (fBlob σ st n) σ := by rw [fBlob_new ho.symm (by omega)]; rfl
      rw [hfin] at hP hD
      exact W.zret (ty := .boolean) (v := nI 1) hx hb hr (by first | rfl | decide | exact bI_nar _) (fun t ht hW => ⟨⟨_, (), rfl, by rw [fBlob_new ho.symm (by omega)]; rfl, by rw [ht]; exact hP, va_K.moved hW.alike hK, hD⟩, hS.F ht⟩) hS.2.2 dX0_followBlob_73
    · refine lv_iconst (v := nI 0) hx hb dX0_followBlob_30 (by decide) ?_
      have hfin : σ = ofO (fBlob σ st n) σ := by rw [fBlob_full ho.symm (by omega)]; rfl
      rw [hfin] at hP hD
      exact W.zret (ty := .boolean) (v := nI 0) hx hb hr (by first | rfl | decide | exact bI_nar _) (fun t ht hW => ⟨⟨_, (), rfl, by rw [fBlob_full ho.symm (by omega)]; rfl, by rw [ht]; exact hP, va_K.moved hW.alike hK, hD⟩, hS.F ht⟩) hS.2.2 dX0_followBlob_31
  | some b =>
    have hlto := (fnd_lt ho.symm).1
    refine W.eq (g2 := F0 m 15 ls [.int (nI b)]) rfl ?_
    refine lv_iconst (v := -1) hx hb dX0_followBlob_15 (by decide) ?_
    refine lv_icmp_eq (tgt := 21) hx hb dX0_followBlob_16 (by decide) (fun c => absurd c (optI_none (by omega))) (fun _ => ?_)
    refine lv_iconst (v := nI 1) hx hb dX0_followBlob_19 (by decide) ?_
    have hfin : σ = ofO (fBlob σ st n) σ := by rw [fBlob_some ho.symm]; rfl
    rw [hfin] at hP hD
    exact W.zret (ty := .boolean) (v := nI 1) hx hb hr (by first | rfl | decide | exact bI_nar _) (fun t ht hW => ⟨⟨_, (), rfl, by rw [fBlob_some ho.symm]; rfl, by rw [ht]; exact hP, va_K.moved hW.alike hK, hD⟩, hS.F ht⟩) hS.2.2 dX0_followBlob_20
set_option maxRecDepth 100000 in
set_option maxHeartbeats 4000000 in
theorem c_followTell (l : Launch) (σ : BJ) (t : Nat) (d : Int64) (ht : t < 256) (hc : jgBc σ ≤ 20) : wBi l yX0_followTell wsX0_followTell ({ frames := 1, cells := 0, slots := 0, locals := 23 } : Room) σ [.int (nI t), .long d] (bI ((fTell σ t d).isSome)) (ofO (fTell σ t d) σ) := by
  intro dC dI cI cJ h sz
  refine Met.ofW (cc := cX0_followTell) (maxL := 5) (ret := (some .boolean)) (by decide) rfl ?_
  intro p e s m args below meth c s₁ B hml hv
  obtain ⟨rfl, hsz, hP, hK, hD0⟩ := hv
  have hx := B.exec
  have hb := B.bytes
  have hr := B.returns
  have hts := atoms_spec (ws := wsX0_followTell) B.pre
  have hown : s.vm.findClass RX0 = some m.cls := findClass_of_methodNamed B.named
  have hlocks := B.notSynchronized
  subst hsz
  have htg : ∀ w ∈ GW, w.before _ s = true := fun w h => hts w (List.mem_cons_of_mem _ h)
  have hD := hD0.self (sz := s.heap.size)
  generalize hAe : va_A (wBJ cI cJ h σ) s.heap.size = A at hD ⊢
  have hA : ∀ q : Nat, s.heap.size ≤ q → A q := fun q h => by rw [← hAe]; exact Or.inr h
  have hS : va_S A s.heap s.heap [] := va_S.rf
  have hl := lv_entry [.ref (h 0), .int (nI t), .long d] (n := 5) (Nat.le_of_ble_eq_true rfl)
  rw [lg_entry_eq]
  generalize (lg_sl [.ref (h 0), .int (nI t), .long d] ++ List.replicate (5 - (lg_sl [.ref (h 0), .int (nI t), .long d]).length) Slot.unset).toArray = ls at hl ⊢
  have hl : lv_has ls 5 [(0, .ref (h 0)), (1, .int (nI t)), (2, .long d)] := hl
  have hP : va_P (dC, dI) vwCl (wBJ cI cJ h σ) s.heap := hP
  refine lv_aload_n hx hb dX0_followTell_0 rfl (lv_at hl 0 rfl) ?_
  refine lv_lload_n hx hb dX0_followTell_1 rfl (lv_at hl 2 rfl) ?_
  refine bj_ri (As := [.long d]) (rest := []) (n := 1) ⟨hx, hb, hml, hown, htg⟩ (c_findBlob l σ d (by omega)) (cwV 1 htg gX0_64 rfl rfl rfl (by decide +kernel) ⟨Nat.le_of_ble_eq_true rfl, Nat.le_of_ble_eq_true rfl⟩) hK hP hD hS hA hl.1 rfl rfl (Nat.le_of_ble_eq_true rfl) dX0_followTell_2 (Nat.zero_le _) (Nat.zero_le _) (fun H locs hP hS => ?_)
  obtain ⟨o, ho⟩ : ∃ zq, zq = fnd (jgBD σ) d (jgBc σ) := ⟨_, rfl⟩
  rw [← ho]
  cases o with
  | none =>
    refine W.eq (g2 := F0 m 5 ls [.int (-1)]) rfl ?_
    refine lv_istore (lv' := [(4, .int (-1)), (0, .ref (h 0)), (1, .int (nI t)), (2, .long d)]) hx hb dX0_followTell_5 hl (by decide) rfl (fun ls hl => ?_)
    refine lv_iload_n hx hb dX0_followTell_7 rfl (lv_at hl 2 rfl) ?_
    refine xr_roi (va_runS (As := [.int (nI t)]) (rest := []) ⟨hx, hb, hml, hown, htg⟩ (c_isTag l (nI t) dC dI cI 0 _) (va_cwS 1 htg gX0_157 rfl rfl rfl (by decide +kernel) ⟨Nat.le_of_ble_eq_true rfl, Nat.le_of_ble_eq_true rfl⟩) ⟨fun a U g mk q => q, fun U hU hW => ⟨rfl, by show U.heap.size = _; rw [hU]⟩⟩ rfl rfl hl.1 rfl (lv_room (Nat.le_of_ble_eq_true rfl)) dX0_followTell_8 ⟨Nat.zero_le _, Nat.zero_le _⟩) hP hS hA (fun H locs hP hS _ => ?_)
    refine xr_ifeqB (tgt := 20) hx hb dX0_followTell_11 (by decide) (fun c11 => ?_) (fun c11 => ?_)
    · refine lv_iconst (v := nI 0) hx hb dX0_followTell_20 (by decide) ?_
      have hfin : σ = ofO (fTell σ t d) σ := by (first | rw [fTell_none ho.symm] | rw [fTell_out (by have h9 := c11; rw [isTg_nI (by omega)] at h9; simpa using h9)]); rfl
      rw [hfin] at hP hD
      exact W.zret (ty := .boolean) (v := nI 0) hx hb hr (by first | rfl | decide | exact bI_nar _) (fun t ht hW => ⟨⟨_, (), rfl, by (first | rw [fTell_none ho.symm] | rw [fTell_out (by have h9 := c11; rw [isTg_nI (by omega)] at h9; simpa using h9)]); rfl, by rw [ht]; exact hP, va_K.moved hW.alike hK, hD⟩, hS.F ht⟩) hS.2.2 dX0_followTell_21
    · refine lv_iload hx hb dX0_followTell_14 (lv_at hl 0 rfl) ?_
      refine lv_iconst (v := -1) hx hb dX0_followTell_16 (by decide) ?_
      refine lv_icmp_ne (tgt := 22) hx hb dX0_followTell_17 (by decide) (fun c => absurd rfl c) (fun _ => ?_)
      refine lv_iconst (v := nI 0) hx hb dX0_followTell_20 (by decide) ?_
      have hfin : σ = ofO (fTell σ t d) σ := by (first | rw [fTell_none ho.symm] | rw [fTell_out (by have h9 := c11; rw [isTg_nI (by omega)] at h9; simpa using h9)]); rfl
      rw [hfin] at hP hD
      exact W.zret (ty := .boolean) (v := nI 0) hx hb hr (by first | rfl | decide | exact bI_nar _) (fun t ht hW => ⟨⟨_, (), rfl, by (first | rw [fTell_none ho.symm] | rw [fTell_out (by have h9 := c11; rw [isTg_nI (by omega)] at h9; simpa using h9)]); rfl, by rw [ht]; exact hP, va_K.moved hW.alike hK, hD⟩, hS.F ht⟩) hS.2.2 dX0_followTell_21
  | some b =>
    have hlto := (fnd_lt ho.symm).1
    refine W.eq (g2 := F0 m 5 ls [.int (nI b)]) rfl ?_
    refine lv_istore (lv' := [(4, .int (nI b)), (0, .ref (h 0)), (1, .int (nI t)), (2, .long d)]) hx hb dX0_followTell_5 hl (by decide) rfl (fun ls hl => ?_)
    refine lv_iload_n hx hb dX0_followTell_7 rfl (lv_at hl 2 rfl) ?_
    refine xr_roi (va_runS (As := [.int (nI t)]) (rest := []) ⟨hx, hb, hml, hown, htg⟩ (c_isTag l (nI t) dC dI cI 0 _) (va_cwS 1 htg gX0_157 rfl rfl rfl (by decide +kernel) ⟨Nat.le_of_ble_eq_true rfl, Nat.le_of_ble_eq_true rfl⟩) ⟨fun a U g mk q => q, fun U hU hW => ⟨rfl, by show U.heap.size = _; rw [hU]⟩⟩ rfl rfl hl.1 rfl (lv_room (Nat.le_of_ble_eq_true rfl)) dX0_followTell_8 ⟨Nat.zero_le _, Nat.zero_le _⟩) hP hS hA (fun H locs hP hS _ => ?_)
    refine xr_ifeqB (tgt := 20) hx hb dX0_followTell_11 (by decide) (fun c11 => ?_) (fun c11 => ?_)
    · refine lv_iconst (v := nI 0) hx hb dX0_followTell_20 (by decide) ?_
      have hfin : σ = ofO (fTell σ t d) σ := by (first | rw [fTell_none ho.symm] | rw [fTell_out (by have h9 := c11; rw [isTg_nI (by omega)] at h9; simpa using h9)]); rfl
      rw [hfin] at hP hD
      exact W.zret (ty := .boolean) (v := nI 0) hx hb hr (by first | rfl | decide | exact bI_nar _) (fun t ht hW => ⟨⟨_, (), rfl, by (first | rw [fTell_none ho.symm] | rw [fTell_out (by have h9 := c11; rw [isTg_nI (by omega)] at h9; simpa using h9)]); rfl, by rw [ht]; exact hP, va_K.moved hW.alike hK, hD⟩, hS.F ht⟩) hS.2.2 dX0_followTell_21
    · refine lv_iload hx hb dX0_followTell_14 (lv_at hl 0 rfl) ?_
      refine lv_iconst (v := -1) hx hb dX0_followTell_16 (by decide) ?_
      refine lv_icmp_ne (tgt := 22) hx hb dX0_followTell_17 (by decide) (fun _ => ?_) (fun c => absurd c (optI_none (by omega)))
      refine lv_aload_n hx hb dX0_followTell_22 rfl (lv_at hl 1 rfl) ?_
      refine va_get (D := (dC, dI)) (ci := 0) (v := .ref (h 6)) (C := RX0) (T := TX0) (N := 14) hx hb htg inX0 (fs := fsBJ h σ) hown hK hP 0 rfl rfl 9 (by decide) (htg _ fX0_26) (fun _ h9 => h9) rfl dX0_followTell_23 ?_
      refine lv_iload_n hx hb dX0_followTell_26 rfl (lv_at hl 2 rfl) ?_
      refine lv_iload hx hb dX0_followTell_27 (lv_at hl 0 rfl) ?_
      have ht8 : t < 8 := by have h9 := c11; rw [isTg_nI (by omega)] at h9; simpa using h9
      refine xr_iast (f := jgTB σ) (i := t) (x := nI b) hx hb hK hP hD hS 6 0 rfl rfl (by omega) (by decide) dX0_followTell_29 (fun H locs hP hD hS => ?_)
      rw [wBJ_TB] at hP hD
      refine lv_iconst (v := nI 1) hx hb dX0_followTell_30 (by decide) ?_
      have hfin : juTB σ (upd (jgTB σ) t (nI b)) = ofO (fTell σ t d) σ := by rw [fTell_some ho.symm (by have h9 := c11; rw [isTg_nI (by omega)] at h9; simpa using h9)]; rfl
      rw [hfin] at hP hD
      exact W.zret (ty := .boolean) (v := nI 1) hx hb hr (by first | rfl | decide | exact bI_nar _) (fun t ht hW => ⟨⟨_, (), rfl, by rw [fTell_some ho.symm (by have h9 := c11; rw [isTg_nI (by omega)] at h9; simpa using h9)]; rfl, by rw [ht]; exact hP, va_K.moved hW.alike hK, hD⟩, hS.F ht⟩) hS.2.2 dX0_followTell_31
set_option maxRecDepth 100000 in
set_option maxHeartbeats 4000000 in
theorem c_followUntell (l : Launch) (σ : BJ) (t : Nat) (ht : t < 256) : wBi l yX0_followUntell wsX0_followUntell ({ frames := 1, cells := 0, slots := 0, locals := 20 } : Room) σ [.int (nI t)] (bI ((fUntell σ t).isSome)) (ofO (fUntell σ t) σ) := by
  intro dC dI cI cJ h sz
  refine Met.ofW (cc := cX0_followUntell) (maxL := 2) (ret := (some .boolean)) (by decide) rfl ?_
  intro p e s m args below meth c s₁ B hml hv
  obtain ⟨rfl, hsz, hP, hK, hD0⟩ := hv
  have hx := B.exec
  have hb := B.bytes
  have hr := B.returns
  have hts := atoms_spec (ws := wsX0_followUntell) B.pre
  have hown : s.vm.findClass RX0 = some m.cls := findClass_of_methodNamed B.named
  have hlocks := B.notSynchronized
  subst hsz
  have htg : ∀ w ∈ GW, w.before _ s = true := fun w h => hts w (List.mem_cons_of_mem _ h)
  have hD := hD0.self (sz := s.heap.size)
  generalize hAe : va_A (wBJ cI cJ h σ) s.heap.size = A at hD ⊢
  have hA : ∀ q : Nat, s.heap.size ≤ q → A q := fun q h => by rw [← hAe]; exact Or.inr h
  have hS : va_S A s.heap s.heap [] := va_S.rf
  have hl := lv_entry [.ref (h 0), .int (nI t)] (n := 2) (Nat.le_of_ble_eq_true rfl)
  rw [lg_entry_eq]
  generalize (lg_sl [.ref (h 0), .int (nI t)] ++ List.replicate (2 - (lg_sl [.ref (h 0), .int (nI t)]).length) Slot.unset).toArray = ls at hl ⊢
  have hl : lv_has ls 2 [(0, .ref (h 0)), (1, .int (nI t))] := hl
  have hP : va_P (dC, dI) vwCl (wBJ cI cJ h σ) s.heap := hP
  refine lv_iload_n hx hb dX0_followUntell_0 rfl (lv_at hl 1 rfl) ?_
  refine xr_roi (va_runS (As := [.int (nI t)]) (rest := []) ⟨hx, hb, hml, hown, htg⟩ (c_isTag l (nI t) dC dI cI 0 _) (va_cwS 1 htg gX0_157 rfl rfl rfl (by decide +kernel) ⟨Nat.le_of_ble_eq_true rfl, Nat.le_of_ble_eq_true rfl⟩) ⟨fun a U g mk q => q, fun U hU hW => ⟨rfl, by show U.heap.size = _; rw [hU]⟩⟩ rfl rfl hl.1 rfl (lv_room (Nat.le_of_ble_eq_true rfl)) dX0_followUntell_1 ⟨Nat.zero_le _, Nat.zero_le _⟩) hP hS hA (fun H locs hP hS _ => ?_)
  refine xr_ifneB (tgt := 9) hx hb dX0_followUntell_4 (by decide) (fun c4 => ?_) (fun c4 => ?_)
  · refine lv_aload_n hx hb dX0_followUntell_9 rfl (lv_at hl 0 rfl) ?_
    refine va_get (D := (dC, dI)) (ci := 0) (v := .ref (h 6)) (C := RX0) (T := TX0) (N := 14) hx hb htg inX0 (fs := fsBJ h σ) hown hK hP 0 rfl rfl 9 (by decide) (htg _ fX0_26) (fun _ h9 => h9) rfl dX0_followUntell_10 ?_
    refine lv_iload_n hx hb dX0_followUntell_13 rfl (lv_at hl 1 rfl) ?_
    refine lv_iconst (v := -1) hx hb dX0_followUntell_14 (by decide) ?_
    have ht8 : t < 8 := by have h9 := c4; rw [isTg_nI (by omega)] at h9; simpa using h9
    refine xr_iast (f := jgTB σ) (i := t) (x := -1) hx hb hK hP hD hS 6 0 rfl rfl (by omega) (by decide) dX0_followUntell_15 (fun H locs hP hD hS => ?_)
    rw [wBJ_TB] at hP hD
    refine lv_iconst (v := nI 1) hx hb dX0_followUntell_16 (by decide) ?_
    have hfin : juTB σ (upd (jgTB σ) t (-1)) = ofO (fUntell σ t) σ := by rw [fUntell, if_pos ht8]; rfl
    rw [hfin] at hP hD
    exact W.zret (ty := .boolean) (v := nI 1) hx hb hr (by first | rfl | decide | exact bI_nar _) (fun t ht hW => ⟨⟨_, (), rfl, by rw [fUntell, if_pos ht8]; rfl, by rw [ht]; exact hP, va_K.moved hW.alike hK, hD⟩, hS.F ht⟩) hS.2.2 dX0_followUntell_17
  · refine lv_iconst (v := nI 0) hx hb dX0_followUntell_7 (by decide) ?_
    have hfin : σ = ofO (fUntell σ t) σ := by rw [fUntell, if_neg (by have h9 := c4; rw [isTg_nI (by omega)] at h9; simpa using h9)]; rfl
    rw [hfin] at hP hD
    exact W.zret (ty := .boolean) (v := nI 0) hx hb hr (by first | rfl | decide | exact bI_nar _) (fun t ht hW => ⟨⟨_, (), rfl, by rw [fUntell, if_neg (by have h9 := c4; rw [isTg_nI (by omega)] at h9; simpa using h9)]; rfl, by rw [ht]; exact hP, va_K.moved hW.alike hK, hD⟩, hS.F ht⟩) hS.2.2 dX0_followUntell_8
end
section
set_option maxRecDepth 100000 in
set_option maxHeartbeats 4000000 in
theorem c_followKey (l : Launch) (σ : BJ) (k : Int64) (d : Int64) (hc : jgKc σ ≤ 16) : wBi l yX0_followKey wsX0_followKey ({ frames := 1, cells := 0, slots := 0, locals := 23 } : Room) σ [.long k, .long d] (bI ((fKey σ k d).isSome)) (ofO (fKey σ k d) σ) := by
  intro dC dI cI cJ h sz
  refine Met.ofW (cc := cX0_followKey) (maxL := 6) (ret := (some .boolean)) (by decide) rfl ?_
  intro p e s m args below meth c s₁ B hml hv
  obtain ⟨rfl, hsz, hP, hK, hD0⟩ := hv
  have hx := B.exec
  have hb := B.bytes
  have hr := B.returns
  have hts := atoms_spec (ws := wsX0_followKey) B.pre
  have hown : s.vm.findClass RX0 = some m.cls := findClass_of_methodNamed B.named
  have hlocks := B.notSynchronized
  subst hsz
  have htg : ∀ w ∈ GW, w.before _ s = true := fun w h => hts w (List.mem_cons_of_mem _ h)
  have hD := hD0.self (sz := s.heap.size)
  generalize hAe : va_A (wBJ cI cJ h σ) s.heap.size = A at hD ⊢
  have hA : ∀ q : Nat, s.heap.size ≤ q → A q := fun q h => by rw [← hAe]; exact Or.inr h
  have hS : va_S A s.heap s.heap [] := va_S.rf
  have hl := lv_entry [.ref (h 0), .long k, .long d] (n := 6) (Nat.le_of_ble_eq_true rfl)
  rw [lg_entry_eq]
  generalize (lg_sl [.ref (h 0), .long k, .long d] ++ List.replicate (6 - (lg_sl [.ref (h 0), .long k, .long d]).length) Slot.unset).toArray = ls at hl ⊢
  have hl : lv_has ls 6 [(0, .ref (h 0)), (1, .long k), (3, .long d)] := hl
  have hP : va_P (dC, dI) vwCl (wBJ cI cJ h σ) s.heap := hP
  refine lv_aload_n hx hb dX0_followKey_0 rfl (lv_at hl 0 rfl) ?_
  refine lv_lload_n hx hb dX0_followKey_1 rfl (lv_at hl 1 rfl) ?_
  refine bj_ri (As := [.long k]) (rest := []) (n := 1) ⟨hx, hb, hml, hown, htg⟩ (c_findKey l σ k (by omega)) (cwV 1 htg gX0_103 rfl rfl rfl (by decide +kernel) ⟨Nat.le_of_ble_eq_true rfl, Nat.le_of_ble_eq_true rfl⟩) hK hP hD hS hA hl.1 rfl rfl (Nat.le_of_ble_eq_true rfl) dX0_followKey_2 (Nat.zero_le _) (Nat.zero_le _) (fun H locs hP hS => ?_)
  obtain ⟨o, ho⟩ : ∃ zq, zq = fnd (jgKS σ) k (jgKc σ) := ⟨_, rfl⟩
  rw [← ho]
  cases o with
  | none =>
    refine W.eq (g2 := F0 m 5 ls [.int (-1)]) rfl ?_
    refine lv_istore (lv' := [(5, .int (-1)), (0, .ref (h 0)), (1, .long k), (3, .long d)]) hx hb dX0_followKey_5 hl (by decide) rfl (fun ls hl => ?_)
    refine lv_iload hx hb dX0_followKey_7 (lv_at hl 0 rfl) ?_
    refine lv_iconst (v := -1) hx hb dX0_followKey_9 (by decide) ?_
    refine lv_icmp_ne (tgt := 48) hx hb dX0_followKey_10 (by decide) (fun c => absurd rfl c) (fun _ => ?_)
    refine lv_aload_n hx hb dX0_followKey_13 rfl (lv_at hl 1 rfl) ?_
    refine va_get (D := (dC, dI)) (ci := 0) (v := .int (nI (jgKc σ))) (C := RX0) (T := TX0) (N := 14) hx hb htg inX0 (fs := fsBJ h σ) hown hK hP 0 rfl rfl 12 (by decide) (htg _ fX0_106) (fun _ h9 => h9) rfl dX0_followKey_14 ?_
    refine lv_bipush (v := nI 16) hx hb dX0_followKey_17 (by decide) ?_
    refine xr_icmp_lt (tgt := 24) hx hb dX0_followKey_19 (by decide) (by omega) (by omega) (fun c19 => ?_) (fun c19 => ?_)
    · refine lv_aload_n hx hb dX0_followKey_24 rfl (lv_at hl 1 rfl) ?_
      refine va_get (D := (dC, dI)) (ci := 0) (v := .int (nI (jgKc σ))) (C := RX0) (T := TX0) (N := 14) hx hb htg inX0 (fs := fsBJ h σ) hown hK hP 0 rfl rfl 12 (by decide) (htg _ fX0_106) (fun _ h9 => h9) rfl dX0_followKey_25 ?_
      refine lv_istore (lv' := [(5, .int (nI (jgKc σ))), (0, .ref (h 0)), (1, .long k), (3, .long d)]) hx hb dX0_followKey_28 hl (by decide) rfl (fun ls hl => ?_)
      refine lv_aload_n hx hb dX0_followKey_30 rfl (lv_at hl 1 rfl) ?_
      refine va_get (D := (dC, dI)) (ci := 0) (v := .ref (h 7)) (C := RX0) (T := TX0) (N := 14) hx hb htg inX0 (fs := fsBJ h σ) hown hK hP 0 rfl rfl 10 (by decide) (htg _ fX0_35) (fun _ h9 => h9) rfl dX0_followKey_31 ?_
      refine lv_iload hx hb dX0_followKey_34 (lv_at hl 0 rfl) ?_
      refine lv_lload_n hx hb dX0_followKey_36 rfl (lv_at hl 2 rfl) ?_
      refine xr_last (f := jgKS σ) (i := jgKc σ) (x := k) hx hb hK hP hD hS 7 1 rfl rfl (by omega) (by decide) dX0_followKey_37 (fun H locs hP hD hS => ?_)
      rw [wBJ_KS] at hP hD
      refine lv_aload_n hx hb dX0_followKey_38 rfl (lv_at hl 1 rfl) ?_
      refine lv_dup hx hb dX0_followKey_39 rfl ?_
      refine va_get (D := (dC, dI)) (ci := 0) (v := .int (nI (jgKc σ))) (C := RX0) (T := TX0) (N := 14) hx hb htg inX0 (fs := fsBJ h (juKS σ (vp_updL (jgKS σ) (jgKc σ) k))) hown hK hP 0 rfl rfl 12 (by decide) (htg _ fX0_106) (fun _ h9 => h9) rfl dX0_followKey_40 ?_
      refine lv_iconst (v := nI 1) hx hb dX0_followKey_43 (by decide) ?_
      refine xr_iadd hx hb dX0_followKey_44 ?_
      refine va_put (D := (dC, dI)) (ci := 0) (v := .int (nI (jgKc σ + 1))) (ty := .int) (C := RX0) (T := TX0) (N := 14) hx hb htg inX0 tyX0 tyX0_ok nmX0 (fs := fsBJ h (juKS σ (vp_updL (jgKS σ) (jgKc σ) k))) hown hK hP hD hS 0 rfl rfl 12 (by decide) (htg _ fX0_106) (fun _ h9 => h9) rfl (by decide +kernel) rfl rfl (Nat.le_of_ble_eq_true rfl) dX0_followKey_45 (fun H locs hP hD hS => ?_)
      rw [wBJ_Kc] at hP hD
      refine lv_aload_n hx hb dX0_followKey_48 rfl (lv_at hl 1 rfl) ?_
      refine va_get (D := (dC, dI)) (ci := 0) (v := .ref (h 8)) (C := RX0) (T := TX0) (N := 14) hx hb htg inX0 (fs := fsBJ h (juKc (juKS σ (vp_updL (jgKS σ) (jgKc σ) k)) (jgKc σ + 1))) hown hK hP 0 rfl rfl 11 (by decide) (htg _ fX0_38) (fun _ h9 => h9) rfl dX0_followKey_49 ?_
      refine lv_iload hx hb dX0_followKey_52 (lv_at hl 0 rfl) ?_
      refine lv_lload_n hx hb dX0_followKey_54 rfl (lv_at hl 3 rfl) ?_
      refine xr_last (f := jgKD σ) (i := jgKc σ) (x := d) hx hb hK hP hD hS 8 1 rfl rfl (by omega) (by decide) dX0_followKey_55 (fun H locs hP hD hS => ?_)
      rw [wBJ_KD] at hP hD
      refine lv_iconst (v := nI 1) hx hb dX0_followKey_56 (by decide) ?_
      have hfin : juKD (juKc (juKS σ (vp_updL (jgKS σ) (jgKc σ) k)) (jgKc σ + 1)) (vp_updL (jgKD σ) (jgKc σ) d) = ofO (fKey σ k d) σ := by (first | rw [fKey_some ho.symm] | rw [fKey_new ho.symm (by omega)]); rfl
      rw [hfin] at hP hD
      exact W.zret (ty := .boolean) (v := nI 1) hx hb hr (by first | rfl | decide | exact bI_nar _) (fun t ht hW => ⟨⟨_, (), rfl, by (first | rw [fKey_some ho.symm] | rw [fKey_new ho.symm (by omega)]); rfl, by rw [ht]; exact hP, va_K.moved hW.alike hK, hD⟩, hS.F ht⟩) hS.2.2 dX0_followKey_57
    · refine lv_iconst (v := nI 0) hx hb dX0_followKey_22 (by decide) ?_
      have hfin : σ = ofO (fKey σ k d) σ := by (rw [fKey_full ho.symm (by omega)]); rfl
      rw [hfin] at hP hD
      exact W.zret (ty := .boolean) (v := nI 0) hx hb hr (by first | rfl | decide | exact bI_nar _) (fun t ht hW => ⟨⟨_, (), rfl, by (rw [fKey_full ho.symm (by omega)]); rfl, by rw [ht]; exact hP, va_K.moved hW.alike hK, hD⟩, hS.F ht⟩) hS.2.2 dX0_followKey_23
  | some b =>
    have hlto := (fnd_lt ho.symm).1
    refine W.eq (g2 := F0 m 5 ls [.int (nI b)]) rfl ?_
    refine lv_istore (lv' := [(5, .int (nI b)), (0, .ref (h 0)), (1, .long k), (3, .long d)]) hx hb dX0_followKey_5 hl (by decide) rfl (fun ls hl => ?_)
    refine lv_iload hx hb dX0_followKey_7 (lv_at hl 0 rfl) ?_
    refine lv_iconst (v := -1) hx hb dX0_followKey_9 (by decide) ?_
    refine lv_icmp_ne (tgt := 48) hx hb dX0_followKey_10 (by decide) (fun _ => ?_) (fun c => absurd c (optI_none (by omega)))
    refine lv_aload_n hx hb dX0_followKey_48 rfl (lv_at hl 1 rfl) ?_
    refine va_get (D := (dC, dI)) (ci := 0) (v := .ref (h 8)) (C := RX0) (T := TX0) (N := 14) hx hb htg inX0 (fs := fsBJ h σ) hown hK hP 0 rfl rfl 11 (by decide) (htg _ fX0_38) (fun _ h9 => h9) rfl dX0_followKey_49 ?_
    refine lv_iload hx hb dX0_followKey_52 (lv_at hl 0 rfl) ?_
    refine lv_lload_n hx hb dX0_followKey_54 rfl (lv_at hl 3 rfl) ?_
    refine xr_last (f := jgKD σ) (i := b) (x := d) hx hb hK hP hD hS 8 1 rfl rfl (by omega) (by decide) dX0_followKey_55 (fun H locs hP hD hS => ?_)
    rw [wBJ_KD] at hP hD
    refine lv_iconst (v := nI 1) hx hb dX0_followKey_56 (by decide) ?_
    have hfin : juKD σ (vp_updL (jgKD σ) b d) = ofO (fKey σ k d) σ := by (first | rw [fKey_some ho.symm] | rw [fKey_new ho.symm (by omega)]); rfl
    rw [hfin] at hP hD
    exact W.zret (ty := .boolean) (v := nI 1) hx hb hr (by first | rfl | decide | exact bI_nar _) (fun t ht hW => ⟨⟨_, (), rfl, by (first | rw [fKey_some ho.symm] | rw [fKey_new ho.symm (by omega)]); rfl, by rw [ht]; exact hP, va_K.moved hW.alike hK, hD⟩, hS.F ht⟩) hS.2.2 dX0_followKey_57
end
section
set_option maxRecDepth 100000 in
set_option maxHeartbeats 4000000 in
theorem c_follow (l : Launch) (σ : BJ) (a : Nat) (ha : a + 2 < 700) (hl7 : a + 3 + lenAt (jgW σ) a < 700) (hby : byt (jgW σ) 700) (hc : jgBc σ ≤ 20) (hkc : jgKc σ ≤ 16) : wBi l yX0_follow wsX0_follow ({ frames := 2, cells := 0, slots := 0, locals := 49 } : Room) σ [.int (nI a)] (bI ((follow σ a).isSome)) (ofO (follow σ a) σ) := by
  intro dC dI cI cJ h sz
  refine Met.ofW (cc := cX0_follow) (maxL := 4) (ret := (some .boolean)) (by decide) rfl ?_
  intro p e s m args below meth c s₁ B hml hv
  obtain ⟨rfl, hsz, hP, hK, hD0⟩ := hv
  have hx := B.exec
  have hb := B.bytes
  have hr := B.returns
  have hts := atoms_spec (ws := wsX0_follow) B.pre
  have hown : s.vm.findClass RX0 = some m.cls := findClass_of_methodNamed B.named
  have hlocks := B.notSynchronized
  subst hsz
  have htg : ∀ w ∈ GW, w.before _ s = true := fun w h => hts w (List.mem_cons_of_mem _ h)
  have hD := hD0.self (sz := s.heap.size)
  generalize hAe : va_A (wBJ cI cJ h σ) s.heap.size = A at hD ⊢
  have hA : ∀ q : Nat, s.heap.size ≤ q → A q := fun q h => by rw [← hAe]; exact Or.inr h
  have hS : va_S A s.heap s.heap [] := va_S.rf
  have hl := lv_entry [.ref (h 0), .int (nI a)] (n := 4) (Nat.le_of_ble_eq_true rfl)
  rw [lg_entry_eq]
  generalize (lg_sl [.ref (h 0), .int (nI a)] ++ List.replicate (4 - (lg_sl [.ref (h 0), .int (nI a)]).length) Slot.unset).toArray = ls at hl ⊢
  have hl : lv_has ls 4 [(0, .ref (h 0)), (1, .int (nI a))] := hl
  have hP : va_P (dC, dI) vwCl (wBJ cI cJ h σ) s.heap := hP
  refine lv_aload_n hx hb dX0_follow_0 rfl (lv_at hl 0 rfl) ?_
  refine lv_iload_n hx hb dX0_follow_1 rfl (lv_at hl 1 rfl) ?_
  refine bj_ri (As := [.int (nI a)]) (rest := []) (n := 1) ⟨hx, hb, hml, hown, htg⟩ (c_lengthAt l σ a (by omega) (hby)) (cwV 1 htg gX0_185 rfl rfl rfl (by decide +kernel) ⟨Nat.le_of_ble_eq_true rfl, Nat.le_of_ble_eq_true rfl⟩) hK hP hD hS hA hl.1 rfl rfl (Nat.le_of_ble_eq_true rfl) dX0_follow_2 (Nat.zero_le _) (Nat.zero_le _) (fun H locs hP hS => ?_)
  refine lv_istore_n (lv' := [(2, .int (nI (lenAt (jgW σ) a))), (0, .ref (h 0)), (1, .int (nI a))]) hx hb dX0_follow_5 rfl hl (by decide) rfl (fun ls hl => ?_)
  refine lv_iload_n hx hb dX0_follow_6 rfl (lv_at hl 2 rfl) ?_
  refine lv_iconst (v := nI 3) hx hb dX0_follow_7 (by decide) ?_
  refine xr_iadd hx hb dX0_follow_8 ?_
  refine lv_istore_n (lv' := [(3, .int (nI (a + 3))), (2, .int (nI (lenAt (jgW σ) a))), (0, .ref (h 0)), (1, .int (nI a))]) hx hb dX0_follow_9 rfl hl (by decide) rfl (fun ls hl => ?_)
  refine lv_aload_n hx hb dX0_follow_10 rfl (lv_at hl 2 rfl) ?_
  refine va_get (D := (dC, dI)) (ci := 0) (v := .ref (h 2)) (C := RX0) (T := TX0) (N := 14) hx hb htg inX0 (fs := fsBJ h σ) hown hK hP 0 rfl rfl 2 (by decide) (htg _ fX0_13) (fun _ h9 => h9) rfl dX0_follow_11 ?_
  refine lv_iload_n hx hb dX0_follow_14 rfl (lv_at hl 3 rfl) ?_
  refine xr_iald (f := jgW σ) (i := a) hx hb hK hP 2 0 rfl rfl (by omega) (by decide) dX0_follow_15 ?_
  by_cases c16_1 : (jgW σ) a = 1
  · rw [c16_1]
    refine lv_tableIn (tgt := 48) (off := 32) hx hb dX0_follow_16 (by decide) (by decide) (by decide) (by decide) ?_
    refine lv_aload_n hx hb dX0_follow_48 rfl (lv_at hl 2 rfl) ?_
    refine lv_iload_n hx hb dX0_follow_49 rfl (lv_at hl 0 rfl) ?_
    refine lv_iload_n hx hb dX0_follow_50 rfl (lv_at hl 1 rfl) ?_
    refine bj_wi (As := [.int (nI (a + 3)), .int (nI (lenAt (jgW σ) a))]) (rest := []) (n := 2) ⟨hx, hb, hml, hown, htg⟩ (c_followBlob l σ (a + 3) (lenAt (jgW σ) a) (by omega) (hc)) (cwV 2 htg gX0_188 rfl rfl rfl (by decide +kernel) ⟨Nat.le_of_ble_eq_true rfl, Nat.le_of_ble_eq_true rfl⟩) hK hP hD hS hA hl.1 rfl rfl (Nat.le_of_ble_eq_true rfl) dX0_follow_51 (Nat.zero_le _) (Nat.zero_le _) (fun H locs hP hD hS => ?_)
    obtain ⟨z1, ez1⟩ : ∃ zq : BJ, zq = ofO (fBlob σ (a + 3) (lenAt (jgW σ) a)) σ := ⟨_, rfl⟩
    rw [← ez1] at hP hD
    have hfin : z1 = ofO (follow σ a) σ := by rw [follow, if_pos c16_1]; exact ez1
    rw [hfin] at hP hD
    exact W.zret (ty := .boolean) (v := bI ((fBlob σ (a + 3) (lenAt (jgW σ) a)).isSome)) hx hb hr (by first | rfl | decide | exact bI_nar _) (fun t ht hW => ⟨⟨_, (), rfl, by rw [follow, if_pos c16_1], by rw [ht]; exact hP, va_K.moved hW.alike hK, hD⟩, hS.F ht⟩) hS.2.2 dX0_follow_54
  by_cases c16_2 : (jgW σ) a = 2
  · rw [c16_2]
    refine lv_tableIn (tgt := 55) (off := 39) hx hb dX0_follow_16 (by decide) (by decide) (by decide) (by decide) ?_
    refine lv_iload_n hx hb dX0_follow_55 rfl (lv_at hl 1 rfl) ?_
    refine lv_bipush (v := nI 9) hx hb dX0_follow_56 (by decide) ?_
    refine xr_icmp_ne (tgt := 85) hx hb dX0_follow_58 (by decide) (by omega) (by omega) (fun c58 => ?_) (fun c58 => ?_)
    · refine lv_iconst (v := nI 0) hx hb dX0_follow_85 (by decide) ?_
      have hfin : σ = ofO (follow σ a) σ := by rw [follow, if_neg c16_1, if_pos c16_2]; rw [if_neg c58]; rfl
      rw [hfin] at hP hD
      exact W.zret (ty := .boolean) (v := nI 0) hx hb hr (by first | rfl | decide | exact bI_nar _) (fun t ht hW => ⟨⟨_, (), rfl, by rw [follow, if_neg c16_1, if_pos c16_2]; rw [if_neg c58]; rfl, by rw [ht]; exact hP, va_K.moved hW.alike hK, hD⟩, hS.F ht⟩) hS.2.2 dX0_follow_86
    · refine lv_aload_n hx hb dX0_follow_61 rfl (lv_at hl 2 rfl) ?_
      refine lv_aload_n hx hb dX0_follow_62 rfl (lv_at hl 2 rfl) ?_
      refine va_get (D := (dC, dI)) (ci := 0) (v := .ref (h 2)) (C := RX0) (T := TX0) (N := 14) hx hb htg inX0 (fs := fsBJ h σ) hown hK hP 0 rfl rfl 2 (by decide) (htg _ fX0_13) (fun _ h9 => h9) rfl dX0_follow_63 ?_
      refine lv_iload_n hx hb dX0_follow_66 rfl (lv_at hl 0 rfl) ?_
      refine xr_iald (f := jgW σ) (i := a + 3) hx hb hK hP 2 0 rfl rfl (by omega) (by decide) dX0_follow_67 ?_
      refine W.eq (g2 := F0 m 68 ls [.int (nI (nb (jgW σ) (a + 3))), .ref (h 0)]) (by rw [(hby (a + 3) (by omega)).1]) ?_
      refine lv_aload_n hx hb dX0_follow_68 rfl (lv_at hl 2 rfl) ?_
      refine lv_iload_n hx hb dX0_follow_69 rfl (lv_at hl 0 rfl) ?_
      refine lv_iconst (v := nI 1) hx hb dX0_follow_70 (by decide) ?_
      refine xr_iadd hx hb dX0_follow_71 ?_
      refine bj_rl (As := [.int (nI (a + 3 + 1))]) (rest := [.int (nI (nb (jgW σ) (a + 3))), .ref (h 0)]) (n := 1) ⟨hx, hb, hml, hown, htg⟩ (c_longAt l σ (a + 3 + 1) (by omega)) (cwV 1 htg gX0_191 rfl rfl rfl (by decide +kernel) ⟨Nat.le_of_ble_eq_true rfl, Nat.le_of_ble_eq_true rfl⟩) hK hP hD hS hA hl.1 rfl rfl (Nat.le_of_ble_eq_true rfl) dX0_follow_72 (Nat.zero_le _) (Nat.zero_le _) (fun H locs hP hS => ?_)
      refine bj_wi (As := [.int (nI (nb (jgW σ) (a + 3))), .long (longAt (jgW σ) (a + 3 + 1))]) (rest := []) (n := 2) ⟨hx, hb, hml, hown, htg⟩ (c_followTell l σ (nb (jgW σ) (a + 3)) (longAt (jgW σ) (a + 3 + 1)) ((hby _ (by omega)).2) (hc)) (cwV 2 htg gX0_195 rfl rfl rfl (by decide +kernel) ⟨Nat.le_of_ble_eq_true rfl, Nat.le_of_ble_eq_true rfl⟩) hK hP hD hS hA hl.1 rfl rfl (Nat.le_of_ble_eq_true rfl) dX0_follow_75 (Nat.zero_le _) (Nat.zero_le _) (fun H locs hP hD hS => ?_)
      obtain ⟨z2, ez2⟩ : ∃ zq : BJ, zq = ofO (fTell σ (nb (jgW σ) (a + 3)) (longAt (jgW σ) (a + 3 + 1))) σ := ⟨_, rfl⟩
      rw [← ez2] at hP hD
      refine xr_ifeqB (tgt := 85) hx hb dX0_follow_78 (by decide) (fun c78 => ?_) (fun c78 => ?_)
      · refine lv_iconst (v := nI 0) hx hb dX0_follow_85 (by decide) ?_
        have hfin : z2 = ofO (follow σ a) σ := by rw [follow, if_neg c16_1, if_pos c16_2]; rw [if_pos c58]; exact ez2
        rw [hfin] at hP hD
        exact W.zret (ty := .boolean) (v := nI 0) hx hb hr (by first | rfl | decide | exact bI_nar _) (fun t ht hW => ⟨⟨_, (), rfl, by rw [follow, if_neg c16_1, if_pos c16_2]; rw [if_pos c58, c78]; rfl, by rw [ht]; exact hP, va_K.moved hW.alike hK, hD⟩, hS.F ht⟩) hS.2.2 dX0_follow_86
      · refine lv_iconst (v := nI 1) hx hb dX0_follow_81 (by decide) ?_
        refine lv_goto (tgt := 86) hx hb dX0_follow_82 (by decide) ?_
        have hfin : z2 = ofO (follow σ a) σ := by rw [follow, if_neg c16_1, if_pos c16_2]; rw [if_pos c58]; exact ez2
        rw [hfin] at hP hD
        exact W.zret (ty := .boolean) (v := nI 1) hx hb hr (by first | rfl | decide | exact bI_nar _) (fun t ht hW => ⟨⟨_, (), rfl, by rw [follow, if_neg c16_1, if_pos c16_2]; rw [if_pos c58, c78]; rfl, by rw [ht]; exact hP, va_K.moved hW.alike hK, hD⟩, hS.F ht⟩) hS.2.2 dX0_follow_86
  by_cases c16_3 : (jgW σ) a = 3
  · rw [c16_3]
    refine lv_tableIn (tgt := 87) (off := 71) hx hb dX0_follow_16 (by decide) (by decide) (by decide) (by decide) ?_
    refine lv_iload_n hx hb dX0_follow_87 rfl (lv_at hl 1 rfl) ?_
    refine lv_iconst (v := nI 1) hx hb dX0_follow_88 (by decide) ?_
    refine xr_icmp_ne (tgt := 109) hx hb dX0_follow_89 (by decide) (by omega) (by omega) (fun c89 => ?_) (fun c89 => ?_)
    · refine lv_iconst (v := nI 0) hx hb dX0_follow_109 (by decide) ?_
      have hfin : σ = ofO (follow σ a) σ := by rw [follow, if_neg c16_1, if_neg c16_2, if_pos c16_3]; rw [if_neg c89]; rfl
      rw [hfin] at hP hD
      exact W.zret (ty := .boolean) (v := nI 0) hx hb hr (by first | rfl | decide | exact bI_nar _) (fun t ht hW => ⟨⟨_, (), rfl, by rw [follow, if_neg c16_1, if_neg c16_2, if_pos c16_3]; rw [if_neg c89]; rfl, by rw [ht]; exact hP, va_K.moved hW.alike hK, hD⟩, hS.F ht⟩) hS.2.2 dX0_follow_110
    · refine lv_aload_n hx hb dX0_follow_92 rfl (lv_at hl 2 rfl) ?_
      refine lv_aload_n hx hb dX0_follow_93 rfl (lv_at hl 2 rfl) ?_
      refine va_get (D := (dC, dI)) (ci := 0) (v := .ref (h 2)) (C := RX0) (T := TX0) (N := 14) hx hb htg inX0 (fs := fsBJ h σ) hown hK hP 0 rfl rfl 2 (by decide) (htg _ fX0_13) (fun _ h9 => h9) rfl dX0_follow_94 ?_
      refine lv_iload_n hx hb dX0_follow_97 rfl (lv_at hl 0 rfl) ?_
      refine xr_iald (f := jgW σ) (i := a + 3) hx hb hK hP 2 0 rfl rfl (by omega) (by decide) dX0_follow_98 ?_
      refine W.eq (g2 := F0 m 99 ls [.int (nI (nb (jgW σ) (a + 3))), .ref (h 0)]) (by rw [(hby (a + 3) (by omega)).1]) ?_
      refine bj_wi (As := [.int (nI (nb (jgW σ) (a + 3)))]) (rest := []) (n := 1) ⟨hx, hb, hml, hown, htg⟩ (c_followUntell l σ (nb (jgW σ) (a + 3)) ((hby _ (by omega)).2)) (cwV 1 htg gX0_199 rfl rfl rfl (by decide +kernel) ⟨Nat.le_of_ble_eq_true rfl, Nat.le_of_ble_eq_true rfl⟩) hK hP hD hS hA hl.1 rfl rfl (Nat.le_of_ble_eq_true rfl) dX0_follow_99 (Nat.zero_le _) (Nat.zero_le _) (fun H locs hP hD hS => ?_)
      obtain ⟨z3, ez3⟩ : ∃ zq : BJ, zq = ofO (fUntell σ (nb (jgW σ) (a + 3))) σ := ⟨_, rfl⟩
      rw [← ez3] at hP hD
      refine xr_ifeqB (tgt := 109) hx hb dX0_follow_102 (by decide) (fun c102 => ?_) (fun c102 => ?_)
      · refine lv_iconst (v := nI 0) hx hb dX0_follow_109 (by decide) ?_
        have hfin : z3 = ofO (follow σ a) σ := by rw [follow, if_neg c16_1, if_neg c16_2, if_pos c16_3]; rw [if_pos c89]; exact ez3
        rw [hfin] at hP hD
        exact W.zret (ty := .boolean) (v := nI 0) hx hb hr (by first | rfl | decide | exact bI_nar _) (fun t ht hW => ⟨⟨_, (), rfl, by rw [follow, if_neg c16_1, if_neg c16_2, if_pos c16_3]; rw [if_pos c89, c102]; rfl, by rw [ht]; exact hP, va_K.moved hW.alike hK, hD⟩, hS.F ht⟩) hS.2.2 dX0_follow_110
      · refine lv_iconst (v := nI 1) hx hb dX0_follow_105 (by decide) ?_
        refine lv_goto (tgt := 110) hx hb dX0_follow_106 (by decide) ?_
        have hfin : z3 = ofO (follow σ a) σ := by rw [follow, if_neg c16_1, if_neg c16_2, if_pos c16_3]; rw [if_pos c89]; exact ez3
        rw [hfin] at hP hD
        exact W.zret (ty := .boolean) (v := nI 1) hx hb hr (by first | rfl | decide | exact bI_nar _) (fun t ht hW => ⟨⟨_, (), rfl, by rw [follow, if_neg c16_1, if_neg c16_2, if_pos c16_3]; rw [if_pos c89, c102]; rfl, by rw [ht]; exact hP, va_K.moved hW.alike hK, hD⟩, hS.F ht⟩) hS.2.2 dX0_follow_110
  by_cases c16_4 : (jgW σ) a = 4
  · rw [c16_4]
    refine lv_tableIn (tgt := 111) (off := 95) hx hb dX0_follow_16 (by decide) (by decide) (by decide) (by decide) ?_
    refine lv_iload_n hx hb dX0_follow_111 rfl (lv_at hl 1 rfl) ?_
    refine lv_bipush (v := nI 16) hx hb dX0_follow_112 (by decide) ?_
    refine xr_icmp_ne (tgt := 141) hx hb dX0_follow_114 (by decide) (by omega) (by omega) (fun c114 => ?_) (fun c114 => ?_)
    · refine lv_iconst (v := nI 0) hx hb dX0_follow_141 (by decide) ?_
      have hfin : σ = ofO (follow σ a) σ := by rw [follow, if_neg c16_1, if_neg c16_2, if_neg c16_3, if_pos c16_4]; rw [if_neg c114]; rfl
      rw [hfin] at hP hD
      exact W.zret (ty := .boolean) (v := nI 0) hx hb hr (by first | rfl | decide | exact bI_nar _) (fun t ht hW => ⟨⟨_, (), rfl, by rw [follow, if_neg c16_1, if_neg c16_2, if_neg c16_3, if_pos c16_4]; rw [if_neg c114]; rfl, by rw [ht]; exact hP, va_K.moved hW.alike hK, hD⟩, hS.F ht⟩) hS.2.2 dX0_follow_142
    · refine lv_aload_n hx hb dX0_follow_117 rfl (lv_at hl 2 rfl) ?_
      refine lv_aload_n hx hb dX0_follow_118 rfl (lv_at hl 2 rfl) ?_
      refine lv_iload_n hx hb dX0_follow_119 rfl (lv_at hl 0 rfl) ?_
      refine bj_rl (As := [.int (nI (a + 3))]) (rest := [.ref (h 0)]) (n := 1) ⟨hx, hb, hml, hown, htg⟩ (c_longAt l σ (a + 3) (by omega)) (cwV 1 htg gX0_191 rfl rfl rfl (by decide +kernel) ⟨Nat.le_of_ble_eq_true rfl, Nat.le_of_ble_eq_true rfl⟩) hK hP hD hS hA hl.1 rfl rfl (Nat.le_of_ble_eq_true rfl) dX0_follow_120 (Nat.zero_le _) (Nat.zero_le _) (fun H locs hP hS => ?_)
      refine lv_aload_n hx hb dX0_follow_123 rfl (lv_at hl 2 rfl) ?_
      refine lv_iload_n hx hb dX0_follow_124 rfl (lv_at hl 0 rfl) ?_
      refine lv_bipush (v := nI 8) hx hb dX0_follow_125 (by decide) ?_
      refine xr_iadd hx hb dX0_follow_127 ?_
      refine bj_rl (As := [.int (nI (a + 3 + 8))]) (rest := [.long (longAt (jgW σ) (a + 3)), .ref (h 0)]) (n := 1) ⟨hx, hb, hml, hown, htg⟩ (c_longAt l σ (a + 3 + 8) (by omega)) (cwV 1 htg gX0_191 rfl rfl rfl (by decide +kernel) ⟨Nat.le_of_ble_eq_true rfl, Nat.le_of_ble_eq_true rfl⟩) hK hP hD hS hA hl.1 rfl rfl (Nat.le_of_ble_eq_true rfl) dX0_follow_128 (Nat.zero_le _) (Nat.zero_le _) (fun H locs hP hS => ?_)
      refine bj_wi (As := [.long (longAt (jgW σ) (a + 3)), .long (longAt (jgW σ) (a + 3 + 8))]) (rest := []) (n := 2) ⟨hx, hb, hml, hown, htg⟩ (c_followKey l σ (longAt (jgW σ) (a + 3)) (longAt (jgW σ) (a + 3 + 8)) (hkc)) (cwV 2 htg gX0_202 rfl rfl rfl (by decide +kernel) ⟨Nat.le_of_ble_eq_true rfl, Nat.le_of_ble_eq_true rfl⟩) hK hP hD hS hA hl.1 rfl rfl (Nat.le_of_ble_eq_true rfl) dX0_follow_131 (Nat.zero_le _) (Nat.zero_le _) (fun H locs hP hD hS => ?_)
      obtain ⟨z4, ez4⟩ : ∃ zq : BJ, zq = ofO (fKey σ (longAt (jgW σ) (a + 3)) (longAt (jgW σ) (a + 3 + 8))) σ := ⟨_, rfl⟩
      rw [← ez4] at hP hD
      refine xr_ifeqB (tgt := 141) hx hb dX0_follow_134 (by decide) (fun c134 => ?_) (fun c134 => ?_)
      · refine lv_iconst (v := nI 0) hx hb dX0_follow_141 (by decide) ?_
        have hfin : z4 = ofO (follow σ a) σ := by rw [follow, if_neg c16_1, if_neg c16_2, if_neg c16_3, if_pos c16_4]; rw [if_pos c114]; exact ez4
        rw [hfin] at hP hD
        exact W.zret (ty := .boolean) (v := nI 0) hx hb hr (by first | rfl | decide | exact bI_nar _) (fun t ht hW => ⟨⟨_, (), rfl, by rw [follow, if_neg c16_1, if_neg c16_2, if_neg c16_3, if_pos c16_4]; rw [if_pos c114, c134]; rfl, by rw [ht]; exact hP, va_K.moved hW.alike hK, hD⟩, hS.F ht⟩) hS.2.2 dX0_follow_142
      · refine lv_iconst (v := nI 1) hx hb dX0_follow_137 (by decide) ?_
        refine lv_goto (tgt := 142) hx hb dX0_follow_138 (by decide) ?_
        have hfin : z4 = ofO (follow σ a) σ := by rw [follow, if_neg c16_1, if_neg c16_2, if_neg c16_3, if_pos c16_4]; rw [if_pos c114]; exact ez4
        rw [hfin] at hP hD
        exact W.zret (ty := .boolean) (v := nI 1) hx hb hr (by first | rfl | decide | exact bI_nar _) (fun t ht hW => ⟨⟨_, (), rfl, by rw [follow, if_neg c16_1, if_neg c16_2, if_neg c16_3, if_pos c16_4]; rw [if_pos c114, c134]; rfl, by rw [ht]; exact hP, va_K.moved hW.alike hK, hD⟩, hS.F ht⟩) hS.2.2 dX0_follow_142
  have n16_1 := lv_neT (a := 1) c16_1 (by decide)
  have n16_2 := lv_neT (a := 2) c16_2 (by decide)
  have n16_3 := lv_neT (a := 3) c16_3 (by decide)
  have n16_4 := lv_neT (a := 4) c16_4 (by decide)
  refine lv_tableOut (tgt := 143) hx hb dX0_follow_16 (by omega) (by decide) ?_
  refine lv_iconst (v := nI 0) hx hb dX0_follow_143 (by decide) ?_
  have hfin : σ = ofO (follow σ a) σ := by rw [follow, if_neg c16_1, if_neg c16_2, if_neg c16_3, if_neg c16_4]; rfl
  rw [hfin] at hP hD
  exact W.zret (ty := .boolean) (v := nI 0) hx hb hr (by first | rfl | decide | exact bI_nar _) (fun t ht hW => ⟨⟨_, (), rfl, by rw [follow, if_neg c16_1, if_neg c16_2, if_neg c16_3, if_neg c16_4]; rfl, by rw [ht]; exact hP, va_K.moved hW.alike hK, hD⟩, hS.F ht⟩) hS.2.2 dX0_follow_144
end
section
set_option maxRecDepth 100000 in
set_option maxHeartbeats 4000000 in
theorem c_digest (l : Launch) (σ : BJ) (ht : jgTc σ ≤ 64) : rBl l yX0_digest wsX0_digest ({ frames := 1, cells := 0, slots := 0, locals := 25 } : Room) σ [] (dg (jgT σ) 0 (jgTc σ)) := by
  intro dC dI cI cJ h sz
  refine Met.ofW (cc := cX0_digest) (maxL := 1) (ret := (some .long)) (by decide) rfl ?_
  intro p e s m args below meth c s₁ B hml hv
  obtain ⟨rfl, hsz, hP, hK, hD0⟩ := hv
  have hx := B.exec
  have hb := B.bytes
  have hr := B.returns
  have hts := atoms_spec (ws := wsX0_digest) B.pre
  have hown : s.vm.findClass RX0 = some m.cls := findClass_of_methodNamed B.named
  have hlocks := B.notSynchronized
  subst hsz
  have htg : ∀ w ∈ GW, w.before _ s = true := fun w h => hts w (List.mem_cons_of_mem _ h)
  have hD := hD0
  have hA : ∀ q : Nat, s.heap.size ≤ q → (fun q => s.heap.size ≤ q) q := fun _ h => h
  have hS : va_S (fun q => s.heap.size ≤ q) s.heap s.heap [] := va_S.rf
  have hl := lv_entry [.ref (h 0)] (n := 1) (Nat.le_of_ble_eq_true rfl)
  rw [lg_entry_eq]
  generalize (lg_sl [.ref (h 0)] ++ List.replicate (1 - (lg_sl [.ref (h 0)]).length) Slot.unset).toArray = ls at hl ⊢
  have hl : lv_has ls 1 [(0, .ref (h 0))] := hl
  have hP : va_P (dC, dI) vwCl (wBJ cI cJ h σ) s.heap := hP
  refine lv_aload_n hx hb dX0_digest_0 rfl (lv_at hl 0 rfl) ?_
  refine va_get (D := (dC, dI)) (ci := 0) (v := .ref (h 1)) (C := RX0) (T := TX0) (N := 14) hx hb htg inX0 (fs := fsBJ h σ) hown hK hP 0 rfl rfl 0 (by decide) (htg _ fX0_9) (fun _ h9 => h9) rfl dX0_digest_1 ?_
  refine lv_iconst (v := nI 0) hx hb dX0_digest_4 (by decide) ?_
  refine lv_aload_n hx hb dX0_digest_5 rfl (lv_at hl 0 rfl) ?_
  refine va_get (D := (dC, dI)) (ci := 0) (v := .int (nI (jgTc σ))) (C := RX0) (T := TX0) (N := 14) hx hb htg inX0 (fs := fsBJ h σ) hown hK hP 0 rfl rfl 1 (by decide) (htg _ fX0_44) (fun _ h9 => h9) rfl dX0_digest_6 ?_
  refine xr_rol (va_runS (As := [.ref (h 1), .int (nI 0), .int (nI (jgTc σ))]) (rest := []) ⟨hx, hb, hml, hown, htg⟩ (c_digestOf l (jgT σ) 64 0 (jgTc σ) (by omega) (by decide) dC dI cI (h 1) _) (va_cwS 3 htg gX0_60 rfl rfl rfl (by decide +kernel) ⟨Nat.le_of_ble_eq_true rfl, Nat.le_of_ble_eq_true rfl⟩) ⟨fun a U g mk q => ⟨q.1, q.2.1, q.2.2.1, va_K.moved (u := U) (U := U.calling g mk a) (Vm.Alike.refl U.vm) q.2.2.2⟩, fun U hU hW => ⟨rfl, by rw [hU], by rw [hU]; exact hP.sub [1] rfl, va_K.moved hW.alike (hK.sub [0] rfl)⟩⟩ rfl rfl hl.1 rfl (lv_room (Nat.le_of_ble_eq_true rfl)) dX0_digest_9 ⟨Nat.zero_le _, Nat.zero_le _⟩) hP hS hA (fun H locs hP hS _ => ?_)
  exact W.lret (v := dg (jgT σ) 0 (jgTc σ)) hx hb hr (fun t ht hW => ⟨⟨_, (), rfl, rfl, trivial⟩, hS.F ht⟩) hS.2.2 dX0_digest_12
set_option maxRecDepth 100000 in
set_option maxHeartbeats 4000000 in
theorem c_cut (l : Launch) (σ : BJ) (k : Nat) (hk : k ≤ jgTc σ) (ht : jgTc σ ≤ 64) : wBv l yX0_cut wsX0_cut ({ frames := 0, cells := 0, slots := 0, locals := 0 } : Room) σ [.int (nI k)] (juTc σ k) := by
  intro dC dI cI cJ h sz
  refine Met.ofW (cc := cX0_cut) (maxL := 2) (ret := none) (by decide) rfl ?_
  intro p e s m args below meth c s₁ B hml hv
  obtain ⟨rfl, hsz, hP, hK, hD0⟩ := hv
  have hx := B.exec
  have hb := B.bytes
  have hr := B.returns
  have hts := atoms_spec (ws := wsX0_cut) B.pre
  have hown : s.vm.findClass RX0 = some m.cls := findClass_of_methodNamed B.named
  have hlocks := B.notSynchronized
  subst hsz
  have htg : ∀ w ∈ GW, w.before _ s = true := fun w h => hts w (List.mem_cons_of_mem _ h)
  have hD := hD0.self (sz := s.heap.size)
  generalize hAe : va_A (wBJ cI cJ h σ) s.heap.size = A at hD ⊢
  have hA : ∀ q : Nat, s.heap.size ≤ q → A q := fun q h => by rw [← hAe]; exact Or.inr h
  have hS : va_S A s.heap s.heap [] := va_S.rf
  have hl := lv_entry [.ref (h 0), .int (nI k)] (n := 2) (Nat.le_of_ble_eq_true rfl)
  rw [lg_entry_eq]
  generalize (lg_sl [.ref (h 0), .int (nI k)] ++ List.replicate (2 - (lg_sl [.ref (h 0), .int (nI k)]).length) Slot.unset).toArray = ls at hl ⊢
  have hl : lv_has ls 2 [(0, .ref (h 0)), (1, .int (nI k))] := hl
  have hP : va_P (dC, dI) vwCl (wBJ cI cJ h σ) s.heap := hP
  refine lv_iload_n hx hb dX0_cut_0 rfl (lv_at hl 1 rfl) ?_
  refine lv_if_lt (tgt := 12) hx hb dX0_cut_1 (by decide) (fun c1 => absurd c1 (by exact nI_pos (by omega))) (fun c1 => ?_)
  refine lv_iload_n hx hb dX0_cut_4 rfl (lv_at hl 1 rfl) ?_
  refine lv_aload_n hx hb dX0_cut_5 rfl (lv_at hl 0 rfl) ?_
  refine va_get (D := (dC, dI)) (ci := 0) (v := .int (nI (jgTc σ))) (C := RX0) (T := TX0) (N := 14) hx hb htg inX0 (fs := fsBJ h σ) hown hK hP 0 rfl rfl 1 (by decide) (htg _ fX0_44) (fun _ h9 => h9) rfl dX0_cut_6 ?_
  refine xr_icmp_le (tgt := 22) hx hb dX0_cut_9 (by decide) (by omega) (by omega) (fun c9 => ?_) (fun c9 => absurd c9 (by omega))
  refine lv_aload_n hx hb dX0_cut_22 rfl (lv_at hl 0 rfl) ?_
  refine lv_iload_n hx hb dX0_cut_23 rfl (lv_at hl 1 rfl) ?_
  refine va_put (D := (dC, dI)) (ci := 0) (v := .int (nI k)) (ty := .int) (C := RX0) (T := TX0) (N := 14) hx hb htg inX0 tyX0 tyX0_ok nmX0 (fs := fsBJ h σ) hown hK hP hD hS 0 rfl rfl 1 (by decide) (htg _ fX0_44) (fun _ h9 => h9) rfl (by decide +kernel) rfl rfl (Nat.le_of_ble_eq_true rfl) dX0_cut_24 (fun H locs hP hD hS => ?_)
  rw [wBJ_Tc] at hP hD
  have hfin : juTc σ k = juTc σ k := rfl
  rw [hfin] at hP hD
  exact W.vret hx hb hr (fun t ht hW => ⟨⟨(), rfl, trivial, by rw [ht]; exact hP, va_K.moved hW.alike hK, hD⟩, hS.F ht⟩) hS.2.2 dX0_cut_27
set_option maxRecDepth 100000 in
set_option maxHeartbeats 4000000 in
theorem c_type (l : Launch) (σ : BJ) (v : Int32) (ht : jgTc σ + 4 ≤ 64) : wBi l yX0_type wsX0_type ({ frames := 0, cells := 0, slots := 0, locals := 0 } : Room) σ [.int v] (nI (jgTc σ + 4)) (juTc (juT σ (tyL (jgT σ) (jgTc σ) v 4)) (jgTc σ + 4)) := by
  intro dC dI cI cJ h sz
  refine Met.ofW (cc := cX0_type) (maxL := 3) (ret := (some .int)) (by decide) rfl ?_
  intro p e s m args below meth c s₁ B hml hv
  obtain ⟨rfl, hsz, hP, hK, hD0⟩ := hv
  have hx := B.exec
  have hb := B.bytes
  have hr := B.returns
  have hts := atoms_spec (ws := wsX0_type) B.pre
  have hown : s.vm.findClass RX0 = some m.cls := findClass_of_methodNamed B.named
  have hlocks := B.notSynchronized
  subst hsz
  have htg : ∀ w ∈ GW, w.before _ s = true := fun w h => hts w (List.mem_cons_of_mem _ h)
  have hD := hD0.self (sz := s.heap.size)
  generalize hAe : va_A (wBJ cI cJ h σ) s.heap.size = A at hD ⊢
  have hA : ∀ q : Nat, s.heap.size ≤ q → A q := fun q h => by rw [← hAe]; exact Or.inr h
  have hS : va_S A s.heap s.heap [] := va_S.rf
  have hl := lv_entry [.ref (h 0), .int v] (n := 3) (Nat.le_of_ble_eq_true rfl)
  rw [lg_entry_eq]
  generalize (lg_sl [.ref (h 0), .int v] ++ List.replicate (3 - (lg_sl [.ref (h 0), .int v]).length) Slot.unset).toArray = ls at hl ⊢
  have hl : lv_has ls 3 [(0, .ref (h 0)), (1, .int v)] := hl
  have hP : va_P (dC, dI) vwCl (wBJ cI cJ h σ) s.heap := hP
  refine lv_aload_n hx hb dX0_type_0 rfl (lv_at hl 0 rfl) ?_
  refine va_get (D := (dC, dI)) (ci := 0) (v := .int (nI (jgTc σ))) (C := RX0) (T := TX0) (N := 14) hx hb htg inX0 (fs := fsBJ h σ) hown hK hP 0 rfl rfl 1 (by decide) (htg _ fX0_44) (fun _ h9 => h9) rfl dX0_type_1 ?_
  refine lv_iconst (v := nI 4) hx hb dX0_type_4 (by decide) ?_
  refine xr_iadd hx hb dX0_type_5 ?_
  refine lv_bipush (v := nI 64) hx hb dX0_type_6 (by decide) ?_
  refine xr_icmp_le (tgt := 21) hx hb dX0_type_8 (by decide) (by omega) (by omega) (fun c8 => ?_) (fun c8 => absurd c8 (by omega))
  refine lv_iconst (v := nI 0) hx hb dX0_type_21 (by decide) ?_
  refine lv_istore_n (lv' := [(2, .int (nI 0)), (0, .ref (h 0)), (1, .int v)]) hx hb dX0_type_22 rfl hl (by decide) rfl (fun ls hl => ?_)
  have loop : ∀ (n i : Nat) (g : Nat → Int32), i ≤ 4 → 4 < i + n → g = tyL (jgT σ) (jgTc σ) v i → ∀ (H : Heap) (locs : List Loc), va_P (dC, dI) vwCl (wBJ cI cJ h (juT σ g)) H → va_D A (wBJ cI cJ h (juT σ g)) → va_S A s.heap H locs → ∀ (ls : Array Slot), lv_has ls 3 [(2, .int (nI i)), (0, .ref (h 0)), (1, .int v)] → W p l e (headSpec wsX0_type ({ frames := 0, cells := 0, slots := 0, locals := 0 } : Room)).room s m ([.ref (h 0), .int v].toArray) below meth c H locs 0 0 (MQ below (va_Qi (fun (r' : Int32) (_ : Unit) => r' = (nI (jgTc σ + 4))) (fun _ => aBJ dC dI cI cJ h A (juTc (juT σ (tyL (jgT σ) (jgTc σ) v 4)) (jgTc σ + 4))) A) ([.ref (h 0), .int v].toArray) s 0 0 A) (F0 m 23 ls []) := by
    intro n
    induction n with
    | zero => intro i g h1 h2; exact absurd h2 (by omega)
    | succ n ih =>
      intro i g hi hin eg H locs hP hD hS ls hl
      refine lv_iload_n hx hb dX0_type_23 rfl (lv_at hl 0 rfl) ?_
      refine lv_iconst (v := nI 4) hx hb dX0_type_24 (by decide) ?_
      refine xr_icmp_ge (tgt := 55) hx hb dX0_type_25 (by decide) (by omega) (by omega) (fun c25 => ?_) (fun c25 => ?_)
      · refine lv_aload_n hx hb dX0_type_55 rfl (lv_at hl 1 rfl) ?_
        refine lv_dup hx hb dX0_type_56 rfl ?_
        refine va_get (D := (dC, dI)) (ci := 0) (v := .int (nI (jgTc σ))) (C := RX0) (T := TX0) (N := 14) hx hb htg inX0 (fs := fsBJ h (juT σ g)) hown hK hP 0 rfl rfl 1 (by decide) (htg _ fX0_44) (fun _ h9 => h9) rfl dX0_type_57 ?_
        refine lv_iconst (v := nI 4) hx hb dX0_type_60 (by decide) ?_
        refine xr_iadd hx hb dX0_type_61 ?_
        refine va_put (D := (dC, dI)) (ci := 0) (v := .int (nI (jgTc σ + 4))) (ty := .int) (C := RX0) (T := TX0) (N := 14) hx hb htg inX0 tyX0 tyX0_ok nmX0 (fs := fsBJ h (juT σ g)) hown hK hP hD hS 0 rfl rfl 1 (by decide) (htg _ fX0_44) (fun _ h9 => h9) rfl (by decide +kernel) rfl rfl (Nat.le_of_ble_eq_true rfl) dX0_type_62 (fun H locs hP hD hS => ?_)
        rw [wBJ_Tc] at hP hD
        refine lv_aload_n hx hb dX0_type_65 rfl (lv_at hl 1 rfl) ?_
        refine va_get (D := (dC, dI)) (ci := 0) (v := .int (nI (jgTc σ + 4))) (C := RX0) (T := TX0) (N := 14) hx hb htg inX0 (fs := fsBJ h (juTc (juT σ g) (jgTc σ + 4))) hown hK hP 0 rfl rfl 1 (by decide) (htg _ fX0_44) (fun _ h9 => h9) rfl dX0_type_66 ?_
        have hfin : juTc (juT σ g) (jgTc σ + 4) = juTc (juT σ (tyL (jgT σ) (jgTc σ) v 4)) (jgTc σ + 4) := by rw [eg, show i = 4 by omega]
        rw [hfin] at hP hD
        exact W.iret (v := nI (jgTc σ + 4)) hx hb hr (fun t ht hW => ⟨⟨_, (), rfl, rfl, by rw [ht]; exact hP, va_K.moved hW.alike hK, hD⟩, hS.F ht⟩) hS.2.2 dX0_type_69
      · refine lv_aload_n hx hb dX0_type_28 rfl (lv_at hl 1 rfl) ?_
        refine va_get (D := (dC, dI)) (ci := 0) (v := .ref (h 1)) (C := RX0) (T := TX0) (N := 14) hx hb htg inX0 (fs := fsBJ h (juT σ g)) hown hK hP 0 rfl rfl 0 (by decide) (htg _ fX0_9) (fun _ h9 => h9) rfl dX0_type_29 ?_
        refine lv_aload_n hx hb dX0_type_32 rfl (lv_at hl 1 rfl) ?_
        refine va_get (D := (dC, dI)) (ci := 0) (v := .int (nI (jgTc σ))) (C := RX0) (T := TX0) (N := 14) hx hb htg inX0 (fs := fsBJ h (juT σ g)) hown hK hP 0 rfl rfl 1 (by decide) (htg _ fX0_44) (fun _ h9 => h9) rfl dX0_type_33 ?_
        refine lv_iload_n hx hb dX0_type_36 rfl (lv_at hl 0 rfl) ?_
        refine xr_iadd hx hb dX0_type_37 ?_
        refine lv_iload_n hx hb dX0_type_38 rfl (lv_at hl 2 rfl) ?_
        refine lv_bipush (v := nI 8) hx hb dX0_type_39 (by decide) ?_
        refine lv_iload_n hx hb dX0_type_41 rfl (lv_at hl 0 rfl) ?_
        refine xr_imul hx hb dX0_type_42 ?_
        refine lv_iushr (v := ((v).toUInt32 >>> (((nI (8 * i))).toUInt32 &&& Int32.toUInt32 31)).toInt32) hx hb dX0_type_43 rfl ?_
        refine lv_sipush (v := nI 255) hx hb dX0_type_44 (by decide) ?_
        refine lv_iand hx hb dX0_type_47 ?_
        refine xr_iast (f := g) (i := jgTc σ + i) (x := (((v).toUInt32 >>> (((nI (8 * i))).toUInt32 &&& Int32.toUInt32 31)).toInt32) &&& (nI 255)) hx hb hK hP hD hS 1 0 rfl rfl (by omega) (by decide) dX0_type_48 (fun H locs hP hD hS => ?_)
        rw [wBJ_T] at hP hD
        refine lv_iinc (v := nI (i + 1)) (lv' := [(2, .int (nI (i + 1))), (0, .ref (h 0)), (1, .int v)]) hx hb dX0_type_49 hl (k := 0) rfl (nI_add _ 1) (by decide) rfl (fun ls hl => ?_)
        refine lv_goto (tgt := 23) hx hb dX0_type_52 (by decide) ?_
        exact ih (i + 1) (upd g (jgTc σ + i) ((((v).toUInt32 >>> (((nI (8 * i))).toUInt32 &&& Int32.toUInt32 31)).toInt32) &&& (nI 255))) (by omega) (by omega) (by rw [eg]; rfl) H locs hP hD hS ls (lv_sub hl [0, 1, 2] rfl)
  exact loop (4 + 1) 0 (jgT σ) (by omega) (by omega) (rfl) _ _ hP hD hS ls (lv_sub hl [0, 1, 2] rfl)
set_option maxRecDepth 100000 in
set_option maxHeartbeats 4000000 in
theorem c_pin (l : Launch) (σ : BJ) (k : Nat) (d : Int64) (hk : k < 4) : wBv l yX0_pin wsX0_pin ({ frames := 0, cells := 0, slots := 0, locals := 0 } : Room) σ [.int (nI k), .long d] (juPD σ (vp_updL (jgPD σ) k d)) := by
  intro dC dI cI cJ h sz
  refine Met.ofW (cc := cX0_pin) (maxL := 4) (ret := none) (by decide) rfl ?_
  intro p e s m args below meth c s₁ B hml hv
  obtain ⟨rfl, hsz, hP, hK, hD0⟩ := hv
  have hx := B.exec
  have hb := B.bytes
  have hr := B.returns
  have hts := atoms_spec (ws := wsX0_pin) B.pre
  have hown : s.vm.findClass RX0 = some m.cls := findClass_of_methodNamed B.named
  have hlocks := B.notSynchronized
  subst hsz
  have htg : ∀ w ∈ GW, w.before _ s = true := fun w h => hts w (List.mem_cons_of_mem _ h)
  have hD := hD0.self (sz := s.heap.size)
  generalize hAe : va_A (wBJ cI cJ h σ) s.heap.size = A at hD ⊢
  have hA : ∀ q : Nat, s.heap.size ≤ q → A q := fun q h => by rw [← hAe]; exact Or.inr h
  have hS : va_S A s.heap s.heap [] := va_S.rf
  have hl := lv_entry [.ref (h 0), .int (nI k), .long d] (n := 4) (Nat.le_of_ble_eq_true rfl)
  rw [lg_entry_eq]
  generalize (lg_sl [.ref (h 0), .int (nI k), .long d] ++ List.replicate (4 - (lg_sl [.ref (h 0), .int (nI k), .long d]).length) Slot.unset).toArray = ls at hl ⊢
  have hl : lv_has ls 4 [(0, .ref (h 0)), (1, .int (nI k)), (2, .long d)] := hl
  have hP : va_P (dC, dI) vwCl (wBJ cI cJ h σ) s.heap := hP
  refine lv_iload_n hx hb dX0_pin_0 rfl (lv_at hl 1 rfl) ?_
  refine lv_if_lt (tgt := 9) hx hb dX0_pin_1 (by decide) (fun c1 => absurd c1 (by exact nI_pos (by omega))) (fun c1 => ?_)
  refine lv_iload_n hx hb dX0_pin_4 rfl (lv_at hl 1 rfl) ?_
  refine lv_iconst (v := nI 4) hx hb dX0_pin_5 (by decide) ?_
  refine xr_icmp_lt (tgt := 19) hx hb dX0_pin_6 (by decide) (by omega) (by omega) (fun c6 => ?_) (fun c6 => absurd c6 (by omega))
  refine lv_aload_n hx hb dX0_pin_19 rfl (lv_at hl 0 rfl) ?_
  refine va_get (D := (dC, dI)) (ci := 0) (v := .ref (h 9)) (C := RX0) (T := TX0) (N := 14) hx hb htg inX0 (fs := fsBJ h σ) hown hK hP 0 rfl rfl 13 (by decide) (htg _ fX0_41) (fun _ h9 => h9) rfl dX0_pin_20 ?_
  refine lv_iload_n hx hb dX0_pin_23 rfl (lv_at hl 1 rfl) ?_
  refine lv_lload_n hx hb dX0_pin_24 rfl (lv_at hl 2 rfl) ?_
  refine xr_last (f := jgPD σ) (i := k) (x := d) hx hb hK hP hD hS 9 1 rfl rfl (by omega) (by decide) dX0_pin_25 (fun H locs hP hD hS => ?_)
  rw [wBJ_PD] at hP hD
  have hfin : juPD σ (vp_updL (jgPD σ) k d) = juPD σ (vp_updL (jgPD σ) k d) := rfl
  rw [hfin] at hP hD
  exact W.vret hx hb hr (fun t ht hW => ⟨⟨(), rfl, trivial, by rw [ht]; exact hP, va_K.moved hW.alike hK, hD⟩, hS.F ht⟩) hS.2.2 dX0_pin_26
set_option maxRecDepth 100000 in
set_option maxHeartbeats 4000000 in
theorem c_sync (l : Launch) (σ : BJ) : wBv l yX0_sync wsX0_sync ({ frames := 0, cells := 0, slots := 0, locals := 0 } : Room) σ [] (juSc σ (jgWc σ)) := by
  intro dC dI cI cJ h sz
  refine Met.ofW (cc := cX0_sync) (maxL := 1) (ret := none) (by decide) rfl ?_
  intro p e s m args below meth c s₁ B hml hv
  obtain ⟨rfl, hsz, hP, hK, hD0⟩ := hv
  have hx := B.exec
  have hb := B.bytes
  have hr := B.returns
  have hts := atoms_spec (ws := wsX0_sync) B.pre
  have hown : s.vm.findClass RX0 = some m.cls := findClass_of_methodNamed B.named
  have hlocks := B.notSynchronized
  subst hsz
  have htg : ∀ w ∈ GW, w.before _ s = true := fun w h => hts w (List.mem_cons_of_mem _ h)
  have hD := hD0.self (sz := s.heap.size)
  generalize hAe : va_A (wBJ cI cJ h σ) s.heap.size = A at hD ⊢
  have hA : ∀ q : Nat, s.heap.size ≤ q → A q := fun q h => by rw [← hAe]; exact Or.inr h
  have hS : va_S A s.heap s.heap [] := va_S.rf
  have hl := lv_entry [.ref (h 0)] (n := 1) (Nat.le_of_ble_eq_true rfl)
  rw [lg_entry_eq]
  generalize (lg_sl [.ref (h 0)] ++ List.replicate (1 - (lg_sl [.ref (h 0)]).length) Slot.unset).toArray = ls at hl ⊢
  have hl : lv_has ls 1 [(0, .ref (h 0))] := hl
  have hP : va_P (dC, dI) vwCl (wBJ cI cJ h σ) s.heap := hP
  refine lv_aload_n hx hb dX0_sync_0 rfl (lv_at hl 0 rfl) ?_
  refine lv_aload_n hx hb dX0_sync_1 rfl (lv_at hl 0 rfl) ?_
  refine va_get (D := (dC, dI)) (ci := 0) (v := .int (nI (jgWc σ))) (C := RX0) (T := TX0) (N := 14) hx hb htg inX0 (fs := fsBJ h σ) hown hK hP 0 rfl rfl 3 (by decide) (htg _ fX0_124) (fun _ h9 => h9) rfl dX0_sync_2 ?_
  refine va_put (D := (dC, dI)) (ci := 0) (v := .int (nI (jgWc σ))) (ty := .int) (C := RX0) (T := TX0) (N := 14) hx hb htg inX0 tyX0 tyX0_ok nmX0 (fs := fsBJ h σ) hown hK hP hD hS 0 rfl rfl 4 (by decide) (htg _ fX0_127) (fun _ h9 => h9) rfl (by decide +kernel) rfl rfl (Nat.le_of_ble_eq_true rfl) dX0_sync_5 (fun H locs hP hD hS => ?_)
  rw [wBJ_Sc] at hP hD
  have hfin : juSc σ (jgWc σ) = juSc σ (jgWc σ) := rfl
  rw [hfin] at hP hD
  exact W.vret hx hb hr (fun t ht hW => ⟨⟨(), rfl, trivial, by rw [ht]; exact hP, va_K.moved hW.alike hK, hD⟩, hS.F ht⟩) hS.2.2 dX0_sync_8
set_option maxRecDepth 100000 in
set_option maxHeartbeats 4000000 in
theorem c_journal (l : Launch) (σ : BJ) (k : Nat) (hk : k < jgWc σ) (hw : jgWc σ ≤ 700) : rBi l yX0_journal wsX0_journal ({ frames := 0, cells := 0, slots := 0, locals := 0 } : Room) σ [.int (nI k)] (jgW σ k) := by
  intro dC dI cI cJ h sz
  refine Met.ofW (cc := cX0_journal) (maxL := 2) (ret := (some .int)) (by decide) rfl ?_
  intro p e s m args below meth c s₁ B hml hv
  obtain ⟨rfl, hsz, hP, hK, hD0⟩ := hv
  have hx := B.exec
  have hb := B.bytes
  have hr := B.returns
  have hts := atoms_spec (ws := wsX0_journal) B.pre
  have hown : s.vm.findClass RX0 = some m.cls := findClass_of_methodNamed B.named
  have hlocks := B.notSynchronized
  subst hsz
  have htg : ∀ w ∈ GW, w.before _ s = true := fun w h => hts w (List.mem_cons_of_mem _ h)
  have hD := hD0
  have hA : ∀ q : Nat, s.heap.size ≤ q → (fun q => s.heap.size ≤ q) q := fun _ h => h
  have hS : va_S (fun q => s.heap.size ≤ q) s.heap s.heap [] := va_S.rf
  have hl := lv_entry [.ref (h 0), .int (nI k)] (n := 2) (Nat.le_of_ble_eq_true rfl)
  rw [lg_entry_eq]
  generalize (lg_sl [.ref (h 0), .int (nI k)] ++ List.replicate (2 - (lg_sl [.ref (h 0), .int (nI k)]).length) Slot.unset).toArray = ls at hl ⊢
  have hl : lv_has ls 2 [(0, .ref (h 0)), (1, .int (nI k))] := hl
  have hP : va_P (dC, dI) vwCl (wBJ cI cJ h σ) s.heap := hP
  refine lv_iload_n hx hb dX0_journal_0 rfl (lv_at hl 1 rfl) ?_
  refine lv_if_lt (tgt := 12) hx hb dX0_journal_1 (by decide) (fun c1 => absurd c1 (by exact nI_pos (by omega))) (fun c1 => ?_)
  refine lv_iload_n hx hb dX0_journal_4 rfl (lv_at hl 1 rfl) ?_
  refine lv_aload_n hx hb dX0_journal_5 rfl (lv_at hl 0 rfl) ?_
  refine va_get (D := (dC, dI)) (ci := 0) (v := .int (nI (jgWc σ))) (C := RX0) (T := TX0) (N := 14) hx hb htg inX0 (fs := fsBJ h σ) hown hK hP 0 rfl rfl 3 (by decide) (htg _ fX0_124) (fun _ h9 => h9) rfl dX0_journal_6 ?_
  refine xr_icmp_lt (tgt := 22) hx hb dX0_journal_9 (by decide) (by omega) (by omega) (fun c9 => ?_) (fun c9 => absurd c9 (by omega))
  refine lv_aload_n hx hb dX0_journal_22 rfl (lv_at hl 0 rfl) ?_
  refine va_get (D := (dC, dI)) (ci := 0) (v := .ref (h 2)) (C := RX0) (T := TX0) (N := 14) hx hb htg inX0 (fs := fsBJ h σ) hown hK hP 0 rfl rfl 2 (by decide) (htg _ fX0_13) (fun _ h9 => h9) rfl dX0_journal_23 ?_
  refine lv_iload_n hx hb dX0_journal_26 rfl (lv_at hl 1 rfl) ?_
  refine xr_iald (f := jgW σ) (i := k) hx hb hK hP 2 0 rfl rfl (by omega) (by decide) dX0_journal_27 ?_
  exact W.iret (v := (jgW σ) k) hx hb hr (fun t ht hW => ⟨⟨_, (), rfl, rfl, trivial⟩, hS.F ht⟩) hS.2.2 dX0_journal_28
set_option maxRecDepth 100000 in
set_option maxHeartbeats 4000000 in
theorem c_length (l : Launch) (σ : BJ) (d : Int64) (hc : jgBc σ ≤ 20) : rBi l yX0_length wsX0_length ({ frames := 1, cells := 0, slots := 0, locals := 23 } : Room) σ [.long d] (lenS σ d) := by
  intro dC dI cI cJ h sz
  refine Met.ofW (cc := cX0_length) (maxL := 4) (ret := (some .int)) (by decide) rfl ?_
  intro p e s m args below meth c s₁ B hml hv
  obtain ⟨rfl, hsz, hP, hK, hD0⟩ := hv
  have hx := B.exec
  have hb := B.bytes
  have hr := B.returns
  have hts := atoms_spec (ws := wsX0_length) B.pre
  have hown : s.vm.findClass RX0 = some m.cls := findClass_of_methodNamed B.named
  have hlocks := B.notSynchronized
  subst hsz
  have htg : ∀ w ∈ GW, w.before _ s = true := fun w h => hts w (List.mem_cons_of_mem _ h)
  have hD := hD0
  have hA : ∀ q : Nat, s.heap.size ≤ q → (fun q => s.heap.size ≤ q) q := fun _ h => h
  have hS : va_S (fun q => s.heap.size ≤ q) s.heap s.heap [] := va_S.rf
  have hl := lv_entry [.ref (h 0), .long d] (n := 4) (Nat.le_of_ble_eq_true rfl)
  rw [lg_entry_eq]
  generalize (lg_sl [.ref (h 0), .long d] ++ List.replicate (4 - (lg_sl [.ref (h 0), .long d]).length) Slot.unset).toArray = ls at hl ⊢
  have hl : lv_has ls 4 [(0, .ref (h 0)), (1, .long d)] := hl
  have hP : va_P (dC, dI) vwCl (wBJ cI cJ h σ) s.heap := hP
  refine lv_aload_n hx hb dX0_length_0 rfl (lv_at hl 0 rfl) ?_
  refine lv_lload_n hx hb dX0_length_1 rfl (lv_at hl 1 rfl) ?_
  refine bj_ri (As := [.long d]) (rest := []) (n := 1) ⟨hx, hb, hml, hown, htg⟩ (c_findBlob l σ d (by omega)) (cwV 1 htg gX0_64 rfl rfl rfl (by decide +kernel) ⟨Nat.le_of_ble_eq_true rfl, Nat.le_of_ble_eq_true rfl⟩) hK hP hD hS hA hl.1 rfl rfl (Nat.le_of_ble_eq_true rfl) dX0_length_2 (Nat.zero_le _) (Nat.zero_le _) (fun H locs hP hS => ?_)
  obtain ⟨o, ho⟩ : ∃ zq, zq = fnd (jgBD σ) d (jgBc σ) := ⟨_, rfl⟩
  rw [← ho]
  cases o with
  | none =>
    refine W.eq (g2 := F0 m 5 ls [.int (-1)]) rfl ?_
    refine lv_istore_n (lv' := [(3, .int (-1)), (0, .ref (h 0)), (1, .long d)]) hx hb dX0_length_5 rfl hl (by decide) rfl (fun ls hl => ?_)
    refine lv_iload_n hx hb dX0_length_6 rfl (lv_at hl 0 rfl) ?_
    refine lv_iconst (v := -1) hx hb dX0_length_7 (by decide) ?_
    refine lv_icmp_ne (tgt := 15) hx hb dX0_length_8 (by decide) (fun c => absurd rfl c) (fun _ => ?_)
    refine lv_iconst (v := -1) hx hb dX0_length_11 (by decide) ?_
    refine lv_goto (tgt := 21) hx hb dX0_length_12 (by decide) ?_
    exact W.iret (v := -1) hx hb hr (fun t ht hW => ⟨⟨_, (), rfl, by rw [lenS, ← ho], trivial⟩, hS.F ht⟩) hS.2.2 dX0_length_21
  | some b =>
    have hlto := (fnd_lt ho.symm).1
    refine W.eq (g2 := F0 m 5 ls [.int (nI b)]) rfl ?_
    refine lv_istore_n (lv' := [(3, .int (nI b)), (0, .ref (h 0)), (1, .long d)]) hx hb dX0_length_5 rfl hl (by decide) rfl (fun ls hl => ?_)
    refine lv_iload_n hx hb dX0_length_6 rfl (lv_at hl 0 rfl) ?_
    refine lv_iconst (v := -1) hx hb dX0_length_7 (by decide) ?_
    refine lv_icmp_ne (tgt := 15) hx hb dX0_length_8 (by decide) (fun _ => ?_) (fun c => absurd c (optI_none (by omega)))
    refine lv_aload_n hx hb dX0_length_15 rfl (lv_at hl 1 rfl) ?_
    refine va_get (D := (dC, dI)) (ci := 0) (v := .ref (h 5)) (C := RX0) (T := TX0) (N := 14) hx hb htg inX0 (fs := fsBJ h σ) hown hK hP 0 rfl rfl 7 (by decide) (htg _ fX0_23) (fun _ h9 => h9) rfl dX0_length_16 ?_
    refine lv_iload_n hx hb dX0_length_19 rfl (lv_at hl 0 rfl) ?_
    refine xr_iald (f := jgBL σ) (i := b) hx hb hK hP 5 0 rfl rfl (by omega) (by decide) dX0_length_20 ?_
    exact W.iret (v := (jgBL σ) b) hx hb hr (fun t ht hW => ⟨⟨_, (), rfl, by rw [lenS, ← ho], trivial⟩, hS.F ht⟩) hS.2.2 dX0_length_21
set_option maxRecDepth 100000 in
set_option maxHeartbeats 4000000 in
theorem c_look (l : Launch) (σ : BJ) (k : Int64) (i : Nat) (hc : jgKc σ ≤ 16) (hf : fnd (jgKS σ) k (jgKc σ) = some i) : rBl l yX0_look wsX0_look ({ frames := 1, cells := 0, slots := 0, locals := 23 } : Room) σ [.long k] (jgKD σ i) := by
  intro dC dI cI cJ h sz
  refine Met.ofW (cc := cX0_look) (maxL := 4) (ret := (some .long)) (by decide) rfl ?_
  intro p e s m args below meth c s₁ B hml hv
  obtain ⟨rfl, hsz, hP, hK, hD0⟩ := hv
  have hx := B.exec
  have hb := B.bytes
  have hr := B.returns
  have hts := atoms_spec (ws := wsX0_look) B.pre
  have hown : s.vm.findClass RX0 = some m.cls := findClass_of_methodNamed B.named
  have hlocks := B.notSynchronized
  subst hsz
  have htg : ∀ w ∈ GW, w.before _ s = true := fun w h => hts w (List.mem_cons_of_mem _ h)
  have hD := hD0
  have hA : ∀ q : Nat, s.heap.size ≤ q → (fun q => s.heap.size ≤ q) q := fun _ h => h
  have hS : va_S (fun q => s.heap.size ≤ q) s.heap s.heap [] := va_S.rf
  have hl := lv_entry [.ref (h 0), .long k] (n := 4) (Nat.le_of_ble_eq_true rfl)
  rw [lg_entry_eq]
  generalize (lg_sl [.ref (h 0), .long k] ++ List.replicate (4 - (lg_sl [.ref (h 0), .long k]).length) Slot.unset).toArray = ls at hl ⊢
  have hl : lv_has ls 4 [(0, .ref (h 0)), (1, .long k)] := hl
  have hP : va_P (dC, dI) vwCl (wBJ cI cJ h σ) s.heap := hP
  refine lv_aload_n hx hb dX0_look_0 rfl (lv_at hl 0 rfl) ?_
  refine lv_lload_n hx hb dX0_look_1 rfl (lv_at hl 1 rfl) ?_
  refine bj_ri (As := [.long k]) (rest := []) (n := 1) ⟨hx, hb, hml, hown, htg⟩ (c_findKey l σ k (by omega)) (cwV 1 htg gX0_103 rfl rfl rfl (by decide +kernel) ⟨Nat.le_of_ble_eq_true rfl, Nat.le_of_ble_eq_true rfl⟩) hK hP hD hS hA hl.1 rfl rfl (Nat.le_of_ble_eq_true rfl) dX0_look_2 (Nat.zero_le _) (Nat.zero_le _) (fun H locs hP hS => ?_)
  have hlt := (fnd_lt hf).1
  rw [hf]
  refine W.eq (g2 := F0 m 5 ls [.int (nI i)]) rfl ?_
  refine lv_istore_n (lv' := [(3, .int (nI i)), (0, .ref (h 0)), (1, .long k)]) hx hb dX0_look_5 rfl hl (by decide) rfl (fun ls hl => ?_)
  refine lv_iload_n hx hb dX0_look_6 rfl (lv_at hl 0 rfl) ?_
  refine lv_iconst (v := -1) hx hb dX0_look_7 (by decide) ?_
  refine lv_icmp_ne (tgt := 21) hx hb dX0_look_8 (by decide) (fun _ => ?_) (fun c => absurd c (optI_none (by omega)))
  refine lv_aload_n hx hb dX0_look_21 rfl (lv_at hl 1 rfl) ?_
  refine va_get (D := (dC, dI)) (ci := 0) (v := .ref (h 8)) (C := RX0) (T := TX0) (N := 14) hx hb htg inX0 (fs := fsBJ h σ) hown hK hP 0 rfl rfl 11 (by decide) (htg _ fX0_38) (fun _ h9 => h9) rfl dX0_look_22 ?_
  refine lv_iload_n hx hb dX0_look_25 rfl (lv_at hl 0 rfl) ?_
  refine xr_lald (f := jgKD σ) (i := i) hx hb hK hP 8 1 rfl rfl (by omega) (by decide) dX0_look_26 ?_
  exact W.lret (v := (jgKD σ) i) hx hb hr (fun t ht hW => ⟨⟨_, (), rfl, rfl, trivial⟩, hS.F ht⟩) hS.2.2 dX0_look_27
set_option maxRecDepth 100000 in
set_option maxHeartbeats 4000000 in
theorem c_byteOf (l : Launch) (σ : BJ) (d : Int64) (k : Nat) (b : Nat) (st : Nat) (n : Nat) (hc : jgBc σ ≤ 20) (hf : fnd (jgBD σ) d (jgBc σ) = some b) (hs : jgBS σ b = nI st) (hn : jgBL σ b = nI n) (hk : k < n) (hsn : st + n ≤ 700) : rBi l yX0_byteOf wsX0_byteOf ({ frames := 1, cells := 0, slots := 0, locals := 23 } : Room) σ [.long d, .int (nI k)] (jgW σ (st + k)) := by
  intro dC dI cI cJ h sz
  refine Met.ofW (cc := cX0_byteOf) (maxL := 5) (ret := (some .int)) (by decide) rfl ?_
  intro p e s m args below meth c s₁ B hml hv
  obtain ⟨rfl, hsz, hP, hK, hD0⟩ := hv
  have hx := B.exec
  have hb := B.bytes
  have hr := B.returns
  have hts := atoms_spec (ws := wsX0_byteOf) B.pre
  have hown : s.vm.findClass RX0 = some m.cls := findClass_of_methodNamed B.named
  have hlocks := B.notSynchronized
  subst hsz
  have htg : ∀ w ∈ GW, w.before _ s = true := fun w h => hts w (List.mem_cons_of_mem _ h)
  have hD := hD0
  have hA : ∀ q : Nat, s.heap.size ≤ q → (fun q => s.heap.size ≤ q) q := fun _ h => h
  have hS : va_S (fun q => s.heap.size ≤ q) s.heap s.heap [] := va_S.rf
  have hl := lv_entry [.ref (h 0), .long d, .int (nI k)] (n := 5) (Nat.le_of_ble_eq_true rfl)
  rw [lg_entry_eq]
  generalize (lg_sl [.ref (h 0), .long d, .int (nI k)] ++ List.replicate (5 - (lg_sl [.ref (h 0), .long d, .int (nI k)]).length) Slot.unset).toArray = ls at hl ⊢
  have hl : lv_has ls 5 [(0, .ref (h 0)), (1, .long d), (3, .int (nI k))] := hl
  have hP : va_P (dC, dI) vwCl (wBJ cI cJ h σ) s.heap := hP
  refine lv_aload_n hx hb dX0_byteOf_0 rfl (lv_at hl 0 rfl) ?_
  refine lv_lload_n hx hb dX0_byteOf_1 rfl (lv_at hl 1 rfl) ?_
  refine bj_ri (As := [.long d]) (rest := []) (n := 1) ⟨hx, hb, hml, hown, htg⟩ (c_findBlob l σ d (by omega)) (cwV 1 htg gX0_64 rfl rfl rfl (by decide +kernel) ⟨Nat.le_of_ble_eq_true rfl, Nat.le_of_ble_eq_true rfl⟩) hK hP hD hS hA hl.1 rfl rfl (Nat.le_of_ble_eq_true rfl) dX0_byteOf_2 (Nat.zero_le _) (Nat.zero_le _) (fun H locs hP hS => ?_)
  have hlt := (fnd_lt hf).1
  rw [hf]
  refine W.eq (g2 := F0 m 5 ls [.int (nI b)]) rfl ?_
  refine lv_istore (lv' := [(4, .int (nI b)), (0, .ref (h 0)), (1, .long d), (3, .int (nI k))]) hx hb dX0_byteOf_5 hl (by decide) rfl (fun ls hl => ?_)
  refine lv_iload hx hb dX0_byteOf_7 (lv_at hl 0 rfl) ?_
  refine lv_iconst (v := -1) hx hb dX0_byteOf_9 (by decide) ?_
  refine lv_icmp_ne (tgt := 23) hx hb dX0_byteOf_10 (by decide) (fun _ => ?_) (fun c => absurd c (optI_none (by omega)))
  refine lv_iload_n hx hb dX0_byteOf_23 rfl (lv_at hl 3 rfl) ?_
  refine lv_if_lt (tgt := 38) hx hb dX0_byteOf_24 (by decide) (fun c24 => absurd c24 (by exact nI_pos (by omega))) (fun c24 => ?_)
  refine lv_iload_n hx hb dX0_byteOf_27 rfl (lv_at hl 3 rfl) ?_
  refine lv_aload_n hx hb dX0_byteOf_28 rfl (lv_at hl 1 rfl) ?_
  refine va_get (D := (dC, dI)) (ci := 0) (v := .ref (h 5)) (C := RX0) (T := TX0) (N := 14) hx hb htg inX0 (fs := fsBJ h σ) hown hK hP 0 rfl rfl 7 (by decide) (htg _ fX0_23) (fun _ h9 => h9) rfl dX0_byteOf_29 ?_
  refine lv_iload hx hb dX0_byteOf_32 (lv_at hl 0 rfl) ?_
  refine xr_iald (f := jgBL σ) (i := b) hx hb hK hP 5 0 rfl rfl (by omega) (by decide) dX0_byteOf_34 ?_
  refine W.eq (g2 := F0 m 35 ls [.int (nI n), .int (nI k)]) (by rw [hn]) ?_
  refine xr_icmp_lt (tgt := 48) hx hb dX0_byteOf_35 (by decide) (by omega) (by omega) (fun c35 => ?_) (fun c35 => absurd c35 (by omega))
  refine lv_aload_n hx hb dX0_byteOf_48 rfl (lv_at hl 1 rfl) ?_
  refine va_get (D := (dC, dI)) (ci := 0) (v := .ref (h 2)) (C := RX0) (T := TX0) (N := 14) hx hb htg inX0 (fs := fsBJ h σ) hown hK hP 0 rfl rfl 2 (by decide) (htg _ fX0_13) (fun _ h9 => h9) rfl dX0_byteOf_49 ?_
  refine lv_aload_n hx hb dX0_byteOf_52 rfl (lv_at hl 1 rfl) ?_
  refine va_get (D := (dC, dI)) (ci := 0) (v := .ref (h 4)) (C := RX0) (T := TX0) (N := 14) hx hb htg inX0 (fs := fsBJ h σ) hown hK hP 0 rfl rfl 6 (by decide) (htg _ fX0_20) (fun _ h9 => h9) rfl dX0_byteOf_53 ?_
  refine lv_iload hx hb dX0_byteOf_56 (lv_at hl 0 rfl) ?_
  refine xr_iald (f := jgBS σ) (i := b) hx hb hK hP 4 0 rfl rfl (by omega) (by decide) dX0_byteOf_58 ?_
  refine W.eq (g2 := F0 m 59 ls [.int (nI st), .ref (h 2)]) (by rw [hs]) ?_
  refine lv_iload_n hx hb dX0_byteOf_59 rfl (lv_at hl 3 rfl) ?_
  refine xr_iadd hx hb dX0_byteOf_60 ?_
  refine xr_iald (f := jgW σ) (i := st + k) hx hb hK hP 2 0 rfl rfl (by omega) (by decide) dX0_byteOf_61 ?_
  exact W.iret (v := (jgW σ) (st + k)) hx hb hr (fun t ht hW => ⟨⟨_, (), rfl, rfl, trivial⟩, hS.F ht⟩) hS.2.2 dX0_byteOf_62
end
section
set_option maxRecDepth 100000 in
set_option maxHeartbeats 4000000 in
theorem c_rewriteBlobs (l : Launch) (σ : BJ) (hc : jgBc σ ≤ 20) (hok : ∀ i, i < jgBc σ → rbOk σ i) : wBv l yX0_rewriteBlobs wsX0_rewriteBlobs ({ frames := 1, cells := 0, slots := 0, locals := 64 } : Room) σ [] (rbL σ (jgBc σ)) := by
  intro dC dI cI cJ h sz
  refine Met.ofW (cc := cX0_rewriteBlobs) (maxL := 3) (ret := none) (by decide) rfl ?_
  intro p e s m args below meth c s₁ B hml hv
  obtain ⟨rfl, hsz, hP, hK, hD0⟩ := hv
  have hx := B.exec
  have hb := B.bytes
  have hr := B.returns
  have hts := atoms_spec (ws := wsX0_rewriteBlobs) B.pre
  have hown : s.vm.findClass RX0 = some m.cls := findClass_of_methodNamed B.named
  have hlocks := B.notSynchronized
  subst hsz
  have htg : ∀ w ∈ GW, w.before _ s = true := fun w h => hts w (List.mem_cons_of_mem _ h)
  have hD := hD0.self (sz := s.heap.size)
  generalize hAe : va_A (wBJ cI cJ h σ) s.heap.size = A at hD ⊢
  have hA : ∀ q : Nat, s.heap.size ≤ q → A q := fun q h => by rw [← hAe]; exact Or.inr h
  have hS : va_S A s.heap s.heap [] := va_S.rf
  have hl := lv_entry [.ref (h 0)] (n := 3) (Nat.le_of_ble_eq_true rfl)
  rw [lg_entry_eq]
  generalize (lg_sl [.ref (h 0)] ++ List.replicate (3 - (lg_sl [.ref (h 0)]).length) Slot.unset).toArray = ls at hl ⊢
  have hl : lv_has ls 3 [(0, .ref (h 0))] := hl
  have hP : va_P (dC, dI) vwCl (wBJ cI cJ h σ) s.heap := hP
  refine lv_iconst (v := nI 0) hx hb dX0_rewriteBlobs_0 (by decide) ?_
  refine lv_istore_n (lv' := [(1, .int (nI 0)), (0, .ref (h 0))]) hx hb dX0_rewriteBlobs_1 rfl hl (by decide) rfl (fun ls hl => ?_)
  have loop : ∀ (n i : Nat) (z : BJ), i ≤ jgBc σ → jgBc σ < i + n → z = rbL σ i → ∀ (H : Heap) (locs : List Loc), va_P (dC, dI) vwCl (wBJ cI cJ h z) H → va_D A (wBJ cI cJ h z) → va_S A s.heap H locs → ∀ (ls : Array Slot), lv_has ls 3 [(1, .int (nI i)), (0, .ref (h 0))] → W p l e (headSpec wsX0_rewriteBlobs ({ frames := 1, cells := 0, slots := 0, locals := 64 } : Room)).room s m ([.ref (h 0)].toArray) below meth c H locs 0 0 (MQ below (va_Qv (fun (_ : Unit) => True) (fun _ => aBJ dC dI cI cJ h A (rbL σ (jgBc σ))) A) ([.ref (h 0)].toArray) s 0 0 A) (F0 m 2 ls []) := by
    intro n
    induction n with
    | zero => intro i z h1 h2; exact absurd h2 (by omega)
    | succ n ih =>
      intro i z hi hin ez H locs hP hD hS ls hl
      refine lv_iload_n hx hb dX0_rewriteBlobs_2 rfl (lv_at hl 0 rfl) ?_
      have hk := rbL_keep σ i
      rw [← ez] at hk
      obtain ⟨hk1, hk2, hk3, hk4⟩ := hk
      refine lv_aload_n hx hb dX0_rewriteBlobs_3 rfl (lv_at hl 1 rfl) ?_
      refine va_get (D := (dC, dI)) (ci := 0) (v := .int (nI (jgBc z))) (C := RX0) (T := TX0) (N := 14) hx hb htg inX0 (fs := fsBJ h z) hown hK hP 0 rfl rfl 8 (by decide) (htg _ fX0_68) (fun _ h9 => h9) rfl dX0_rewriteBlobs_4 ?_
      refine xr_icmp_ge (tgt := 67) hx hb dX0_rewriteBlobs_7 (by decide) (by omega) (by omega) (fun c7 => ?_) (fun c7 => ?_)
      · have hfin : z = rbL σ (jgBc σ) := by rw [ez, show i = jgBc σ by omega]
        rw [hfin] at hP hD
        exact W.vret hx hb hr (fun t ht hW => ⟨⟨(), rfl, trivial, by rw [ht]; exact hP, va_K.moved hW.alike hK, hD⟩, hS.F ht⟩) hS.2.2 dX0_rewriteBlobs_67
      · refine lv_aload_n hx hb dX0_rewriteBlobs_10 rfl (lv_at hl 1 rfl) ?_
        refine lv_iload_n hx hb dX0_rewriteBlobs_11 rfl (lv_at hl 0 rfl) ?_
        refine bj_ri (As := [.int (nI i)]) (rest := []) (n := 1) ⟨hx, hb, hml, hown, htg⟩ (c_isTold l z i (by omega)) (cwV 1 htg gX0_206 rfl rfl rfl (by decide +kernel) ⟨Nat.le_of_ble_eq_true rfl, Nat.le_of_ble_eq_true rfl⟩) hK hP hD hS hA hl.1 rfl rfl (Nat.le_of_ble_eq_true rfl) dX0_rewriteBlobs_12 (Nat.zero_le _) (Nat.zero_le _) (fun H locs hP hS => ?_)
        refine xr_ifeqB (tgt := 61) hx hb dX0_rewriteBlobs_15 (by decide) (fun c15 => ?_) (fun c15 => ?_)
        · refine lv_iinc (v := nI (i + 1)) (lv' := [(1, .int (nI (i + 1))), (0, .ref (h 0))]) hx hb dX0_rewriteBlobs_61 hl (k := 0) rfl (nI_add _ 1) (by decide) rfl (fun ls hl => ?_)
          refine lv_goto (tgt := 2) hx hb dX0_rewriteBlobs_64 (by decide) ?_
          exact ih (i + 1) z (by omega) (by omega) (by show _ = rbS (rbL σ i) i; rw [← ez, rbS, if_neg (by rw [c15]; decide)]) H locs hP hD hS ls (lv_sub hl [0, 1] rfl)
        · obtain ⟨o1, o2, o3, o4, o5⟩ := hok i (by omega)
          rw [← ez] at o5
          refine lv_iconst (v := nI 4) hx hb dX0_rewriteBlobs_18 (by decide) ?_
          refine lv_aload_n hx hb dX0_rewriteBlobs_19 rfl (lv_at hl 1 rfl) ?_
          refine va_get (D := (dC, dI)) (ci := 0) (v := .ref (h 5)) (C := RX0) (T := TX0) (N := 14) hx hb htg inX0 (fs := fsBJ h z) hown hK hP 0 rfl rfl 7 (by decide) (htg _ fX0_23) (fun _ h9 => h9) rfl dX0_rewriteBlobs_20 ?_
          refine lv_iload_n hx hb dX0_rewriteBlobs_23 rfl (lv_at hl 0 rfl) ?_
          refine xr_iald (f := jgBL z) (i := i) hx hb hK hP 5 0 rfl rfl (by omega) (by decide) dX0_rewriteBlobs_24 ?_
          refine W.eq (g2 := F0 m 25 ls [.int (nI (nb (jgBL σ) i)), .int (nI 4)]) (by rw [hk3, o3]) ?_
          refine xr_iadd hx hb dX0_rewriteBlobs_25 ?_
          refine lv_istore_n (lv' := [(2, .int (nI (4 + (nb (jgBL σ) i)))), (1, .int (nI i)), (0, .ref (h 0))]) hx hb dX0_rewriteBlobs_26 rfl hl (by decide) rfl (fun ls hl => ?_)
          refine lv_aload_n hx hb dX0_rewriteBlobs_27 rfl (lv_at hl 2 rfl) ?_
          refine va_get (D := (dC, dI)) (ci := 0) (v := .ref (h 2)) (C := RX0) (T := TX0) (N := 14) hx hb htg inX0 (fs := fsBJ h z) hown hK hP 0 rfl rfl 2 (by decide) (htg _ fX0_13) (fun _ h9 => h9) rfl dX0_rewriteBlobs_28 ?_
          refine lv_aload_n hx hb dX0_rewriteBlobs_31 rfl (lv_at hl 2 rfl) ?_
          refine va_get (D := (dC, dI)) (ci := 0) (v := .ref (h 4)) (C := RX0) (T := TX0) (N := 14) hx hb htg inX0 (fs := fsBJ h z) hown hK hP 0 rfl rfl 6 (by decide) (htg _ fX0_20) (fun _ h9 => h9) rfl dX0_rewriteBlobs_32 ?_
          refine lv_iload_n hx hb dX0_rewriteBlobs_35 rfl (lv_at hl 1 rfl) ?_
          refine xr_iald (f := jgBS z) (i := i) hx hb hK hP 4 0 rfl rfl (by omega) (by decide) dX0_rewriteBlobs_36 ?_
          refine W.eq (g2 := F0 m 37 ls [.int (nI (nb (jgBS σ) i)), .ref (h 2)]) (by rw [hk2, o1]) ?_
          refine lv_iconst (v := nI 3) hx hb dX0_rewriteBlobs_37 (by decide) ?_
          refine xr_isub hx hb (by omega) dX0_rewriteBlobs_38 ?_
          refine lv_aload_n hx hb dX0_rewriteBlobs_39 rfl (lv_at hl 2 rfl) ?_
          refine va_get (D := (dC, dI)) (ci := 0) (v := .ref (h 2)) (C := RX0) (T := TX0) (N := 14) hx hb htg inX0 (fs := fsBJ h z) hown hK hP 0 rfl rfl 2 (by decide) (htg _ fX0_13) (fun _ h9 => h9) rfl dX0_rewriteBlobs_40 ?_
          refine lv_aload_n hx hb dX0_rewriteBlobs_43 rfl (lv_at hl 2 rfl) ?_
          refine va_get (D := (dC, dI)) (ci := 0) (v := .int (nI (jgWc z))) (C := RX0) (T := TX0) (N := 14) hx hb htg inX0 (fs := fsBJ h z) hown hK hP 0 rfl rfl 3 (by decide) (htg _ fX0_124) (fun _ h9 => h9) rfl dX0_rewriteBlobs_44 ?_
          refine lv_iload_n hx hb dX0_rewriteBlobs_47 rfl (lv_at hl 0 rfl) ?_
          refine xr_copy (f := jgW z) (sp := nb (jgBS σ) i - 3) (dp := jgWc z) (n := 4 + (nb (jgBL σ) i)) hx hb (hml.trans hl.1.symm) hown (htg _ lX0_209) (htg _ w_cpN) (htg _ w_cpS) (htg _ w_nSys) hK hP hD hS 2 0 rfl rfl (by omega) (by omega) (by decide) (Nat.le_of_ble_eq_true rfl) (by decide +kernel) dX0_rewriteBlobs_48 (fun H locs hP hD hS => ?_)
          rw [wBJ_W] at hP hD
          refine lv_aload_n hx hb dX0_rewriteBlobs_51 rfl (lv_at hl 2 rfl) ?_
          refine lv_dup hx hb dX0_rewriteBlobs_52 rfl ?_
          refine va_get (D := (dC, dI)) (ci := 0) (v := .int (nI (jgWc z))) (C := RX0) (T := TX0) (N := 14) hx hb htg inX0 (fs := fsBJ h (juW z (va_cpy (jgW z) (jgW z) (nb (jgBS σ) i - 3) (jgWc z) (4 + (nb (jgBL σ) i))))) hown hK hP 0 rfl rfl 3 (by decide) (htg _ fX0_124) (fun _ h9 => h9) rfl dX0_rewriteBlobs_53 ?_
          refine lv_iload_n hx hb dX0_rewriteBlobs_56 rfl (lv_at hl 0 rfl) ?_
          refine xr_iadd hx hb dX0_rewriteBlobs_57 ?_
          refine va_put (D := (dC, dI)) (ci := 0) (v := .int (nI (jgWc z + (4 + (nb (jgBL σ) i))))) (ty := .int) (C := RX0) (T := TX0) (N := 14) hx hb htg inX0 tyX0 tyX0_ok nmX0 (fs := fsBJ h (juW z (va_cpy (jgW z) (jgW z) (nb (jgBS σ) i - 3) (jgWc z) (4 + (nb (jgBL σ) i))))) hown hK hP hD hS 0 rfl rfl 3 (by decide) (htg _ fX0_124) (fun _ h9 => h9) rfl (by decide +kernel) rfl rfl (Nat.le_of_ble_eq_true rfl) dX0_rewriteBlobs_58 (fun H locs hP hD hS => ?_)
          rw [wBJ_Wc] at hP hD
          refine lv_iinc (v := nI (i + 1)) (lv' := [(1, .int (nI (i + 1))), (2, .int (nI (4 + (nb (jgBL σ) i)))), (0, .ref (h 0))]) hx hb dX0_rewriteBlobs_61 hl (k := 1) rfl (nI_add _ 1) (by decide) rfl (fun ls hl => ?_)
          refine lv_goto (tgt := 2) hx hb dX0_rewriteBlobs_64 (by decide) ?_
          exact ih (i + 1) (juWc (juW z (va_cpy (jgW z) (jgW z) (nb (jgBS σ) i - 3) (jgWc z) (4 + (nb (jgBL σ) i)))) (jgWc z + (4 + (nb (jgBL σ) i)))) (by omega) (by omega) (by show _ = rbS (rbL σ i) i; rw [← ez, rbS, if_pos c15, hk2, hk3]) H locs hP hD hS ls (lv_sub hl [0, 2] rfl)
  exact loop (jgBc σ + 1) 0 σ (by omega) (by omega) (rfl) _ _ hP hD hS ls (lv_sub hl [0, 1] rfl)
set_option maxRecDepth 100000 in
set_option maxHeartbeats 4000000 in
theorem c_rewriteTags (l : Launch) (σ : BJ) (hok : ∀ t, t < 8 → rtOk σ t) : wBv l yX0_rewriteTags wsX0_rewriteTags ({ frames := 3, cells := 0, slots := 0, locals := 69 } : Room) σ [] (rtL σ 8) := by
  intro dC dI cI cJ h sz
  refine Met.ofW (cc := cX0_rewriteTags) (maxL := 3) (ret := none) (by decide) rfl ?_
  intro p e s m args below meth c s₁ B hml hv
  obtain ⟨rfl, hsz, hP, hK, hD0⟩ := hv
  have hx := B.exec
  have hb := B.bytes
  have hr := B.returns
  have hts := atoms_spec (ws := wsX0_rewriteTags) B.pre
  have hown : s.vm.findClass RX0 = some m.cls := findClass_of_methodNamed B.named
  have hlocks := B.notSynchronized
  subst hsz
  have htg : ∀ w ∈ GW, w.before _ s = true := fun w h => hts w (List.mem_cons_of_mem _ h)
  have hD := hD0.self (sz := s.heap.size)
  generalize hAe : va_A (wBJ cI cJ h σ) s.heap.size = A at hD ⊢
  have hA : ∀ q : Nat, s.heap.size ≤ q → A q := fun q h => by rw [← hAe]; exact Or.inr h
  have hS : va_S A s.heap s.heap [] := va_S.rf
  have hl := lv_entry [.ref (h 0)] (n := 3) (Nat.le_of_ble_eq_true rfl)
  rw [lg_entry_eq]
  generalize (lg_sl [.ref (h 0)] ++ List.replicate (3 - (lg_sl [.ref (h 0)]).length) Slot.unset).toArray = ls at hl ⊢
  have hl : lv_has ls 3 [(0, .ref (h 0))] := hl
  have hP : va_P (dC, dI) vwCl (wBJ cI cJ h σ) s.heap := hP
  refine lv_iconst (v := nI 0) hx hb dX0_rewriteTags_0 (by decide) ?_
  refine lv_istore_n (lv' := [(1, .int (nI 0)), (0, .ref (h 0))]) hx hb dX0_rewriteTags_1 rfl hl (by decide) rfl (fun ls hl => ?_)
  have loop : ∀ (n i : Nat) (z : BJ), i ≤ 8 → 8 < i + n → z = rtL σ i → ∀ (H : Heap) (locs : List Loc), va_P (dC, dI) vwCl (wBJ cI cJ h z) H → va_D A (wBJ cI cJ h z) → va_S A s.heap H locs → ∀ (ls : Array Slot), lv_has ls 3 [(1, .int (nI i)), (0, .ref (h 0))] → W p l e (headSpec wsX0_rewriteTags ({ frames := 3, cells := 0, slots := 0, locals := 69 } : Room)).room s m ([.ref (h 0)].toArray) below meth c H locs 0 0 (MQ below (va_Qv (fun (_ : Unit) => True) (fun _ => aBJ dC dI cI cJ h A (rtL σ 8)) A) ([.ref (h 0)].toArray) s 0 0 A) (F0 m 2 ls []) := by
    intro n
    induction n with
    | zero => intro i z h1 h2; exact absurd h2 (by omega)
    | succ n ih =>
      intro i z hi hin ez H locs hP hD hS ls hl
      refine lv_iload_n hx hb dX0_rewriteTags_2 rfl (lv_at hl 0 rfl) ?_
      refine lv_bipush (v := nI 8) hx hb dX0_rewriteTags_3 (by decide) ?_
      refine xr_icmp_ge (tgt := 38) hx hb dX0_rewriteTags_5 (by decide) (by omega) (by omega) (fun c5 => ?_) (fun c5 => ?_)
      · have hfin : z = rtL σ 8 := by rw [ez, show i = 8 by omega]
        rw [hfin] at hP hD
        exact W.vret hx hb hr (fun t ht hW => ⟨⟨(), rfl, trivial, by rw [ht]; exact hP, va_K.moved hW.alike hK, hD⟩, hS.F ht⟩) hS.2.2 dX0_rewriteTags_38
      · have hk := rtL_keep σ i
        rw [← ez] at hk
        obtain ⟨hk1, hk2⟩ := hk
        have o := hok i (by omega)
        rw [rtOk, ← ez, ← hk1] at o
        refine lv_aload_n hx hb dX0_rewriteTags_8 rfl (lv_at hl 1 rfl) ?_
        refine va_get (D := (dC, dI)) (ci := 0) (v := .ref (h 6)) (C := RX0) (T := TX0) (N := 14) hx hb htg inX0 (fs := fsBJ h z) hown hK hP 0 rfl rfl 9 (by decide) (htg _ fX0_26) (fun _ h9 => h9) rfl dX0_rewriteTags_9 ?_
        refine lv_iload_n hx hb dX0_rewriteTags_12 rfl (lv_at hl 0 rfl) ?_
        refine xr_iald (f := jgTB z) (i := i) hx hb hK hP 6 0 rfl rfl (by omega) (by decide) dX0_rewriteTags_13 ?_
        rcases o with o1 | ⟨o1, o2, o3⟩
        · refine W.eq (g2 := F0 m 14 ls [.int (-1)]) (by rw [o1]) ?_
          refine lv_istore_n (lv' := [(2, .int (-1)), (1, .int (nI i)), (0, .ref (h 0))]) hx hb dX0_rewriteTags_14 rfl hl (by decide) rfl (fun ls hl => ?_)
          refine lv_iload_n hx hb dX0_rewriteTags_15 rfl (lv_at hl 0 rfl) ?_
          refine lv_iconst (v := -1) hx hb dX0_rewriteTags_16 (by decide) ?_
          refine lv_icmp_eq (tgt := 32) hx hb dX0_rewriteTags_17 (by decide) (fun _ => ?_) (fun c => absurd rfl c)
          refine lv_iinc (v := nI (i + 1)) (lv' := [(1, .int (nI (i + 1))), (2, .int (-1)), (0, .ref (h 0))]) hx hb dX0_rewriteTags_32 hl (k := 1) rfl (nI_add _ 1) (by decide) rfl (fun ls hl => ?_)
          refine lv_goto (tgt := 2) hx hb dX0_rewriteTags_35 (by decide) ?_
          exact ih (i + 1) z (by omega) (by omega) (by show _ = rtS (rtL σ i) i; rw [← ez, rtS, if_pos o1]) H locs hP hD hS ls (lv_sub hl [0, 2] rfl)
        · refine W.eq (g2 := F0 m 14 ls [.int (nI (nb (jgTB z) i))]) (by rw [o1]) ?_
          refine lv_istore_n (lv' := [(2, .int (nI (nb (jgTB z) i))), (1, .int (nI i)), (0, .ref (h 0))]) hx hb dX0_rewriteTags_14 rfl hl (by decide) rfl (fun ls hl => ?_)
          refine lv_iload_n hx hb dX0_rewriteTags_15 rfl (lv_at hl 0 rfl) ?_
          refine lv_iconst (v := -1) hx hb dX0_rewriteTags_16 (by decide) ?_
          refine lv_icmp_eq (tgt := 32) hx hb dX0_rewriteTags_17 (by decide) (fun c => absurd c (optI_none (by omega))) (fun _ => ?_)
          refine lv_aload_n hx hb dX0_rewriteTags_20 rfl (lv_at hl 2 rfl) ?_
          refine lv_iload_n hx hb dX0_rewriteTags_21 rfl (lv_at hl 1 rfl) ?_
          refine lv_aload_n hx hb dX0_rewriteTags_22 rfl (lv_at hl 2 rfl) ?_
          refine va_get (D := (dC, dI)) (ci := 0) (v := .ref (h 3)) (C := RX0) (T := TX0) (N := 14) hx hb htg inX0 (fs := fsBJ h z) hown hK hP 0 rfl rfl 5 (by decide) (htg _ fX0_16) (fun _ h9 => h9) rfl dX0_rewriteTags_23 ?_
          refine lv_iload_n hx hb dX0_rewriteTags_26 rfl (lv_at hl 0 rfl) ?_
          refine xr_lald (f := jgBD z) (i := nb (jgTB z) i) hx hb hK hP 3 1 rfl rfl (by omega) (by decide) dX0_rewriteTags_27 ?_
          refine bj_wi (As := [.int (nI i), .long ((jgBD z) (nb (jgTB z) i))]) (rest := []) (n := 2) ⟨hx, hb, hml, hown, htg⟩ (c_writeTell l z i ((jgBD z) (nb (jgTB z) i)) (by omega)) (cwV 2 htg gX0_93 rfl rfl rfl (by decide +kernel) ⟨Nat.le_of_ble_eq_true rfl, Nat.le_of_ble_eq_true rfl⟩) hK hP hD hS hA hl.1 rfl rfl (Nat.le_of_ble_eq_true rfl) dX0_rewriteTags_28 (Nat.zero_le _) (Nat.zero_le _) (fun H locs hP hD hS => ?_)
          obtain ⟨z1, ez1⟩ : ∃ zq : BJ, zq = wR z (rTell i ((jgBD z) (nb (jgTB z) i))) := ⟨_, rfl⟩
          rw [← ez1] at hP hD
          refine lv_pop hx hb dX0_rewriteTags_31 rfl ?_
          refine lv_iinc (v := nI (i + 1)) (lv' := [(1, .int (nI (i + 1))), (2, .int (nI (nb (jgTB z) i))), (0, .ref (h 0))]) hx hb dX0_rewriteTags_32 hl (k := 1) rfl (nI_add _ 1) (by decide) rfl (fun ls hl => ?_)
          refine lv_goto (tgt := 2) hx hb dX0_rewriteTags_35 (by decide) ?_
          exact ih (i + 1) z1 (by omega) (by omega) (by show _ = rtS (rtL σ i) i; rw [← ez, rtS, if_neg (by rw [o1]; exact optI_none (by omega))]; exact ez1) H locs hP hD hS ls (lv_sub hl [0, 2] rfl)
  exact loop (8 + 1) 0 σ (by omega) (by omega) (rfl) _ _ hP hD hS ls (lv_sub hl [0, 1] rfl)
set_option maxRecDepth 100000 in
set_option maxHeartbeats 4000000 in
theorem c_rewriteKeys (l : Launch) (σ : BJ) (hc : jgBc σ ≤ 20) (hkc : jgKc σ ≤ 16) (hok : ∀ i, i < jgKc σ → rkOk σ i) : wBv l yX0_rewriteKeys wsX0_rewriteKeys ({ frames := 3, cells := 0, slots := 0, locals := 70 } : Room) σ [] (rkL σ (jgKc σ)) := by
  intro dC dI cI cJ h sz
  refine Met.ofW (cc := cX0_rewriteKeys) (maxL := 3) (ret := none) (by decide) rfl ?_
  intro p e s m args below meth c s₁ B hml hv
  obtain ⟨rfl, hsz, hP, hK, hD0⟩ := hv
  have hx := B.exec
  have hb := B.bytes
  have hr := B.returns
  have hts := atoms_spec (ws := wsX0_rewriteKeys) B.pre
  have hown : s.vm.findClass RX0 = some m.cls := findClass_of_methodNamed B.named
  have hlocks := B.notSynchronized
  subst hsz
  have htg : ∀ w ∈ GW, w.before _ s = true := fun w h => hts w (List.mem_cons_of_mem _ h)
  have hD := hD0.self (sz := s.heap.size)
  generalize hAe : va_A (wBJ cI cJ h σ) s.heap.size = A at hD ⊢
  have hA : ∀ q : Nat, s.heap.size ≤ q → A q := fun q h => by rw [← hAe]; exact Or.inr h
  have hS : va_S A s.heap s.heap [] := va_S.rf
  have hl := lv_entry [.ref (h 0)] (n := 3) (Nat.le_of_ble_eq_true rfl)
  rw [lg_entry_eq]
  generalize (lg_sl [.ref (h 0)] ++ List.replicate (3 - (lg_sl [.ref (h 0)]).length) Slot.unset).toArray = ls at hl ⊢
  have hl : lv_has ls 3 [(0, .ref (h 0))] := hl
  have hP : va_P (dC, dI) vwCl (wBJ cI cJ h σ) s.heap := hP
  refine lv_iconst (v := nI 0) hx hb dX0_rewriteKeys_0 (by decide) ?_
  refine lv_istore_n (lv' := [(1, .int (nI 0)), (0, .ref (h 0))]) hx hb dX0_rewriteKeys_1 rfl hl (by decide) rfl (fun ls hl => ?_)
  have loop : ∀ (n i : Nat) (z : BJ), i ≤ jgKc σ → jgKc σ < i + n → z = rkL σ i → ∀ (H : Heap) (locs : List Loc), va_P (dC, dI) vwCl (wBJ cI cJ h z) H → va_D A (wBJ cI cJ h z) → va_S A s.heap H locs → ∀ (ls : Array Slot), lv_has ls 3 [(1, .int (nI i)), (0, .ref (h 0))] → W p l e (headSpec wsX0_rewriteKeys ({ frames := 3, cells := 0, slots := 0, locals := 70 } : Room)).room s m ([.ref (h 0)].toArray) below meth c H locs 0 0 (MQ below (va_Qv (fun (_ : Unit) => True) (fun _ => aBJ dC dI cI cJ h A (rkL σ (jgKc σ))) A) ([.ref (h 0)].toArray) s 0 0 A) (F0 m 2 ls []) := by
    intro n
    induction n with
    | zero => intro i z h1 h2; exact absurd h2 (by omega)
    | succ n ih =>
      intro i z hi hin ez H locs hP hD hS ls hl
      refine lv_iload_n hx hb dX0_rewriteKeys_2 rfl (lv_at hl 0 rfl) ?_
      have hk := rkL_keep σ i
      rw [← ez] at hk
      obtain ⟨hk1, hk2, hk3⟩ := hk
      refine lv_aload_n hx hb dX0_rewriteKeys_3 rfl (lv_at hl 1 rfl) ?_
      refine va_get (D := (dC, dI)) (ci := 0) (v := .int (nI (jgKc z))) (C := RX0) (T := TX0) (N := 14) hx hb htg inX0 (fs := fsBJ h z) hown hK hP 0 rfl rfl 12 (by decide) (htg _ fX0_106) (fun _ h9 => h9) rfl dX0_rewriteKeys_4 ?_
      refine xr_icmp_ge (tgt := 57) hx hb dX0_rewriteKeys_7 (by decide) (by omega) (by omega) (fun c7 => ?_) (fun c7 => ?_)
      · have hfin : z = rkL σ (jgKc σ) := by rw [ez, show i = jgKc σ by omega]
        rw [hfin] at hP hD
        exact W.vret hx hb hr (fun t ht hW => ⟨⟨(), rfl, trivial, by rw [ht]; exact hP, va_K.moved hW.alike hK, hD⟩, hS.F ht⟩) hS.2.2 dX0_rewriteKeys_57
      · have ok := hok i (by omega)
        rw [rkOk, ← ez] at ok
        refine lv_aload_n hx hb dX0_rewriteKeys_10 rfl (lv_at hl 1 rfl) ?_
        refine lv_aload_n hx hb dX0_rewriteKeys_11 rfl (lv_at hl 1 rfl) ?_
        refine va_get (D := (dC, dI)) (ci := 0) (v := .ref (h 8)) (C := RX0) (T := TX0) (N := 14) hx hb htg inX0 (fs := fsBJ h z) hown hK hP 0 rfl rfl 11 (by decide) (htg _ fX0_38) (fun _ h9 => h9) rfl dX0_rewriteKeys_12 ?_
        refine lv_iload_n hx hb dX0_rewriteKeys_15 rfl (lv_at hl 0 rfl) ?_
        refine xr_lald (f := jgKD z) (i := i) hx hb hK hP 8 1 rfl rfl (by omega) (by decide) dX0_rewriteKeys_16 ?_
        refine bj_ri (As := [.long ((jgKD z) i)]) (rest := []) (n := 1) ⟨hx, hb, hml, hown, htg⟩ (c_findBlob l z ((jgKD z) i) (by omega)) (cwV 1 htg gX0_64 rfl rfl rfl (by decide +kernel) ⟨Nat.le_of_ble_eq_true rfl, Nat.le_of_ble_eq_true rfl⟩) hK hP hD hS hA hl.1 rfl rfl (Nat.le_of_ble_eq_true rfl) dX0_rewriteKeys_17 (Nat.zero_le _) (Nat.zero_le _) (fun H locs hP hS => ?_)
        obtain ⟨o, ho⟩ : ∃ zq, zq = fnd (jgBD z) (jgKD z i) (jgBc z) := ⟨_, rfl⟩
        rw [← ho]
        cases o with
        | none =>
          refine W.eq (g2 := F0 m 20 ls [.int (-1)]) rfl ?_
          refine lv_istore_n (lv' := [(2, .int (-1)), (1, .int (nI i)), (0, .ref (h 0))]) hx hb dX0_rewriteKeys_20 rfl hl (by decide) rfl (fun ls hl => ?_)
          refine lv_iload_n hx hb dX0_rewriteKeys_21 rfl (lv_at hl 0 rfl) ?_
          refine lv_iconst (v := -1) hx hb dX0_rewriteKeys_22 (by decide) ?_
          refine lv_icmp_eq (tgt := 51) hx hb dX0_rewriteKeys_23 (by decide) (fun _ => ?_) (fun c => absurd rfl c)
          refine lv_iinc (v := nI (i + 1)) (lv' := [(1, .int (nI (i + 1))), (2, .int (-1)), (0, .ref (h 0))]) hx hb dX0_rewriteKeys_51 hl (k := 1) rfl (nI_add _ 1) (by decide) rfl (fun ls hl => ?_)
          refine lv_goto (tgt := 2) hx hb dX0_rewriteKeys_54 (by decide) ?_
          exact ih (i + 1) z (by omega) (by omega) (by show _ = rkS (rkL σ i) i; rw [← ez, rkS, ← ho] <;> first | rfl | (simp only [if_neg (show ¬ isTold z b = true by rw [c31]; decide)])) H locs hP hD hS ls (lv_sub hl [0, 2] rfl)
        | some b =>
          have hlto := (fnd_lt ho.symm).1
          refine W.eq (g2 := F0 m 20 ls [.int (nI b)]) rfl ?_
          refine lv_istore_n (lv' := [(2, .int (nI b)), (1, .int (nI i)), (0, .ref (h 0))]) hx hb dX0_rewriteKeys_20 rfl hl (by decide) rfl (fun ls hl => ?_)
          refine lv_iload_n hx hb dX0_rewriteKeys_21 rfl (lv_at hl 0 rfl) ?_
          refine lv_iconst (v := -1) hx hb dX0_rewriteKeys_22 (by decide) ?_
          refine lv_icmp_eq (tgt := 51) hx hb dX0_rewriteKeys_23 (by decide) (fun c => absurd c (optI_none (by omega))) (fun _ => ?_)
          refine lv_aload_n hx hb dX0_rewriteKeys_26 rfl (lv_at hl 2 rfl) ?_
          refine lv_iload_n hx hb dX0_rewriteKeys_27 rfl (lv_at hl 0 rfl) ?_
          refine bj_ri (As := [.int (nI b)]) (rest := []) (n := 1) ⟨hx, hb, hml, hown, htg⟩ (c_isTold l z b (by omega)) (cwV 1 htg gX0_206 rfl rfl rfl (by decide +kernel) ⟨Nat.le_of_ble_eq_true rfl, Nat.le_of_ble_eq_true rfl⟩) hK hP hD hS hA hl.1 rfl rfl (Nat.le_of_ble_eq_true rfl) dX0_rewriteKeys_28 (Nat.zero_le _) (Nat.zero_le _) (fun H locs hP hS => ?_)
          refine xr_ifeqB (tgt := 51) hx hb dX0_rewriteKeys_31 (by decide) (fun c31 => ?_) (fun c31 => ?_)
          · refine lv_iinc (v := nI (i + 1)) (lv' := [(1, .int (nI (i + 1))), (2, .int (nI b)), (0, .ref (h 0))]) hx hb dX0_rewriteKeys_51 hl (k := 1) rfl (nI_add _ 1) (by decide) rfl (fun ls hl => ?_)
            refine lv_goto (tgt := 2) hx hb dX0_rewriteKeys_54 (by decide) ?_
            exact ih (i + 1) z (by omega) (by omega) (by show _ = rkS (rkL σ i) i; rw [← ez, rkS, ← ho] <;> first | rfl | (simp only [if_neg (show ¬ isTold z b = true by rw [c31]; decide)])) H locs hP hD hS ls (lv_sub hl [0, 2] rfl)
          · refine lv_aload_n hx hb dX0_rewriteKeys_34 rfl (lv_at hl 2 rfl) ?_
            refine lv_aload_n hx hb dX0_rewriteKeys_35 rfl (lv_at hl 2 rfl) ?_
            refine va_get (D := (dC, dI)) (ci := 0) (v := .ref (h 7)) (C := RX0) (T := TX0) (N := 14) hx hb htg inX0 (fs := fsBJ h z) hown hK hP 0 rfl rfl 10 (by decide) (htg _ fX0_35) (fun _ h9 => h9) rfl dX0_rewriteKeys_36 ?_
            refine lv_iload_n hx hb dX0_rewriteKeys_39 rfl (lv_at hl 1 rfl) ?_
            refine xr_lald (f := jgKS z) (i := i) hx hb hK hP 7 1 rfl rfl (by omega) (by decide) dX0_rewriteKeys_40 ?_
            refine lv_aload_n hx hb dX0_rewriteKeys_41 rfl (lv_at hl 2 rfl) ?_
            refine va_get (D := (dC, dI)) (ci := 0) (v := .ref (h 8)) (C := RX0) (T := TX0) (N := 14) hx hb htg inX0 (fs := fsBJ h z) hown hK hP 0 rfl rfl 11 (by decide) (htg _ fX0_38) (fun _ h9 => h9) rfl dX0_rewriteKeys_42 ?_
            refine lv_iload_n hx hb dX0_rewriteKeys_45 rfl (lv_at hl 1 rfl) ?_
            refine xr_lald (f := jgKD z) (i := i) hx hb hK hP 8 1 rfl rfl (by omega) (by decide) dX0_rewriteKeys_46 ?_
            refine bj_wi (As := [.long ((jgKS z) i), .long ((jgKD z) i)]) (rest := []) (n := 2) ⟨hx, hb, hml, hown, htg⟩ (c_writeKey l z ((jgKS z) i) ((jgKD z) i) (ok b ho.symm c31)) (cwV 2 htg gX0_111 rfl rfl rfl (by decide +kernel) ⟨Nat.le_of_ble_eq_true rfl, Nat.le_of_ble_eq_true rfl⟩) hK hP hD hS hA hl.1 rfl rfl (Nat.le_of_ble_eq_true rfl) dX0_rewriteKeys_47 (Nat.zero_le _) (Nat.zero_le _) (fun H locs hP hD hS => ?_)
            obtain ⟨z1, ez1⟩ : ∃ zq : BJ, zq = wR z (rKey ((jgKS z) i) ((jgKD z) i)) := ⟨_, rfl⟩
            rw [← ez1] at hP hD
            refine lv_pop hx hb dX0_rewriteKeys_50 rfl ?_
            refine lv_iinc (v := nI (i + 1)) (lv' := [(1, .int (nI (i + 1))), (2, .int (nI b)), (0, .ref (h 0))]) hx hb dX0_rewriteKeys_51 hl (k := 1) rfl (nI_add _ 1) (by decide) rfl (fun ls hl => ?_)
            refine lv_goto (tgt := 2) hx hb dX0_rewriteKeys_54 (by decide) ?_
            exact ih (i + 1) z1 (by omega) (by omega) (by show _ = rkS (rkL σ i) i; rw [← ez, rkS, ← ho]; simp only [if_pos c31]; exact ez1) H locs hP hD hS ls (lv_sub hl [0, 2] rfl)
  exact loop (jgKc σ + 1) 0 σ (by omega) (by omega) (rfl) _ _ hP hD hS ls (lv_sub hl [0, 1] rfl)
end
section
set_option maxRecDepth 100000 in
set_option maxHeartbeats 4000000 in
theorem c_restore (l : Launch) (σ : BJ) (hw : jgWc σ ≤ 700) (hby : byt (jgW σ) 700) : wBv l yX0_restore wsX0_restore ({ frames := 3, cells := 0, slots := 0, locals := 72 } : Room) σ [] (restore σ) := by
  intro dC dI cI cJ h sz
  refine Met.ofW (cc := cX0_restore) (maxL := 4) (ret := none) (by decide) rfl ?_
  intro p e s m args below meth c s₁ B hml hv
  obtain ⟨rfl, hsz, hP, hK, hD0⟩ := hv
  have hx := B.exec
  have hb := B.bytes
  have hr := B.returns
  have hts := atoms_spec (ws := wsX0_restore) B.pre
  have hown : s.vm.findClass RX0 = some m.cls := findClass_of_methodNamed B.named
  have hlocks := B.notSynchronized
  subst hsz
  have htg : ∀ w ∈ GW, w.before _ s = true := fun w h => hts w (List.mem_cons_of_mem _ h)
  have hD := hD0.self (sz := s.heap.size)
  generalize hAe : va_A (wBJ cI cJ h σ) s.heap.size = A at hD ⊢
  have hA : ∀ q : Nat, s.heap.size ≤ q → A q := fun q h => by rw [← hAe]; exact Or.inr h
  have hS : va_S A s.heap s.heap [] := va_S.rf
  have hl := lv_entry [.ref (h 0)] (n := 4) (Nat.le_of_ble_eq_true rfl)
  rw [lg_entry_eq]
  generalize (lg_sl [.ref (h 0)] ++ List.replicate (4 - (lg_sl [.ref (h 0)]).length) Slot.unset).toArray = ls at hl ⊢
  have hl : lv_has ls 4 [(0, .ref (h 0))] := hl
  have hP : va_P (dC, dI) vwCl (wBJ cI cJ h σ) s.heap := hP
  refine lv_aload_n hx hb dX0_restore_0 rfl (lv_at hl 0 rfl) ?_
  refine va_get (D := (dC, dI)) (ci := 0) (v := .int (nI (jgWc σ))) (C := RX0) (T := TX0) (N := 14) hx hb htg inX0 (fs := fsBJ h σ) hown hK hP 0 rfl rfl 3 (by decide) (htg _ fX0_124) (fun _ h9 => h9) rfl dX0_restore_1 ?_
  refine lv_istore_n (lv' := [(1, .int (nI (jgWc σ))), (0, .ref (h 0))]) hx hb dX0_restore_4 rfl hl (by decide) rfl (fun ls hl => ?_)
  refine lv_aload_n hx hb dX0_restore_5 rfl (lv_at hl 1 rfl) ?_
  refine lv_iconst (v := nI 0) hx hb dX0_restore_6 (by decide) ?_
  refine va_put (D := (dC, dI)) (ci := 0) (v := .int (nI 0)) (ty := .int) (C := RX0) (T := TX0) (N := 14) hx hb htg inX0 tyX0 tyX0_ok nmX0 (fs := fsBJ h σ) hown hK hP hD hS 0 rfl rfl 8 (by decide) (htg _ fX0_68) (fun _ h9 => h9) rfl (by decide +kernel) rfl rfl (Nat.le_of_ble_eq_true rfl) dX0_restore_7 (fun H locs hP hD hS => ?_)
  rw [wBJ_Bc] at hP hD
  refine lv_aload_n hx hb dX0_restore_10 rfl (lv_at hl 1 rfl) ?_
  refine lv_iconst (v := nI 0) hx hb dX0_restore_11 (by decide) ?_
  refine va_put (D := (dC, dI)) (ci := 0) (v := .int (nI 0)) (ty := .int) (C := RX0) (T := TX0) (N := 14) hx hb htg inX0 tyX0 tyX0_ok nmX0 (fs := fsBJ h (juBc σ 0)) hown hK hP hD hS 0 rfl rfl 12 (by decide) (htg _ fX0_106) (fun _ h9 => h9) rfl (by decide +kernel) rfl rfl (Nat.le_of_ble_eq_true rfl) dX0_restore_12 (fun H locs hP hD hS => ?_)
  rw [wBJ_Kc] at hP hD
  refine lv_aload_n hx hb dX0_restore_15 rfl (lv_at hl 1 rfl) ?_
  refine va_get (D := (dC, dI)) (ci := 0) (v := .ref (h 6)) (C := RX0) (T := TX0) (N := 14) hx hb htg inX0 (fs := fsBJ h (juKc (juBc σ 0) 0)) hown hK hP 0 rfl rfl 9 (by decide) (htg _ fX0_26) (fun _ h9 => h9) rfl dX0_restore_16 ?_
  refine lv_iconst (v := -1) hx hb dX0_restore_19 (by decide) ?_
  refine xr_fillI (f := jgTB σ) (v := -1) (rest := []) ⟨hx, hb, hml, hown, htg⟩ gX0_29 (Nat.le_of_ble_eq_true rfl) (Nat.le_of_ble_eq_true rfl) hK hP hD hS hA 6 0 rfl rfl (by decide) hl.1 (Nat.le_of_ble_eq_true rfl) dX0_restore_20 (Nat.zero_le _) (Nat.zero_le _) (fun H locs hP hD hS => ?_)
  rw [wBJ_TB] at hP hD
  refine lv_iconst (v := nI 0) hx hb dX0_restore_23 (by decide) ?_
  refine lv_istore_n (lv' := [(2, .int (nI 0)), (1, .int (nI (jgWc σ))), (0, .ref (h 0))]) hx hb dX0_restore_24 rfl hl (by decide) rfl (fun ls hl => ?_)
  refine lv_iconst (v := nI 0) hx hb dX0_restore_25 (by decide) ?_
  refine lv_istore_n (lv' := [(3, .int (nI 0)), (2, .int (nI 0)), (1, .int (nI (jgWc σ))), (0, .ref (h 0))]) hx hb dX0_restore_26 rfl hl (by decide) rfl (fun ls hl => ?_)
  have loop : ∀ (n i : Nat) (a : Nat) (z : BJ), i ≤ 175 → 175 < i + n → a ≤ 700 → jgW z = jgW σ → jgBc z ≤ 20 → jgKc z ≤ 16 → rsL (jgWc σ) (175 - i) a z = rsL (jgWc σ) 175 0 (rs0 σ) → ∀ (H : Heap) (locs : List Loc), va_P (dC, dI) vwCl (wBJ cI cJ h z) H → va_D A (wBJ cI cJ h z) → va_S A s.heap H locs → ∀ (ls : Array Slot), lv_has ls 4 [(3, .int (nI i)), (2, .int (nI a)), (1, .int (nI (jgWc σ))), (0, .ref (h 0))] → W p l e (headSpec wsX0_restore ({ frames := 3, cells := 0, slots := 0, locals := 72 } : Room)).room s m ([.ref (h 0)].toArray) below meth c H locs 0 0 (MQ below (va_Qv (fun (_ : Unit) => True) (fun _ => aBJ dC dI cI cJ h A (restore σ)) A) ([.ref (h 0)].toArray) s 0 0 A) (F0 m 27 ls []) := by
    intro n
    induction n with
    | zero => intro i a z h1 h2; exact absurd h2 (by omega)
    | succ n ih =>
      intro i a z hi hin ha hz hbz hkz hrs H locs hP hD hS ls hl
      refine lv_iload_n hx hb dX0_restore_27 rfl (lv_at hl 0 rfl) ?_
      refine lv_sipush (v := nI 175) hx hb dX0_restore_28 (by decide) ?_
      refine xr_icmp_ge (tgt := 67) hx hb dX0_restore_31 (by decide) (by omega) (by omega) (fun c31 => ?_) (fun c31 => ?_)
      · refine lv_aload_n hx hb dX0_restore_67 rfl (lv_at hl 3 rfl) ?_
        refine lv_iload_n hx hb dX0_restore_68 rfl (lv_at hl 1 rfl) ?_
        refine va_put (D := (dC, dI)) (ci := 0) (v := .int (nI a)) (ty := .int) (C := RX0) (T := TX0) (N := 14) hx hb htg inX0 tyX0 tyX0_ok nmX0 (fs := fsBJ h z) hown hK hP hD hS 0 rfl rfl 3 (by decide) (htg _ fX0_124) (fun _ h9 => h9) rfl (by decide +kernel) rfl rfl (Nat.le_of_ble_eq_true rfl) dX0_restore_69 (fun H locs hP hD hS => ?_)
        rw [wBJ_Wc] at hP hD
        refine lv_aload_n hx hb dX0_restore_72 rfl (lv_at hl 3 rfl) ?_
        refine lv_iload_n hx hb dX0_restore_73 rfl (lv_at hl 1 rfl) ?_
        refine va_put (D := (dC, dI)) (ci := 0) (v := .int (nI a)) (ty := .int) (C := RX0) (T := TX0) (N := 14) hx hb htg inX0 tyX0 tyX0_ok nmX0 (fs := fsBJ h (juWc z a)) hown hK hP hD hS 0 rfl rfl 4 (by decide) (htg _ fX0_127) (fun _ h9 => h9) rfl (by decide +kernel) rfl rfl (Nat.le_of_ble_eq_true rfl) dX0_restore_74 (fun H locs hP hD hS => ?_)
        rw [wBJ_Sc] at hP hD
        have hfin : juSc (juWc z a) a = restore σ := by first | (rw [restore, ← hrs, rsL_no c40]) | (rw [restore, ← hrs, show 175 - i = 0 by omega]; rfl)
        rw [hfin] at hP hD
        exact W.vret hx hb hr (fun t ht hW => ⟨⟨(), rfl, trivial, by rw [ht]; exact hP, va_K.moved hW.alike hK, hD⟩, hS.F ht⟩) hS.2.2 dX0_restore_77
      · have hbyz : byt (jgW z) 700 := by rw [hz]; exact hby
        refine lv_aload_n hx hb dX0_restore_34 rfl (lv_at hl 3 rfl) ?_
        refine lv_iload_n hx hb dX0_restore_35 rfl (lv_at hl 1 rfl) ?_
        refine lv_iload_n hx hb dX0_restore_36 rfl (lv_at hl 2 rfl) ?_
        refine bj_ri (As := [.int (nI a), .int (nI (jgWc σ))]) (rest := []) (n := 2) ⟨hx, hb, hml, hown, htg⟩ (c_isWhole l z a (jgWc σ) (by omega) (hw) (hbyz)) (cwV 2 htg gX0_181 rfl rfl rfl (by decide +kernel) ⟨Nat.le_of_ble_eq_true rfl, Nat.le_of_ble_eq_true rfl⟩) hK hP hD hS hA hl.1 rfl rfl (Nat.le_of_ble_eq_true rfl) dX0_restore_37 (Nat.zero_le _) (Nat.zero_le _) (fun H locs hP hS => ?_)
        refine xr_ifeqB (tgt := 67) hx hb dX0_restore_40 (by decide) (fun c40 => ?_) (fun c40 => ?_)
        · refine lv_aload_n hx hb dX0_restore_67 rfl (lv_at hl 3 rfl) ?_
          refine lv_iload_n hx hb dX0_restore_68 rfl (lv_at hl 1 rfl) ?_
          refine va_put (D := (dC, dI)) (ci := 0) (v := .int (nI a)) (ty := .int) (C := RX0) (T := TX0) (N := 14) hx hb htg inX0 tyX0 tyX0_ok nmX0 (fs := fsBJ h z) hown hK hP hD hS 0 rfl rfl 3 (by decide) (htg _ fX0_124) (fun _ h9 => h9) rfl (by decide +kernel) rfl rfl (Nat.le_of_ble_eq_true rfl) dX0_restore_69 (fun H locs hP hD hS => ?_)
          rw [wBJ_Wc] at hP hD
          refine lv_aload_n hx hb dX0_restore_72 rfl (lv_at hl 3 rfl) ?_
          refine lv_iload_n hx hb dX0_restore_73 rfl (lv_at hl 1 rfl) ?_
          refine va_put (D := (dC, dI)) (ci := 0) (v := .int (nI a)) (ty := .int) (C := RX0) (T := TX0) (N := 14) hx hb htg inX0 tyX0 tyX0_ok nmX0 (fs := fsBJ h (juWc z a)) hown hK hP hD hS 0 rfl rfl 4 (by decide) (htg _ fX0_127) (fun _ h9 => h9) rfl (by decide +kernel) rfl rfl (Nat.le_of_ble_eq_true rfl) dX0_restore_74 (fun H locs hP hD hS => ?_)
          rw [wBJ_Sc] at hP hD
          have hfin : juSc (juWc z a) a = restore σ := by first | (rw [restore, ← hrs, rsL_no c40]) | (rw [restore, ← hrs, show 175 - i = 0 by omega]; rfl)
          rw [hfin] at hP hD
          exact W.vret hx hb hr (fun t ht hW => ⟨⟨(), rfl, trivial, by rw [ht]; exact hP, va_K.moved hW.alike hK, hD⟩, hS.F ht⟩) hS.2.2 dX0_restore_77
        · obtain ⟨g1, g2, g3⟩ := isWh_iff.mp c40
          refine lv_aload_n hx hb dX0_restore_43 rfl (lv_at hl 3 rfl) ?_
          refine lv_iload_n hx hb dX0_restore_44 rfl (lv_at hl 1 rfl) ?_
          refine bj_wi (As := [.int (nI a)]) (rest := []) (n := 1) ⟨hx, hb, hml, hown, htg⟩ (c_follow l z a (by omega) (by omega) (hbyz) (hbz) (hkz)) (cwV 1 htg gX0_81 rfl rfl rfl (by decide +kernel) ⟨Nat.le_of_ble_eq_true rfl, Nat.le_of_ble_eq_true rfl⟩) hK hP hD hS hA hl.1 rfl rfl (Nat.le_of_ble_eq_true rfl) dX0_restore_45 (Nat.zero_le _) (Nat.zero_le _) (fun H locs hP hD hS => ?_)
          obtain ⟨z1, ez1⟩ : ∃ zq : BJ, zq = ofO (follow z a) z := ⟨_, rfl⟩
          rw [← ez1] at hP hD
          refine xr_ifeqB (tgt := 67) hx hb dX0_restore_48 (by decide) (fun c48 => ?_) (fun c48 => ?_)
          · refine lv_aload_n hx hb dX0_restore_67 rfl (lv_at hl 3 rfl) ?_
            refine lv_iload_n hx hb dX0_restore_68 rfl (lv_at hl 1 rfl) ?_
            refine va_put (D := (dC, dI)) (ci := 0) (v := .int (nI a)) (ty := .int) (C := RX0) (T := TX0) (N := 14) hx hb htg inX0 tyX0 tyX0_ok nmX0 (fs := fsBJ h z1) hown hK hP hD hS 0 rfl rfl 3 (by decide) (htg _ fX0_124) (fun _ h9 => h9) rfl (by decide +kernel) rfl rfl (Nat.le_of_ble_eq_true rfl) dX0_restore_69 (fun H locs hP hD hS => ?_)
            rw [wBJ_Wc] at hP hD
            refine lv_aload_n hx hb dX0_restore_72 rfl (lv_at hl 3 rfl) ?_
            refine lv_iload_n hx hb dX0_restore_73 rfl (lv_at hl 1 rfl) ?_
            refine va_put (D := (dC, dI)) (ci := 0) (v := .int (nI a)) (ty := .int) (C := RX0) (T := TX0) (N := 14) hx hb htg inX0 tyX0 tyX0_ok nmX0 (fs := fsBJ h (juWc z1 a)) hown hK hP hD hS 0 rfl rfl 4 (by decide) (htg _ fX0_127) (fun _ h9 => h9) rfl (by decide +kernel) rfl rfl (Nat.le_of_ble_eq_true rfl) dX0_restore_74 (fun H locs hP hD hS => ?_)
            rw [wBJ_Sc] at hP hD
            have hfin : juSc (juWc z1 a) a = restore σ := by
                       have hn : follow z a = none := by simpa using c48
                       have e9 : z1 = z := by rw [ez1, hn]; rfl
                       rw [restore, ← hrs, rsL_stop hn, e9]
            rw [hfin] at hP hD
            exact W.vret hx hb hr (fun t ht hW => ⟨⟨(), rfl, trivial, by rw [ht]; exact hP, va_K.moved hW.alike hK, hD⟩, hS.F ht⟩) hS.2.2 dX0_restore_77
          · obtain ⟨τ, hτ⟩ := Option.isSome_iff_exists.mp c48
            obtain rfl : z1 = τ := by rw [ez1, hτ]; rfl
            obtain ⟨k1, k2, k3, k4⟩ := follow_keep hτ
            refine lv_iload_n hx hb dX0_restore_51 rfl (lv_at hl 1 rfl) ?_
            refine lv_iconst (v := nI 4) hx hb dX0_restore_52 (by decide) ?_
            refine lv_aload_n hx hb dX0_restore_53 rfl (lv_at hl 3 rfl) ?_
            refine lv_iload_n hx hb dX0_restore_54 rfl (lv_at hl 1 rfl) ?_
            refine bj_ri (As := [.int (nI a)]) (rest := [.int (nI 4), .int (nI a)]) (n := 1) ⟨hx, hb, hml, hown, htg⟩ (c_lengthAt l z1 a (by omega) (by rw [k1]; exact hbyz)) (cwV 1 htg gX0_185 rfl rfl rfl (by decide +kernel) ⟨Nat.le_of_ble_eq_true rfl, Nat.le_of_ble_eq_true rfl⟩) hK hP hD hS hA hl.1 rfl rfl (Nat.le_of_ble_eq_true rfl) dX0_restore_55 (Nat.zero_le _) (Nat.zero_le _) (fun H locs hP hS => ?_)
            refine xr_iadd hx hb dX0_restore_58 ?_
            refine xr_iadd hx hb dX0_restore_59 ?_
            refine lv_istore_n (lv' := [(2, .int (nI (a + (4 + (lenAt (jgW z1) a))))), (3, .int (nI i)), (1, .int (nI (jgWc σ))), (0, .ref (h 0))]) hx hb dX0_restore_60 rfl hl (by decide) rfl (fun ls hl => ?_)
            refine lv_iinc (v := nI (i + 1)) (lv' := [(3, .int (nI (i + 1))), (2, .int (nI (a + (4 + (lenAt (jgW z1) a))))), (1, .int (nI (jgWc σ))), (0, .ref (h 0))]) hx hb dX0_restore_61 hl (k := 1) rfl (nI_add _ 1) (by decide) rfl (fun ls hl => ?_)
            refine lv_goto (tgt := 27) hx hb dX0_restore_64 (by decide) ?_
            exact ih (i + 1) (a + (4 + lenAt (jgW z1) a)) z1 (by omega) (by omega) (by rw [k1]; omega) (k1.trans hz) (k3 hbz) (k4 hkz) (by rw [← hrs, show 175 - i = (175 - (i + 1)) + 1 by omega, rsL_go c40 hτ, k1]) H locs hP hD hS ls (lv_sub hl [0, 1, 2, 3] rfl)
  exact loop (175 + 1) 0 0 (rs0 σ) (by omega) (by omega) (by omega) (rfl) (Nat.zero_le _) (Nat.zero_le _) (rfl) _ _ hP hD hS ls (lv_sub hl [0, 1, 2, 3] rfl)
end
section
set_option maxRecDepth 100000 in
set_option maxHeartbeats 4000000 in
theorem c_demandRoom (l : Launch) (σ : BJ) (n : Nat) (hn : jgWc σ + 4 + n ≤ 700) : rBv l yX0_demandRoom wsX0_demandRoom ({ frames := 0, cells := 0, slots := 0, locals := 0 } : Room) σ [.int (nI n)] := by
  intro dC dI cI cJ h sz
  refine Met.ofW (cc := cX0_demandRoom) (maxL := 2) (ret := none) (by decide) rfl ?_
  intro p e s m args below meth c s₁ B hml hv
  obtain ⟨rfl, hsz, hP, hK, hD0⟩ := hv
  have hx := B.exec
  have hb := B.bytes
  have hr := B.returns
  have hts := atoms_spec (ws := wsX0_demandRoom) B.pre
  have hown : s.vm.findClass RX0 = some m.cls := findClass_of_methodNamed B.named
  have hlocks := B.notSynchronized
  subst hsz
  have htg : ∀ w ∈ GW, w.before _ s = true := fun w h => hts w (List.mem_cons_of_mem _ h)
  have hD := hD0
  have hA : ∀ q : Nat, s.heap.size ≤ q → (fun q => s.heap.size ≤ q) q := fun _ h => h
  have hS : va_S (fun q => s.heap.size ≤ q) s.heap s.heap [] := va_S.rf
  have hl := lv_entry [.ref (h 0), .int (nI n)] (n := 2) (Nat.le_of_ble_eq_true rfl)
  rw [lg_entry_eq]
  generalize (lg_sl [.ref (h 0), .int (nI n)] ++ List.replicate (2 - (lg_sl [.ref (h 0), .int (nI n)]).length) Slot.unset).toArray = ls at hl ⊢
  have hl : lv_has ls 2 [(0, .ref (h 0)), (1, .int (nI n))] := hl
  have hP : va_P (dC, dI) vwCl (wBJ cI cJ h σ) s.heap := hP
  refine lv_aload_n hx hb dX0_demandRoom_0 rfl (lv_at hl 0 rfl) ?_
  refine va_get (D := (dC, dI)) (ci := 0) (v := .int (nI (jgWc σ))) (C := RX0) (T := TX0) (N := 14) hx hb htg inX0 (fs := fsBJ h σ) hown hK hP 0 rfl rfl 3 (by decide) (htg _ fX0_124) (fun _ h9 => h9) rfl dX0_demandRoom_1 ?_
  refine lv_iconst (v := nI 4) hx hb dX0_demandRoom_4 (by decide) ?_
  refine xr_iadd hx hb dX0_demandRoom_5 ?_
  refine lv_iload_n hx hb dX0_demandRoom_6 rfl (lv_at hl 1 rfl) ?_
  refine xr_iadd hx hb dX0_demandRoom_7 ?_
  refine lv_sipush (v := nI 700) hx hb dX0_demandRoom_8 (by decide) ?_
  refine xr_icmp_le (tgt := 24) hx hb dX0_demandRoom_11 (by decide) (by omega) (by omega) (fun c11 => ?_) (fun c11 => absurd c11 (by omega))
  exact W.vret hx hb hr (fun t ht hW => ⟨⟨(), rfl, trivial, trivial⟩, hS.F ht⟩) hS.2.2 dX0_demandRoom_24
set_option maxRecDepth 100000 in
set_option maxHeartbeats 4000000 in
theorem c_demandTag (l : Launch) (t : Int32) (ht : isTg t = true) (dC : Nat → ClassId) (dI : Nat → Nat → Nat) (cI : ClassId) (a sz : Nat) : Met l yX0_demandTag wsX0_demandTag ({ frames := 1, cells := 0, slots := 0, locals := 20 } : Room) (va_Pc [.int t] (fun U => U.heap.size = sz)) (va_Qv (fun (_ : Unit) => True) (fun _ _ => True) (fun q => sz ≤ q)) 0 0 (fun q => sz ≤ q) := by
  refine Met.ofW (cc := cX0_demandTag) (maxL := 1) (ret := none) (by decide) rfl ?_
  intro p e s m args below meth c s₁ B hml hv
  obtain ⟨rfl, hsz⟩ := hv
  have hx := B.exec
  have hb := B.bytes
  have hr := B.returns
  have hts := atoms_spec (ws := wsX0_demandTag) B.pre
  have htg : ∀ w ∈ GW, w.before _ s = true := fun w h => hts w (List.mem_cons_of_mem _ h)
  have hown : s.vm.findClass RX0 = some m.cls := findClass_of_methodNamed B.named
  have hlocks := B.notSynchronized
  subst hsz
  have hA : ∀ q : Nat, s.heap.size ≤ q → (fun q => s.heap.size ≤ q) q := fun _ h => h
  have hS : va_S (fun q => s.heap.size ≤ q) s.heap s.heap [] := va_S.rf
  have hl := lv_entry [.int t] (n := 1) (Nat.le_of_ble_eq_true rfl)
  rw [lg_entry_eq]
  generalize (lg_sl [.int t] ++ List.replicate (1 - (lg_sl [.int t]).length) Slot.unset).toArray = ls at hl ⊢
  have hl : lv_has ls 1 [(0, .int t)] := hl
  have hP : va_P (dC, dI) vwCl [] s.heap := fun k q h => by simp at h
  refine lv_iload_n hx hb dX0_demandTag_0 rfl (lv_at hl 0 rfl) ?_
  refine xr_roi (va_runS (As := [.int t]) (rest := []) ⟨hx, hb, hml, hown, htg⟩ (c_isTag l t dC dI cI 0 _) (va_cwS 1 htg gX0_157 rfl rfl rfl (by decide +kernel) ⟨Nat.le_of_ble_eq_true rfl, Nat.le_of_ble_eq_true rfl⟩) ⟨fun a U g mk q => q, fun U hU hW => ⟨rfl, by show U.heap.size = _; rw [hU]⟩⟩ rfl rfl hl.1 rfl (lv_room (Nat.le_of_ble_eq_true rfl)) dX0_demandTag_1 ⟨Nat.zero_le _, Nat.zero_le _⟩) hP hS hA (fun H locs hP hS _ => ?_)
  rw [ht]
  refine xr_ifneB (tgt := 17) hx hb dX0_demandTag_4 (by decide) (fun _ => ?_) (fun c => absurd c (by decide))
  exact W.vret hx hb hr (fun t ht hW => ⟨⟨(), rfl, trivial, trivial⟩, hS.F ht⟩) hS.2.2 dX0_demandTag_17
set_option maxRecDepth 100000 in
set_option maxHeartbeats 4000000 in
theorem c_keepO (l : Launch) (σ : BJ) (i : Nat) (ht : jgTc σ ≤ 64) (hc : jgBc σ ≤ 20) (hf : fnd (jgBD σ) (dg (jgT σ) 0 (jgTc σ)) (jgBc σ) = some i) : rBl l yX0_keep wsX0_keep ({ frames := 3, cells := 0, slots := 0, locals := 72 } : Room) σ [] (dg (jgT σ) 0 (jgTc σ)) := by
  intro dC dI cI cJ h sz
  refine Met.ofW (cc := cX0_keep) (maxL := 3) (ret := (some .long)) (by decide) rfl ?_
  intro p e s m args below meth c s₁ B hml hv
  obtain ⟨rfl, hsz, hP, hK, hD0⟩ := hv
  have hx := B.exec
  have hb := B.bytes
  have hr := B.returns
  have hts := atoms_spec (ws := wsX0_keep) B.pre
  have hown : s.vm.findClass RX0 = some m.cls := findClass_of_methodNamed B.named
  have hlocks := B.notSynchronized
  subst hsz
  have htg : ∀ w ∈ GW, w.before _ s = true := fun w h => hts w (List.mem_cons_of_mem _ h)
  have hD := hD0
  have hA : ∀ q : Nat, s.heap.size ≤ q → (fun q => s.heap.size ≤ q) q := fun _ h => h
  have hS : va_S (fun q => s.heap.size ≤ q) s.heap s.heap [] := va_S.rf
  have hl := lv_entry [.ref (h 0)] (n := 3) (Nat.le_of_ble_eq_true rfl)
  rw [lg_entry_eq]
  generalize (lg_sl [.ref (h 0)] ++ List.replicate (3 - (lg_sl [.ref (h 0)]).length) Slot.unset).toArray = ls at hl ⊢
  have hl : lv_has ls 3 [(0, .ref (h 0))] := hl
  have hP : va_P (dC, dI) vwCl (wBJ cI cJ h σ) s.heap := hP
  refine lv_aload_n hx hb dX0_keep_0 rfl (lv_at hl 0 rfl) ?_
  refine va_get (D := (dC, dI)) (ci := 0) (v := .ref (h 1)) (C := RX0) (T := TX0) (N := 14) hx hb htg inX0 (fs := fsBJ h σ) hown hK hP 0 rfl rfl 0 (by decide) (htg _ fX0_9) (fun _ h9 => h9) rfl dX0_keep_1 ?_
  refine lv_iconst (v := nI 0) hx hb dX0_keep_4 (by decide) ?_
  refine lv_aload_n hx hb dX0_keep_5 rfl (lv_at hl 0 rfl) ?_
  refine va_get (D := (dC, dI)) (ci := 0) (v := .int (nI (jgTc σ))) (C := RX0) (T := TX0) (N := 14) hx hb htg inX0 (fs := fsBJ h σ) hown hK hP 0 rfl rfl 1 (by decide) (htg _ fX0_44) (fun _ h9 => h9) rfl dX0_keep_6 ?_
  refine xr_rol (va_runS (As := [.ref (h 1), .int (nI 0), .int (nI (jgTc σ))]) (rest := []) ⟨hx, hb, hml, hown, htg⟩ (c_digestOf l (jgT σ) 64 0 (jgTc σ) (by omega) (by decide) dC dI cI (h 1) _) (va_cwS 3 htg gX0_60 rfl rfl rfl (by decide +kernel) ⟨Nat.le_of_ble_eq_true rfl, Nat.le_of_ble_eq_true rfl⟩) ⟨fun a U g mk q => ⟨q.1, q.2.1, q.2.2.1, va_K.moved (u := U) (U := U.calling g mk a) (Vm.Alike.refl U.vm) q.2.2.2⟩, fun U hU hW => ⟨rfl, by rw [hU], by rw [hU]; exact hP.sub [1] rfl, va_K.moved hW.alike (hK.sub [0] rfl)⟩⟩ rfl rfl hl.1 rfl (lv_room (Nat.le_of_ble_eq_true rfl)) dX0_keep_9 ⟨Nat.zero_le _, Nat.zero_le _⟩) hP hS hA (fun H locs hP hS _ => ?_)
  refine lv_lstore_n (lv' := [(1, .long (dg (jgT σ) 0 (jgTc σ))), (0, .ref (h 0))]) hx hb dX0_keep_12 rfl hl (by decide) rfl (fun ls hl => ?_)
  refine lv_aload_n hx hb dX0_keep_13 rfl (lv_at hl 1 rfl) ?_
  refine lv_lload_n hx hb dX0_keep_14 rfl (lv_at hl 0 rfl) ?_
  refine bj_ri (As := [.long (dg (jgT σ) 0 (jgTc σ))]) (rest := []) (n := 1) ⟨hx, hb, hml, hown, htg⟩ (c_findBlob l σ (dg (jgT σ) 0 (jgTc σ)) (by omega)) (cwV 1 htg gX0_64 rfl rfl rfl (by decide +kernel) ⟨Nat.le_of_ble_eq_true rfl, Nat.le_of_ble_eq_true rfl⟩) hK hP hD hS hA hl.1 rfl rfl (Nat.le_of_ble_eq_true rfl) dX0_keep_15 (Nat.zero_le _) (Nat.zero_le _) (fun H locs hP hS => ?_)
  have hlt := (fnd_lt hf).1
  rw [hf]
  refine W.eq (g2 := F0 m 18 ls [.int (nI i)]) rfl ?_
  refine lv_iconst (v := -1) hx hb dX0_keep_18 (by decide) ?_
  refine lv_icmp_ne (tgt := 58) hx hb dX0_keep_19 (by decide) (fun _ => ?_) (fun c => absurd c (optI_none (by omega)))
  refine lv_lload_n hx hb dX0_keep_58 rfl (lv_at hl 0 rfl) ?_
  exact W.lret (v := dg (jgT σ) 0 (jgTc σ)) hx hb hr (fun t ht hW => ⟨⟨_, (), rfl, rfl, trivial⟩, hS.F ht⟩) hS.2.2 dX0_keep_59
set_option maxRecDepth 100000 in
set_option maxHeartbeats 4000000 in
theorem c_keepN (l : Launch) (σ : BJ) (ht : jgTc σ ≤ 64) (hb : jgBc σ < 20) (hf : fnd (jgBD σ) (dg (jgT σ) 0 (jgTc σ)) (jgBc σ) = none) (hw : jgWc σ + 4 + jgTc σ ≤ 700) (hr1 : jgWc σ + 2 < 700) (hr2 : jgWc σ + 3 + lenAt (jgW (wR σ (rTyped σ))) (jgWc σ) < 700) (hr3 : byt (jgW (wR σ (rTyped σ))) 700) (hr4 : jgBc (wR σ (rTyped σ)) ≤ 20) (hr5 : jgKc (wR σ (rTyped σ)) ≤ 16) : wBl l yX0_keep wsX0_keep ({ frames := 3, cells := 0, slots := 0, locals := 72 } : Room) σ [] (dg (jgT σ) 0 (jgTc σ)) (ofO (follow (wR σ (rTyped σ)) (jgWc σ)) (wR σ (rTyped σ))) := by
  intro dC dI cI cJ h sz
  refine Met.ofW (cc := cX0_keep) (maxL := 3) (ret := (some .long)) (by decide) rfl ?_
  intro p e s m args below meth c s₁ B hml hv
  obtain ⟨rfl, hsz, hP, hK, hD0⟩ := hv
  have hx := B.exec
  have hb := B.bytes
  have hr := B.returns
  have hts := atoms_spec (ws := wsX0_keep) B.pre
  have hown : s.vm.findClass RX0 = some m.cls := findClass_of_methodNamed B.named
  have hlocks := B.notSynchronized
  subst hsz
  have htg : ∀ w ∈ GW, w.before _ s = true := fun w h => hts w (List.mem_cons_of_mem _ h)
  have hD := hD0.self (sz := s.heap.size)
  generalize hAe : va_A (wBJ cI cJ h σ) s.heap.size = A at hD ⊢
  have hA : ∀ q : Nat, s.heap.size ≤ q → A q := fun q h => by rw [← hAe]; exact Or.inr h
  have hS : va_S A s.heap s.heap [] := va_S.rf
  have hl := lv_entry [.ref (h 0)] (n := 3) (Nat.le_of_ble_eq_true rfl)
  rw [lg_entry_eq]
  generalize (lg_sl [.ref (h 0)] ++ List.replicate (3 - (lg_sl [.ref (h 0)]).length) Slot.unset).toArray = ls at hl ⊢
  have hl : lv_has ls 3 [(0, .ref (h 0))] := hl
  have hP : va_P (dC, dI) vwCl (wBJ cI cJ h σ) s.heap := hP
  refine lv_aload_n hx hb dX0_keep_0 rfl (lv_at hl 0 rfl) ?_
  refine va_get (D := (dC, dI)) (ci := 0) (v := .ref (h 1)) (C := RX0) (T := TX0) (N := 14) hx hb htg inX0 (fs := fsBJ h σ) hown hK hP 0 rfl rfl 0 (by decide) (htg _ fX0_9) (fun _ h9 => h9) rfl dX0_keep_1 ?_
  refine lv_iconst (v := nI 0) hx hb dX0_keep_4 (by decide) ?_
  refine lv_aload_n hx hb dX0_keep_5 rfl (lv_at hl 0 rfl) ?_
  refine va_get (D := (dC, dI)) (ci := 0) (v := .int (nI (jgTc σ))) (C := RX0) (T := TX0) (N := 14) hx hb htg inX0 (fs := fsBJ h σ) hown hK hP 0 rfl rfl 1 (by decide) (htg _ fX0_44) (fun _ h9 => h9) rfl dX0_keep_6 ?_
  refine xr_rol (va_runS (As := [.ref (h 1), .int (nI 0), .int (nI (jgTc σ))]) (rest := []) ⟨hx, hb, hml, hown, htg⟩ (c_digestOf l (jgT σ) 64 0 (jgTc σ) (by omega) (by decide) dC dI cI (h 1) _) (va_cwS 3 htg gX0_60 rfl rfl rfl (by decide +kernel) ⟨Nat.le_of_ble_eq_true rfl, Nat.le_of_ble_eq_true rfl⟩) ⟨fun a U g mk q => ⟨q.1, q.2.1, q.2.2.1, va_K.moved (u := U) (U := U.calling g mk a) (Vm.Alike.refl U.vm) q.2.2.2⟩, fun U hU hW => ⟨rfl, by rw [hU], by rw [hU]; exact hP.sub [1] rfl, va_K.moved hW.alike (hK.sub [0] rfl)⟩⟩ rfl rfl hl.1 rfl (lv_room (Nat.le_of_ble_eq_true rfl)) dX0_keep_9 ⟨Nat.zero_le _, Nat.zero_le _⟩) hP hS hA (fun H locs hP hS _ => ?_)
  refine lv_lstore_n (lv' := [(1, .long (dg (jgT σ) 0 (jgTc σ))), (0, .ref (h 0))]) hx hb dX0_keep_12 rfl hl (by decide) rfl (fun ls hl => ?_)
  refine lv_aload_n hx hb dX0_keep_13 rfl (lv_at hl 1 rfl) ?_
  refine lv_lload_n hx hb dX0_keep_14 rfl (lv_at hl 0 rfl) ?_
  refine bj_ri (As := [.long (dg (jgT σ) 0 (jgTc σ))]) (rest := []) (n := 1) ⟨hx, hb, hml, hown, htg⟩ (c_findBlob l σ (dg (jgT σ) 0 (jgTc σ)) (by omega)) (cwV 1 htg gX0_64 rfl rfl rfl (by decide +kernel) ⟨Nat.le_of_ble_eq_true rfl, Nat.le_of_ble_eq_true rfl⟩) hK hP hD hS hA hl.1 rfl rfl (Nat.le_of_ble_eq_true rfl) dX0_keep_15 (Nat.zero_le _) (Nat.zero_le _) (fun H locs hP hS => ?_)
  rw [hf]
  refine W.eq (g2 := F0 m 18 ls [.int (-1)]) rfl ?_
  refine lv_iconst (v := -1) hx hb dX0_keep_18 (by decide) ?_
  refine lv_icmp_ne (tgt := 58) hx hb dX0_keep_19 (by decide) (fun c => absurd rfl c) (fun _ => ?_)
  refine lv_aload_n hx hb dX0_keep_22 rfl (lv_at hl 1 rfl) ?_
  refine va_get (D := (dC, dI)) (ci := 0) (v := .int (nI (jgBc σ))) (C := RX0) (T := TX0) (N := 14) hx hb htg inX0 (fs := fsBJ h σ) hown hK hP 0 rfl rfl 8 (by decide) (htg _ fX0_68) (fun _ h9 => h9) rfl dX0_keep_23 ?_
  refine lv_bipush (v := nI 20) hx hb dX0_keep_26 (by decide) ?_
  refine xr_icmp_lt (tgt := 41) hx hb dX0_keep_28 (by decide) (by omega) (by omega) (fun c28 => ?_) (fun c28 => absurd c28 (by omega))
  refine lv_aload_n hx hb dX0_keep_41 rfl (lv_at hl 1 rfl) ?_
  refine lv_aload_n hx hb dX0_keep_42 rfl (lv_at hl 1 rfl) ?_
  refine va_get (D := (dC, dI)) (ci := 0) (v := .int (nI (jgTc σ))) (C := RX0) (T := TX0) (N := 14) hx hb htg inX0 (fs := fsBJ h σ) hown hK hP 0 rfl rfl 1 (by decide) (htg _ fX0_44) (fun _ h9 => h9) rfl dX0_keep_43 ?_
  refine bj_rv (As := [.int (nI (jgTc σ))]) (rest := []) (n := 1) ⟨hx, hb, hml, hown, htg⟩ (c_demandRoom l σ (jgTc σ) (by omega)) (cwV 1 htg gX0_73 rfl rfl rfl (by decide +kernel) ⟨Nat.le_of_ble_eq_true rfl, Nat.le_of_ble_eq_true rfl⟩) hK hP hD hS hA hl.1 rfl rfl (Nat.le_of_ble_eq_true rfl) dX0_keep_46 (Nat.zero_le _) (Nat.zero_le _) (fun H locs hP hS => ?_)
  refine lv_aload_n hx hb dX0_keep_49 rfl (lv_at hl 1 rfl) ?_
  refine lv_aload_n hx hb dX0_keep_50 rfl (lv_at hl 1 rfl) ?_
  refine bj_wi (As := []) (rest := [.ref (h 0)]) (n := 0) ⟨hx, hb, hml, hown, htg⟩ (c_writeTyped l σ  (by omega) (by omega)) (cwV 0 htg gX0_77 rfl rfl rfl (by decide +kernel) ⟨Nat.le_of_ble_eq_true rfl, Nat.le_of_ble_eq_true rfl⟩) hK hP hD hS hA hl.1 rfl rfl (Nat.le_of_ble_eq_true rfl) dX0_keep_51 (Nat.zero_le _) (Nat.zero_le _) (fun H locs hP hD hS => ?_)
  obtain ⟨z1, ez1⟩ : ∃ zq : BJ, zq = wR σ (rTyped σ) := ⟨_, rfl⟩
  rw [← ez1] at hP hD
  refine bj_wi (As := [.int (nI (jgWc σ))]) (rest := []) (n := 1) ⟨hx, hb, hml, hown, htg⟩ (c_follow l z1 (jgWc σ) (hr1) (by rw [ez1]; exact hr2) (by rw [ez1]; exact hr3) (by rw [ez1]; exact hr4) (by rw [ez1]; exact hr5)) (cwV 1 htg gX0_81 rfl rfl rfl (by decide +kernel) ⟨Nat.le_of_ble_eq_true rfl, Nat.le_of_ble_eq_true rfl⟩) hK hP hD hS hA hl.1 rfl rfl (Nat.le_of_ble_eq_true rfl) dX0_keep_54 (Nat.zero_le _) (Nat.zero_le _) (fun H locs hP hD hS => ?_)
  obtain ⟨z2, ez2⟩ : ∃ zq : BJ, zq = ofO (follow z1 (jgWc σ)) z1 := ⟨_, rfl⟩
  rw [← ez2] at hP hD
  refine lv_pop hx hb dX0_keep_57 rfl ?_
  refine lv_lload_n hx hb dX0_keep_58 rfl (lv_at hl 0 rfl) ?_
  have hfin : z2 = ofO (follow (wR σ (rTyped σ)) (jgWc σ)) (wR σ (rTyped σ)) := by rw [ez2, ez1]
  rw [hfin] at hP hD
  exact W.lret (v := dg (jgT σ) 0 (jgTc σ)) hx hb hr (fun t ht hW => ⟨⟨_, (), rfl, rfl, by rw [ht]; exact hP, va_K.moved hW.alike hK, hD⟩, hS.F ht⟩) hS.2.2 dX0_keep_59
set_option maxRecDepth 100000 in
set_option maxHeartbeats 4000000 in
theorem c_tellO (l : Launch) (σ : BJ) (t : Nat) (d : Int64) (b : Nat) (ht : t < 8) (hc : jgBc σ ≤ 20) (hf : fnd (jgBD σ) d (jgBc σ) = some b) (hs : jgTB σ t = nI b) : rBv l yX0_tell wsX0_tell ({ frames := 3, cells := 0, slots := 0, locals := 72 } : Room) σ [.int (nI t), .long d] := by
  intro dC dI cI cJ h sz
  refine Met.ofW (cc := cX0_tell) (maxL := 5) (ret := none) (by decide) rfl ?_
  intro p e s m args below meth c s₁ B hml hv
  obtain ⟨rfl, hsz, hP, hK, hD0⟩ := hv
  have hx := B.exec
  have hb := B.bytes
  have hr := B.returns
  have hts := atoms_spec (ws := wsX0_tell) B.pre
  have hown : s.vm.findClass RX0 = some m.cls := findClass_of_methodNamed B.named
  have hlocks := B.notSynchronized
  subst hsz
  have htg : ∀ w ∈ GW, w.before _ s = true := fun w h => hts w (List.mem_cons_of_mem _ h)
  have hD := hD0
  have hA : ∀ q : Nat, s.heap.size ≤ q → (fun q => s.heap.size ≤ q) q := fun _ h => h
  have hS : va_S (fun q => s.heap.size ≤ q) s.heap s.heap [] := va_S.rf
  have hl := lv_entry [.ref (h 0), .int (nI t), .long d] (n := 5) (Nat.le_of_ble_eq_true rfl)
  rw [lg_entry_eq]
  generalize (lg_sl [.ref (h 0), .int (nI t), .long d] ++ List.replicate (5 - (lg_sl [.ref (h 0), .int (nI t), .long d]).length) Slot.unset).toArray = ls at hl ⊢
  have hl : lv_has ls 5 [(0, .ref (h 0)), (1, .int (nI t)), (2, .long d)] := hl
  have hP : va_P (dC, dI) vwCl (wBJ cI cJ h σ) s.heap := hP
  refine lv_iload_n hx hb dX0_tell_0 rfl (lv_at hl 1 rfl) ?_
  refine xr_rov (va_runS (As := [.int (nI t)]) (rest := []) ⟨hx, hb, hml, hown, htg⟩ (c_demandTag l (nI t) (by rw [isTg_nI (by omega)]; exact decide_eq_true ht) dC dI cI 0 _) (va_cwS 1 htg gX0_85 rfl rfl rfl (by decide +kernel) ⟨Nat.le_of_ble_eq_true rfl, Nat.le_of_ble_eq_true rfl⟩) ⟨fun a U g mk q => q, fun U hU hW => ⟨rfl, by show U.heap.size = _; rw [hU]⟩⟩ rfl rfl hl.1 rfl (lv_room (Nat.le_of_ble_eq_true rfl)) dX0_tell_1 ⟨Nat.zero_le _, Nat.zero_le _⟩) hP hS hA (fun H locs hP hS _ => ?_)
  refine lv_aload_n hx hb dX0_tell_4 rfl (lv_at hl 0 rfl) ?_
  refine lv_lload_n hx hb dX0_tell_5 rfl (lv_at hl 2 rfl) ?_
  refine bj_ri (As := [.long d]) (rest := []) (n := 1) ⟨hx, hb, hml, hown, htg⟩ (c_findBlob l σ d (by omega)) (cwV 1 htg gX0_64 rfl rfl rfl (by decide +kernel) ⟨Nat.le_of_ble_eq_true rfl, Nat.le_of_ble_eq_true rfl⟩) hK hP hD hS hA hl.1 rfl rfl (Nat.le_of_ble_eq_true rfl) dX0_tell_6 (Nat.zero_le _) (Nat.zero_le _) (fun H locs hP hS => ?_)
  have hlt := (fnd_lt hf).1
  rw [hf]
  refine W.eq (g2 := F0 m 9 ls [.int (nI b)]) rfl ?_
  refine lv_istore (lv' := [(4, .int (nI b)), (0, .ref (h 0)), (1, .int (nI t)), (2, .long d)]) hx hb dX0_tell_9 hl (by decide) rfl (fun ls hl => ?_)
  refine lv_iload hx hb dX0_tell_11 (lv_at hl 0 rfl) ?_
  refine lv_iconst (v := -1) hx hb dX0_tell_13 (by decide) ?_
  refine lv_icmp_ne (tgt := 27) hx hb dX0_tell_14 (by decide) (fun _ => ?_) (fun c => absurd c (optI_none (by omega)))
  refine lv_aload_n hx hb dX0_tell_27 rfl (lv_at hl 1 rfl) ?_
  refine va_get (D := (dC, dI)) (ci := 0) (v := .ref (h 6)) (C := RX0) (T := TX0) (N := 14) hx hb htg inX0 (fs := fsBJ h σ) hown hK hP 0 rfl rfl 9 (by decide) (htg _ fX0_26) (fun _ h9 => h9) rfl dX0_tell_28 ?_
  refine lv_iload_n hx hb dX0_tell_31 rfl (lv_at hl 2 rfl) ?_
  refine xr_iald (f := jgTB σ) (i := t) hx hb hK hP 6 0 rfl rfl (by omega) (by decide) dX0_tell_32 ?_
  refine lv_iload hx hb dX0_tell_33 (lv_at hl 0 rfl) ?_
  refine lv_icmp_eq (tgt := 55) hx hb dX0_tell_35 (by decide) (fun c35 => ?_) (fun c35 => absurd c35 (by exact fun z => z hs))
  exact W.vret hx hb hr (fun t ht hW => ⟨⟨(), rfl, trivial, trivial⟩, hS.F ht⟩) hS.2.2 dX0_tell_55
set_option maxRecDepth 100000 in
set_option maxHeartbeats 4000000 in
theorem c_tellN (l : Launch) (σ : BJ) (t : Nat) (d : Int64) (b : Nat) (ht : t < 8) (hc : jgBc σ ≤ 20) (hf : fnd (jgBD σ) d (jgBc σ) = some b) (hs : jgTB σ t ≠ nI b) (hw : jgWc σ + 13 ≤ 700) (hr1 : jgWc σ + 2 < 700) (hr2 : jgWc σ + 3 + lenAt (jgW (wR σ (rTell t d))) (jgWc σ) < 700) (hr3 : byt (jgW (wR σ (rTell t d))) 700) (hr4 : jgBc (wR σ (rTell t d)) ≤ 20) (hr5 : jgKc (wR σ (rTell t d)) ≤ 16) : wBv l yX0_tell wsX0_tell ({ frames := 3, cells := 0, slots := 0, locals := 72 } : Room) σ [.int (nI t), .long d] (ofO (follow (wR σ (rTell t d)) (jgWc σ)) (wR σ (rTell t d))) := by
  intro dC dI cI cJ h sz
  refine Met.ofW (cc := cX0_tell) (maxL := 5) (ret := none) (by decide) rfl ?_
  intro p e s m args below meth c s₁ B hml hv
  obtain ⟨rfl, hsz, hP, hK, hD0⟩ := hv
  have hx := B.exec
  have hb := B.bytes
  have hr := B.returns
  have hts := atoms_spec (ws := wsX0_tell) B.pre
  have hown : s.vm.findClass RX0 = some m.cls := findClass_of_methodNamed B.named
  have hlocks := B.notSynchronized
  subst hsz
  have htg : ∀ w ∈ GW, w.before _ s = true := fun w h => hts w (List.mem_cons_of_mem _ h)
  have hD := hD0.self (sz := s.heap.size)
  generalize hAe : va_A (wBJ cI cJ h σ) s.heap.size = A at hD ⊢
  have hA : ∀ q : Nat, s.heap.size ≤ q → A q := fun q h => by rw [← hAe]; exact Or.inr h
  have hS : va_S A s.heap s.heap [] := va_S.rf
  have hl := lv_entry [.ref (h 0), .int (nI t), .long d] (n := 5) (Nat.le_of_ble_eq_true rfl)
  rw [lg_entry_eq]
  generalize (lg_sl [.ref (h 0), .int (nI t), .long d] ++ List.replicate (5 - (lg_sl [.ref (h 0), .int (nI t), .long d]).length) Slot.unset).toArray = ls at hl ⊢
  have hl : lv_has ls 5 [(0, .ref (h 0)), (1, .int (nI t)), (2, .long d)] := hl
  have hP : va_P (dC, dI) vwCl (wBJ cI cJ h σ) s.heap := hP
  refine lv_iload_n hx hb dX0_tell_0 rfl (lv_at hl 1 rfl) ?_
  refine xr_rov (va_runS (As := [.int (nI t)]) (rest := []) ⟨hx, hb, hml, hown, htg⟩ (c_demandTag l (nI t) (by rw [isTg_nI (by omega)]; exact decide_eq_true ht) dC dI cI 0 _) (va_cwS 1 htg gX0_85 rfl rfl rfl (by decide +kernel) ⟨Nat.le_of_ble_eq_true rfl, Nat.le_of_ble_eq_true rfl⟩) ⟨fun a U g mk q => q, fun U hU hW => ⟨rfl, by show U.heap.size = _; rw [hU]⟩⟩ rfl rfl hl.1 rfl (lv_room (Nat.le_of_ble_eq_true rfl)) dX0_tell_1 ⟨Nat.zero_le _, Nat.zero_le _⟩) hP hS hA (fun H locs hP hS _ => ?_)
  refine lv_aload_n hx hb dX0_tell_4 rfl (lv_at hl 0 rfl) ?_
  refine lv_lload_n hx hb dX0_tell_5 rfl (lv_at hl 2 rfl) ?_
  refine bj_ri (As := [.long d]) (rest := []) (n := 1) ⟨hx, hb, hml, hown, htg⟩ (c_findBlob l σ d (by omega)) (cwV 1 htg gX0_64 rfl rfl rfl (by decide +kernel) ⟨Nat.le_of_ble_eq_true rfl, Nat.le_of_ble_eq_true rfl⟩) hK hP hD hS hA hl.1 rfl rfl (Nat.le_of_ble_eq_true rfl) dX0_tell_6 (Nat.zero_le _) (Nat.zero_le _) (fun H locs hP hS => ?_)
  have hlt := (fnd_lt hf).1
  rw [hf]
  refine W.eq (g2 := F0 m 9 ls [.int (nI b)]) rfl ?_
  refine lv_istore (lv' := [(4, .int (nI b)), (0, .ref (h 0)), (1, .int (nI t)), (2, .long d)]) hx hb dX0_tell_9 hl (by decide) rfl (fun ls hl => ?_)
  refine lv_iload hx hb dX0_tell_11 (lv_at hl 0 rfl) ?_
  refine lv_iconst (v := -1) hx hb dX0_tell_13 (by decide) ?_
  refine lv_icmp_ne (tgt := 27) hx hb dX0_tell_14 (by decide) (fun _ => ?_) (fun c => absurd c (optI_none (by omega)))
  refine lv_aload_n hx hb dX0_tell_27 rfl (lv_at hl 1 rfl) ?_
  refine va_get (D := (dC, dI)) (ci := 0) (v := .ref (h 6)) (C := RX0) (T := TX0) (N := 14) hx hb htg inX0 (fs := fsBJ h σ) hown hK hP 0 rfl rfl 9 (by decide) (htg _ fX0_26) (fun _ h9 => h9) rfl dX0_tell_28 ?_
  refine lv_iload_n hx hb dX0_tell_31 rfl (lv_at hl 2 rfl) ?_
  refine xr_iald (f := jgTB σ) (i := t) hx hb hK hP 6 0 rfl rfl (by omega) (by decide) dX0_tell_32 ?_
  refine lv_iload hx hb dX0_tell_33 (lv_at hl 0 rfl) ?_
  refine lv_icmp_eq (tgt := 55) hx hb dX0_tell_35 (by decide) (fun c35 => absurd c35 (by exact hs)) (fun c35 => ?_)
  refine lv_aload_n hx hb dX0_tell_38 rfl (lv_at hl 1 rfl) ?_
  refine lv_bipush (v := nI 9) hx hb dX0_tell_39 (by decide) ?_
  refine bj_rv (As := [.int (nI 9)]) (rest := []) (n := 1) ⟨hx, hb, hml, hown, htg⟩ (c_demandRoom l σ 9 (by omega)) (cwV 1 htg gX0_73 rfl rfl rfl (by decide +kernel) ⟨Nat.le_of_ble_eq_true rfl, Nat.le_of_ble_eq_true rfl⟩) hK hP hD hS hA hl.1 rfl rfl (Nat.le_of_ble_eq_true rfl) dX0_tell_41 (Nat.zero_le _) (Nat.zero_le _) (fun H locs hP hS => ?_)
  refine lv_aload_n hx hb dX0_tell_44 rfl (lv_at hl 1 rfl) ?_
  refine lv_aload_n hx hb dX0_tell_45 rfl (lv_at hl 1 rfl) ?_
  refine lv_iload_n hx hb dX0_tell_46 rfl (lv_at hl 2 rfl) ?_
  refine lv_lload_n hx hb dX0_tell_47 rfl (lv_at hl 3 rfl) ?_
  refine bj_wi (As := [.int (nI t), .long d]) (rest := [.ref (h 0)]) (n := 2) ⟨hx, hb, hml, hown, htg⟩ (c_writeTell l σ t d (by omega)) (cwV 2 htg gX0_93 rfl rfl rfl (by decide +kernel) ⟨Nat.le_of_ble_eq_true rfl, Nat.le_of_ble_eq_true rfl⟩) hK hP hD hS hA hl.1 rfl rfl (Nat.le_of_ble_eq_true rfl) dX0_tell_48 (Nat.zero_le _) (Nat.zero_le _) (fun H locs hP hD hS => ?_)
  obtain ⟨z1, ez1⟩ : ∃ zq : BJ, zq = wR σ (rTell t d) := ⟨_, rfl⟩
  rw [← ez1] at hP hD
  refine bj_wi (As := [.int (nI (jgWc σ))]) (rest := []) (n := 1) ⟨hx, hb, hml, hown, htg⟩ (c_follow l z1 (jgWc σ) (hr1) (by rw [ez1]; exact hr2) (by rw [ez1]; exact hr3) (by rw [ez1]; exact hr4) (by rw [ez1]; exact hr5)) (cwV 1 htg gX0_81 rfl rfl rfl (by decide +kernel) ⟨Nat.le_of_ble_eq_true rfl, Nat.le_of_ble_eq_true rfl⟩) hK hP hD hS hA hl.1 rfl rfl (Nat.le_of_ble_eq_true rfl) dX0_tell_51 (Nat.zero_le _) (Nat.zero_le _) (fun H locs hP hD hS => ?_)
  obtain ⟨z2, ez2⟩ : ∃ zq : BJ, zq = ofO (follow z1 (jgWc σ)) z1 := ⟨_, rfl⟩
  rw [← ez2] at hP hD
  refine lv_pop hx hb dX0_tell_54 rfl ?_
  have hfin : z2 = ofO (follow (wR σ (rTell t d)) (jgWc σ)) (wR σ (rTell t d)) := by rw [ez2, ez1]
  rw [hfin] at hP hD
  exact W.vret hx hb hr (fun t ht hW => ⟨⟨(), rfl, trivial, by rw [ht]; exact hP, va_K.moved hW.alike hK, hD⟩, hS.F ht⟩) hS.2.2 dX0_tell_55
set_option maxRecDepth 100000 in
set_option maxHeartbeats 4000000 in
theorem c_untellN (l : Launch) (σ : BJ) (t : Nat) (ht : t < 8) (hs : jgTB σ t ≠ -1) (hw : jgWc σ + 5 ≤ 700) (hr1 : jgWc σ + 2 < 700) (hr2 : jgWc σ + 3 + lenAt (jgW (wR σ (rUntell t))) (jgWc σ) < 700) (hr3 : byt (jgW (wR σ (rUntell t))) 700) (hr4 : jgBc (wR σ (rUntell t)) ≤ 20) (hr5 : jgKc (wR σ (rUntell t)) ≤ 16) : wBv l yX0_untell wsX0_untell ({ frames := 3, cells := 0, slots := 0, locals := 72 } : Room) σ [.int (nI t)] (ofO (follow (wR σ (rUntell t)) (jgWc σ)) (wR σ (rUntell t))) := by
  intro dC dI cI cJ h sz
  refine Met.ofW (cc := cX0_untell) (maxL := 2) (ret := none) (by decide) rfl ?_
  intro p e s m args below meth c s₁ B hml hv
  obtain ⟨rfl, hsz, hP, hK, hD0⟩ := hv
  have hx := B.exec
  have hb := B.bytes
  have hr := B.returns
  have hts := atoms_spec (ws := wsX0_untell) B.pre
  have hown : s.vm.findClass RX0 = some m.cls := findClass_of_methodNamed B.named
  have hlocks := B.notSynchronized
  subst hsz
  have htg : ∀ w ∈ GW, w.before _ s = true := fun w h => hts w (List.mem_cons_of_mem _ h)
  have hD := hD0.self (sz := s.heap.size)
  generalize hAe : va_A (wBJ cI cJ h σ) s.heap.size = A at hD ⊢
  have hA : ∀ q : Nat, s.heap.size ≤ q → A q := fun q h => by rw [← hAe]; exact Or.inr h
  have hS : va_S A s.heap s.heap [] := va_S.rf
  have hl := lv_entry [.ref (h 0), .int (nI t)] (n := 2) (Nat.le_of_ble_eq_true rfl)
  rw [lg_entry_eq]
  generalize (lg_sl [.ref (h 0), .int (nI t)] ++ List.replicate (2 - (lg_sl [.ref (h 0), .int (nI t)]).length) Slot.unset).toArray = ls at hl ⊢
  have hl : lv_has ls 2 [(0, .ref (h 0)), (1, .int (nI t))] := hl
  have hP : va_P (dC, dI) vwCl (wBJ cI cJ h σ) s.heap := hP
  refine lv_iload_n hx hb dX0_untell_0 rfl (lv_at hl 1 rfl) ?_
  refine xr_rov (va_runS (As := [.int (nI t)]) (rest := []) ⟨hx, hb, hml, hown, htg⟩ (c_demandTag l (nI t) (by rw [isTg_nI (by omega)]; exact decide_eq_true ht) dC dI cI 0 _) (va_cwS 1 htg gX0_85 rfl rfl rfl (by decide +kernel) ⟨Nat.le_of_ble_eq_true rfl, Nat.le_of_ble_eq_true rfl⟩) ⟨fun a U g mk q => q, fun U hU hW => ⟨rfl, by show U.heap.size = _; rw [hU]⟩⟩ rfl rfl hl.1 rfl (lv_room (Nat.le_of_ble_eq_true rfl)) dX0_untell_1 ⟨Nat.zero_le _, Nat.zero_le _⟩) hP hS hA (fun H locs hP hS _ => ?_)
  refine lv_aload_n hx hb dX0_untell_4 rfl (lv_at hl 0 rfl) ?_
  refine va_get (D := (dC, dI)) (ci := 0) (v := .ref (h 6)) (C := RX0) (T := TX0) (N := 14) hx hb htg inX0 (fs := fsBJ h σ) hown hK hP 0 rfl rfl 9 (by decide) (htg _ fX0_26) (fun _ h9 => h9) rfl dX0_untell_5 ?_
  refine lv_iload_n hx hb dX0_untell_8 rfl (lv_at hl 1 rfl) ?_
  refine xr_iald (f := jgTB σ) (i := t) hx hb hK hP 6 0 rfl rfl (by omega) (by decide) dX0_untell_9 ?_
  refine lv_iconst (v := -1) hx hb dX0_untell_10 (by decide) ?_
  refine lv_icmp_ne (tgt := 24) hx hb dX0_untell_11 (by decide) (fun c11 => ?_) (fun c11 => absurd c11 (by exact hs))
  refine lv_aload_n hx hb dX0_untell_24 rfl (lv_at hl 0 rfl) ?_
  refine lv_iconst (v := nI 1) hx hb dX0_untell_25 (by decide) ?_
  refine bj_rv (As := [.int (nI 1)]) (rest := []) (n := 1) ⟨hx, hb, hml, hown, htg⟩ (c_demandRoom l σ 1 (by omega)) (cwV 1 htg gX0_73 rfl rfl rfl (by decide +kernel) ⟨Nat.le_of_ble_eq_true rfl, Nat.le_of_ble_eq_true rfl⟩) hK hP hD hS hA hl.1 rfl rfl (Nat.le_of_ble_eq_true rfl) dX0_untell_26 (Nat.zero_le _) (Nat.zero_le _) (fun H locs hP hS => ?_)
  refine lv_aload_n hx hb dX0_untell_29 rfl (lv_at hl 0 rfl) ?_
  refine lv_aload_n hx hb dX0_untell_30 rfl (lv_at hl 0 rfl) ?_
  refine lv_iload_n hx hb dX0_untell_31 rfl (lv_at hl 1 rfl) ?_
  refine bj_wi (As := [.int (nI t)]) (rest := [.ref (h 0)]) (n := 1) ⟨hx, hb, hml, hown, htg⟩ (c_writeUntell l σ t (by omega)) (cwV 1 htg gX0_99 rfl rfl rfl (by decide +kernel) ⟨Nat.le_of_ble_eq_true rfl, Nat.le_of_ble_eq_true rfl⟩) hK hP hD hS hA hl.1 rfl rfl (Nat.le_of_ble_eq_true rfl) dX0_untell_32 (Nat.zero_le _) (Nat.zero_le _) (fun H locs hP hD hS => ?_)
  obtain ⟨z1, ez1⟩ : ∃ zq : BJ, zq = wR σ (rUntell t) := ⟨_, rfl⟩
  rw [← ez1] at hP hD
  refine bj_wi (As := [.int (nI (jgWc σ))]) (rest := []) (n := 1) ⟨hx, hb, hml, hown, htg⟩ (c_follow l z1 (jgWc σ) (hr1) (by rw [ez1]; exact hr2) (by rw [ez1]; exact hr3) (by rw [ez1]; exact hr4) (by rw [ez1]; exact hr5)) (cwV 1 htg gX0_81 rfl rfl rfl (by decide +kernel) ⟨Nat.le_of_ble_eq_true rfl, Nat.le_of_ble_eq_true rfl⟩) hK hP hD hS hA hl.1 rfl rfl (Nat.le_of_ble_eq_true rfl) dX0_untell_35 (Nat.zero_le _) (Nat.zero_le _) (fun H locs hP hD hS => ?_)
  obtain ⟨z2, ez2⟩ : ∃ zq : BJ, zq = ofO (follow z1 (jgWc σ)) z1 := ⟨_, rfl⟩
  rw [← ez2] at hP hD
  refine lv_pop hx hb dX0_untell_38 rfl ?_
  have hfin : z2 = ofO (follow (wR σ (rUntell t)) (jgWc σ)) (wR σ (rUntell t)) := by rw [ez2, ez1]
  rw [hfin] at hP hD
  exact W.vret hx hb hr (fun t ht hW => ⟨⟨(), rfl, trivial, by rw [ht]; exact hP, va_K.moved hW.alike hK, hD⟩, hS.F ht⟩) hS.2.2 dX0_untell_39
set_option maxRecDepth 100000 in
set_option maxHeartbeats 4000000 in
theorem c_learnO (l : Launch) (σ : BJ) (k : Int64) (d : Int64) (i : Nat) (hc : jgKc σ ≤ 16) (hf : fnd (jgKS σ) k (jgKc σ) = some i) (hs : jgKD σ i = d) : rBv l yX0_learn wsX0_learn ({ frames := 3, cells := 0, slots := 0, locals := 72 } : Room) σ [.long k, .long d] := by
  intro dC dI cI cJ h sz
  refine Met.ofW (cc := cX0_learn) (maxL := 6) (ret := none) (by decide) rfl ?_
  intro p e s m args below meth c s₁ B hml hv
  obtain ⟨rfl, hsz, hP, hK, hD0⟩ := hv
  have hx := B.exec
  have hb := B.bytes
  have hr := B.returns
  have hts := atoms_spec (ws := wsX0_learn) B.pre
  have hown : s.vm.findClass RX0 = some m.cls := findClass_of_methodNamed B.named
  have hlocks := B.notSynchronized
  subst hsz
  have htg : ∀ w ∈ GW, w.before _ s = true := fun w h => hts w (List.mem_cons_of_mem _ h)
  have hD := hD0
  have hA : ∀ q : Nat, s.heap.size ≤ q → (fun q => s.heap.size ≤ q) q := fun _ h => h
  have hS : va_S (fun q => s.heap.size ≤ q) s.heap s.heap [] := va_S.rf
  have hl := lv_entry [.ref (h 0), .long k, .long d] (n := 6) (Nat.le_of_ble_eq_true rfl)
  rw [lg_entry_eq]
  generalize (lg_sl [.ref (h 0), .long k, .long d] ++ List.replicate (6 - (lg_sl [.ref (h 0), .long k, .long d]).length) Slot.unset).toArray = ls at hl ⊢
  have hl : lv_has ls 6 [(0, .ref (h 0)), (1, .long k), (3, .long d)] := hl
  have hP : va_P (dC, dI) vwCl (wBJ cI cJ h σ) s.heap := hP
  refine lv_aload_n hx hb dX0_learn_0 rfl (lv_at hl 0 rfl) ?_
  refine lv_lload_n hx hb dX0_learn_1 rfl (lv_at hl 1 rfl) ?_
  refine bj_ri (As := [.long k]) (rest := []) (n := 1) ⟨hx, hb, hml, hown, htg⟩ (c_findKey l σ k (by omega)) (cwV 1 htg gX0_103 rfl rfl rfl (by decide +kernel) ⟨Nat.le_of_ble_eq_true rfl, Nat.le_of_ble_eq_true rfl⟩) hK hP hD hS hA hl.1 rfl rfl (Nat.le_of_ble_eq_true rfl) dX0_learn_2 (Nat.zero_le _) (Nat.zero_le _) (fun H locs hP hS => ?_)
  have hlt := (fnd_lt hf).1
  rw [hf]
  refine W.eq (g2 := F0 m 5 ls [.int (nI i)]) rfl ?_
  refine lv_istore (lv' := [(5, .int (nI i)), (0, .ref (h 0)), (1, .long k), (3, .long d)]) hx hb dX0_learn_5 hl (by decide) rfl (fun ls hl => ?_)
  refine lv_iload hx hb dX0_learn_7 (lv_at hl 0 rfl) ?_
  refine lv_iconst (v := -1) hx hb dX0_learn_9 (by decide) ?_
  refine lv_icmp_ne (tgt := 32) hx hb dX0_learn_10 (by decide) (fun _ => ?_) (fun c => absurd c (optI_none (by omega)))
  refine lv_iload hx hb dX0_learn_32 (lv_at hl 0 rfl) ?_
  refine lv_iconst (v := -1) hx hb dX0_learn_34 (by decide) ?_
  refine lv_icmp_eq (tgt := 50) hx hb dX0_learn_35 (by decide) (fun c => absurd c (optI_none (by omega))) (fun _ => ?_)
  refine lv_aload_n hx hb dX0_learn_38 rfl (lv_at hl 1 rfl) ?_
  refine va_get (D := (dC, dI)) (ci := 0) (v := .ref (h 8)) (C := RX0) (T := TX0) (N := 14) hx hb htg inX0 (fs := fsBJ h σ) hown hK hP 0 rfl rfl 11 (by decide) (htg _ fX0_38) (fun _ h9 => h9) rfl dX0_learn_39 ?_
  refine lv_iload hx hb dX0_learn_42 (lv_at hl 0 rfl) ?_
  refine xr_lald (f := jgKD σ) (i := i) hx hb hK hP 8 1 rfl rfl (by omega) (by decide) dX0_learn_44 ?_
  refine lv_lload_n hx hb dX0_learn_45 rfl (lv_at hl 3 rfl) ?_
  refine xr_lcmp_eq (tgt := 67) hx hb dX0_learn_46 dX0_learn_47 (by decide) (fun _ => ?_) (fun c => absurd hs c)
  exact W.vret hx hb hr (fun t ht hW => ⟨⟨(), rfl, trivial, trivial⟩, hS.F ht⟩) hS.2.2 dX0_learn_67
set_option maxRecDepth 100000 in
set_option maxHeartbeats 4000000 in
theorem c_learnM (l : Launch) (σ : BJ) (k : Int64) (d : Int64) (i : Nat) (hc : jgKc σ ≤ 16) (hf : fnd (jgKS σ) k (jgKc σ) = some i) (hs : jgKD σ i ≠ d) (hw : jgWc σ + 20 ≤ 700) (hr1 : jgWc σ + 2 < 700) (hr2 : jgWc σ + 3 + lenAt (jgW (wR σ (rKey k d))) (jgWc σ) < 700) (hr3 : byt (jgW (wR σ (rKey k d))) 700) (hr4 : jgBc (wR σ (rKey k d)) ≤ 20) (hr5 : jgKc (wR σ (rKey k d)) ≤ 16) : wBv l yX0_learn wsX0_learn ({ frames := 3, cells := 0, slots := 0, locals := 72 } : Room) σ [.long k, .long d] (ofO (follow (wR σ (rKey k d)) (jgWc σ)) (wR σ (rKey k d))) := by
  intro dC dI cI cJ h sz
  refine Met.ofW (cc := cX0_learn) (maxL := 6) (ret := none) (by decide) rfl ?_
  intro p e s m args below meth c s₁ B hml hv
  obtain ⟨rfl, hsz, hP, hK, hD0⟩ := hv
  have hx := B.exec
  have hb := B.bytes
  have hr := B.returns
  have hts := atoms_spec (ws := wsX0_learn) B.pre
  have hown : s.vm.findClass RX0 = some m.cls := findClass_of_methodNamed B.named
  have hlocks := B.notSynchronized
  subst hsz
  have htg : ∀ w ∈ GW, w.before _ s = true := fun w h => hts w (List.mem_cons_of_mem _ h)
  have hD := hD0.self (sz := s.heap.size)
  generalize hAe : va_A (wBJ cI cJ h σ) s.heap.size = A at hD ⊢
  have hA : ∀ q : Nat, s.heap.size ≤ q → A q := fun q h => by rw [← hAe]; exact Or.inr h
  have hS : va_S A s.heap s.heap [] := va_S.rf
  have hl := lv_entry [.ref (h 0), .long k, .long d] (n := 6) (Nat.le_of_ble_eq_true rfl)
  rw [lg_entry_eq]
  generalize (lg_sl [.ref (h 0), .long k, .long d] ++ List.replicate (6 - (lg_sl [.ref (h 0), .long k, .long d]).length) Slot.unset).toArray = ls at hl ⊢
  have hl : lv_has ls 6 [(0, .ref (h 0)), (1, .long k), (3, .long d)] := hl
  have hP : va_P (dC, dI) vwCl (wBJ cI cJ h σ) s.heap := hP
  refine lv_aload_n hx hb dX0_learn_0 rfl (lv_at hl 0 rfl) ?_
  refine lv_lload_n hx hb dX0_learn_1 rfl (lv_at hl 1 rfl) ?_
  refine bj_ri (As := [.long k]) (rest := []) (n := 1) ⟨hx, hb, hml, hown, htg⟩ (c_findKey l σ k (hc)) (cwV 1 htg gX0_103 rfl rfl rfl (by decide +kernel) ⟨Nat.le_of_ble_eq_true rfl, Nat.le_of_ble_eq_true rfl⟩) hK hP hD hS hA hl.1 rfl rfl (Nat.le_of_ble_eq_true rfl) dX0_learn_2 (Nat.zero_le _) (Nat.zero_le _) (fun H locs hP hS => ?_)
  have hlt := (fnd_lt hf).1
  rw [hf]
  refine W.eq (g2 := F0 m 5 ls [.int (nI i)]) rfl ?_
  refine lv_istore (lv' := [(5, .int (nI i)), (0, .ref (h 0)), (1, .long k), (3, .long d)]) hx hb dX0_learn_5 hl (by decide) rfl (fun ls hl => ?_)
  refine lv_iload hx hb dX0_learn_7 (lv_at hl 0 rfl) ?_
  refine lv_iconst (v := -1) hx hb dX0_learn_9 (by decide) ?_
  refine lv_icmp_ne (tgt := 32) hx hb dX0_learn_10 (by decide) (fun _ => ?_) (fun c => absurd c (optI_none (by omega)))
  refine lv_iload hx hb dX0_learn_32 (lv_at hl 0 rfl) ?_
  refine lv_iconst (v := -1) hx hb dX0_learn_34 (by decide) ?_
  refine lv_icmp_eq (tgt := 50) hx hb dX0_learn_35 (by decide) (fun c => absurd c (optI_none (by omega))) (fun _ => ?_)
  refine lv_aload_n hx hb dX0_learn_38 rfl (lv_at hl 1 rfl) ?_
  refine va_get (D := (dC, dI)) (ci := 0) (v := .ref (h 8)) (C := RX0) (T := TX0) (N := 14) hx hb htg inX0 (fs := fsBJ h σ) hown hK hP 0 rfl rfl 11 (by decide) (htg _ fX0_38) (fun _ h9 => h9) rfl dX0_learn_39 ?_
  refine lv_iload hx hb dX0_learn_42 (lv_at hl 0 rfl) ?_
  refine xr_lald (f := jgKD σ) (i := i) hx hb hK hP 8 1 rfl rfl (by omega) (by decide) dX0_learn_44 ?_
  refine lv_lload_n hx hb dX0_learn_45 rfl (lv_at hl 3 rfl) ?_
  refine xr_lcmp_eq (tgt := 67) hx hb dX0_learn_46 dX0_learn_47 (by decide) (fun c => absurd c hs) (fun _ => ?_)
  refine lv_aload_n hx hb dX0_learn_50 rfl (lv_at hl 1 rfl) ?_
  refine lv_bipush (v := nI 16) hx hb dX0_learn_51 (by decide) ?_
  refine bj_rv (As := [.int (nI 16)]) (rest := []) (n := 1) ⟨hx, hb, hml, hown, htg⟩ (c_demandRoom l σ 16 (by omega)) (cwV 1 htg gX0_73 rfl rfl rfl (by decide +kernel) ⟨Nat.le_of_ble_eq_true rfl, Nat.le_of_ble_eq_true rfl⟩) hK hP hD hS hA hl.1 rfl rfl (Nat.le_of_ble_eq_true rfl) dX0_learn_53 (Nat.zero_le _) (Nat.zero_le _) (fun H locs hP hS => ?_)
  refine lv_aload_n hx hb dX0_learn_56 rfl (lv_at hl 1 rfl) ?_
  refine lv_aload_n hx hb dX0_learn_57 rfl (lv_at hl 1 rfl) ?_
  refine lv_lload_n hx hb dX0_learn_58 rfl (lv_at hl 2 rfl) ?_
  refine lv_lload_n hx hb dX0_learn_59 rfl (lv_at hl 3 rfl) ?_
  refine bj_wi (As := [.long k, .long d]) (rest := [.ref (h 0)]) (n := 2) ⟨hx, hb, hml, hown, htg⟩ (c_writeKey l σ k d (by omega)) (cwV 2 htg gX0_111 rfl rfl rfl (by decide +kernel) ⟨Nat.le_of_ble_eq_true rfl, Nat.le_of_ble_eq_true rfl⟩) hK hP hD hS hA hl.1 rfl rfl (Nat.le_of_ble_eq_true rfl) dX0_learn_60 (Nat.zero_le _) (Nat.zero_le _) (fun H locs hP hD hS => ?_)
  obtain ⟨z1, ez1⟩ : ∃ zq : BJ, zq = wR σ (rKey k d) := ⟨_, rfl⟩
  rw [← ez1] at hP hD
  refine bj_wi (As := [.int (nI (jgWc σ))]) (rest := []) (n := 1) ⟨hx, hb, hml, hown, htg⟩ (c_follow l z1 (jgWc σ) (hr1) (by rw [ez1]; exact hr2) (by rw [ez1]; exact hr3) (by rw [ez1]; exact hr4) (by rw [ez1]; exact hr5)) (cwV 1 htg gX0_81 rfl rfl rfl (by decide +kernel) ⟨Nat.le_of_ble_eq_true rfl, Nat.le_of_ble_eq_true rfl⟩) hK hP hD hS hA hl.1 rfl rfl (Nat.le_of_ble_eq_true rfl) dX0_learn_63 (Nat.zero_le _) (Nat.zero_le _) (fun H locs hP hD hS => ?_)
  obtain ⟨z2, ez2⟩ : ∃ zq : BJ, zq = ofO (follow z1 (jgWc σ)) z1 := ⟨_, rfl⟩
  rw [← ez2] at hP hD
  refine lv_pop hx hb dX0_learn_66 rfl ?_
  have hfin : z2 = ofO (follow (wR σ (rKey k d)) (jgWc σ)) (wR σ (rKey k d)) := by rw [ez2, ez1]
  rw [hfin] at hP hD
  exact W.vret hx hb hr (fun t ht hW => ⟨⟨(), rfl, trivial, by rw [ht]; exact hP, va_K.moved hW.alike hK, hD⟩, hS.F ht⟩) hS.2.2 dX0_learn_67
set_option maxRecDepth 100000 in
set_option maxHeartbeats 4000000 in
theorem c_learnN (l : Launch) (σ : BJ) (k : Int64) (d : Int64) (hc : jgKc σ < 16) (hf : fnd (jgKS σ) k (jgKc σ) = none) (hw : jgWc σ + 20 ≤ 700) (hr1 : jgWc σ + 2 < 700) (hr2 : jgWc σ + 3 + lenAt (jgW (wR σ (rKey k d))) (jgWc σ) < 700) (hr3 : byt (jgW (wR σ (rKey k d))) 700) (hr4 : jgBc (wR σ (rKey k d)) ≤ 20) (hr5 : jgKc (wR σ (rKey k d)) ≤ 16) : wBv l yX0_learn wsX0_learn ({ frames := 3, cells := 0, slots := 0, locals := 72 } : Room) σ [.long k, .long d] (ofO (follow (wR σ (rKey k d)) (jgWc σ)) (wR σ (rKey k d))) := by
  intro dC dI cI cJ h sz
  refine Met.ofW (cc := cX0_learn) (maxL := 6) (ret := none) (by decide) rfl ?_
  intro p e s m args below meth c s₁ B hml hv
  obtain ⟨rfl, hsz, hP, hK, hD0⟩ := hv
  have hx := B.exec
  have hb := B.bytes
  have hr := B.returns
  have hts := atoms_spec (ws := wsX0_learn) B.pre
  have hown : s.vm.findClass RX0 = some m.cls := findClass_of_methodNamed B.named
  have hlocks := B.notSynchronized
  subst hsz
  have htg : ∀ w ∈ GW, w.before _ s = true := fun w h => hts w (List.mem_cons_of_mem _ h)
  have hD := hD0.self (sz := s.heap.size)
  generalize hAe : va_A (wBJ cI cJ h σ) s.heap.size = A at hD ⊢
  have hA : ∀ q : Nat, s.heap.size ≤ q → A q := fun q h => by rw [← hAe]; exact Or.inr h
  have hS : va_S A s.heap s.heap [] := va_S.rf
  have hl := lv_entry [.ref (h 0), .long k, .long d] (n := 6) (Nat.le_of_ble_eq_true rfl)
  rw [lg_entry_eq]
  generalize (lg_sl [.ref (h 0), .long k, .long d] ++ List.replicate (6 - (lg_sl [.ref (h 0), .long k, .long d]).length) Slot.unset).toArray = ls at hl ⊢
  have hl : lv_has ls 6 [(0, .ref (h 0)), (1, .long k), (3, .long d)] := hl
  have hP : va_P (dC, dI) vwCl (wBJ cI cJ h σ) s.heap := hP
  refine lv_aload_n hx hb dX0_learn_0 rfl (lv_at hl 0 rfl) ?_
  refine lv_lload_n hx hb dX0_learn_1 rfl (lv_at hl 1 rfl) ?_
  refine bj_ri (As := [.long k]) (rest := []) (n := 1) ⟨hx, hb, hml, hown, htg⟩ (c_findKey l σ k (by omega)) (cwV 1 htg gX0_103 rfl rfl rfl (by decide +kernel) ⟨Nat.le_of_ble_eq_true rfl, Nat.le_of_ble_eq_true rfl⟩) hK hP hD hS hA hl.1 rfl rfl (Nat.le_of_ble_eq_true rfl) dX0_learn_2 (Nat.zero_le _) (Nat.zero_le _) (fun H locs hP hS => ?_)
  rw [hf]
  refine W.eq (g2 := F0 m 5 ls [.int (-1)]) rfl ?_
  refine lv_istore (lv' := [(5, .int (-1)), (0, .ref (h 0)), (1, .long k), (3, .long d)]) hx hb dX0_learn_5 hl (by decide) rfl (fun ls hl => ?_)
  refine lv_iload hx hb dX0_learn_7 (lv_at hl 0 rfl) ?_
  refine lv_iconst (v := -1) hx hb dX0_learn_9 (by decide) ?_
  refine lv_icmp_ne (tgt := 32) hx hb dX0_learn_10 (by decide) (fun c => absurd rfl c) (fun _ => ?_)
  refine lv_aload_n hx hb dX0_learn_13 rfl (lv_at hl 1 rfl) ?_
  refine va_get (D := (dC, dI)) (ci := 0) (v := .int (nI (jgKc σ))) (C := RX0) (T := TX0) (N := 14) hx hb htg inX0 (fs := fsBJ h σ) hown hK hP 0 rfl rfl 12 (by decide) (htg _ fX0_106) (fun _ h9 => h9) rfl dX0_learn_14 ?_
  refine lv_bipush (v := nI 16) hx hb dX0_learn_17 (by decide) ?_
  refine xr_icmp_lt (tgt := 32) hx hb dX0_learn_19 (by decide) (by omega) (by omega) (fun c19 => ?_) (fun c19 => absurd c19 (by omega))
  refine lv_iload hx hb dX0_learn_32 (lv_at hl 0 rfl) ?_
  refine lv_iconst (v := -1) hx hb dX0_learn_34 (by decide) ?_
  refine lv_icmp_eq (tgt := 50) hx hb dX0_learn_35 (by decide) (fun _ => ?_) (fun c => absurd rfl c)
  refine lv_aload_n hx hb dX0_learn_50 rfl (lv_at hl 1 rfl) ?_
  refine lv_bipush (v := nI 16) hx hb dX0_learn_51 (by decide) ?_
  refine bj_rv (As := [.int (nI 16)]) (rest := []) (n := 1) ⟨hx, hb, hml, hown, htg⟩ (c_demandRoom l σ 16 (by omega)) (cwV 1 htg gX0_73 rfl rfl rfl (by decide +kernel) ⟨Nat.le_of_ble_eq_true rfl, Nat.le_of_ble_eq_true rfl⟩) hK hP hD hS hA hl.1 rfl rfl (Nat.le_of_ble_eq_true rfl) dX0_learn_53 (Nat.zero_le _) (Nat.zero_le _) (fun H locs hP hS => ?_)
  refine lv_aload_n hx hb dX0_learn_56 rfl (lv_at hl 1 rfl) ?_
  refine lv_aload_n hx hb dX0_learn_57 rfl (lv_at hl 1 rfl) ?_
  refine lv_lload_n hx hb dX0_learn_58 rfl (lv_at hl 2 rfl) ?_
  refine lv_lload_n hx hb dX0_learn_59 rfl (lv_at hl 3 rfl) ?_
  refine bj_wi (As := [.long k, .long d]) (rest := [.ref (h 0)]) (n := 2) ⟨hx, hb, hml, hown, htg⟩ (c_writeKey l σ k d (by omega)) (cwV 2 htg gX0_111 rfl rfl rfl (by decide +kernel) ⟨Nat.le_of_ble_eq_true rfl, Nat.le_of_ble_eq_true rfl⟩) hK hP hD hS hA hl.1 rfl rfl (Nat.le_of_ble_eq_true rfl) dX0_learn_60 (Nat.zero_le _) (Nat.zero_le _) (fun H locs hP hD hS => ?_)
  obtain ⟨z1, ez1⟩ : ∃ zq : BJ, zq = wR σ (rKey k d) := ⟨_, rfl⟩
  rw [← ez1] at hP hD
  refine bj_wi (As := [.int (nI (jgWc σ))]) (rest := []) (n := 1) ⟨hx, hb, hml, hown, htg⟩ (c_follow l z1 (jgWc σ) (hr1) (by rw [ez1]; exact hr2) (by rw [ez1]; exact hr3) (by rw [ez1]; exact hr4) (by rw [ez1]; exact hr5)) (cwV 1 htg gX0_81 rfl rfl rfl (by decide +kernel) ⟨Nat.le_of_ble_eq_true rfl, Nat.le_of_ble_eq_true rfl⟩) hK hP hD hS hA hl.1 rfl rfl (Nat.le_of_ble_eq_true rfl) dX0_learn_63 (Nat.zero_le _) (Nat.zero_le _) (fun H locs hP hD hS => ?_)
  obtain ⟨z2, ez2⟩ : ∃ zq : BJ, zq = ofO (follow z1 (jgWc σ)) z1 := ⟨_, rfl⟩
  rw [← ez2] at hP hD
  refine lv_pop hx hb dX0_learn_66 rfl ?_
  have hfin : z2 = ofO (follow (wR σ (rKey k d)) (jgWc σ)) (wR σ (rKey k d)) := by rw [ez2, ez1]
  rw [hfin] at hP hD
  exact W.vret hx hb hr (fun t ht hW => ⟨⟨(), rfl, trivial, by rw [ht]; exact hP, va_K.moved hW.alike hK, hD⟩, hS.F ht⟩) hS.2.2 dX0_learn_67
set_option maxRecDepth 100000 in
set_option maxHeartbeats 4000000 in
theorem c_tagO (l : Launch) (σ : BJ) (t : Nat) (ht : t < 8) (hs : jgTB σ t = -1) : rBl l yX0_tag wsX0_tag ({ frames := 2, cells := 0, slots := 0, locals := 40 } : Room) σ [.int (nI t)] 0 := by
  intro dC dI cI cJ h sz
  refine Met.ofW (cc := cX0_tag) (maxL := 3) (ret := (some .long)) (by decide) rfl ?_
  intro p e s m args below meth c s₁ B hml hv
  obtain ⟨rfl, hsz, hP, hK, hD0⟩ := hv
  have hx := B.exec
  have hb := B.bytes
  have hr := B.returns
  have hts := atoms_spec (ws := wsX0_tag) B.pre
  have hown : s.vm.findClass RX0 = some m.cls := findClass_of_methodNamed B.named
  have hlocks := B.notSynchronized
  subst hsz
  have htg : ∀ w ∈ GW, w.before _ s = true := fun w h => hts w (List.mem_cons_of_mem _ h)
  have hD := hD0
  have hA : ∀ q : Nat, s.heap.size ≤ q → (fun q => s.heap.size ≤ q) q := fun _ h => h
  have hS : va_S (fun q => s.heap.size ≤ q) s.heap s.heap [] := va_S.rf
  have hl := lv_entry [.ref (h 0), .int (nI t)] (n := 3) (Nat.le_of_ble_eq_true rfl)
  rw [lg_entry_eq]
  generalize (lg_sl [.ref (h 0), .int (nI t)] ++ List.replicate (3 - (lg_sl [.ref (h 0), .int (nI t)]).length) Slot.unset).toArray = ls at hl ⊢
  have hl : lv_has ls 3 [(0, .ref (h 0)), (1, .int (nI t))] := hl
  have hP : va_P (dC, dI) vwCl (wBJ cI cJ h σ) s.heap := hP
  refine lv_iload_n hx hb dX0_tag_0 rfl (lv_at hl 1 rfl) ?_
  refine xr_rov (va_runS (As := [.int (nI t)]) (rest := []) ⟨hx, hb, hml, hown, htg⟩ (c_demandTag l (nI t) (by rw [isTg_nI (by omega)]; exact decide_eq_true ht) dC dI cI 0 _) (va_cwS 1 htg gX0_85 rfl rfl rfl (by decide +kernel) ⟨Nat.le_of_ble_eq_true rfl, Nat.le_of_ble_eq_true rfl⟩) ⟨fun a U g mk q => q, fun U hU hW => ⟨rfl, by show U.heap.size = _; rw [hU]⟩⟩ rfl rfl hl.1 rfl (lv_room (Nat.le_of_ble_eq_true rfl)) dX0_tag_1 ⟨Nat.zero_le _, Nat.zero_le _⟩) hP hS hA (fun H locs hP hS _ => ?_)
  refine lv_aload_n hx hb dX0_tag_4 rfl (lv_at hl 0 rfl) ?_
  refine va_get (D := (dC, dI)) (ci := 0) (v := .ref (h 6)) (C := RX0) (T := TX0) (N := 14) hx hb htg inX0 (fs := fsBJ h σ) hown hK hP 0 rfl rfl 9 (by decide) (htg _ fX0_26) (fun _ h9 => h9) rfl dX0_tag_5 ?_
  refine lv_iload_n hx hb dX0_tag_8 rfl (lv_at hl 1 rfl) ?_
  refine xr_iald (f := jgTB σ) (i := t) hx hb hK hP 6 0 rfl rfl (by omega) (by decide) dX0_tag_9 ?_
  refine W.eq (g2 := F0 m 10 ls [.int (-1)]) (by rw [hs]) ?_
  refine lv_istore_n (lv' := [(2, .int (-1)), (0, .ref (h 0)), (1, .int (nI t))]) hx hb dX0_tag_10 rfl hl (by decide) rfl (fun ls hl => ?_)
  refine lv_iload_n hx hb dX0_tag_11 rfl (lv_at hl 0 rfl) ?_
  refine lv_iconst (v := -1) hx hb dX0_tag_12 (by decide) ?_
  refine lv_icmp_ne (tgt := 20) hx hb dX0_tag_13 (by decide) (fun c => absurd rfl c) (fun _ => ?_)
  refine lv_lconst (v := 0) hx hb dX0_tag_16 (by decide) ?_
  refine lv_goto (tgt := 26) hx hb dX0_tag_17 (by decide) ?_
  exact W.lret (v := 0) hx hb hr (fun t ht hW => ⟨⟨_, (), rfl, rfl, trivial⟩, hS.F ht⟩) hS.2.2 dX0_tag_26
set_option maxRecDepth 100000 in
set_option maxHeartbeats 4000000 in
theorem c_tagN (l : Launch) (σ : BJ) (t : Nat) (b : Nat) (ht : t < 8) (hs : jgTB σ t = nI b) (hb9 : b < 20) : rBl l yX0_tag wsX0_tag ({ frames := 2, cells := 0, slots := 0, locals := 40 } : Room) σ [.int (nI t)] (jgBD σ b) := by
  intro dC dI cI cJ h sz
  refine Met.ofW (cc := cX0_tag) (maxL := 3) (ret := (some .long)) (by decide) rfl ?_
  intro p e s m args below meth c s₁ B hml hv
  obtain ⟨rfl, hsz, hP, hK, hD0⟩ := hv
  have hx := B.exec
  have hb := B.bytes
  have hr := B.returns
  have hts := atoms_spec (ws := wsX0_tag) B.pre
  have hown : s.vm.findClass RX0 = some m.cls := findClass_of_methodNamed B.named
  have hlocks := B.notSynchronized
  subst hsz
  have htg : ∀ w ∈ GW, w.before _ s = true := fun w h => hts w (List.mem_cons_of_mem _ h)
  have hD := hD0
  have hA : ∀ q : Nat, s.heap.size ≤ q → (fun q => s.heap.size ≤ q) q := fun _ h => h
  have hS : va_S (fun q => s.heap.size ≤ q) s.heap s.heap [] := va_S.rf
  have hl := lv_entry [.ref (h 0), .int (nI t)] (n := 3) (Nat.le_of_ble_eq_true rfl)
  rw [lg_entry_eq]
  generalize (lg_sl [.ref (h 0), .int (nI t)] ++ List.replicate (3 - (lg_sl [.ref (h 0), .int (nI t)]).length) Slot.unset).toArray = ls at hl ⊢
  have hl : lv_has ls 3 [(0, .ref (h 0)), (1, .int (nI t))] := hl
  have hP : va_P (dC, dI) vwCl (wBJ cI cJ h σ) s.heap := hP
  refine lv_iload_n hx hb dX0_tag_0 rfl (lv_at hl 1 rfl) ?_
  refine xr_rov (va_runS (As := [.int (nI t)]) (rest := []) ⟨hx, hb, hml, hown, htg⟩ (c_demandTag l (nI t) (by rw [isTg_nI (by omega)]; exact decide_eq_true ht) dC dI cI 0 _) (va_cwS 1 htg gX0_85 rfl rfl rfl (by decide +kernel) ⟨Nat.le_of_ble_eq_true rfl, Nat.le_of_ble_eq_true rfl⟩) ⟨fun a U g mk q => q, fun U hU hW => ⟨rfl, by show U.heap.size = _; rw [hU]⟩⟩ rfl rfl hl.1 rfl (lv_room (Nat.le_of_ble_eq_true rfl)) dX0_tag_1 ⟨Nat.zero_le _, Nat.zero_le _⟩) hP hS hA (fun H locs hP hS _ => ?_)
  refine lv_aload_n hx hb dX0_tag_4 rfl (lv_at hl 0 rfl) ?_
  refine va_get (D := (dC, dI)) (ci := 0) (v := .ref (h 6)) (C := RX0) (T := TX0) (N := 14) hx hb htg inX0 (fs := fsBJ h σ) hown hK hP 0 rfl rfl 9 (by decide) (htg _ fX0_26) (fun _ h9 => h9) rfl dX0_tag_5 ?_
  refine lv_iload_n hx hb dX0_tag_8 rfl (lv_at hl 1 rfl) ?_
  refine xr_iald (f := jgTB σ) (i := t) hx hb hK hP 6 0 rfl rfl (by omega) (by decide) dX0_tag_9 ?_
  refine W.eq (g2 := F0 m 10 ls [.int (nI b)]) (by rw [hs]) ?_
  refine lv_istore_n (lv' := [(2, .int (nI b)), (0, .ref (h 0)), (1, .int (nI t))]) hx hb dX0_tag_10 rfl hl (by decide) rfl (fun ls hl => ?_)
  refine lv_iload_n hx hb dX0_tag_11 rfl (lv_at hl 0 rfl) ?_
  refine lv_iconst (v := -1) hx hb dX0_tag_12 (by decide) ?_
  refine lv_icmp_ne (tgt := 20) hx hb dX0_tag_13 (by decide) (fun _ => ?_) (fun c => absurd c (optI_none (by omega)))
  refine lv_aload_n hx hb dX0_tag_20 rfl (lv_at hl 1 rfl) ?_
  refine va_get (D := (dC, dI)) (ci := 0) (v := .ref (h 3)) (C := RX0) (T := TX0) (N := 14) hx hb htg inX0 (fs := fsBJ h σ) hown hK hP 0 rfl rfl 5 (by decide) (htg _ fX0_16) (fun _ h9 => h9) rfl dX0_tag_21 ?_
  refine lv_iload_n hx hb dX0_tag_24 rfl (lv_at hl 0 rfl) ?_
  refine xr_lald (f := jgBD σ) (i := b) hx hb hK hP 3 1 rfl rfl (by omega) (by decide) dX0_tag_25 ?_
  exact W.lret (v := (jgBD σ) b) hx hb hr (fun t ht hW => ⟨⟨_, (), rfl, rfl, trivial⟩, hS.F ht⟩) hS.2.2 dX0_tag_26
set_option maxRecDepth 100000 in
set_option maxHeartbeats 4000000 in
theorem c_count0 (l : Launch) (σ : BJ) : rBi l yX0_count wsX0_count ({ frames := 0, cells := 0, slots := 0, locals := 0 } : Room) σ [.int (nI 0)] (nI (jgBc σ)) := by
  intro dC dI cI cJ h sz
  refine Met.ofW (cc := cX0_count) (maxL := 2) (ret := (some .int)) (by decide) rfl ?_
  intro p e s m args below meth c s₁ B hml hv
  obtain ⟨rfl, hsz, hP, hK, hD0⟩ := hv
  have hx := B.exec
  have hb := B.bytes
  have hr := B.returns
  have hts := atoms_spec (ws := wsX0_count) B.pre
  have hown : s.vm.findClass RX0 = some m.cls := findClass_of_methodNamed B.named
  have hlocks := B.notSynchronized
  subst hsz
  have htg : ∀ w ∈ GW, w.before _ s = true := fun w h => hts w (List.mem_cons_of_mem _ h)
  have hD := hD0
  have hA : ∀ q : Nat, s.heap.size ≤ q → (fun q => s.heap.size ≤ q) q := fun _ h => h
  have hS : va_S (fun q => s.heap.size ≤ q) s.heap s.heap [] := va_S.rf
  have hl := lv_entry [.ref (h 0), .int (nI 0)] (n := 2) (Nat.le_of_ble_eq_true rfl)
  rw [lg_entry_eq]
  generalize (lg_sl [.ref (h 0), .int (nI 0)] ++ List.replicate (2 - (lg_sl [.ref (h 0), .int (nI 0)]).length) Slot.unset).toArray = ls at hl ⊢
  have hl : lv_has ls 2 [(0, .ref (h 0)), (1, .int (nI 0))] := hl
  have hP : va_P (dC, dI) vwCl (wBJ cI cJ h σ) s.heap := hP
  refine lv_iload_n hx hb dX0_count_0 rfl (lv_at hl 1 rfl) ?_
  refine lv_tableIn (tgt := 32) (off := 31) hx hb dX0_count_1 (by decide) (by decide) (by decide) (by decide) ?_
  refine lv_aload_n hx hb dX0_count_32 rfl (lv_at hl 0 rfl) ?_
  refine va_get (D := (dC, dI)) (ci := 0) (v := .int (nI (jgBc σ))) (C := RX0) (T := TX0) (N := 14) hx hb htg inX0 (fs := fsBJ h σ) hown hK hP 0 rfl rfl 8 (by decide) (htg _ fX0_68) (fun _ h9 => h9) rfl dX0_count_33 ?_
  exact W.iret (v := nI (jgBc σ)) hx hb hr (fun t ht hW => ⟨⟨_, (), rfl, rfl, trivial⟩, hS.F ht⟩) hS.2.2 dX0_count_36
set_option maxRecDepth 100000 in
set_option maxHeartbeats 4000000 in
theorem c_count1 (l : Launch) (σ : BJ) : rBi l yX0_count wsX0_count ({ frames := 0, cells := 0, slots := 0, locals := 0 } : Room) σ [.int (nI 1)] (nI (jgKc σ)) := by
  intro dC dI cI cJ h sz
  refine Met.ofW (cc := cX0_count) (maxL := 2) (ret := (some .int)) (by decide) rfl ?_
  intro p e s m args below meth c s₁ B hml hv
  obtain ⟨rfl, hsz, hP, hK, hD0⟩ := hv
  have hx := B.exec
  have hb := B.bytes
  have hr := B.returns
  have hts := atoms_spec (ws := wsX0_count) B.pre
  have hown : s.vm.findClass RX0 = some m.cls := findClass_of_methodNamed B.named
  have hlocks := B.notSynchronized
  subst hsz
  have htg : ∀ w ∈ GW, w.before _ s = true := fun w h => hts w (List.mem_cons_of_mem _ h)
  have hD := hD0
  have hA : ∀ q : Nat, s.heap.size ≤ q → (fun q => s.heap.size ≤ q) q := fun _ h => h
  have hS : va_S (fun q => s.heap.size ≤ q) s.heap s.heap [] := va_S.rf
  have hl := lv_entry [.ref (h 0), .int (nI 1)] (n := 2) (Nat.le_of_ble_eq_true rfl)
  rw [lg_entry_eq]
  generalize (lg_sl [.ref (h 0), .int (nI 1)] ++ List.replicate (2 - (lg_sl [.ref (h 0), .int (nI 1)]).length) Slot.unset).toArray = ls at hl ⊢
  have hl : lv_has ls 2 [(0, .ref (h 0)), (1, .int (nI 1))] := hl
  have hP : va_P (dC, dI) vwCl (wBJ cI cJ h σ) s.heap := hP
  refine lv_iload_n hx hb dX0_count_0 rfl (lv_at hl 1 rfl) ?_
  refine lv_tableIn (tgt := 37) (off := 36) hx hb dX0_count_1 (by decide) (by decide) (by decide) (by decide) ?_
  refine lv_aload_n hx hb dX0_count_37 rfl (lv_at hl 0 rfl) ?_
  refine va_get (D := (dC, dI)) (ci := 0) (v := .int (nI (jgKc σ))) (C := RX0) (T := TX0) (N := 14) hx hb htg inX0 (fs := fsBJ h σ) hown hK hP 0 rfl rfl 12 (by decide) (htg _ fX0_106) (fun _ h9 => h9) rfl dX0_count_38 ?_
  exact W.iret (v := nI (jgKc σ)) hx hb hr (fun t ht hW => ⟨⟨_, (), rfl, rfl, trivial⟩, hS.F ht⟩) hS.2.2 dX0_count_41
set_option maxRecDepth 100000 in
set_option maxHeartbeats 4000000 in
theorem c_count2 (l : Launch) (σ : BJ) : rBi l yX0_count wsX0_count ({ frames := 0, cells := 0, slots := 0, locals := 0 } : Room) σ [.int (nI 2)] (nI (jgWc σ)) := by
  intro dC dI cI cJ h sz
  refine Met.ofW (cc := cX0_count) (maxL := 2) (ret := (some .int)) (by decide) rfl ?_
  intro p e s m args below meth c s₁ B hml hv
  obtain ⟨rfl, hsz, hP, hK, hD0⟩ := hv
  have hx := B.exec
  have hb := B.bytes
  have hr := B.returns
  have hts := atoms_spec (ws := wsX0_count) B.pre
  have hown : s.vm.findClass RX0 = some m.cls := findClass_of_methodNamed B.named
  have hlocks := B.notSynchronized
  subst hsz
  have htg : ∀ w ∈ GW, w.before _ s = true := fun w h => hts w (List.mem_cons_of_mem _ h)
  have hD := hD0
  have hA : ∀ q : Nat, s.heap.size ≤ q → (fun q => s.heap.size ≤ q) q := fun _ h => h
  have hS : va_S (fun q => s.heap.size ≤ q) s.heap s.heap [] := va_S.rf
  have hl := lv_entry [.ref (h 0), .int (nI 2)] (n := 2) (Nat.le_of_ble_eq_true rfl)
  rw [lg_entry_eq]
  generalize (lg_sl [.ref (h 0), .int (nI 2)] ++ List.replicate (2 - (lg_sl [.ref (h 0), .int (nI 2)]).length) Slot.unset).toArray = ls at hl ⊢
  have hl : lv_has ls 2 [(0, .ref (h 0)), (1, .int (nI 2))] := hl
  have hP : va_P (dC, dI) vwCl (wBJ cI cJ h σ) s.heap := hP
  refine lv_iload_n hx hb dX0_count_0 rfl (lv_at hl 1 rfl) ?_
  refine lv_tableIn (tgt := 42) (off := 41) hx hb dX0_count_1 (by decide) (by decide) (by decide) (by decide) ?_
  refine lv_aload_n hx hb dX0_count_42 rfl (lv_at hl 0 rfl) ?_
  refine va_get (D := (dC, dI)) (ci := 0) (v := .int (nI (jgWc σ))) (C := RX0) (T := TX0) (N := 14) hx hb htg inX0 (fs := fsBJ h σ) hown hK hP 0 rfl rfl 3 (by decide) (htg _ fX0_124) (fun _ h9 => h9) rfl dX0_count_43 ?_
  exact W.iret (v := nI (jgWc σ)) hx hb hr (fun t ht hW => ⟨⟨_, (), rfl, rfl, trivial⟩, hS.F ht⟩) hS.2.2 dX0_count_46
set_option maxRecDepth 100000 in
set_option maxHeartbeats 4000000 in
theorem c_count3 (l : Launch) (σ : BJ) : rBi l yX0_count wsX0_count ({ frames := 0, cells := 0, slots := 0, locals := 0 } : Room) σ [.int (nI 3)] (nI (jgSc σ)) := by
  intro dC dI cI cJ h sz
  refine Met.ofW (cc := cX0_count) (maxL := 2) (ret := (some .int)) (by decide) rfl ?_
  intro p e s m args below meth c s₁ B hml hv
  obtain ⟨rfl, hsz, hP, hK, hD0⟩ := hv
  have hx := B.exec
  have hb := B.bytes
  have hr := B.returns
  have hts := atoms_spec (ws := wsX0_count) B.pre
  have hown : s.vm.findClass RX0 = some m.cls := findClass_of_methodNamed B.named
  have hlocks := B.notSynchronized
  subst hsz
  have htg : ∀ w ∈ GW, w.before _ s = true := fun w h => hts w (List.mem_cons_of_mem _ h)
  have hD := hD0
  have hA : ∀ q : Nat, s.heap.size ≤ q → (fun q => s.heap.size ≤ q) q := fun _ h => h
  have hS : va_S (fun q => s.heap.size ≤ q) s.heap s.heap [] := va_S.rf
  have hl := lv_entry [.ref (h 0), .int (nI 3)] (n := 2) (Nat.le_of_ble_eq_true rfl)
  rw [lg_entry_eq]
  generalize (lg_sl [.ref (h 0), .int (nI 3)] ++ List.replicate (2 - (lg_sl [.ref (h 0), .int (nI 3)]).length) Slot.unset).toArray = ls at hl ⊢
  have hl : lv_has ls 2 [(0, .ref (h 0)), (1, .int (nI 3))] := hl
  have hP : va_P (dC, dI) vwCl (wBJ cI cJ h σ) s.heap := hP
  refine lv_iload_n hx hb dX0_count_0 rfl (lv_at hl 1 rfl) ?_
  refine lv_tableIn (tgt := 47) (off := 46) hx hb dX0_count_1 (by decide) (by decide) (by decide) (by decide) ?_
  refine lv_aload_n hx hb dX0_count_47 rfl (lv_at hl 0 rfl) ?_
  refine va_get (D := (dC, dI)) (ci := 0) (v := .int (nI (jgSc σ))) (C := RX0) (T := TX0) (N := 14) hx hb htg inX0 (fs := fsBJ h σ) hown hK hP 0 rfl rfl 4 (by decide) (htg _ fX0_127) (fun _ h9 => h9) rfl dX0_count_48 ?_
  exact W.iret (v := nI (jgSc σ)) hx hb hr (fun t ht hW => ⟨⟨_, (), rfl, rfl, trivial⟩, hS.F ht⟩) hS.2.2 dX0_count_51
set_option maxRecDepth 100000 in
set_option maxHeartbeats 4000000 in
theorem c_crashO (l : Launch) (σ : BJ) (n : Nat) (sp : Int32) (hn : n ≤ jgWc σ - jgSc σ) (hsc : jgSc σ ≤ jgWc σ) (hw : jgWc σ ≤ 700) (hby : byt (jgW σ) 700) (hno : sp < 0 ∨ nI n ≤ sp) : wBi l yX0_crash wsX0_crash ({ frames := 4, cells := 0, slots := 0, locals := 95 } : Room) σ [.int (nI n), .int sp] (nI (jgWc (restore (juPD (juWc σ (jgSc σ + n)) (flJ (jgPD σ) 0 4))))) (restore (juPD (juWc σ (jgSc σ + n)) (flJ (jgPD σ) 0 4))) := by
  intro dC dI cI cJ h sz
  refine Met.ofW (cc := cX0_crash) (maxL := 3) (ret := (some .int)) (by decide) rfl ?_
  intro p e s m args below meth c s₁ B hml hv
  obtain ⟨rfl, hsz, hP, hK, hD0⟩ := hv
  have hx := B.exec
  have hb := B.bytes
  have hr := B.returns
  have hts := atoms_spec (ws := wsX0_crash) B.pre
  have hown : s.vm.findClass RX0 = some m.cls := findClass_of_methodNamed B.named
  have hlocks := B.notSynchronized
  subst hsz
  have htg : ∀ w ∈ GW, w.before _ s = true := fun w h => hts w (List.mem_cons_of_mem _ h)
  have hD := hD0.self (sz := s.heap.size)
  generalize hAe : va_A (wBJ cI cJ h σ) s.heap.size = A at hD ⊢
  have hA : ∀ q : Nat, s.heap.size ≤ q → A q := fun q h => by rw [← hAe]; exact Or.inr h
  have hS : va_S A s.heap s.heap [] := va_S.rf
  have hl := lv_entry [.ref (h 0), .int (nI n), .int sp] (n := 3) (Nat.le_of_ble_eq_true rfl)
  rw [lg_entry_eq]
  generalize (lg_sl [.ref (h 0), .int (nI n), .int sp] ++ List.replicate (3 - (lg_sl [.ref (h 0), .int (nI n), .int sp]).length) Slot.unset).toArray = ls at hl ⊢
  have hl : lv_has ls 3 [(0, .ref (h 0)), (1, .int (nI n)), (2, .int sp)] := hl
  have hP : va_P (dC, dI) vwCl (wBJ cI cJ h σ) s.heap := hP
  refine lv_iload_n hx hb dX0_crash_0 rfl (lv_at hl 1 rfl) ?_
  refine lv_if_lt (tgt := 17) hx hb dX0_crash_1 (by decide) (fun c1 => absurd c1 (by exact nI_pos (by omega))) (fun c1 => ?_)
  refine lv_iload_n hx hb dX0_crash_4 rfl (lv_at hl 1 rfl) ?_
  refine lv_aload_n hx hb dX0_crash_5 rfl (lv_at hl 0 rfl) ?_
  refine va_get (D := (dC, dI)) (ci := 0) (v := .int (nI (jgWc σ))) (C := RX0) (T := TX0) (N := 14) hx hb htg inX0 (fs := fsBJ h σ) hown hK hP 0 rfl rfl 3 (by decide) (htg _ fX0_124) (fun _ h9 => h9) rfl dX0_crash_6 ?_
  refine lv_aload_n hx hb dX0_crash_9 rfl (lv_at hl 0 rfl) ?_
  refine va_get (D := (dC, dI)) (ci := 0) (v := .int (nI (jgSc σ))) (C := RX0) (T := TX0) (N := 14) hx hb htg inX0 (fs := fsBJ h σ) hown hK hP 0 rfl rfl 4 (by decide) (htg _ fX0_127) (fun _ h9 => h9) rfl dX0_crash_10 ?_
  refine xr_isub hx hb (by omega) dX0_crash_13 ?_
  refine xr_icmp_le (tgt := 27) hx hb dX0_crash_14 (by decide) (by omega) (by omega) (fun c14 => ?_) (fun c14 => absurd c14 (by omega))
  refine lv_iload_n hx hb dX0_crash_27 rfl (lv_at hl 2 rfl) ?_
  refine lv_if_lt (tgt := 53) hx hb dX0_crash_28 (by decide) (fun c28 => ?_) (fun c28 => ?_)
  · refine lv_aload_n hx hb dX0_crash_53 rfl (lv_at hl 0 rfl) ?_
    refine lv_aload_n hx hb dX0_crash_54 rfl (lv_at hl 0 rfl) ?_
    refine va_get (D := (dC, dI)) (ci := 0) (v := .int (nI (jgSc σ))) (C := RX0) (T := TX0) (N := 14) hx hb htg inX0 (fs := fsBJ h σ) hown hK hP 0 rfl rfl 4 (by decide) (htg _ fX0_127) (fun _ h9 => h9) rfl dX0_crash_55 ?_
    refine lv_iload_n hx hb dX0_crash_58 rfl (lv_at hl 1 rfl) ?_
    refine xr_iadd hx hb dX0_crash_59 ?_
    refine va_put (D := (dC, dI)) (ci := 0) (v := .int (nI (jgSc σ + n))) (ty := .int) (C := RX0) (T := TX0) (N := 14) hx hb htg inX0 tyX0 tyX0_ok nmX0 (fs := fsBJ h σ) hown hK hP hD hS 0 rfl rfl 3 (by decide) (htg _ fX0_124) (fun _ h9 => h9) rfl (by decide +kernel) rfl rfl (Nat.le_of_ble_eq_true rfl) dX0_crash_60 (fun H locs hP hD hS => ?_)
    rw [wBJ_Wc] at hP hD
    refine lv_aload_n hx hb dX0_crash_63 rfl (lv_at hl 0 rfl) ?_
    refine va_get (D := (dC, dI)) (ci := 0) (v := .ref (h 9)) (C := RX0) (T := TX0) (N := 14) hx hb htg inX0 (fs := fsBJ h (juWc σ (jgSc σ + n))) hown hK hP 0 rfl rfl 13 (by decide) (htg _ fX0_41) (fun _ h9 => h9) rfl dX0_crash_64 ?_
    refine lv_lconst (v := 0) hx hb dX0_crash_67 (by decide) ?_
    refine xr_fillJ (f := jgPD σ) (v := 0) (rest := []) ⟨hx, hb, hml, hown, htg⟩ gX0_136 (Nat.le_of_ble_eq_true rfl) (Nat.le_of_ble_eq_true rfl) hK hP hD hS hA 9 1 rfl rfl (by decide) hl.1 (Nat.le_of_ble_eq_true rfl) dX0_crash_68 (Nat.zero_le _) (Nat.zero_le _) (fun H locs hP hD hS => ?_)
    rw [wBJ_PD] at hP hD
    refine lv_aload_n hx hb dX0_crash_71 rfl (lv_at hl 0 rfl) ?_
    refine bj_wv (As := []) (rest := []) (n := 0) ⟨hx, hb, hml, hown, htg⟩ (c_restore l (juPD (juWc σ (jgSc σ + n)) (flJ (jgPD σ) 0 4))  (by show jgSc σ + n ≤ 700; omega) (hby)) (cwV 0 htg gX0_139 rfl rfl rfl (by decide +kernel) ⟨Nat.le_of_ble_eq_true rfl, Nat.le_of_ble_eq_true rfl⟩) hK hP hD hS hA hl.1 rfl rfl (Nat.le_of_ble_eq_true rfl) dX0_crash_72 (Nat.zero_le _) (Nat.zero_le _) (fun H locs hP hD hS => ?_)
    obtain ⟨z1, ez1⟩ : ∃ zq : BJ, zq = restore (juPD (juWc σ (jgSc σ + n)) (flJ (jgPD σ) 0 4)) := ⟨_, rfl⟩
    rw [← ez1] at hP hD
    refine lv_aload_n hx hb dX0_crash_75 rfl (lv_at hl 0 rfl) ?_
    refine va_get (D := (dC, dI)) (ci := 0) (v := .int (nI (jgWc z1))) (C := RX0) (T := TX0) (N := 14) hx hb htg inX0 (fs := fsBJ h z1) hown hK hP 0 rfl rfl 3 (by decide) (htg _ fX0_124) (fun _ h9 => h9) rfl dX0_crash_76 ?_
    have hfin : z1 = restore (juPD (juWc σ (jgSc σ + n)) (flJ (jgPD σ) 0 4)) := ez1
    rw [hfin] at hP hD
    exact W.iret (v := nI (jgWc z1)) hx hb hr (fun t ht hW => ⟨⟨_, (), rfl, by rw [ez1], by rw [ht]; exact hP, va_K.moved hW.alike hK, hD⟩, hS.F ht⟩) hS.2.2 dX0_crash_79
  · refine lv_iload_n hx hb dX0_crash_31 rfl (lv_at hl 2 rfl) ?_
    refine lv_iload_n hx hb dX0_crash_32 rfl (lv_at hl 1 rfl) ?_
    refine lv_icmp_ge (tgt := 53) hx hb dX0_crash_33 (by decide) (fun c33 => ?_) (fun c33 => absurd c33 (by exact fun z => z (hno.resolve_left c28)))
    refine lv_aload_n hx hb dX0_crash_53 rfl (lv_at hl 0 rfl) ?_
    refine lv_aload_n hx hb dX0_crash_54 rfl (lv_at hl 0 rfl) ?_
    refine va_get (D := (dC, dI)) (ci := 0) (v := .int (nI (jgSc σ))) (C := RX0) (T := TX0) (N := 14) hx hb htg inX0 (fs := fsBJ h σ) hown hK hP 0 rfl rfl 4 (by decide) (htg _ fX0_127) (fun _ h9 => h9) rfl dX0_crash_55 ?_
    refine lv_iload_n hx hb dX0_crash_58 rfl (lv_at hl 1 rfl) ?_
    refine xr_iadd hx hb dX0_crash_59 ?_
    refine va_put (D := (dC, dI)) (ci := 0) (v := .int (nI (jgSc σ + n))) (ty := .int) (C := RX0) (T := TX0) (N := 14) hx hb htg inX0 tyX0 tyX0_ok nmX0 (fs := fsBJ h σ) hown hK hP hD hS 0 rfl rfl 3 (by decide) (htg _ fX0_124) (fun _ h9 => h9) rfl (by decide +kernel) rfl rfl (Nat.le_of_ble_eq_true rfl) dX0_crash_60 (fun H locs hP hD hS => ?_)
    rw [wBJ_Wc] at hP hD
    refine lv_aload_n hx hb dX0_crash_63 rfl (lv_at hl 0 rfl) ?_
    refine va_get (D := (dC, dI)) (ci := 0) (v := .ref (h 9)) (C := RX0) (T := TX0) (N := 14) hx hb htg inX0 (fs := fsBJ h (juWc σ (jgSc σ + n))) hown hK hP 0 rfl rfl 13 (by decide) (htg _ fX0_41) (fun _ h9 => h9) rfl dX0_crash_64 ?_
    refine lv_lconst (v := 0) hx hb dX0_crash_67 (by decide) ?_
    refine xr_fillJ (f := jgPD σ) (v := 0) (rest := []) ⟨hx, hb, hml, hown, htg⟩ gX0_136 (Nat.le_of_ble_eq_true rfl) (Nat.le_of_ble_eq_true rfl) hK hP hD hS hA 9 1 rfl rfl (by decide) hl.1 (Nat.le_of_ble_eq_true rfl) dX0_crash_68 (Nat.zero_le _) (Nat.zero_le _) (fun H locs hP hD hS => ?_)
    rw [wBJ_PD] at hP hD
    refine lv_aload_n hx hb dX0_crash_71 rfl (lv_at hl 0 rfl) ?_
    refine bj_wv (As := []) (rest := []) (n := 0) ⟨hx, hb, hml, hown, htg⟩ (c_restore l (juPD (juWc σ (jgSc σ + n)) (flJ (jgPD σ) 0 4))  (by show jgSc σ + n ≤ 700; omega) (hby)) (cwV 0 htg gX0_139 rfl rfl rfl (by decide +kernel) ⟨Nat.le_of_ble_eq_true rfl, Nat.le_of_ble_eq_true rfl⟩) hK hP hD hS hA hl.1 rfl rfl (Nat.le_of_ble_eq_true rfl) dX0_crash_72 (Nat.zero_le _) (Nat.zero_le _) (fun H locs hP hD hS => ?_)
    obtain ⟨z2, ez2⟩ : ∃ zq : BJ, zq = restore (juPD (juWc σ (jgSc σ + n)) (flJ (jgPD σ) 0 4)) := ⟨_, rfl⟩
    rw [← ez2] at hP hD
    refine lv_aload_n hx hb dX0_crash_75 rfl (lv_at hl 0 rfl) ?_
    refine va_get (D := (dC, dI)) (ci := 0) (v := .int (nI (jgWc z2))) (C := RX0) (T := TX0) (N := 14) hx hb htg inX0 (fs := fsBJ h z2) hown hK hP 0 rfl rfl 3 (by decide) (htg _ fX0_124) (fun _ h9 => h9) rfl dX0_crash_76 ?_
    have hfin : z2 = restore (juPD (juWc σ (jgSc σ + n)) (flJ (jgPD σ) 0 4)) := ez2
    rw [hfin] at hP hD
    exact W.iret (v := nI (jgWc z2)) hx hb hr (fun t ht hW => ⟨⟨_, (), rfl, by rw [ez2], by rw [ht]; exact hP, va_K.moved hW.alike hK, hD⟩, hS.F ht⟩) hS.2.2 dX0_crash_79
set_option maxRecDepth 100000 in
set_option maxHeartbeats 4000000 in
theorem c_crashN (l : Launch) (σ : BJ) (n : Nat) (k : Nat) (hn : n ≤ jgWc σ - jgSc σ) (hsc : jgSc σ ≤ jgWc σ) (hw : jgWc σ ≤ 700) (hk : k < n) (hby : byt (jgW (juW σ (upd (jgW σ) (jgSc σ + k) (((jgW σ) (jgSc σ + k)) ^^^ (nI 255))))) 700) : wBi l yX0_crash wsX0_crash ({ frames := 4, cells := 0, slots := 0, locals := 95 } : Room) σ [.int (nI n), .int (nI k)] (nI (jgWc (restore (juPD (juWc (juW σ (upd (jgW σ) (jgSc σ + k) (((jgW σ) (jgSc σ + k)) ^^^ (nI 255)))) (jgSc σ + n)) (flJ (jgPD σ) 0 4))))) (restore (juPD (juWc (juW σ (upd (jgW σ) (jgSc σ + k) (((jgW σ) (jgSc σ + k)) ^^^ (nI 255)))) (jgSc σ + n)) (flJ (jgPD σ) 0 4))) := by
  intro dC dI cI cJ h sz
  refine Met.ofW (cc := cX0_crash) (maxL := 3) (ret := (some .int)) (by decide) rfl ?_
  intro p e s m args below meth c s₁ B hml hv
  obtain ⟨rfl, hsz, hP, hK, hD0⟩ := hv
  have hx := B.exec
  have hb := B.bytes
  have hr := B.returns
  have hts := atoms_spec (ws := wsX0_crash) B.pre
  have hown : s.vm.findClass RX0 = some m.cls := findClass_of_methodNamed B.named
  have hlocks := B.notSynchronized
  subst hsz
  have htg : ∀ w ∈ GW, w.before _ s = true := fun w h => hts w (List.mem_cons_of_mem _ h)
  have hD := hD0.self (sz := s.heap.size)
  generalize hAe : va_A (wBJ cI cJ h σ) s.heap.size = A at hD ⊢
  have hA : ∀ q : Nat, s.heap.size ≤ q → A q := fun q h => by rw [← hAe]; exact Or.inr h
  have hS : va_S A s.heap s.heap [] := va_S.rf
  have hl := lv_entry [.ref (h 0), .int (nI n), .int (nI k)] (n := 3) (Nat.le_of_ble_eq_true rfl)
  rw [lg_entry_eq]
  generalize (lg_sl [.ref (h 0), .int (nI n), .int (nI k)] ++ List.replicate (3 - (lg_sl [.ref (h 0), .int (nI n), .int (nI k)]).length) Slot.unset).toArray = ls at hl ⊢
  have hl : lv_has ls 3 [(0, .ref (h 0)), (1, .int (nI n)), (2, .int (nI k))] := hl
  have hP : va_P (dC, dI) vwCl (wBJ cI cJ h σ) s.heap := hP
  refine lv_iload_n hx hb dX0_crash_0 rfl (lv_at hl 1 rfl) ?_
  refine lv_if_lt (tgt := 17) hx hb dX0_crash_1 (by decide) (fun c1 => absurd c1 (by exact nI_pos (by omega))) (fun c1 => ?_)
  refine lv_iload_n hx hb dX0_crash_4 rfl (lv_at hl 1 rfl) ?_
  refine lv_aload_n hx hb dX0_crash_5 rfl (lv_at hl 0 rfl) ?_
  refine va_get (D := (dC, dI)) (ci := 0) (v := .int (nI (jgWc σ))) (C := RX0) (T := TX0) (N := 14) hx hb htg inX0 (fs := fsBJ h σ) hown hK hP 0 rfl rfl 3 (by decide) (htg _ fX0_124) (fun _ h9 => h9) rfl dX0_crash_6 ?_
  refine lv_aload_n hx hb dX0_crash_9 rfl (lv_at hl 0 rfl) ?_
  refine va_get (D := (dC, dI)) (ci := 0) (v := .int (nI (jgSc σ))) (C := RX0) (T := TX0) (N := 14) hx hb htg inX0 (fs := fsBJ h σ) hown hK hP 0 rfl rfl 4 (by decide) (htg _ fX0_127) (fun _ h9 => h9) rfl dX0_crash_10 ?_
  refine xr_isub hx hb (by omega) dX0_crash_13 ?_
  refine xr_icmp_le (tgt := 27) hx hb dX0_crash_14 (by decide) (by omega) (by omega) (fun c14 => ?_) (fun c14 => absurd c14 (by omega))
  refine lv_iload_n hx hb dX0_crash_27 rfl (lv_at hl 2 rfl) ?_
  refine lv_if_lt (tgt := 53) hx hb dX0_crash_28 (by decide) (fun c28 => absurd c28 (by exact nI_pos (by omega))) (fun c28 => ?_)
  refine lv_iload_n hx hb dX0_crash_31 rfl (lv_at hl 2 rfl) ?_
  refine lv_iload_n hx hb dX0_crash_32 rfl (lv_at hl 1 rfl) ?_
  refine xr_icmp_ge (tgt := 53) hx hb dX0_crash_33 (by decide) (by omega) (by omega) (fun c33 => absurd c33 (by omega)) (fun c33 => ?_)
  refine lv_aload_n hx hb dX0_crash_36 rfl (lv_at hl 0 rfl) ?_
  refine va_get (D := (dC, dI)) (ci := 0) (v := .ref (h 2)) (C := RX0) (T := TX0) (N := 14) hx hb htg inX0 (fs := fsBJ h σ) hown hK hP 0 rfl rfl 2 (by decide) (htg _ fX0_13) (fun _ h9 => h9) rfl dX0_crash_37 ?_
  refine lv_aload_n hx hb dX0_crash_40 rfl (lv_at hl 0 rfl) ?_
  refine va_get (D := (dC, dI)) (ci := 0) (v := .int (nI (jgSc σ))) (C := RX0) (T := TX0) (N := 14) hx hb htg inX0 (fs := fsBJ h σ) hown hK hP 0 rfl rfl 4 (by decide) (htg _ fX0_127) (fun _ h9 => h9) rfl dX0_crash_41 ?_
  refine lv_iload_n hx hb dX0_crash_44 rfl (lv_at hl 2 rfl) ?_
  refine xr_iadd hx hb dX0_crash_45 ?_
  refine lv_dup2_11 hx hb dX0_crash_46 rfl rfl ?_
  refine xr_iald (f := jgW σ) (i := jgSc σ + k) hx hb hK hP 2 0 rfl rfl (by omega) (by decide) dX0_crash_47 ?_
  refine lv_sipush (v := nI 255) hx hb dX0_crash_48 (by decide) ?_
  refine lv_ixor hx hb dX0_crash_51 ?_
  refine xr_iast (f := jgW σ) (i := jgSc σ + k) (x := ((jgW σ) (jgSc σ + k)) ^^^ (nI 255)) hx hb hK hP hD hS 2 0 rfl rfl (by omega) (by decide) dX0_crash_52 (fun H locs hP hD hS => ?_)
  rw [wBJ_W] at hP hD
  refine lv_aload_n hx hb dX0_crash_53 rfl (lv_at hl 0 rfl) ?_
  refine lv_aload_n hx hb dX0_crash_54 rfl (lv_at hl 0 rfl) ?_
  refine va_get (D := (dC, dI)) (ci := 0) (v := .int (nI (jgSc σ))) (C := RX0) (T := TX0) (N := 14) hx hb htg inX0 (fs := fsBJ h (juW σ (upd (jgW σ) (jgSc σ + k) (((jgW σ) (jgSc σ + k)) ^^^ (nI 255))))) hown hK hP 0 rfl rfl 4 (by decide) (htg _ fX0_127) (fun _ h9 => h9) rfl dX0_crash_55 ?_
  refine lv_iload_n hx hb dX0_crash_58 rfl (lv_at hl 1 rfl) ?_
  refine xr_iadd hx hb dX0_crash_59 ?_
  refine va_put (D := (dC, dI)) (ci := 0) (v := .int (nI (jgSc σ + n))) (ty := .int) (C := RX0) (T := TX0) (N := 14) hx hb htg inX0 tyX0 tyX0_ok nmX0 (fs := fsBJ h (juW σ (upd (jgW σ) (jgSc σ + k) (((jgW σ) (jgSc σ + k)) ^^^ (nI 255))))) hown hK hP hD hS 0 rfl rfl 3 (by decide) (htg _ fX0_124) (fun _ h9 => h9) rfl (by decide +kernel) rfl rfl (Nat.le_of_ble_eq_true rfl) dX0_crash_60 (fun H locs hP hD hS => ?_)
  rw [wBJ_Wc] at hP hD
  refine lv_aload_n hx hb dX0_crash_63 rfl (lv_at hl 0 rfl) ?_
  refine va_get (D := (dC, dI)) (ci := 0) (v := .ref (h 9)) (C := RX0) (T := TX0) (N := 14) hx hb htg inX0 (fs := fsBJ h (juWc (juW σ (upd (jgW σ) (jgSc σ + k) (((jgW σ) (jgSc σ + k)) ^^^ (nI 255)))) (jgSc σ + n))) hown hK hP 0 rfl rfl 13 (by decide) (htg _ fX0_41) (fun _ h9 => h9) rfl dX0_crash_64 ?_
  refine lv_lconst (v := 0) hx hb dX0_crash_67 (by decide) ?_
  refine xr_fillJ (f := jgPD σ) (v := 0) (rest := []) ⟨hx, hb, hml, hown, htg⟩ gX0_136 (Nat.le_of_ble_eq_true rfl) (Nat.le_of_ble_eq_true rfl) hK hP hD hS hA 9 1 rfl rfl (by decide) hl.1 (Nat.le_of_ble_eq_true rfl) dX0_crash_68 (Nat.zero_le _) (Nat.zero_le _) (fun H locs hP hD hS => ?_)
  rw [wBJ_PD] at hP hD
  refine lv_aload_n hx hb dX0_crash_71 rfl (lv_at hl 0 rfl) ?_
  refine bj_wv (As := []) (rest := []) (n := 0) ⟨hx, hb, hml, hown, htg⟩ (c_restore l (juPD (juWc (juW σ (upd (jgW σ) (jgSc σ + k) (((jgW σ) (jgSc σ + k)) ^^^ (nI 255)))) (jgSc σ + n)) (flJ (jgPD σ) 0 4))  (by show jgSc σ + n ≤ 700; omega) (hby)) (cwV 0 htg gX0_139 rfl rfl rfl (by decide +kernel) ⟨Nat.le_of_ble_eq_true rfl, Nat.le_of_ble_eq_true rfl⟩) hK hP hD hS hA hl.1 rfl rfl (Nat.le_of_ble_eq_true rfl) dX0_crash_72 (Nat.zero_le _) (Nat.zero_le _) (fun H locs hP hD hS => ?_)
  obtain ⟨z1, ez1⟩ : ∃ zq : BJ, zq = restore (juPD (juWc (juW σ (upd (jgW σ) (jgSc σ + k) (((jgW σ) (jgSc σ + k)) ^^^ (nI 255)))) (jgSc σ + n)) (flJ (jgPD σ) 0 4)) := ⟨_, rfl⟩
  rw [← ez1] at hP hD
  refine lv_aload_n hx hb dX0_crash_75 rfl (lv_at hl 0 rfl) ?_
  refine va_get (D := (dC, dI)) (ci := 0) (v := .int (nI (jgWc z1))) (C := RX0) (T := TX0) (N := 14) hx hb htg inX0 (fs := fsBJ h z1) hown hK hP 0 rfl rfl 3 (by decide) (htg _ fX0_124) (fun _ h9 => h9) rfl dX0_crash_76 ?_
  have hfin : z1 = restore (juPD (juWc (juW σ (upd (jgW σ) (jgSc σ + k) (((jgW σ) (jgSc σ + k)) ^^^ (nI 255)))) (jgSc σ + n)) (flJ (jgPD σ) 0 4)) := ez1
  rw [hfin] at hP hD
  exact W.iret (v := nI (jgWc z1)) hx hb hr (fun t ht hW => ⟨⟨_, (), rfl, by rw [ez1], by rw [ht]; exact hP, va_K.moved hW.alike hK, hD⟩, hS.F ht⟩) hS.2.2 dX0_crash_79
set_option maxRecDepth 100000 in
set_option maxHeartbeats 4000000 in
theorem c_collect (l : Launch) (σ : BJ) (hc : jgBc σ ≤ 20) (hkc : jgKc σ ≤ 16) (h1 : ∀ i, i < jgBc σ → rbOk (juWc σ 0) i) (h2 : ∀ t, t < 8 → rtOk (co1 σ) t) (h3 : ∀ i, i < jgKc σ → rkOk (co2 σ) i) (h4 : jgWc (co3 σ) ≤ 700) (h5 : byt (jgW (co3 σ)) 700) (h6 : jgBc (restore (co3 σ)) ≤ jgBc σ) : wBi l yX0_collect wsX0_collect ({ frames := 4, cells := 0, slots := 0, locals := 95 } : Room) σ [] (nI (jgBc σ - jgBc (restore (co3 σ)))) (restore (co3 σ)) := by
  intro dC dI cI cJ h sz
  refine Met.ofW (cc := cX0_collect) (maxL := 2) (ret := (some .int)) (by decide) rfl ?_
  intro p e s m args below meth c s₁ B hml hv
  obtain ⟨rfl, hsz, hP, hK, hD0⟩ := hv
  have hx := B.exec
  have hb := B.bytes
  have hr := B.returns
  have hts := atoms_spec (ws := wsX0_collect) B.pre
  have hown : s.vm.findClass RX0 = some m.cls := findClass_of_methodNamed B.named
  have hlocks := B.notSynchronized
  subst hsz
  have htg : ∀ w ∈ GW, w.before _ s = true := fun w h => hts w (List.mem_cons_of_mem _ h)
  have hD := hD0.self (sz := s.heap.size)
  generalize hAe : va_A (wBJ cI cJ h σ) s.heap.size = A at hD ⊢
  have hA : ∀ q : Nat, s.heap.size ≤ q → A q := fun q h => by rw [← hAe]; exact Or.inr h
  have hS : va_S A s.heap s.heap [] := va_S.rf
  have hl := lv_entry [.ref (h 0)] (n := 2) (Nat.le_of_ble_eq_true rfl)
  rw [lg_entry_eq]
  generalize (lg_sl [.ref (h 0)] ++ List.replicate (2 - (lg_sl [.ref (h 0)]).length) Slot.unset).toArray = ls at hl ⊢
  have hl : lv_has ls 2 [(0, .ref (h 0))] := hl
  have hP : va_P (dC, dI) vwCl (wBJ cI cJ h σ) s.heap := hP
  refine lv_aload_n hx hb dX0_collect_0 rfl (lv_at hl 0 rfl) ?_
  refine va_get (D := (dC, dI)) (ci := 0) (v := .int (nI (jgBc σ))) (C := RX0) (T := TX0) (N := 14) hx hb htg inX0 (fs := fsBJ h σ) hown hK hP 0 rfl rfl 8 (by decide) (htg _ fX0_68) (fun _ h9 => h9) rfl dX0_collect_1 ?_
  refine lv_istore_n (lv' := [(1, .int (nI (jgBc σ))), (0, .ref (h 0))]) hx hb dX0_collect_4 rfl hl (by decide) rfl (fun ls hl => ?_)
  refine lv_aload_n hx hb dX0_collect_5 rfl (lv_at hl 1 rfl) ?_
  refine lv_iconst (v := nI 0) hx hb dX0_collect_6 (by decide) ?_
  refine va_put (D := (dC, dI)) (ci := 0) (v := .int (nI 0)) (ty := .int) (C := RX0) (T := TX0) (N := 14) hx hb htg inX0 tyX0 tyX0_ok nmX0 (fs := fsBJ h σ) hown hK hP hD hS 0 rfl rfl 3 (by decide) (htg _ fX0_124) (fun _ h9 => h9) rfl (by decide +kernel) rfl rfl (Nat.le_of_ble_eq_true rfl) dX0_collect_7 (fun H locs hP hD hS => ?_)
  rw [wBJ_Wc] at hP hD
  refine lv_aload_n hx hb dX0_collect_10 rfl (lv_at hl 1 rfl) ?_
  refine bj_wv (As := []) (rest := []) (n := 0) ⟨hx, hb, hml, hown, htg⟩ (c_rewriteBlobs l (juWc σ 0)  (hc) (h1)) (cwV 0 htg gX0_142 rfl rfl rfl (by decide +kernel) ⟨Nat.le_of_ble_eq_true rfl, Nat.le_of_ble_eq_true rfl⟩) hK hP hD hS hA hl.1 rfl rfl (Nat.le_of_ble_eq_true rfl) dX0_collect_11 (Nat.zero_le _) (Nat.zero_le _) (fun H locs hP hD hS => ?_)
  obtain ⟨z1, ez1⟩ : ∃ zq : BJ, zq = rbL (juWc σ 0) (jgBc (juWc σ 0)) := ⟨_, rfl⟩
  rw [← ez1] at hP hD
  have y1 : z1 = co1 σ := ez1
  refine lv_aload_n hx hb dX0_collect_14 rfl (lv_at hl 1 rfl) ?_
  refine bj_wv (As := []) (rest := []) (n := 0) ⟨hx, hb, hml, hown, htg⟩ (c_rewriteTags l z1  (by rw [y1]; exact h2)) (cwV 0 htg gX0_145 rfl rfl rfl (by decide +kernel) ⟨Nat.le_of_ble_eq_true rfl, Nat.le_of_ble_eq_true rfl⟩) hK hP hD hS hA hl.1 rfl rfl (Nat.le_of_ble_eq_true rfl) dX0_collect_15 (Nat.zero_le _) (Nat.zero_le _) (fun H locs hP hD hS => ?_)
  obtain ⟨z2, ez2⟩ : ∃ zq : BJ, zq = rtL z1 8 := ⟨_, rfl⟩
  rw [← ez2] at hP hD
  have y2 : z2 = co2 σ := by rw [ez2, y1]; rfl
  refine lv_aload_n hx hb dX0_collect_18 rfl (lv_at hl 1 rfl) ?_
  refine bj_wv (As := []) (rest := []) (n := 0) ⟨hx, hb, hml, hown, htg⟩ (c_rewriteKeys l z2  (by rw [y2, co2_bc]; exact hc) (by rw [y2, co2_kc]; exact hkc) (by rw [y2, co2_kc]; exact h3)) (cwV 0 htg gX0_148 rfl rfl rfl (by decide +kernel) ⟨Nat.le_of_ble_eq_true rfl, Nat.le_of_ble_eq_true rfl⟩) hK hP hD hS hA hl.1 rfl rfl (Nat.le_of_ble_eq_true rfl) dX0_collect_19 (Nat.zero_le _) (Nat.zero_le _) (fun H locs hP hD hS => ?_)
  obtain ⟨z3, ez3⟩ : ∃ zq : BJ, zq = rkL z2 (jgKc z2) := ⟨_, rfl⟩
  rw [← ez3] at hP hD
  have y3 : z3 = co3 σ := by rw [ez3, y2, co2_kc]; rfl
  refine lv_aload_n hx hb dX0_collect_22 rfl (lv_at hl 1 rfl) ?_
  refine bj_wv (As := []) (rest := []) (n := 0) ⟨hx, hb, hml, hown, htg⟩ (c_restore l z3  (by rw [y3]; exact h4) (by rw [y3]; exact h5)) (cwV 0 htg gX0_139 rfl rfl rfl (by decide +kernel) ⟨Nat.le_of_ble_eq_true rfl, Nat.le_of_ble_eq_true rfl⟩) hK hP hD hS hA hl.1 rfl rfl (Nat.le_of_ble_eq_true rfl) dX0_collect_23 (Nat.zero_le _) (Nat.zero_le _) (fun H locs hP hD hS => ?_)
  obtain ⟨z4, ez4⟩ : ∃ zq : BJ, zq = restore z3 := ⟨_, rfl⟩
  rw [← ez4] at hP hD
  have y4 : z4 = restore (co3 σ) := by rw [ez4, y3]
  have y5 : jgBc z4 ≤ jgBc σ := by rw [y4]; exact h6
  refine lv_iload_n hx hb dX0_collect_26 rfl (lv_at hl 0 rfl) ?_
  refine lv_aload_n hx hb dX0_collect_27 rfl (lv_at hl 1 rfl) ?_
  refine va_get (D := (dC, dI)) (ci := 0) (v := .int (nI (jgBc z4))) (C := RX0) (T := TX0) (N := 14) hx hb htg inX0 (fs := fsBJ h z4) hown hK hP 0 rfl rfl 8 (by decide) (htg _ fX0_68) (fun _ h9 => h9) rfl dX0_collect_28 ?_
  refine xr_isub hx hb (by omega) dX0_collect_31 ?_
  have hfin : z4 = restore (co3 σ) := y4
  rw [hfin] at hP hD
  exact W.iret (v := nI (jgBc σ - (jgBc z4))) hx hb hr (fun t ht hW => ⟨⟨_, (), rfl, by rw [y4], by rw [ht]; exact hP, va_K.moved hW.alike hK, hD⟩, hS.F ht⟩) hS.2.2 dX0_collect_32
end
section
def TXL : List (String × Nat × String) := [(RX0, 50, "more than 64 bytes would be typed"), (RX0, 57, "not so many bytes are typed"), (RX0, 71, "there are 20 blobs"), (RX0, 90, "no blob has this digest"), (RX0, 97, "the tag tells none already"), (RX0, 109, "there are 16 keys"), (RX0, 115, "there is no such pin"), (RX0, 117, "there is no such key"), (RX0, 121, "the blob has no such byte"), (RX0, 130, "there is no such count"), (RX0, 132, "the journal has no such byte"), (RX0, 134, "not so many bytes are unsynced"), (RX0, 160, "there is no such tag"), (RX0, 162, "there is no room in the journal")]
theorem txi_R : Cond.instanceMethod (Bundle.initS "java/lang/RuntimeException") ∈ GW := by decide +kernel
theorem txk_R : Cond.code (Bundle.initS "java/lang/RuntimeException") prog_7_method_2_code 2 none ∈ GW := by decide +kernel
theorem txi_E : Cond.instanceMethod (Bundle.initS "java/lang/Exception") ∈ GW := by decide +kernel
theorem txk_E : Cond.code (Bundle.initS "java/lang/Exception") prog_4_method_2_code 2 none ∈ GW := by decide +kernel
theorem txi_T : Cond.instanceMethod (Bundle.initS "java/lang/Throwable") ∈ GW := by decide +kernel
theorem txk_T : Cond.code (Bundle.initS "java/lang/Throwable") prog_10_method_2_code 2 none ∈ GW := by decide +kernel
theorem txSplit_52 : ∀ w ∈ tx_own RX0 52 "java/lang/UnsupportedOperationException" "java/lang/RuntimeException" 7 prog_11_method_2_code ["java/lang/Exception"], w ∈ GW ∨ w ∈ tx_four ∨ w = .declares (Bundle.initS "java/lang/RuntimeException") ∨ w = .declares (Bundle.initS "java/lang/Exception") ∨ w = .declares (Bundle.initS "java/lang/Throwable") := by decide +kernel
theorem txAll_52 {args : Array Value} {s : State} (htg : ∀ w ∈ GW, w.before args s = true) (h4 : ∀ w ∈ tx_four, w.before args s = true) : ∀ w ∈ tx_own RX0 52 "java/lang/UnsupportedOperationException" "java/lang/RuntimeException" 7 prog_11_method_2_code ["java/lang/Exception"], w.before args s = true := by
  intro w hw
  rcases txSplit_52 w hw with h | h | rfl | rfl | rfl
  · exact htg w h
  · exact h4 w h
  · exact tx_decl (htg _ txi_R) (htg _ txk_R)
  · exact tx_decl (htg _ txi_E) (htg _ txk_E)
  · exact tx_decl (htg _ txi_T) (htg _ txk_T)
theorem txSplit_59 : ∀ w ∈ tx_own RX0 59 "java/lang/IllegalArgumentException" "java/lang/RuntimeException" 7 prog_5_method_2_code ["java/lang/Exception"], w ∈ GW ∨ w ∈ tx_four ∨ w = .declares (Bundle.initS "java/lang/RuntimeException") ∨ w = .declares (Bundle.initS "java/lang/Exception") ∨ w = .declares (Bundle.initS "java/lang/Throwable") := by decide +kernel
theorem txAll_59 {args : Array Value} {s : State} (htg : ∀ w ∈ GW, w.before args s = true) (h4 : ∀ w ∈ tx_four, w.before args s = true) : ∀ w ∈ tx_own RX0 59 "java/lang/IllegalArgumentException" "java/lang/RuntimeException" 7 prog_5_method_2_code ["java/lang/Exception"], w.before args s = true := by
  intro w hw
  rcases txSplit_59 w hw with h | h | rfl | rfl | rfl
  · exact htg w h
  · exact h4 w h
  · exact tx_decl (htg _ txi_R) (htg _ txk_R)
  · exact tx_decl (htg _ txi_E) (htg _ txk_E)
  · exact tx_decl (htg _ txi_T) (htg _ txk_T)
theorem txSplit_92 : ∀ w ∈ tx_own RX0 92 "java/util/NoSuchElementException" "java/lang/RuntimeException" 13 prog_13_method_4_code ["java/lang/Exception"], w ∈ GW ∨ w ∈ tx_four ∨ w = .declares (Bundle.initS "java/lang/RuntimeException") ∨ w = .declares (Bundle.initS "java/lang/Exception") ∨ w = .declares (Bundle.initS "java/lang/Throwable") := by decide +kernel
theorem txAll_92 {args : Array Value} {s : State} (htg : ∀ w ∈ GW, w.before args s = true) (h4 : ∀ w ∈ tx_four, w.before args s = true) : ∀ w ∈ tx_own RX0 92 "java/util/NoSuchElementException" "java/lang/RuntimeException" 13 prog_13_method_4_code ["java/lang/Exception"], w.before args s = true := by
  intro w hw
  rcases txSplit_92 w hw with h | h | rfl | rfl | rfl
  · exact htg w h
  · exact h4 w h
  · exact tx_decl (htg _ txi_R) (htg _ txk_R)
  · exact tx_decl (htg _ txi_E) (htg _ txk_E)
  · exact tx_decl (htg _ txi_T) (htg _ txk_T)
theorem txSplit_123 : ∀ w ∈ tx_own RX0 123 "java/lang/IndexOutOfBoundsException" "java/lang/RuntimeException" 7 prog_6_method_2_code ["java/lang/Exception"], w ∈ GW ∨ w ∈ tx_four ∨ w = .declares (Bundle.initS "java/lang/RuntimeException") ∨ w = .declares (Bundle.initS "java/lang/Exception") ∨ w = .declares (Bundle.initS "java/lang/Throwable") := by decide +kernel
theorem txAll_123 {args : Array Value} {s : State} (htg : ∀ w ∈ GW, w.before args s = true) (h4 : ∀ w ∈ tx_four, w.before args s = true) : ∀ w ∈ tx_own RX0 123 "java/lang/IndexOutOfBoundsException" "java/lang/RuntimeException" 7 prog_6_method_2_code ["java/lang/Exception"], w.before args s = true := by
  intro w hw
  rcases txSplit_123 w hw with h | h | rfl | rfl | rfl
  · exact htg w h
  · exact h4 w h
  · exact tx_decl (htg _ txi_R) (htg _ txk_R)
  · exact tx_decl (htg _ txi_E) (htg _ txk_E)
  · exact tx_decl (htg _ txi_T) (htg _ txk_T)
set_option maxRecDepth 100000 in
set_option maxHeartbeats 4000000 in
theorem c_typeT (l : Launch) (hl0 : l.stackTraces = false) (σ : BJ) (v : Int32) (ht : 64 < jgTc σ + 4) (h64 : jgTc σ ≤ 64) : tB l yX0_type wsX0_type ({ frames := 6, cells := 1, slots := 6, locals := 100 } : Room) TXL σ [.int v] "java/lang/UnsupportedOperationException" := by
  intro dC dI cI cJ h sz
  refine MetT.ofW (cc := cX0_type) (maxL := 3) (ret := (some .int)) (by decide) rfl ?_
  intro p e s m args below meth c s₁ B hml hv
  obtain ⟨rfl, ⟨hsz, hP, hK, hD⟩, hH⟩ := hv
  have hx := B.exec
  have hb := B.bytes
  have hr := B.returns
  have hts := atoms_spec (ws := wsX0_type) B.pre
  have hout : c.exceptionTable.isEmpty = true := B.noHandlers (hts _ List.mem_cons_self)
  have htg : ∀ w ∈ GW, w.before _ s = true := fun w h => hts w (List.mem_cons_of_mem _ h)
  have hown : s.vm.findClass RX0 = some m.cls := findClass_of_methodNamed B.named
  have hlocks := B.notSynchronized
  subst hsz
  have hA : ∀ q : Nat, s.heap.size ≤ q → (fun q => s.heap.size ≤ q) q := fun _ h => h
  have hS : va_S (fun q => s.heap.size ≤ q) s.heap s.heap [] := va_S.rf
  have hl := lv_entry [.ref (h 0), .int v] (n := 3) (Nat.le_of_ble_eq_true rfl)
  rw [lg_entry_eq]
  generalize (lg_sl [.ref (h 0), .int v] ++ List.replicate (3 - (lg_sl [.ref (h 0), .int v]).length) Slot.unset).toArray = ls at hl ⊢
  have hl : lv_has ls 3 [(0, .ref (h 0)), (1, .int v)] := hl
  have hP : va_P (dC, dI) vwCl (wBJ cI cJ h σ) s.heap := hP
  refine lv_aload_n hx hb dX0_type_0 rfl (lv_at hl 0 rfl) ?_
  refine va_get (D := (dC, dI)) (ci := 0) (v := .int (nI (jgTc σ))) (C := RX0) (T := TX0) (N := 14) hx hb htg inX0 (fs := fsBJ h σ) hown hK hP 0 rfl rfl 1 (by decide) (htg _ fX0_44) (fun _ h9 => h9) rfl dX0_type_1 ?_
  refine lv_iconst (v := nI 4) hx hb dX0_type_4 (by decide) ?_
  refine xr_iadd hx hb dX0_type_5 ?_
  refine lv_bipush (v := nI 64) hx hb dX0_type_6 (by decide) ?_
  refine xr_icmp_le (tgt := 21) hx hb dX0_type_8 (by decide) (by omega) (by omega) (fun c8 => absurd c8 (by omega)) (fun c8 => ?_)
  exact tx_throwS hx hb hl0 hlocks hout (hl.1.trans hml.symm) (own := RX0) (E := "java/lang/UnsupportedOperationException") (text := "more than 64 bytes would be typed") (sup := "java/lang/RuntimeException") (names := ["java/lang/Exception"]) (ik := 48) (is := 50) (ic := 52) (ix := 7) (rx := prog_11_method_2_code) hown (by decide +kernel) (by decide +kernel) (by decide +kernel) (by decide +kernel) (by decide +kernel) (by decide +kernel) (by decide +kernel) hH (txAll_52 htg) (htg _ hX0_48) (htg _ z_UnsupportedOperationException) (htg _ n_UnsupportedOperationException) (by decide +kernel) hS dX0_type_11 dX0_type_14 dX0_type_15 dX0_type_17 dX0_type_20 (Nat.le_of_ble_eq_true rfl) (Nat.le_of_ble_eq_true rfl) (Nat.le_of_ble_eq_true rfl) (Nat.le_of_ble_eq_true rfl) (Nat.le_of_ble_eq_true rfl) (Nat.le_of_ble_eq_true rfl)
set_option maxRecDepth 100000 in
set_option maxHeartbeats 4000000 in
theorem c_cutT (l : Launch) (hl0 : l.stackTraces = false) (σ : BJ) (n : Int32) (h0 : n < 0 ∨ ¬ n ≤ nI (jgTc σ)) : tB l yX0_cut wsX0_cut ({ frames := 6, cells := 1, slots := 6, locals := 100 } : Room) TXL σ [.int n] "java/lang/IllegalArgumentException" := by
  intro dC dI cI cJ h sz
  refine MetT.ofW (cc := cX0_cut) (maxL := 2) (ret := none) (by decide) rfl ?_
  intro p e s m args below meth c s₁ B hml hv
  obtain ⟨rfl, ⟨hsz, hP, hK, hD⟩, hH⟩ := hv
  have hx := B.exec
  have hb := B.bytes
  have hr := B.returns
  have hts := atoms_spec (ws := wsX0_cut) B.pre
  have hout : c.exceptionTable.isEmpty = true := B.noHandlers (hts _ List.mem_cons_self)
  have htg : ∀ w ∈ GW, w.before _ s = true := fun w h => hts w (List.mem_cons_of_mem _ h)
  have hown : s.vm.findClass RX0 = some m.cls := findClass_of_methodNamed B.named
  have hlocks := B.notSynchronized
  subst hsz
  have hA : ∀ q : Nat, s.heap.size ≤ q → (fun q => s.heap.size ≤ q) q := fun _ h => h
  have hS : va_S (fun q => s.heap.size ≤ q) s.heap s.heap [] := va_S.rf
  have hl := lv_entry [.ref (h 0), .int n] (n := 2) (Nat.le_of_ble_eq_true rfl)
  rw [lg_entry_eq]
  generalize (lg_sl [.ref (h 0), .int n] ++ List.replicate (2 - (lg_sl [.ref (h 0), .int n]).length) Slot.unset).toArray = ls at hl ⊢
  have hl : lv_has ls 2 [(0, .ref (h 0)), (1, .int n)] := hl
  have hP : va_P (dC, dI) vwCl (wBJ cI cJ h σ) s.heap := hP
  refine lv_iload_n hx hb dX0_cut_0 rfl (lv_at hl 1 rfl) ?_
  refine lv_if_lt (tgt := 12) hx hb dX0_cut_1 (by decide) (fun c1 => ?_) (fun c1 => ?_)
  · exact tx_throwS hx hb hl0 hlocks hout (hl.1.trans hml.symm) (own := RX0) (E := "java/lang/IllegalArgumentException") (text := "not so many bytes are typed") (sup := "java/lang/RuntimeException") (names := ["java/lang/Exception"]) (ik := 55) (is := 57) (ic := 59) (ix := 7) (rx := prog_5_method_2_code) hown (by decide +kernel) (by decide +kernel) (by decide +kernel) (by decide +kernel) (by decide +kernel) (by decide +kernel) (by decide +kernel) hH (txAll_59 htg) (htg _ hX0_55) (htg _ z_IllegalArgumentException) (htg _ n_IllegalArgumentException) (by decide +kernel) hS dX0_cut_12 dX0_cut_15 dX0_cut_16 dX0_cut_18 dX0_cut_21 (Nat.le_of_ble_eq_true rfl) (Nat.le_of_ble_eq_true rfl) (Nat.le_of_ble_eq_true rfl) (Nat.le_of_ble_eq_true rfl) (Nat.le_of_ble_eq_true rfl) (Nat.le_of_ble_eq_true rfl)
  · refine lv_iload_n hx hb dX0_cut_4 rfl (lv_at hl 1 rfl) ?_
    refine lv_aload_n hx hb dX0_cut_5 rfl (lv_at hl 0 rfl) ?_
    refine va_get (D := (dC, dI)) (ci := 0) (v := .int (nI (jgTc σ))) (C := RX0) (T := TX0) (N := 14) hx hb htg inX0 (fs := fsBJ h σ) hown hK hP 0 rfl rfl 1 (by decide) (htg _ fX0_44) (fun _ h9 => h9) rfl dX0_cut_6 ?_
    refine lv_icmp_le (tgt := 22) hx hb dX0_cut_9 (by decide) (fun c9 => absurd c9 (by exact h0.resolve_left c1)) (fun c9 => ?_)
    exact tx_throwS hx hb hl0 hlocks hout (hl.1.trans hml.symm) (own := RX0) (E := "java/lang/IllegalArgumentException") (text := "not so many bytes are typed") (sup := "java/lang/RuntimeException") (names := ["java/lang/Exception"]) (ik := 55) (is := 57) (ic := 59) (ix := 7) (rx := prog_5_method_2_code) hown (by decide +kernel) (by decide +kernel) (by decide +kernel) (by decide +kernel) (by decide +kernel) (by decide +kernel) (by decide +kernel) hH (txAll_59 htg) (htg _ hX0_55) (htg _ z_IllegalArgumentException) (htg _ n_IllegalArgumentException) (by decide +kernel) hS dX0_cut_12 dX0_cut_15 dX0_cut_16 dX0_cut_18 dX0_cut_21 (Nat.le_of_ble_eq_true rfl) (Nat.le_of_ble_eq_true rfl) (Nat.le_of_ble_eq_true rfl) (Nat.le_of_ble_eq_true rfl) (Nat.le_of_ble_eq_true rfl) (Nat.le_of_ble_eq_true rfl)
set_option maxRecDepth 100000 in
set_option maxHeartbeats 4000000 in
theorem c_demandTagT (l : Launch) (hl0 : l.stackTraces = false) (t : Int32) (ht : isTg t = false) (sz : Nat) : MetT l yX0_demandTag wsX0_demandTag ({ frames := 6, cells := 1, slots := 6, locals := 100 } : Room) (va_Pc [.int t] (fun U => U.heap.size = sz ∧ tx_H TXL U)) (tx_Q "java/lang/IllegalArgumentException") 1 6 (fun q => sz ≤ q) := by
  refine MetT.ofW (cc := cX0_demandTag) (maxL := 1) (ret := none) (by decide) rfl ?_
  intro p e s m args below meth c s₁ B hml hv
  obtain ⟨rfl, hsz, hH⟩ := hv
  have hx := B.exec
  have hb := B.bytes
  have hr := B.returns
  have hts := atoms_spec (ws := wsX0_demandTag) B.pre
  have hout : c.exceptionTable.isEmpty = true := B.noHandlers (hts _ List.mem_cons_self)
  have htg : ∀ w ∈ GW, w.before _ s = true := fun w h => hts w (List.mem_cons_of_mem _ h)
  have hown : s.vm.findClass RX0 = some m.cls := findClass_of_methodNamed B.named
  have hlocks := B.notSynchronized
  subst hsz
  have hA : ∀ q : Nat, s.heap.size ≤ q → (fun q => s.heap.size ≤ q) q := fun _ h => h
  have hS : va_S (fun q => s.heap.size ≤ q) s.heap s.heap [] := va_S.rf
  have hl := lv_entry [.int t] (n := 1) (Nat.le_of_ble_eq_true rfl)
  rw [lg_entry_eq]
  generalize (lg_sl [.int t] ++ List.replicate (1 - (lg_sl [.int t]).length) Slot.unset).toArray = ls at hl ⊢
  have hl : lv_has ls 1 [(0, .int t)] := hl
  have hP : va_P ((fun _ => 0), (fun _ _ => 0)) vwCl [] s.heap := fun k q h => by simp at h
  refine lv_iload_n hx hb dX0_demandTag_0 rfl (lv_at hl 0 rfl) ?_
  refine xr_roi (va_runS (As := [.int t]) (rest := []) ⟨hx, hb, hml, hown, htg⟩ (c_isTag l t (fun _ => 0) (fun _ _ => 0) 0 0 _) (va_cwS 1 htg gX0_157 rfl rfl rfl (by decide +kernel) ⟨Nat.le_of_ble_eq_true rfl, Nat.le_of_ble_eq_true rfl⟩) ⟨fun a U g mk q => q, fun U hU hW => ⟨rfl, by show U.heap.size = _; rw [hU]⟩⟩ rfl rfl hl.1 rfl (lv_room (Nat.le_of_ble_eq_true rfl)) dX0_demandTag_1 ⟨Nat.zero_le _, Nat.zero_le _⟩) hP hS hA (fun H locs hP hS _ => ?_)
  rw [ht]
  refine xr_ifneB (tgt := 17) hx hb dX0_demandTag_4 (by decide) (fun c => absurd c (by decide)) (fun _ => ?_)
  exact tx_throwS hx hb hl0 hlocks hout (hl.1.trans hml.symm) (own := RX0) (E := "java/lang/IllegalArgumentException") (text := "there is no such tag") (sup := "java/lang/RuntimeException") (names := ["java/lang/Exception"]) (ik := 55) (is := 160) (ic := 59) (ix := 7) (rx := prog_5_method_2_code) hown (by decide +kernel) (by decide +kernel) (by decide +kernel) (by decide +kernel) (by decide +kernel) (by decide +kernel) (by decide +kernel) hH (txAll_59 htg) (htg _ hX0_55) (htg _ z_IllegalArgumentException) (htg _ n_IllegalArgumentException) (by decide +kernel) hS dX0_demandTag_7 dX0_demandTag_10 dX0_demandTag_11 dX0_demandTag_13 dX0_demandTag_16 (Nat.le_of_ble_eq_true rfl) (Nat.le_of_ble_eq_true rfl) (Nat.le_of_ble_eq_true rfl) (Nat.le_of_ble_eq_true rfl) (Nat.le_of_ble_eq_true rfl) (Nat.le_of_ble_eq_true rfl)
set_option maxRecDepth 100000 in
set_option maxHeartbeats 4000000 in
theorem c_demandRoomT (l : Launch) (hl0 : l.stackTraces = false) (σ : BJ) (n : Nat) (hw : 700 < jgWc σ + 4 + n) (hw7 : jgWc σ ≤ 700) (hn : n ≤ 700) : tB l yX0_demandRoom wsX0_demandRoom ({ frames := 6, cells := 1, slots := 6, locals := 100 } : Room) TXL σ [.int (nI n)] "java/lang/UnsupportedOperationException" := by
  intro dC dI cI cJ h sz
  refine MetT.ofW (cc := cX0_demandRoom) (maxL := 2) (ret := none) (by decide) rfl ?_
  intro p e s m args below meth c s₁ B hml hv
  obtain ⟨rfl, ⟨hsz, hP, hK, hD⟩, hH⟩ := hv
  have hx := B.exec
  have hb := B.bytes
  have hr := B.returns
  have hts := atoms_spec (ws := wsX0_demandRoom) B.pre
  have hout : c.exceptionTable.isEmpty = true := B.noHandlers (hts _ List.mem_cons_self)
  have htg : ∀ w ∈ GW, w.before _ s = true := fun w h => hts w (List.mem_cons_of_mem _ h)
  have hown : s.vm.findClass RX0 = some m.cls := findClass_of_methodNamed B.named
  have hlocks := B.notSynchronized
  subst hsz
  have hA : ∀ q : Nat, s.heap.size ≤ q → (fun q => s.heap.size ≤ q) q := fun _ h => h
  have hS : va_S (fun q => s.heap.size ≤ q) s.heap s.heap [] := va_S.rf
  have hl := lv_entry [.ref (h 0), .int (nI n)] (n := 2) (Nat.le_of_ble_eq_true rfl)
  rw [lg_entry_eq]
  generalize (lg_sl [.ref (h 0), .int (nI n)] ++ List.replicate (2 - (lg_sl [.ref (h 0), .int (nI n)]).length) Slot.unset).toArray = ls at hl ⊢
  have hl : lv_has ls 2 [(0, .ref (h 0)), (1, .int (nI n))] := hl
  have hP : va_P (dC, dI) vwCl (wBJ cI cJ h σ) s.heap := hP
  refine lv_aload_n hx hb dX0_demandRoom_0 rfl (lv_at hl 0 rfl) ?_
  refine va_get (D := (dC, dI)) (ci := 0) (v := .int (nI (jgWc σ))) (C := RX0) (T := TX0) (N := 14) hx hb htg inX0 (fs := fsBJ h σ) hown hK hP 0 rfl rfl 3 (by decide) (htg _ fX0_124) (fun _ h9 => h9) rfl dX0_demandRoom_1 ?_
  refine lv_iconst (v := nI 4) hx hb dX0_demandRoom_4 (by decide) ?_
  refine xr_iadd hx hb dX0_demandRoom_5 ?_
  refine lv_iload_n hx hb dX0_demandRoom_6 rfl (lv_at hl 1 rfl) ?_
  refine xr_iadd hx hb dX0_demandRoom_7 ?_
  refine lv_sipush (v := nI 700) hx hb dX0_demandRoom_8 (by decide) ?_
  refine xr_icmp_le (tgt := 24) hx hb dX0_demandRoom_11 (by decide) (by omega) (by omega) (fun c11 => absurd c11 (by omega)) (fun c11 => ?_)
  exact tx_throwS hx hb hl0 hlocks hout (hl.1.trans hml.symm) (own := RX0) (E := "java/lang/UnsupportedOperationException") (text := "there is no room in the journal") (sup := "java/lang/RuntimeException") (names := ["java/lang/Exception"]) (ik := 48) (is := 162) (ic := 52) (ix := 7) (rx := prog_11_method_2_code) hown (by decide +kernel) (by decide +kernel) (by decide +kernel) (by decide +kernel) (by decide +kernel) (by decide +kernel) (by decide +kernel) hH (txAll_52 htg) (htg _ hX0_48) (htg _ z_UnsupportedOperationException) (htg _ n_UnsupportedOperationException) (by decide +kernel) hS dX0_demandRoom_14 dX0_demandRoom_17 dX0_demandRoom_18 dX0_demandRoom_20 dX0_demandRoom_23 (Nat.le_of_ble_eq_true rfl) (Nat.le_of_ble_eq_true rfl) (Nat.le_of_ble_eq_true rfl) (Nat.le_of_ble_eq_true rfl) (Nat.le_of_ble_eq_true rfl) (Nat.le_of_ble_eq_true rfl)
set_option maxRecDepth 100000 in
set_option maxHeartbeats 4000000 in
theorem c_keepT1 (l : Launch) (hl0 : l.stackTraces = false) (σ : BJ) (ht : jgTc σ ≤ 64) (hb9 : 20 ≤ jgBc σ) (hb8 : jgBc σ ≤ 20) (hf : fnd (jgBD σ) (dg (jgT σ) 0 (jgTc σ)) (jgBc σ) = none) : tB l yX0_keep wsX0_keep ({ frames := 7, cells := 1, slots := 6, locals := 140 } : Room) TXL σ [] "java/lang/UnsupportedOperationException" := by
  intro dC dI cI cJ h sz
  refine MetT.ofW (cc := cX0_keep) (maxL := 3) (ret := (some .long)) (by decide) rfl ?_
  intro p e s m args below meth c s₁ B hml hv
  obtain ⟨rfl, ⟨hsz, hP, hK, hD⟩, hH⟩ := hv
  have hx := B.exec
  have hb := B.bytes
  have hr := B.returns
  have hts := atoms_spec (ws := wsX0_keep) B.pre
  have hout : c.exceptionTable.isEmpty = true := B.noHandlers (hts _ List.mem_cons_self)
  have htg : ∀ w ∈ GW, w.before _ s = true := fun w h => hts w (List.mem_cons_of_mem _ h)
  have hown : s.vm.findClass RX0 = some m.cls := findClass_of_methodNamed B.named
  have hlocks := B.notSynchronized
  subst hsz
  have hA : ∀ q : Nat, s.heap.size ≤ q → (fun q => s.heap.size ≤ q) q := fun _ h => h
  have hS : va_S (fun q => s.heap.size ≤ q) s.heap s.heap [] := va_S.rf
  have hl := lv_entry [.ref (h 0)] (n := 3) (Nat.le_of_ble_eq_true rfl)
  rw [lg_entry_eq]
  generalize (lg_sl [.ref (h 0)] ++ List.replicate (3 - (lg_sl [.ref (h 0)]).length) Slot.unset).toArray = ls at hl ⊢
  have hl : lv_has ls 3 [(0, .ref (h 0))] := hl
  have hP : va_P (dC, dI) vwCl (wBJ cI cJ h σ) s.heap := hP
  refine lv_aload_n hx hb dX0_keep_0 rfl (lv_at hl 0 rfl) ?_
  refine va_get (D := (dC, dI)) (ci := 0) (v := .ref (h 1)) (C := RX0) (T := TX0) (N := 14) hx hb htg inX0 (fs := fsBJ h σ) hown hK hP 0 rfl rfl 0 (by decide) (htg _ fX0_9) (fun _ h9 => h9) rfl dX0_keep_1 ?_
  refine lv_iconst (v := nI 0) hx hb dX0_keep_4 (by decide) ?_
  refine lv_aload_n hx hb dX0_keep_5 rfl (lv_at hl 0 rfl) ?_
  refine va_get (D := (dC, dI)) (ci := 0) (v := .int (nI (jgTc σ))) (C := RX0) (T := TX0) (N := 14) hx hb htg inX0 (fs := fsBJ h σ) hown hK hP 0 rfl rfl 1 (by decide) (htg _ fX0_44) (fun _ h9 => h9) rfl dX0_keep_6 ?_
  refine xr_rol (va_runS (As := [.ref (h 1), .int (nI 0), .int (nI (jgTc σ))]) (rest := []) ⟨hx, hb, hml, hown, htg⟩ (c_digestOf l (jgT σ) 64 0 (jgTc σ) (by omega) (by decide) dC dI cI (h 1) _) (va_cwS 3 htg gX0_60 rfl rfl rfl (by decide +kernel) ⟨Nat.le_of_ble_eq_true rfl, Nat.le_of_ble_eq_true rfl⟩) ⟨fun a U g mk q => ⟨q.1, q.2.1, q.2.2.1, va_K.moved (u := U) (U := U.calling g mk a) (Vm.Alike.refl U.vm) q.2.2.2⟩, fun U hU hW => ⟨rfl, by rw [hU], by rw [hU]; exact hP.sub [1] rfl, va_K.moved hW.alike (hK.sub [0] rfl)⟩⟩ rfl rfl hl.1 rfl (lv_room (Nat.le_of_ble_eq_true rfl)) dX0_keep_9 ⟨Nat.zero_le _, Nat.zero_le _⟩) hP hS hA (fun H locs hP hS _ => ?_)
  refine lv_lstore_n (lv' := [(1, .long (dg (jgT σ) 0 (jgTc σ))), (0, .ref (h 0))]) hx hb dX0_keep_12 rfl hl (by decide) rfl (fun ls hl => ?_)
  refine lv_aload_n hx hb dX0_keep_13 rfl (lv_at hl 1 rfl) ?_
  refine lv_lload_n hx hb dX0_keep_14 rfl (lv_at hl 0 rfl) ?_
  refine bj_ri (As := [.long (dg (jgT σ) 0 (jgTc σ))]) (rest := []) (n := 1) ⟨hx, hb, hml, hown, htg⟩ (c_findBlob l σ (dg (jgT σ) 0 (jgTc σ)) (by omega)) (cwV 1 htg gX0_64 rfl rfl rfl (by decide +kernel) ⟨Nat.le_of_ble_eq_true rfl, Nat.le_of_ble_eq_true rfl⟩) hK hP hD hS hA hl.1 rfl rfl (Nat.le_of_ble_eq_true rfl) dX0_keep_15 (Nat.zero_le _) (Nat.zero_le _) (fun H locs hP hS => ?_)
  rw [hf]
  refine W.eq (g2 := F0 m 18 ls [.int (-1)]) rfl ?_
  refine lv_iconst (v := -1) hx hb dX0_keep_18 (by decide) ?_
  refine lv_icmp_ne (tgt := 58) hx hb dX0_keep_19 (by decide) (fun c => absurd rfl c) (fun _ => ?_)
  refine lv_aload_n hx hb dX0_keep_22 rfl (lv_at hl 1 rfl) ?_
  refine va_get (D := (dC, dI)) (ci := 0) (v := .int (nI (jgBc σ))) (C := RX0) (T := TX0) (N := 14) hx hb htg inX0 (fs := fsBJ h σ) hown hK hP 0 rfl rfl 8 (by decide) (htg _ fX0_68) (fun _ h9 => h9) rfl dX0_keep_23 ?_
  refine lv_bipush (v := nI 20) hx hb dX0_keep_26 (by decide) ?_
  refine xr_icmp_lt (tgt := 41) hx hb dX0_keep_28 (by decide) (by omega) (by omega) (fun c28 => absurd c28 (by omega)) (fun c28 => ?_)
  exact tx_throwS hx hb hl0 hlocks hout (hl.1.trans hml.symm) (own := RX0) (E := "java/lang/UnsupportedOperationException") (text := "there are 20 blobs") (sup := "java/lang/RuntimeException") (names := ["java/lang/Exception"]) (ik := 48) (is := 71) (ic := 52) (ix := 7) (rx := prog_11_method_2_code) hown (by decide +kernel) (by decide +kernel) (by decide +kernel) (by decide +kernel) (by decide +kernel) (by decide +kernel) (by decide +kernel) hH (txAll_52 htg) (htg _ hX0_48) (htg _ z_UnsupportedOperationException) (htg _ n_UnsupportedOperationException) (by decide +kernel) hS dX0_keep_31 dX0_keep_34 dX0_keep_35 dX0_keep_37 dX0_keep_40 (Nat.le_of_ble_eq_true rfl) (Nat.le_of_ble_eq_true rfl) (Nat.le_of_ble_eq_true rfl) (Nat.le_of_ble_eq_true rfl) (Nat.le_of_ble_eq_true rfl) (Nat.le_of_ble_eq_true rfl)
set_option maxRecDepth 100000 in
set_option maxHeartbeats 4000000 in
theorem c_keepT2 (l : Launch) (hl0 : l.stackTraces = false) (σ : BJ) (ht : jgTc σ ≤ 64) (hb9 : jgBc σ < 20) (hf : fnd (jgBD σ) (dg (jgT σ) 0 (jgTc σ)) (jgBc σ) = none) (hw : 700 < jgWc σ + 4 + jgTc σ) (hw7 : jgWc σ ≤ 700) : tB l yX0_keep wsX0_keep ({ frames := 7, cells := 1, slots := 6, locals := 140 } : Room) TXL σ [] "java/lang/UnsupportedOperationException" := by
  intro dC dI cI cJ h sz
  refine MetT.ofW (cc := cX0_keep) (maxL := 3) (ret := (some .long)) (by decide) rfl ?_
  intro p e s m args below meth c s₁ B hml hv
  obtain ⟨rfl, ⟨hsz, hP, hK, hD⟩, hH⟩ := hv
  have hx := B.exec
  have hb := B.bytes
  have hr := B.returns
  have hts := atoms_spec (ws := wsX0_keep) B.pre
  have hout : c.exceptionTable.isEmpty = true := B.noHandlers (hts _ List.mem_cons_self)
  have htg : ∀ w ∈ GW, w.before _ s = true := fun w h => hts w (List.mem_cons_of_mem _ h)
  have hown : s.vm.findClass RX0 = some m.cls := findClass_of_methodNamed B.named
  have hlocks := B.notSynchronized
  subst hsz
  have hA : ∀ q : Nat, s.heap.size ≤ q → (fun q => s.heap.size ≤ q) q := fun _ h => h
  have hS : va_S (fun q => s.heap.size ≤ q) s.heap s.heap [] := va_S.rf
  have hl := lv_entry [.ref (h 0)] (n := 3) (Nat.le_of_ble_eq_true rfl)
  rw [lg_entry_eq]
  generalize (lg_sl [.ref (h 0)] ++ List.replicate (3 - (lg_sl [.ref (h 0)]).length) Slot.unset).toArray = ls at hl ⊢
  have hl : lv_has ls 3 [(0, .ref (h 0))] := hl
  have hP : va_P (dC, dI) vwCl (wBJ cI cJ h σ) s.heap := hP
  refine lv_aload_n hx hb dX0_keep_0 rfl (lv_at hl 0 rfl) ?_
  refine va_get (D := (dC, dI)) (ci := 0) (v := .ref (h 1)) (C := RX0) (T := TX0) (N := 14) hx hb htg inX0 (fs := fsBJ h σ) hown hK hP 0 rfl rfl 0 (by decide) (htg _ fX0_9) (fun _ h9 => h9) rfl dX0_keep_1 ?_
  refine lv_iconst (v := nI 0) hx hb dX0_keep_4 (by decide) ?_
  refine lv_aload_n hx hb dX0_keep_5 rfl (lv_at hl 0 rfl) ?_
  refine va_get (D := (dC, dI)) (ci := 0) (v := .int (nI (jgTc σ))) (C := RX0) (T := TX0) (N := 14) hx hb htg inX0 (fs := fsBJ h σ) hown hK hP 0 rfl rfl 1 (by decide) (htg _ fX0_44) (fun _ h9 => h9) rfl dX0_keep_6 ?_
  refine xr_rol (va_runS (As := [.ref (h 1), .int (nI 0), .int (nI (jgTc σ))]) (rest := []) ⟨hx, hb, hml, hown, htg⟩ (c_digestOf l (jgT σ) 64 0 (jgTc σ) (by omega) (by decide) dC dI cI (h 1) _) (va_cwS 3 htg gX0_60 rfl rfl rfl (by decide +kernel) ⟨Nat.le_of_ble_eq_true rfl, Nat.le_of_ble_eq_true rfl⟩) ⟨fun a U g mk q => ⟨q.1, q.2.1, q.2.2.1, va_K.moved (u := U) (U := U.calling g mk a) (Vm.Alike.refl U.vm) q.2.2.2⟩, fun U hU hW => ⟨rfl, by rw [hU], by rw [hU]; exact hP.sub [1] rfl, va_K.moved hW.alike (hK.sub [0] rfl)⟩⟩ rfl rfl hl.1 rfl (lv_room (Nat.le_of_ble_eq_true rfl)) dX0_keep_9 ⟨Nat.zero_le _, Nat.zero_le _⟩) hP hS hA (fun H locs hP hS _ => ?_)
  refine lv_lstore_n (lv' := [(1, .long (dg (jgT σ) 0 (jgTc σ))), (0, .ref (h 0))]) hx hb dX0_keep_12 rfl hl (by decide) rfl (fun ls hl => ?_)
  refine lv_aload_n hx hb dX0_keep_13 rfl (lv_at hl 1 rfl) ?_
  refine lv_lload_n hx hb dX0_keep_14 rfl (lv_at hl 0 rfl) ?_
  refine bj_ri (As := [.long (dg (jgT σ) 0 (jgTc σ))]) (rest := []) (n := 1) ⟨hx, hb, hml, hown, htg⟩ (c_findBlob l σ (dg (jgT σ) 0 (jgTc σ)) (by omega)) (cwV 1 htg gX0_64 rfl rfl rfl (by decide +kernel) ⟨Nat.le_of_ble_eq_true rfl, Nat.le_of_ble_eq_true rfl⟩) hK hP hD hS hA hl.1 rfl rfl (Nat.le_of_ble_eq_true rfl) dX0_keep_15 (Nat.zero_le _) (Nat.zero_le _) (fun H locs hP hS => ?_)
  rw [hf]
  refine W.eq (g2 := F0 m 18 ls [.int (-1)]) rfl ?_
  refine lv_iconst (v := -1) hx hb dX0_keep_18 (by decide) ?_
  refine lv_icmp_ne (tgt := 58) hx hb dX0_keep_19 (by decide) (fun c => absurd rfl c) (fun _ => ?_)
  refine lv_aload_n hx hb dX0_keep_22 rfl (lv_at hl 1 rfl) ?_
  refine va_get (D := (dC, dI)) (ci := 0) (v := .int (nI (jgBc σ))) (C := RX0) (T := TX0) (N := 14) hx hb htg inX0 (fs := fsBJ h σ) hown hK hP 0 rfl rfl 8 (by decide) (htg _ fX0_68) (fun _ h9 => h9) rfl dX0_keep_23 ?_
  refine lv_bipush (v := nI 20) hx hb dX0_keep_26 (by decide) ?_
  refine xr_icmp_lt (tgt := 41) hx hb dX0_keep_28 (by decide) (by omega) (by omega) (fun c28 => ?_) (fun c28 => absurd c28 (by omega))
  refine lv_aload_n hx hb dX0_keep_41 rfl (lv_at hl 1 rfl) ?_
  refine lv_aload_n hx hb dX0_keep_42 rfl (lv_at hl 1 rfl) ?_
  refine va_get (D := (dC, dI)) (ci := 0) (v := .int (nI (jgTc σ))) (C := RX0) (T := TX0) (N := 14) hx hb htg inX0 (fs := fsBJ h σ) hown hK hP 0 rfl rfl 1 (by decide) (htg _ fX0_44) (fun _ h9 => h9) rfl dX0_keep_43 ?_
  exact bj_tv hlocks hout (As := [.int (nI (jgTc σ))]) (rest := []) (n := 1) ⟨hx, hb, hml, hown, htg⟩ (c_demandRoomT l hl0 σ (jgTc σ) (by omega) (by omega) (by omega)) (cwV 1 htg gX0_73 rfl rfl rfl (by decide +kernel) ⟨(Nat.le_of_ble_eq_true rfl), (Nat.le_of_ble_eq_true rfl)⟩) hK hP hD hS hH hl.1 rfl rfl (Nat.le_of_ble_eq_true rfl) dX0_keep_46 (Nat.le_of_ble_eq_true rfl) (Nat.le_of_ble_eq_true rfl)
set_option maxRecDepth 100000 in
set_option maxHeartbeats 4000000 in
theorem c_tellT1 (l : Launch) (hl0 : l.stackTraces = false) (σ : BJ) (t : Int32) (d : Int64) (ht : isTg t = false) : tB l yX0_tell wsX0_tell ({ frames := 7, cells := 1, slots := 6, locals := 140 } : Room) TXL σ [.int t, .long d] "java/lang/IllegalArgumentException" := by
  intro dC dI cI cJ h sz
  refine MetT.ofW (cc := cX0_tell) (maxL := 5) (ret := none) (by decide) rfl ?_
  intro p e s m args below meth c s₁ B hml hv
  obtain ⟨rfl, ⟨hsz, hP, hK, hD⟩, hH⟩ := hv
  have hx := B.exec
  have hb := B.bytes
  have hr := B.returns
  have hts := atoms_spec (ws := wsX0_tell) B.pre
  have hout : c.exceptionTable.isEmpty = true := B.noHandlers (hts _ List.mem_cons_self)
  have htg : ∀ w ∈ GW, w.before _ s = true := fun w h => hts w (List.mem_cons_of_mem _ h)
  have hown : s.vm.findClass RX0 = some m.cls := findClass_of_methodNamed B.named
  have hlocks := B.notSynchronized
  subst hsz
  have hA : ∀ q : Nat, s.heap.size ≤ q → (fun q => s.heap.size ≤ q) q := fun _ h => h
  have hS : va_S (fun q => s.heap.size ≤ q) s.heap s.heap [] := va_S.rf
  have hl := lv_entry [.ref (h 0), .int t, .long d] (n := 5) (Nat.le_of_ble_eq_true rfl)
  rw [lg_entry_eq]
  generalize (lg_sl [.ref (h 0), .int t, .long d] ++ List.replicate (5 - (lg_sl [.ref (h 0), .int t, .long d]).length) Slot.unset).toArray = ls at hl ⊢
  have hl : lv_has ls 5 [(0, .ref (h 0)), (1, .int t), (2, .long d)] := hl
  have hP : va_P (dC, dI) vwCl (wBJ cI cJ h σ) s.heap := hP
  refine lv_iload_n hx hb dX0_tell_0 rfl (lv_at hl 1 rfl) ?_
  exact tx_runS (As := [.int t]) (rest := []) ⟨hx, hb, hml, hown, htg⟩ (c_demandTagT l hl0 t ht _) (va_cwS 1 htg gX0_85 rfl rfl rfl (by decide +kernel) ⟨(Nat.le_of_ble_eq_true rfl), (Nat.le_of_ble_eq_true rfl)⟩) ⟨fun a U g mk q => ⟨q.1, q.2.1, q.2.2.calling g mk a⟩, fun U hU hW => ⟨rfl, congrArg Array.size hU, hH.keep hW (fun q hq => by rw [hU] <;> exact hS.2.1 q hq (Nat.not_le.mpr hq))⟩⟩ rfl rfl hl.1 rfl (lv_room (Nat.le_of_ble_eq_true rfl)) dX0_tell_1 ⟨(Nat.le_of_ble_eq_true rfl), (Nat.le_of_ble_eq_true rfl)⟩ (fun x st t H1 L h0 ht hvm hq hL => tx_thru hlocks hout hS h0 ht hvm hq hL)
set_option maxRecDepth 100000 in
set_option maxHeartbeats 4000000 in
theorem c_tellT2 (l : Launch) (hl0 : l.stackTraces = false) (σ : BJ) (t : Nat) (d : Int64) (ht : t < 8) (hc : jgBc σ ≤ 20) (hf : fnd (jgBD σ) d (jgBc σ) = none) : tB l yX0_tell wsX0_tell ({ frames := 7, cells := 1, slots := 6, locals := 140 } : Room) TXL σ [.int (nI t), .long d] "java/util/NoSuchElementException" := by
  intro dC dI cI cJ h sz
  refine MetT.ofW (cc := cX0_tell) (maxL := 5) (ret := none) (by decide) rfl ?_
  intro p e s m args below meth c s₁ B hml hv
  obtain ⟨rfl, ⟨hsz, hP, hK, hD⟩, hH⟩ := hv
  have hx := B.exec
  have hb := B.bytes
  have hr := B.returns
  have hts := atoms_spec (ws := wsX0_tell) B.pre
  have hout : c.exceptionTable.isEmpty = true := B.noHandlers (hts _ List.mem_cons_self)
  have htg : ∀ w ∈ GW, w.before _ s = true := fun w h => hts w (List.mem_cons_of_mem _ h)
  have hown : s.vm.findClass RX0 = some m.cls := findClass_of_methodNamed B.named
  have hlocks := B.notSynchronized
  subst hsz
  have hA : ∀ q : Nat, s.heap.size ≤ q → (fun q => s.heap.size ≤ q) q := fun _ h => h
  have hS : va_S (fun q => s.heap.size ≤ q) s.heap s.heap [] := va_S.rf
  have hl := lv_entry [.ref (h 0), .int (nI t), .long d] (n := 5) (Nat.le_of_ble_eq_true rfl)
  rw [lg_entry_eq]
  generalize (lg_sl [.ref (h 0), .int (nI t), .long d] ++ List.replicate (5 - (lg_sl [.ref (h 0), .int (nI t), .long d]).length) Slot.unset).toArray = ls at hl ⊢
  have hl : lv_has ls 5 [(0, .ref (h 0)), (1, .int (nI t)), (2, .long d)] := hl
  have hP : va_P (dC, dI) vwCl (wBJ cI cJ h σ) s.heap := hP
  refine lv_iload_n hx hb dX0_tell_0 rfl (lv_at hl 1 rfl) ?_
  refine xr_rov (va_runS (As := [.int (nI t)]) (rest := []) ⟨hx, hb, hml, hown, htg⟩ (c_demandTag l (nI t) (by rw [isTg_nI (by omega)]; exact decide_eq_true ht) dC dI cI 0 _) (va_cwS 1 htg gX0_85 rfl rfl rfl (by decide +kernel) ⟨Nat.le_of_ble_eq_true rfl, Nat.le_of_ble_eq_true rfl⟩) ⟨fun a U g mk q => q, fun U hU hW => ⟨rfl, by show U.heap.size = _; rw [hU]⟩⟩ rfl rfl hl.1 rfl (lv_room (Nat.le_of_ble_eq_true rfl)) dX0_tell_1 ⟨Nat.zero_le _, Nat.zero_le _⟩) hP hS hA (fun H locs hP hS _ => ?_)
  refine lv_aload_n hx hb dX0_tell_4 rfl (lv_at hl 0 rfl) ?_
  refine lv_lload_n hx hb dX0_tell_5 rfl (lv_at hl 2 rfl) ?_
  refine bj_ri (As := [.long d]) (rest := []) (n := 1) ⟨hx, hb, hml, hown, htg⟩ (c_findBlob l σ d (by omega)) (cwV 1 htg gX0_64 rfl rfl rfl (by decide +kernel) ⟨Nat.le_of_ble_eq_true rfl, Nat.le_of_ble_eq_true rfl⟩) hK hP hD hS hA hl.1 rfl rfl (Nat.le_of_ble_eq_true rfl) dX0_tell_6 (Nat.zero_le _) (Nat.zero_le _) (fun H locs hP hS => ?_)
  rw [hf]
  refine W.eq (g2 := F0 m 9 ls [.int (-1)]) rfl ?_
  refine lv_istore (lv' := [(4, .int (-1)), (0, .ref (h 0)), (1, .int (nI t)), (2, .long d)]) hx hb dX0_tell_9 hl (by decide) rfl (fun ls hl => ?_)
  refine lv_iload hx hb dX0_tell_11 (lv_at hl 0 rfl) ?_
  refine lv_iconst (v := -1) hx hb dX0_tell_13 (by decide) ?_
  refine lv_icmp_ne (tgt := 27) hx hb dX0_tell_14 (by decide) (fun c => absurd rfl c) (fun _ => ?_)
  exact tx_throwS hx hb hl0 hlocks hout (hl.1.trans hml.symm) (own := RX0) (E := "java/util/NoSuchElementException") (text := "no blob has this digest") (sup := "java/lang/RuntimeException") (names := ["java/lang/Exception"]) (ik := 88) (is := 90) (ic := 92) (ix := 13) (rx := prog_13_method_4_code) hown (by decide +kernel) (by decide +kernel) (by decide +kernel) (by decide +kernel) (by decide +kernel) (by decide +kernel) (by decide +kernel) hH (txAll_92 htg) (htg _ hX0_88) (htg _ z_NoSuchElementException) (htg _ n_NoSuchElementException) (by decide +kernel) hS dX0_tell_17 dX0_tell_20 dX0_tell_21 dX0_tell_23 dX0_tell_26 (Nat.le_of_ble_eq_true rfl) (Nat.le_of_ble_eq_true rfl) (Nat.le_of_ble_eq_true rfl) (Nat.le_of_ble_eq_true rfl) (Nat.le_of_ble_eq_true rfl) (Nat.le_of_ble_eq_true rfl)
set_option maxRecDepth 100000 in
set_option maxHeartbeats 4000000 in
theorem c_tellT3 (l : Launch) (hl0 : l.stackTraces = false) (σ : BJ) (t : Nat) (d : Int64) (b : Nat) (ht : t < 8) (hc : jgBc σ ≤ 20) (hf : fnd (jgBD σ) d (jgBc σ) = some b) (hs : jgTB σ t ≠ nI b) (hw : 700 < jgWc σ + 13) (hw7 : jgWc σ ≤ 700) : tB l yX0_tell wsX0_tell ({ frames := 7, cells := 1, slots := 6, locals := 140 } : Room) TXL σ [.int (nI t), .long d] "java/lang/UnsupportedOperationException" := by
  intro dC dI cI cJ h sz
  refine MetT.ofW (cc := cX0_tell) (maxL := 5) (ret := none) (by decide) rfl ?_
  intro p e s m args below meth c s₁ B hml hv
  obtain ⟨rfl, ⟨hsz, hP, hK, hD⟩, hH⟩ := hv
  have hx := B.exec
  have hb := B.bytes
  have hr := B.returns
  have hts := atoms_spec (ws := wsX0_tell) B.pre
  have hout : c.exceptionTable.isEmpty = true := B.noHandlers (hts _ List.mem_cons_self)
  have htg : ∀ w ∈ GW, w.before _ s = true := fun w h => hts w (List.mem_cons_of_mem _ h)
  have hown : s.vm.findClass RX0 = some m.cls := findClass_of_methodNamed B.named
  have hlocks := B.notSynchronized
  subst hsz
  have hA : ∀ q : Nat, s.heap.size ≤ q → (fun q => s.heap.size ≤ q) q := fun _ h => h
  have hS : va_S (fun q => s.heap.size ≤ q) s.heap s.heap [] := va_S.rf
  have hl := lv_entry [.ref (h 0), .int (nI t), .long d] (n := 5) (Nat.le_of_ble_eq_true rfl)
  rw [lg_entry_eq]
  generalize (lg_sl [.ref (h 0), .int (nI t), .long d] ++ List.replicate (5 - (lg_sl [.ref (h 0), .int (nI t), .long d]).length) Slot.unset).toArray = ls at hl ⊢
  have hl : lv_has ls 5 [(0, .ref (h 0)), (1, .int (nI t)), (2, .long d)] := hl
  have hP : va_P (dC, dI) vwCl (wBJ cI cJ h σ) s.heap := hP
  refine lv_iload_n hx hb dX0_tell_0 rfl (lv_at hl 1 rfl) ?_
  refine xr_rov (va_runS (As := [.int (nI t)]) (rest := []) ⟨hx, hb, hml, hown, htg⟩ (c_demandTag l (nI t) (by rw [isTg_nI (by omega)]; exact decide_eq_true ht) dC dI cI 0 _) (va_cwS 1 htg gX0_85 rfl rfl rfl (by decide +kernel) ⟨Nat.le_of_ble_eq_true rfl, Nat.le_of_ble_eq_true rfl⟩) ⟨fun a U g mk q => q, fun U hU hW => ⟨rfl, by show U.heap.size = _; rw [hU]⟩⟩ rfl rfl hl.1 rfl (lv_room (Nat.le_of_ble_eq_true rfl)) dX0_tell_1 ⟨Nat.zero_le _, Nat.zero_le _⟩) hP hS hA (fun H locs hP hS _ => ?_)
  refine lv_aload_n hx hb dX0_tell_4 rfl (lv_at hl 0 rfl) ?_
  refine lv_lload_n hx hb dX0_tell_5 rfl (lv_at hl 2 rfl) ?_
  refine bj_ri (As := [.long d]) (rest := []) (n := 1) ⟨hx, hb, hml, hown, htg⟩ (c_findBlob l σ d (by omega)) (cwV 1 htg gX0_64 rfl rfl rfl (by decide +kernel) ⟨Nat.le_of_ble_eq_true rfl, Nat.le_of_ble_eq_true rfl⟩) hK hP hD hS hA hl.1 rfl rfl (Nat.le_of_ble_eq_true rfl) dX0_tell_6 (Nat.zero_le _) (Nat.zero_le _) (fun H locs hP hS => ?_)
  have hlt := (fnd_lt hf).1
  rw [hf]
  refine W.eq (g2 := F0 m 9 ls [.int (nI b)]) rfl ?_
  refine lv_istore (lv' := [(4, .int (nI b)), (0, .ref (h 0)), (1, .int (nI t)), (2, .long d)]) hx hb dX0_tell_9 hl (by decide) rfl (fun ls hl => ?_)
  refine lv_iload hx hb dX0_tell_11 (lv_at hl 0 rfl) ?_
  refine lv_iconst (v := -1) hx hb dX0_tell_13 (by decide) ?_
  refine lv_icmp_ne (tgt := 27) hx hb dX0_tell_14 (by decide) (fun _ => ?_) (fun c => absurd c (optI_none (by omega)))
  refine lv_aload_n hx hb dX0_tell_27 rfl (lv_at hl 1 rfl) ?_
  refine va_get (D := (dC, dI)) (ci := 0) (v := .ref (h 6)) (C := RX0) (T := TX0) (N := 14) hx hb htg inX0 (fs := fsBJ h σ) hown hK hP 0 rfl rfl 9 (by decide) (htg _ fX0_26) (fun _ h9 => h9) rfl dX0_tell_28 ?_
  refine lv_iload_n hx hb dX0_tell_31 rfl (lv_at hl 2 rfl) ?_
  refine xr_iald (f := jgTB σ) (i := t) hx hb hK hP 6 0 rfl rfl (by omega) (by decide) dX0_tell_32 ?_
  refine lv_iload hx hb dX0_tell_33 (lv_at hl 0 rfl) ?_
  refine lv_icmp_eq (tgt := 55) hx hb dX0_tell_35 (by decide) (fun c35 => absurd c35 (by exact hs)) (fun c35 => ?_)
  refine lv_aload_n hx hb dX0_tell_38 rfl (lv_at hl 1 rfl) ?_
  refine lv_bipush (v := nI 9) hx hb dX0_tell_39 (by decide) ?_
  exact bj_tv hlocks hout (As := [.int (nI 9)]) (rest := []) (n := 1) ⟨hx, hb, hml, hown, htg⟩ (c_demandRoomT l hl0 σ 9 (by omega) (by omega) (by omega)) (cwV 1 htg gX0_73 rfl rfl rfl (by decide +kernel) ⟨(Nat.le_of_ble_eq_true rfl), (Nat.le_of_ble_eq_true rfl)⟩) hK hP hD hS hH hl.1 rfl rfl (Nat.le_of_ble_eq_true rfl) dX0_tell_41 (Nat.le_of_ble_eq_true rfl) (Nat.le_of_ble_eq_true rfl)
set_option maxRecDepth 100000 in
set_option maxHeartbeats 4000000 in
theorem c_untellT1 (l : Launch) (hl0 : l.stackTraces = false) (σ : BJ) (t : Int32) (ht : isTg t = false) : tB l yX0_untell wsX0_untell ({ frames := 7, cells := 1, slots := 6, locals := 140 } : Room) TXL σ [.int t] "java/lang/IllegalArgumentException" := by
  intro dC dI cI cJ h sz
  refine MetT.ofW (cc := cX0_untell) (maxL := 2) (ret := none) (by decide) rfl ?_
  intro p e s m args below meth c s₁ B hml hv
  obtain ⟨rfl, ⟨hsz, hP, hK, hD⟩, hH⟩ := hv
  have hx := B.exec
  have hb := B.bytes
  have hr := B.returns
  have hts := atoms_spec (ws := wsX0_untell) B.pre
  have hout : c.exceptionTable.isEmpty = true := B.noHandlers (hts _ List.mem_cons_self)
  have htg : ∀ w ∈ GW, w.before _ s = true := fun w h => hts w (List.mem_cons_of_mem _ h)
  have hown : s.vm.findClass RX0 = some m.cls := findClass_of_methodNamed B.named
  have hlocks := B.notSynchronized
  subst hsz
  have hA : ∀ q : Nat, s.heap.size ≤ q → (fun q => s.heap.size ≤ q) q := fun _ h => h
  have hS : va_S (fun q => s.heap.size ≤ q) s.heap s.heap [] := va_S.rf
  have hl := lv_entry [.ref (h 0), .int t] (n := 2) (Nat.le_of_ble_eq_true rfl)
  rw [lg_entry_eq]
  generalize (lg_sl [.ref (h 0), .int t] ++ List.replicate (2 - (lg_sl [.ref (h 0), .int t]).length) Slot.unset).toArray = ls at hl ⊢
  have hl : lv_has ls 2 [(0, .ref (h 0)), (1, .int t)] := hl
  have hP : va_P (dC, dI) vwCl (wBJ cI cJ h σ) s.heap := hP
  refine lv_iload_n hx hb dX0_untell_0 rfl (lv_at hl 1 rfl) ?_
  exact tx_runS (As := [.int t]) (rest := []) ⟨hx, hb, hml, hown, htg⟩ (c_demandTagT l hl0 t ht _) (va_cwS 1 htg gX0_85 rfl rfl rfl (by decide +kernel) ⟨(Nat.le_of_ble_eq_true rfl), (Nat.le_of_ble_eq_true rfl)⟩) ⟨fun a U g mk q => ⟨q.1, q.2.1, q.2.2.calling g mk a⟩, fun U hU hW => ⟨rfl, congrArg Array.size hU, hH.keep hW (fun q hq => by rw [hU] <;> exact hS.2.1 q hq (Nat.not_le.mpr hq))⟩⟩ rfl rfl hl.1 rfl (lv_room (Nat.le_of_ble_eq_true rfl)) dX0_untell_1 ⟨(Nat.le_of_ble_eq_true rfl), (Nat.le_of_ble_eq_true rfl)⟩ (fun x st t H1 L h0 ht hvm hq hL => tx_thru hlocks hout hS h0 ht hvm hq hL)
set_option maxRecDepth 100000 in
set_option maxHeartbeats 4000000 in
theorem c_untellT2 (l : Launch) (hl0 : l.stackTraces = false) (σ : BJ) (t : Nat) (ht : t < 8) (hs : jgTB σ t = -1) : tB l yX0_untell wsX0_untell ({ frames := 7, cells := 1, slots := 6, locals := 140 } : Room) TXL σ [.int (nI t)] "java/util/NoSuchElementException" := by
  intro dC dI cI cJ h sz
  refine MetT.ofW (cc := cX0_untell) (maxL := 2) (ret := none) (by decide) rfl ?_
  intro p e s m args below meth c s₁ B hml hv
  obtain ⟨rfl, ⟨hsz, hP, hK, hD⟩, hH⟩ := hv
  have hx := B.exec
  have hb := B.bytes
  have hr := B.returns
  have hts := atoms_spec (ws := wsX0_untell) B.pre
  have hout : c.exceptionTable.isEmpty = true := B.noHandlers (hts _ List.mem_cons_self)
  have htg : ∀ w ∈ GW, w.before _ s = true := fun w h => hts w (List.mem_cons_of_mem _ h)
  have hown : s.vm.findClass RX0 = some m.cls := findClass_of_methodNamed B.named
  have hlocks := B.notSynchronized
  subst hsz
  have hA : ∀ q : Nat, s.heap.size ≤ q → (fun q => s.heap.size ≤ q) q := fun _ h => h
  have hS : va_S (fun q => s.heap.size ≤ q) s.heap s.heap [] := va_S.rf
  have hl := lv_entry [.ref (h 0), .int (nI t)] (n := 2) (Nat.le_of_ble_eq_true rfl)
  rw [lg_entry_eq]
  generalize (lg_sl [.ref (h 0), .int (nI t)] ++ List.replicate (2 - (lg_sl [.ref (h 0), .int (nI t)]).length) Slot.unset).toArray = ls at hl ⊢
  have hl : lv_has ls 2 [(0, .ref (h 0)), (1, .int (nI t))] := hl
  have hP : va_P (dC, dI) vwCl (wBJ cI cJ h σ) s.heap := hP
  refine lv_iload_n hx hb dX0_untell_0 rfl (lv_at hl 1 rfl) ?_
  refine xr_rov (va_runS (As := [.int (nI t)]) (rest := []) ⟨hx, hb, hml, hown, htg⟩ (c_demandTag l (nI t) (by rw [isTg_nI (by omega)]; exact decide_eq_true ht) dC dI cI 0 _) (va_cwS 1 htg gX0_85 rfl rfl rfl (by decide +kernel) ⟨Nat.le_of_ble_eq_true rfl, Nat.le_of_ble_eq_true rfl⟩) ⟨fun a U g mk q => q, fun U hU hW => ⟨rfl, by show U.heap.size = _; rw [hU]⟩⟩ rfl rfl hl.1 rfl (lv_room (Nat.le_of_ble_eq_true rfl)) dX0_untell_1 ⟨Nat.zero_le _, Nat.zero_le _⟩) hP hS hA (fun H locs hP hS _ => ?_)
  refine lv_aload_n hx hb dX0_untell_4 rfl (lv_at hl 0 rfl) ?_
  refine va_get (D := (dC, dI)) (ci := 0) (v := .ref (h 6)) (C := RX0) (T := TX0) (N := 14) hx hb htg inX0 (fs := fsBJ h σ) hown hK hP 0 rfl rfl 9 (by decide) (htg _ fX0_26) (fun _ h9 => h9) rfl dX0_untell_5 ?_
  refine lv_iload_n hx hb dX0_untell_8 rfl (lv_at hl 1 rfl) ?_
  refine xr_iald (f := jgTB σ) (i := t) hx hb hK hP 6 0 rfl rfl (by omega) (by decide) dX0_untell_9 ?_
  refine lv_iconst (v := -1) hx hb dX0_untell_10 (by decide) ?_
  refine lv_icmp_ne (tgt := 24) hx hb dX0_untell_11 (by decide) (fun c11 => absurd c11 (by exact fun z => z hs)) (fun c11 => ?_)
  exact tx_throwS hx hb hl0 hlocks hout (hl.1.trans hml.symm) (own := RX0) (E := "java/util/NoSuchElementException") (text := "the tag tells none already") (sup := "java/lang/RuntimeException") (names := ["java/lang/Exception"]) (ik := 88) (is := 97) (ic := 92) (ix := 13) (rx := prog_13_method_4_code) hown (by decide +kernel) (by decide +kernel) (by decide +kernel) (by decide +kernel) (by decide +kernel) (by decide +kernel) (by decide +kernel) hH (txAll_92 htg) (htg _ hX0_88) (htg _ z_NoSuchElementException) (htg _ n_NoSuchElementException) (by decide +kernel) hS dX0_untell_14 dX0_untell_17 dX0_untell_18 dX0_untell_20 dX0_untell_23 (Nat.le_of_ble_eq_true rfl) (Nat.le_of_ble_eq_true rfl) (Nat.le_of_ble_eq_true rfl) (Nat.le_of_ble_eq_true rfl) (Nat.le_of_ble_eq_true rfl) (Nat.le_of_ble_eq_true rfl)
set_option maxRecDepth 100000 in
set_option maxHeartbeats 4000000 in
theorem c_untellT3 (l : Launch) (hl0 : l.stackTraces = false) (σ : BJ) (t : Nat) (ht : t < 8) (hs : jgTB σ t ≠ -1) (hw : 700 < jgWc σ + 5) (hw7 : jgWc σ ≤ 700) : tB l yX0_untell wsX0_untell ({ frames := 7, cells := 1, slots := 6, locals := 140 } : Room) TXL σ [.int (nI t)] "java/lang/UnsupportedOperationException" := by
  intro dC dI cI cJ h sz
  refine MetT.ofW (cc := cX0_untell) (maxL := 2) (ret := none) (by decide) rfl ?_
  intro p e s m args below meth c s₁ B hml hv
  obtain ⟨rfl, ⟨hsz, hP, hK, hD⟩, hH⟩ := hv
  have hx := B.exec
  have hb := B.bytes
  have hr := B.returns
  have hts := atoms_spec (ws := wsX0_untell) B.pre
  have hout : c.exceptionTable.isEmpty = true := B.noHandlers (hts _ List.mem_cons_self)
  have htg : ∀ w ∈ GW, w.before _ s = true := fun w h => hts w (List.mem_cons_of_mem _ h)
  have hown : s.vm.findClass RX0 = some m.cls := findClass_of_methodNamed B.named
  have hlocks := B.notSynchronized
  subst hsz
  have hA : ∀ q : Nat, s.heap.size ≤ q → (fun q => s.heap.size ≤ q) q := fun _ h => h
  have hS : va_S (fun q => s.heap.size ≤ q) s.heap s.heap [] := va_S.rf
  have hl := lv_entry [.ref (h 0), .int (nI t)] (n := 2) (Nat.le_of_ble_eq_true rfl)
  rw [lg_entry_eq]
  generalize (lg_sl [.ref (h 0), .int (nI t)] ++ List.replicate (2 - (lg_sl [.ref (h 0), .int (nI t)]).length) Slot.unset).toArray = ls at hl ⊢
  have hl : lv_has ls 2 [(0, .ref (h 0)), (1, .int (nI t))] := hl
  have hP : va_P (dC, dI) vwCl (wBJ cI cJ h σ) s.heap := hP
  refine lv_iload_n hx hb dX0_untell_0 rfl (lv_at hl 1 rfl) ?_
  refine xr_rov (va_runS (As := [.int (nI t)]) (rest := []) ⟨hx, hb, hml, hown, htg⟩ (c_demandTag l (nI t) (by rw [isTg_nI (by omega)]; exact decide_eq_true ht) dC dI cI 0 _) (va_cwS 1 htg gX0_85 rfl rfl rfl (by decide +kernel) ⟨Nat.le_of_ble_eq_true rfl, Nat.le_of_ble_eq_true rfl⟩) ⟨fun a U g mk q => q, fun U hU hW => ⟨rfl, by show U.heap.size = _; rw [hU]⟩⟩ rfl rfl hl.1 rfl (lv_room (Nat.le_of_ble_eq_true rfl)) dX0_untell_1 ⟨Nat.zero_le _, Nat.zero_le _⟩) hP hS hA (fun H locs hP hS _ => ?_)
  refine lv_aload_n hx hb dX0_untell_4 rfl (lv_at hl 0 rfl) ?_
  refine va_get (D := (dC, dI)) (ci := 0) (v := .ref (h 6)) (C := RX0) (T := TX0) (N := 14) hx hb htg inX0 (fs := fsBJ h σ) hown hK hP 0 rfl rfl 9 (by decide) (htg _ fX0_26) (fun _ h9 => h9) rfl dX0_untell_5 ?_
  refine lv_iload_n hx hb dX0_untell_8 rfl (lv_at hl 1 rfl) ?_
  refine xr_iald (f := jgTB σ) (i := t) hx hb hK hP 6 0 rfl rfl (by omega) (by decide) dX0_untell_9 ?_
  refine lv_iconst (v := -1) hx hb dX0_untell_10 (by decide) ?_
  refine lv_icmp_ne (tgt := 24) hx hb dX0_untell_11 (by decide) (fun c11 => ?_) (fun c11 => absurd c11 (by exact hs))
  refine lv_aload_n hx hb dX0_untell_24 rfl (lv_at hl 0 rfl) ?_
  refine lv_iconst (v := nI 1) hx hb dX0_untell_25 (by decide) ?_
  exact bj_tv hlocks hout (As := [.int (nI 1)]) (rest := []) (n := 1) ⟨hx, hb, hml, hown, htg⟩ (c_demandRoomT l hl0 σ 1 (by omega) (by omega) (by omega)) (cwV 1 htg gX0_73 rfl rfl rfl (by decide +kernel) ⟨(Nat.le_of_ble_eq_true rfl), (Nat.le_of_ble_eq_true rfl)⟩) hK hP hD hS hH hl.1 rfl rfl (Nat.le_of_ble_eq_true rfl) dX0_untell_26 (Nat.le_of_ble_eq_true rfl) (Nat.le_of_ble_eq_true rfl)
set_option maxRecDepth 100000 in
set_option maxHeartbeats 4000000 in
theorem c_learnT1 (l : Launch) (hl0 : l.stackTraces = false) (σ : BJ) (k : Int64) (d : Int64) (hc : jgKc σ = 16) (hf : fnd (jgKS σ) k (jgKc σ) = none) : tB l yX0_learn wsX0_learn ({ frames := 7, cells := 1, slots := 6, locals := 140 } : Room) TXL σ [.long k, .long d] "java/lang/UnsupportedOperationException" := by
  intro dC dI cI cJ h sz
  refine MetT.ofW (cc := cX0_learn) (maxL := 6) (ret := none) (by decide) rfl ?_
  intro p e s m args below meth c s₁ B hml hv
  obtain ⟨rfl, ⟨hsz, hP, hK, hD⟩, hH⟩ := hv
  have hx := B.exec
  have hb := B.bytes
  have hr := B.returns
  have hts := atoms_spec (ws := wsX0_learn) B.pre
  have hout : c.exceptionTable.isEmpty = true := B.noHandlers (hts _ List.mem_cons_self)
  have htg : ∀ w ∈ GW, w.before _ s = true := fun w h => hts w (List.mem_cons_of_mem _ h)
  have hown : s.vm.findClass RX0 = some m.cls := findClass_of_methodNamed B.named
  have hlocks := B.notSynchronized
  subst hsz
  have hA : ∀ q : Nat, s.heap.size ≤ q → (fun q => s.heap.size ≤ q) q := fun _ h => h
  have hS : va_S (fun q => s.heap.size ≤ q) s.heap s.heap [] := va_S.rf
  have hl := lv_entry [.ref (h 0), .long k, .long d] (n := 6) (Nat.le_of_ble_eq_true rfl)
  rw [lg_entry_eq]
  generalize (lg_sl [.ref (h 0), .long k, .long d] ++ List.replicate (6 - (lg_sl [.ref (h 0), .long k, .long d]).length) Slot.unset).toArray = ls at hl ⊢
  have hl : lv_has ls 6 [(0, .ref (h 0)), (1, .long k), (3, .long d)] := hl
  have hP : va_P (dC, dI) vwCl (wBJ cI cJ h σ) s.heap := hP
  refine lv_aload_n hx hb dX0_learn_0 rfl (lv_at hl 0 rfl) ?_
  refine lv_lload_n hx hb dX0_learn_1 rfl (lv_at hl 1 rfl) ?_
  refine bj_ri (As := [.long k]) (rest := []) (n := 1) ⟨hx, hb, hml, hown, htg⟩ (c_findKey l σ k (by omega)) (cwV 1 htg gX0_103 rfl rfl rfl (by decide +kernel) ⟨Nat.le_of_ble_eq_true rfl, Nat.le_of_ble_eq_true rfl⟩) hK hP hD hS hA hl.1 rfl rfl (Nat.le_of_ble_eq_true rfl) dX0_learn_2 (Nat.zero_le _) (Nat.zero_le _) (fun H locs hP hS => ?_)
  rw [hf]
  refine W.eq (g2 := F0 m 5 ls [.int (-1)]) rfl ?_
  refine lv_istore (lv' := [(5, .int (-1)), (0, .ref (h 0)), (1, .long k), (3, .long d)]) hx hb dX0_learn_5 hl (by decide) rfl (fun ls hl => ?_)
  refine lv_iload hx hb dX0_learn_7 (lv_at hl 0 rfl) ?_
  refine lv_iconst (v := -1) hx hb dX0_learn_9 (by decide) ?_
  refine lv_icmp_ne (tgt := 32) hx hb dX0_learn_10 (by decide) (fun c => absurd rfl c) (fun _ => ?_)
  refine lv_aload_n hx hb dX0_learn_13 rfl (lv_at hl 1 rfl) ?_
  refine va_get (D := (dC, dI)) (ci := 0) (v := .int (nI (jgKc σ))) (C := RX0) (T := TX0) (N := 14) hx hb htg inX0 (fs := fsBJ h σ) hown hK hP 0 rfl rfl 12 (by decide) (htg _ fX0_106) (fun _ h9 => h9) rfl dX0_learn_14 ?_
  refine lv_bipush (v := nI 16) hx hb dX0_learn_17 (by decide) ?_
  refine xr_icmp_lt (tgt := 32) hx hb dX0_learn_19 (by decide) (by omega) (by omega) (fun c19 => absurd c19 (by omega)) (fun c19 => ?_)
  exact tx_throwS hx hb hl0 hlocks hout (hl.1.trans hml.symm) (own := RX0) (E := "java/lang/UnsupportedOperationException") (text := "there are 16 keys") (sup := "java/lang/RuntimeException") (names := ["java/lang/Exception"]) (ik := 48) (is := 109) (ic := 52) (ix := 7) (rx := prog_11_method_2_code) hown (by decide +kernel) (by decide +kernel) (by decide +kernel) (by decide +kernel) (by decide +kernel) (by decide +kernel) (by decide +kernel) hH (txAll_52 htg) (htg _ hX0_48) (htg _ z_UnsupportedOperationException) (htg _ n_UnsupportedOperationException) (by decide +kernel) hS dX0_learn_22 dX0_learn_25 dX0_learn_26 dX0_learn_28 dX0_learn_31 (Nat.le_of_ble_eq_true rfl) (Nat.le_of_ble_eq_true rfl) (Nat.le_of_ble_eq_true rfl) (Nat.le_of_ble_eq_true rfl) (Nat.le_of_ble_eq_true rfl) (Nat.le_of_ble_eq_true rfl)
set_option maxRecDepth 100000 in
set_option maxHeartbeats 4000000 in
theorem c_learnT2 (l : Launch) (hl0 : l.stackTraces = false) (σ : BJ) (k : Int64) (d : Int64) (hc : jgKc σ < 16) (hf : fnd (jgKS σ) k (jgKc σ) = none) (hw : 700 < jgWc σ + 20) (hw7 : jgWc σ ≤ 700) : tB l yX0_learn wsX0_learn ({ frames := 7, cells := 1, slots := 6, locals := 140 } : Room) TXL σ [.long k, .long d] "java/lang/UnsupportedOperationException" := by
  intro dC dI cI cJ h sz
  refine MetT.ofW (cc := cX0_learn) (maxL := 6) (ret := none) (by decide) rfl ?_
  intro p e s m args below meth c s₁ B hml hv
  obtain ⟨rfl, ⟨hsz, hP, hK, hD⟩, hH⟩ := hv
  have hx := B.exec
  have hb := B.bytes
  have hr := B.returns
  have hts := atoms_spec (ws := wsX0_learn) B.pre
  have hout : c.exceptionTable.isEmpty = true := B.noHandlers (hts _ List.mem_cons_self)
  have htg : ∀ w ∈ GW, w.before _ s = true := fun w h => hts w (List.mem_cons_of_mem _ h)
  have hown : s.vm.findClass RX0 = some m.cls := findClass_of_methodNamed B.named
  have hlocks := B.notSynchronized
  subst hsz
  have hA : ∀ q : Nat, s.heap.size ≤ q → (fun q => s.heap.size ≤ q) q := fun _ h => h
  have hS : va_S (fun q => s.heap.size ≤ q) s.heap s.heap [] := va_S.rf
  have hl := lv_entry [.ref (h 0), .long k, .long d] (n := 6) (Nat.le_of_ble_eq_true rfl)
  rw [lg_entry_eq]
  generalize (lg_sl [.ref (h 0), .long k, .long d] ++ List.replicate (6 - (lg_sl [.ref (h 0), .long k, .long d]).length) Slot.unset).toArray = ls at hl ⊢
  have hl : lv_has ls 6 [(0, .ref (h 0)), (1, .long k), (3, .long d)] := hl
  have hP : va_P (dC, dI) vwCl (wBJ cI cJ h σ) s.heap := hP
  refine lv_aload_n hx hb dX0_learn_0 rfl (lv_at hl 0 rfl) ?_
  refine lv_lload_n hx hb dX0_learn_1 rfl (lv_at hl 1 rfl) ?_
  refine bj_ri (As := [.long k]) (rest := []) (n := 1) ⟨hx, hb, hml, hown, htg⟩ (c_findKey l σ k (by omega)) (cwV 1 htg gX0_103 rfl rfl rfl (by decide +kernel) ⟨Nat.le_of_ble_eq_true rfl, Nat.le_of_ble_eq_true rfl⟩) hK hP hD hS hA hl.1 rfl rfl (Nat.le_of_ble_eq_true rfl) dX0_learn_2 (Nat.zero_le _) (Nat.zero_le _) (fun H locs hP hS => ?_)
  rw [hf]
  refine W.eq (g2 := F0 m 5 ls [.int (-1)]) rfl ?_
  refine lv_istore (lv' := [(5, .int (-1)), (0, .ref (h 0)), (1, .long k), (3, .long d)]) hx hb dX0_learn_5 hl (by decide) rfl (fun ls hl => ?_)
  refine lv_iload hx hb dX0_learn_7 (lv_at hl 0 rfl) ?_
  refine lv_iconst (v := -1) hx hb dX0_learn_9 (by decide) ?_
  refine lv_icmp_ne (tgt := 32) hx hb dX0_learn_10 (by decide) (fun c => absurd rfl c) (fun _ => ?_)
  refine lv_aload_n hx hb dX0_learn_13 rfl (lv_at hl 1 rfl) ?_
  refine va_get (D := (dC, dI)) (ci := 0) (v := .int (nI (jgKc σ))) (C := RX0) (T := TX0) (N := 14) hx hb htg inX0 (fs := fsBJ h σ) hown hK hP 0 rfl rfl 12 (by decide) (htg _ fX0_106) (fun _ h9 => h9) rfl dX0_learn_14 ?_
  refine lv_bipush (v := nI 16) hx hb dX0_learn_17 (by decide) ?_
  refine xr_icmp_lt (tgt := 32) hx hb dX0_learn_19 (by decide) (by omega) (by omega) (fun c19 => ?_) (fun c19 => absurd c19 (by omega))
  refine lv_iload hx hb dX0_learn_32 (lv_at hl 0 rfl) ?_
  refine lv_iconst (v := -1) hx hb dX0_learn_34 (by decide) ?_
  refine lv_icmp_eq (tgt := 50) hx hb dX0_learn_35 (by decide) (fun _ => ?_) (fun c => absurd rfl c)
  refine lv_aload_n hx hb dX0_learn_50 rfl (lv_at hl 1 rfl) ?_
  refine lv_bipush (v := nI 16) hx hb dX0_learn_51 (by decide) ?_
  exact bj_tv hlocks hout (As := [.int (nI 16)]) (rest := []) (n := 1) ⟨hx, hb, hml, hown, htg⟩ (c_demandRoomT l hl0 σ 16 (by omega) (by omega) (by omega)) (cwV 1 htg gX0_73 rfl rfl rfl (by decide +kernel) ⟨(Nat.le_of_ble_eq_true rfl), (Nat.le_of_ble_eq_true rfl)⟩) hK hP hD hS hH hl.1 rfl rfl (Nat.le_of_ble_eq_true rfl) dX0_learn_53 (Nat.le_of_ble_eq_true rfl) (Nat.le_of_ble_eq_true rfl)
set_option maxRecDepth 100000 in
set_option maxHeartbeats 4000000 in
theorem c_learnT3 (l : Launch) (hl0 : l.stackTraces = false) (σ : BJ) (k : Int64) (d : Int64) (i : Nat) (hc : jgKc σ ≤ 16) (hf : fnd (jgKS σ) k (jgKc σ) = some i) (hs : jgKD σ i ≠ d) (hw : 700 < jgWc σ + 20) (hw7 : jgWc σ ≤ 700) : tB l yX0_learn wsX0_learn ({ frames := 7, cells := 1, slots := 6, locals := 140 } : Room) TXL σ [.long k, .long d] "java/lang/UnsupportedOperationException" := by
  intro dC dI cI cJ h sz
  refine MetT.ofW (cc := cX0_learn) (maxL := 6) (ret := none) (by decide) rfl ?_
  intro p e s m args below meth c s₁ B hml hv
  obtain ⟨rfl, ⟨hsz, hP, hK, hD⟩, hH⟩ := hv
  have hx := B.exec
  have hb := B.bytes
  have hr := B.returns
  have hts := atoms_spec (ws := wsX0_learn) B.pre
  have hout : c.exceptionTable.isEmpty = true := B.noHandlers (hts _ List.mem_cons_self)
  have htg : ∀ w ∈ GW, w.before _ s = true := fun w h => hts w (List.mem_cons_of_mem _ h)
  have hown : s.vm.findClass RX0 = some m.cls := findClass_of_methodNamed B.named
  have hlocks := B.notSynchronized
  subst hsz
  have hA : ∀ q : Nat, s.heap.size ≤ q → (fun q => s.heap.size ≤ q) q := fun _ h => h
  have hS : va_S (fun q => s.heap.size ≤ q) s.heap s.heap [] := va_S.rf
  have hl := lv_entry [.ref (h 0), .long k, .long d] (n := 6) (Nat.le_of_ble_eq_true rfl)
  rw [lg_entry_eq]
  generalize (lg_sl [.ref (h 0), .long k, .long d] ++ List.replicate (6 - (lg_sl [.ref (h 0), .long k, .long d]).length) Slot.unset).toArray = ls at hl ⊢
  have hl : lv_has ls 6 [(0, .ref (h 0)), (1, .long k), (3, .long d)] := hl
  have hP : va_P (dC, dI) vwCl (wBJ cI cJ h σ) s.heap := hP
  refine lv_aload_n hx hb dX0_learn_0 rfl (lv_at hl 0 rfl) ?_
  refine lv_lload_n hx hb dX0_learn_1 rfl (lv_at hl 1 rfl) ?_
  refine bj_ri (As := [.long k]) (rest := []) (n := 1) ⟨hx, hb, hml, hown, htg⟩ (c_findKey l σ k (hc)) (cwV 1 htg gX0_103 rfl rfl rfl (by decide +kernel) ⟨Nat.le_of_ble_eq_true rfl, Nat.le_of_ble_eq_true rfl⟩) hK hP hD hS hA hl.1 rfl rfl (Nat.le_of_ble_eq_true rfl) dX0_learn_2 (Nat.zero_le _) (Nat.zero_le _) (fun H locs hP hS => ?_)
  have hlt := (fnd_lt hf).1
  rw [hf]
  refine W.eq (g2 := F0 m 5 ls [.int (nI i)]) rfl ?_
  refine lv_istore (lv' := [(5, .int (nI i)), (0, .ref (h 0)), (1, .long k), (3, .long d)]) hx hb dX0_learn_5 hl (by decide) rfl (fun ls hl => ?_)
  refine lv_iload hx hb dX0_learn_7 (lv_at hl 0 rfl) ?_
  refine lv_iconst (v := -1) hx hb dX0_learn_9 (by decide) ?_
  refine lv_icmp_ne (tgt := 32) hx hb dX0_learn_10 (by decide) (fun _ => ?_) (fun c => absurd c (optI_none (by omega)))
  refine lv_iload hx hb dX0_learn_32 (lv_at hl 0 rfl) ?_
  refine lv_iconst (v := -1) hx hb dX0_learn_34 (by decide) ?_
  refine lv_icmp_eq (tgt := 50) hx hb dX0_learn_35 (by decide) (fun c => absurd c (optI_none (by omega))) (fun _ => ?_)
  refine lv_aload_n hx hb dX0_learn_38 rfl (lv_at hl 1 rfl) ?_
  refine va_get (D := (dC, dI)) (ci := 0) (v := .ref (h 8)) (C := RX0) (T := TX0) (N := 14) hx hb htg inX0 (fs := fsBJ h σ) hown hK hP 0 rfl rfl 11 (by decide) (htg _ fX0_38) (fun _ h9 => h9) rfl dX0_learn_39 ?_
  refine lv_iload hx hb dX0_learn_42 (lv_at hl 0 rfl) ?_
  refine xr_lald (f := jgKD σ) (i := i) hx hb hK hP 8 1 rfl rfl (by omega) (by decide) dX0_learn_44 ?_
  refine lv_lload_n hx hb dX0_learn_45 rfl (lv_at hl 3 rfl) ?_
  refine xr_lcmp_eq (tgt := 67) hx hb dX0_learn_46 dX0_learn_47 (by decide) (fun c => absurd c hs) (fun _ => ?_)
  refine lv_aload_n hx hb dX0_learn_50 rfl (lv_at hl 1 rfl) ?_
  refine lv_bipush (v := nI 16) hx hb dX0_learn_51 (by decide) ?_
  exact bj_tv hlocks hout (As := [.int (nI 16)]) (rest := []) (n := 1) ⟨hx, hb, hml, hown, htg⟩ (c_demandRoomT l hl0 σ 16 (by omega) (by omega) (by omega)) (cwV 1 htg gX0_73 rfl rfl rfl (by decide +kernel) ⟨(Nat.le_of_ble_eq_true rfl), (Nat.le_of_ble_eq_true rfl)⟩) hK hP hD hS hH hl.1 rfl rfl (Nat.le_of_ble_eq_true rfl) dX0_learn_53 (Nat.le_of_ble_eq_true rfl) (Nat.le_of_ble_eq_true rfl)
set_option maxRecDepth 100000 in
set_option maxHeartbeats 4000000 in
theorem c_pinT (l : Launch) (hl0 : l.stackTraces = false) (σ : BJ) (k : Int32) (d : Int64) (h0 : k < 0 ∨ ¬ k < nI 4) : tB l yX0_pin wsX0_pin ({ frames := 7, cells := 1, slots := 6, locals := 140 } : Room) TXL σ [.int k, .long d] "java/lang/IllegalArgumentException" := by
  intro dC dI cI cJ h sz
  refine MetT.ofW (cc := cX0_pin) (maxL := 4) (ret := none) (by decide) rfl ?_
  intro p e s m args below meth c s₁ B hml hv
  obtain ⟨rfl, ⟨hsz, hP, hK, hD⟩, hH⟩ := hv
  have hx := B.exec
  have hb := B.bytes
  have hr := B.returns
  have hts := atoms_spec (ws := wsX0_pin) B.pre
  have hout : c.exceptionTable.isEmpty = true := B.noHandlers (hts _ List.mem_cons_self)
  have htg : ∀ w ∈ GW, w.before _ s = true := fun w h => hts w (List.mem_cons_of_mem _ h)
  have hown : s.vm.findClass RX0 = some m.cls := findClass_of_methodNamed B.named
  have hlocks := B.notSynchronized
  subst hsz
  have hA : ∀ q : Nat, s.heap.size ≤ q → (fun q => s.heap.size ≤ q) q := fun _ h => h
  have hS : va_S (fun q => s.heap.size ≤ q) s.heap s.heap [] := va_S.rf
  have hl := lv_entry [.ref (h 0), .int k, .long d] (n := 4) (Nat.le_of_ble_eq_true rfl)
  rw [lg_entry_eq]
  generalize (lg_sl [.ref (h 0), .int k, .long d] ++ List.replicate (4 - (lg_sl [.ref (h 0), .int k, .long d]).length) Slot.unset).toArray = ls at hl ⊢
  have hl : lv_has ls 4 [(0, .ref (h 0)), (1, .int k), (2, .long d)] := hl
  have hP : va_P (dC, dI) vwCl (wBJ cI cJ h σ) s.heap := hP
  refine lv_iload_n hx hb dX0_pin_0 rfl (lv_at hl 1 rfl) ?_
  refine lv_if_lt (tgt := 9) hx hb dX0_pin_1 (by decide) (fun c1 => ?_) (fun c1 => ?_)
  · exact tx_throwS hx hb hl0 hlocks hout (hl.1.trans hml.symm) (own := RX0) (E := "java/lang/IllegalArgumentException") (text := "there is no such pin") (sup := "java/lang/RuntimeException") (names := ["java/lang/Exception"]) (ik := 55) (is := 115) (ic := 59) (ix := 7) (rx := prog_5_method_2_code) hown (by decide +kernel) (by decide +kernel) (by decide +kernel) (by decide +kernel) (by decide +kernel) (by decide +kernel) (by decide +kernel) hH (txAll_59 htg) (htg _ hX0_55) (htg _ z_IllegalArgumentException) (htg _ n_IllegalArgumentException) (by decide +kernel) hS dX0_pin_9 dX0_pin_12 dX0_pin_13 dX0_pin_15 dX0_pin_18 (Nat.le_of_ble_eq_true rfl) (Nat.le_of_ble_eq_true rfl) (Nat.le_of_ble_eq_true rfl) (Nat.le_of_ble_eq_true rfl) (Nat.le_of_ble_eq_true rfl) (Nat.le_of_ble_eq_true rfl)
  · refine lv_iload_n hx hb dX0_pin_4 rfl (lv_at hl 1 rfl) ?_
    refine lv_iconst (v := nI 4) hx hb dX0_pin_5 (by decide) ?_
    refine lv_icmp_lt (tgt := 19) hx hb dX0_pin_6 (by decide) (fun c6 => absurd c6 (by exact h0.resolve_left c1)) (fun c6 => ?_)
    exact tx_throwS hx hb hl0 hlocks hout (hl.1.trans hml.symm) (own := RX0) (E := "java/lang/IllegalArgumentException") (text := "there is no such pin") (sup := "java/lang/RuntimeException") (names := ["java/lang/Exception"]) (ik := 55) (is := 115) (ic := 59) (ix := 7) (rx := prog_5_method_2_code) hown (by decide +kernel) (by decide +kernel) (by decide +kernel) (by decide +kernel) (by decide +kernel) (by decide +kernel) (by decide +kernel) hH (txAll_59 htg) (htg _ hX0_55) (htg _ z_IllegalArgumentException) (htg _ n_IllegalArgumentException) (by decide +kernel) hS dX0_pin_9 dX0_pin_12 dX0_pin_13 dX0_pin_15 dX0_pin_18 (Nat.le_of_ble_eq_true rfl) (Nat.le_of_ble_eq_true rfl) (Nat.le_of_ble_eq_true rfl) (Nat.le_of_ble_eq_true rfl) (Nat.le_of_ble_eq_true rfl) (Nat.le_of_ble_eq_true rfl)
set_option maxRecDepth 100000 in
set_option maxHeartbeats 4000000 in
theorem c_tagT (l : Launch) (hl0 : l.stackTraces = false) (σ : BJ) (t : Int32) (ht : isTg t = false) : tB l yX0_tag wsX0_tag ({ frames := 7, cells := 1, slots := 6, locals := 140 } : Room) TXL σ [.int t] "java/lang/IllegalArgumentException" := by
  intro dC dI cI cJ h sz
  refine MetT.ofW (cc := cX0_tag) (maxL := 3) (ret := (some .long)) (by decide) rfl ?_
  intro p e s m args below meth c s₁ B hml hv
  obtain ⟨rfl, ⟨hsz, hP, hK, hD⟩, hH⟩ := hv
  have hx := B.exec
  have hb := B.bytes
  have hr := B.returns
  have hts := atoms_spec (ws := wsX0_tag) B.pre
  have hout : c.exceptionTable.isEmpty = true := B.noHandlers (hts _ List.mem_cons_self)
  have htg : ∀ w ∈ GW, w.before _ s = true := fun w h => hts w (List.mem_cons_of_mem _ h)
  have hown : s.vm.findClass RX0 = some m.cls := findClass_of_methodNamed B.named
  have hlocks := B.notSynchronized
  subst hsz
  have hA : ∀ q : Nat, s.heap.size ≤ q → (fun q => s.heap.size ≤ q) q := fun _ h => h
  have hS : va_S (fun q => s.heap.size ≤ q) s.heap s.heap [] := va_S.rf
  have hl := lv_entry [.ref (h 0), .int t] (n := 3) (Nat.le_of_ble_eq_true rfl)
  rw [lg_entry_eq]
  generalize (lg_sl [.ref (h 0), .int t] ++ List.replicate (3 - (lg_sl [.ref (h 0), .int t]).length) Slot.unset).toArray = ls at hl ⊢
  have hl : lv_has ls 3 [(0, .ref (h 0)), (1, .int t)] := hl
  have hP : va_P (dC, dI) vwCl (wBJ cI cJ h σ) s.heap := hP
  refine lv_iload_n hx hb dX0_tag_0 rfl (lv_at hl 1 rfl) ?_
  exact tx_runS (As := [.int t]) (rest := []) ⟨hx, hb, hml, hown, htg⟩ (c_demandTagT l hl0 t ht _) (va_cwS 1 htg gX0_85 rfl rfl rfl (by decide +kernel) ⟨(Nat.le_of_ble_eq_true rfl), (Nat.le_of_ble_eq_true rfl)⟩) ⟨fun a U g mk q => ⟨q.1, q.2.1, q.2.2.calling g mk a⟩, fun U hU hW => ⟨rfl, congrArg Array.size hU, hH.keep hW (fun q hq => by rw [hU] <;> exact hS.2.1 q hq (Nat.not_le.mpr hq))⟩⟩ rfl rfl hl.1 rfl (lv_room (Nat.le_of_ble_eq_true rfl)) dX0_tag_1 ⟨(Nat.le_of_ble_eq_true rfl), (Nat.le_of_ble_eq_true rfl)⟩ (fun x st t H1 L h0 ht hvm hq hL => tx_thru hlocks hout hS h0 ht hvm hq hL)
set_option maxRecDepth 100000 in
set_option maxHeartbeats 4000000 in
theorem c_lookT (l : Launch) (hl0 : l.stackTraces = false) (σ : BJ) (k : Int64) (hc : jgKc σ ≤ 16) (hf : fnd (jgKS σ) k (jgKc σ) = none) : tB l yX0_look wsX0_look ({ frames := 7, cells := 1, slots := 6, locals := 140 } : Room) TXL σ [.long k] "java/util/NoSuchElementException" := by
  intro dC dI cI cJ h sz
  refine MetT.ofW (cc := cX0_look) (maxL := 4) (ret := (some .long)) (by decide) rfl ?_
  intro p e s m args below meth c s₁ B hml hv
  obtain ⟨rfl, ⟨hsz, hP, hK, hD⟩, hH⟩ := hv
  have hx := B.exec
  have hb := B.bytes
  have hr := B.returns
  have hts := atoms_spec (ws := wsX0_look) B.pre
  have hout : c.exceptionTable.isEmpty = true := B.noHandlers (hts _ List.mem_cons_self)
  have htg : ∀ w ∈ GW, w.before _ s = true := fun w h => hts w (List.mem_cons_of_mem _ h)
  have hown : s.vm.findClass RX0 = some m.cls := findClass_of_methodNamed B.named
  have hlocks := B.notSynchronized
  subst hsz
  have hA : ∀ q : Nat, s.heap.size ≤ q → (fun q => s.heap.size ≤ q) q := fun _ h => h
  have hS : va_S (fun q => s.heap.size ≤ q) s.heap s.heap [] := va_S.rf
  have hl := lv_entry [.ref (h 0), .long k] (n := 4) (Nat.le_of_ble_eq_true rfl)
  rw [lg_entry_eq]
  generalize (lg_sl [.ref (h 0), .long k] ++ List.replicate (4 - (lg_sl [.ref (h 0), .long k]).length) Slot.unset).toArray = ls at hl ⊢
  have hl : lv_has ls 4 [(0, .ref (h 0)), (1, .long k)] := hl
  have hP : va_P (dC, dI) vwCl (wBJ cI cJ h σ) s.heap := hP
  refine lv_aload_n hx hb dX0_look_0 rfl (lv_at hl 0 rfl) ?_
  refine lv_lload_n hx hb dX0_look_1 rfl (lv_at hl 1 rfl) ?_
  refine bj_ri (As := [.long k]) (rest := []) (n := 1) ⟨hx, hb, hml, hown, htg⟩ (c_findKey l σ k (hc)) (cwV 1 htg gX0_103 rfl rfl rfl (by decide +kernel) ⟨Nat.le_of_ble_eq_true rfl, Nat.le_of_ble_eq_true rfl⟩) hK hP hD hS hA hl.1 rfl rfl (Nat.le_of_ble_eq_true rfl) dX0_look_2 (Nat.zero_le _) (Nat.zero_le _) (fun H locs hP hS => ?_)
  rw [hf]
  refine W.eq (g2 := F0 m 5 ls [.int (-1)]) rfl ?_
  refine lv_istore_n (lv' := [(3, .int (-1)), (0, .ref (h 0)), (1, .long k)]) hx hb dX0_look_5 rfl hl (by decide) rfl (fun ls hl => ?_)
  refine lv_iload_n hx hb dX0_look_6 rfl (lv_at hl 0 rfl) ?_
  refine lv_iconst (v := -1) hx hb dX0_look_7 (by decide) ?_
  refine lv_icmp_ne (tgt := 21) hx hb dX0_look_8 (by decide) (fun c => absurd rfl c) (fun _ => ?_)
  exact tx_throwS hx hb hl0 hlocks hout (hl.1.trans hml.symm) (own := RX0) (E := "java/util/NoSuchElementException") (text := "there is no such key") (sup := "java/lang/RuntimeException") (names := ["java/lang/Exception"]) (ik := 88) (is := 117) (ic := 92) (ix := 13) (rx := prog_13_method_4_code) hown (by decide +kernel) (by decide +kernel) (by decide +kernel) (by decide +kernel) (by decide +kernel) (by decide +kernel) (by decide +kernel) hH (txAll_92 htg) (htg _ hX0_88) (htg _ z_NoSuchElementException) (htg _ n_NoSuchElementException) (by decide +kernel) hS dX0_look_11 dX0_look_14 dX0_look_15 dX0_look_17 dX0_look_20 (Nat.le_of_ble_eq_true rfl) (Nat.le_of_ble_eq_true rfl) (Nat.le_of_ble_eq_true rfl) (Nat.le_of_ble_eq_true rfl) (Nat.le_of_ble_eq_true rfl) (Nat.le_of_ble_eq_true rfl)
set_option maxRecDepth 100000 in
set_option maxHeartbeats 4000000 in
theorem c_byteOfT1 (l : Launch) (hl0 : l.stackTraces = false) (σ : BJ) (d : Int64) (k : Int32) (hc : jgBc σ ≤ 20) (hf : fnd (jgBD σ) d (jgBc σ) = none) : tB l yX0_byteOf wsX0_byteOf ({ frames := 7, cells := 1, slots := 6, locals := 140 } : Room) TXL σ [.long d, .int k] "java/util/NoSuchElementException" := by
  intro dC dI cI cJ h sz
  refine MetT.ofW (cc := cX0_byteOf) (maxL := 5) (ret := (some .int)) (by decide) rfl ?_
  intro p e s m args below meth c s₁ B hml hv
  obtain ⟨rfl, ⟨hsz, hP, hK, hD⟩, hH⟩ := hv
  have hx := B.exec
  have hb := B.bytes
  have hr := B.returns
  have hts := atoms_spec (ws := wsX0_byteOf) B.pre
  have hout : c.exceptionTable.isEmpty = true := B.noHandlers (hts _ List.mem_cons_self)
  have htg : ∀ w ∈ GW, w.before _ s = true := fun w h => hts w (List.mem_cons_of_mem _ h)
  have hown : s.vm.findClass RX0 = some m.cls := findClass_of_methodNamed B.named
  have hlocks := B.notSynchronized
  subst hsz
  have hA : ∀ q : Nat, s.heap.size ≤ q → (fun q => s.heap.size ≤ q) q := fun _ h => h
  have hS : va_S (fun q => s.heap.size ≤ q) s.heap s.heap [] := va_S.rf
  have hl := lv_entry [.ref (h 0), .long d, .int k] (n := 5) (Nat.le_of_ble_eq_true rfl)
  rw [lg_entry_eq]
  generalize (lg_sl [.ref (h 0), .long d, .int k] ++ List.replicate (5 - (lg_sl [.ref (h 0), .long d, .int k]).length) Slot.unset).toArray = ls at hl ⊢
  have hl : lv_has ls 5 [(0, .ref (h 0)), (1, .long d), (3, .int k)] := hl
  have hP : va_P (dC, dI) vwCl (wBJ cI cJ h σ) s.heap := hP
  refine lv_aload_n hx hb dX0_byteOf_0 rfl (lv_at hl 0 rfl) ?_
  refine lv_lload_n hx hb dX0_byteOf_1 rfl (lv_at hl 1 rfl) ?_
  refine bj_ri (As := [.long d]) (rest := []) (n := 1) ⟨hx, hb, hml, hown, htg⟩ (c_findBlob l σ d (hc)) (cwV 1 htg gX0_64 rfl rfl rfl (by decide +kernel) ⟨Nat.le_of_ble_eq_true rfl, Nat.le_of_ble_eq_true rfl⟩) hK hP hD hS hA hl.1 rfl rfl (Nat.le_of_ble_eq_true rfl) dX0_byteOf_2 (Nat.zero_le _) (Nat.zero_le _) (fun H locs hP hS => ?_)
  rw [hf]
  refine W.eq (g2 := F0 m 5 ls [.int (-1)]) rfl ?_
  refine lv_istore (lv' := [(4, .int (-1)), (0, .ref (h 0)), (1, .long d), (3, .int k)]) hx hb dX0_byteOf_5 hl (by decide) rfl (fun ls hl => ?_)
  refine lv_iload hx hb dX0_byteOf_7 (lv_at hl 0 rfl) ?_
  refine lv_iconst (v := -1) hx hb dX0_byteOf_9 (by decide) ?_
  refine lv_icmp_ne (tgt := 23) hx hb dX0_byteOf_10 (by decide) (fun c => absurd rfl c) (fun _ => ?_)
  exact tx_throwS hx hb hl0 hlocks hout (hl.1.trans hml.symm) (own := RX0) (E := "java/util/NoSuchElementException") (text := "no blob has this digest") (sup := "java/lang/RuntimeException") (names := ["java/lang/Exception"]) (ik := 88) (is := 90) (ic := 92) (ix := 13) (rx := prog_13_method_4_code) hown (by decide +kernel) (by decide +kernel) (by decide +kernel) (by decide +kernel) (by decide +kernel) (by decide +kernel) (by decide +kernel) hH (txAll_92 htg) (htg _ hX0_88) (htg _ z_NoSuchElementException) (htg _ n_NoSuchElementException) (by decide +kernel) hS dX0_byteOf_13 dX0_byteOf_16 dX0_byteOf_17 dX0_byteOf_19 dX0_byteOf_22 (Nat.le_of_ble_eq_true rfl) (Nat.le_of_ble_eq_true rfl) (Nat.le_of_ble_eq_true rfl) (Nat.le_of_ble_eq_true rfl) (Nat.le_of_ble_eq_true rfl) (Nat.le_of_ble_eq_true rfl)
set_option maxRecDepth 100000 in
set_option maxHeartbeats 4000000 in
theorem c_byteOfT2 (l : Launch) (hl0 : l.stackTraces = false) (σ : BJ) (d : Int64) (k : Int32) (b : Nat) (hc : jgBc σ ≤ 20) (hf : fnd (jgBD σ) d (jgBc σ) = some b) (h0 : k < 0 ∨ ¬ k < jgBL σ b) : tB l yX0_byteOf wsX0_byteOf ({ frames := 7, cells := 1, slots := 6, locals := 140 } : Room) TXL σ [.long d, .int k] "java/lang/IndexOutOfBoundsException" := by
  intro dC dI cI cJ h sz
  refine MetT.ofW (cc := cX0_byteOf) (maxL := 5) (ret := (some .int)) (by decide) rfl ?_
  intro p e s m args below meth c s₁ B hml hv
  obtain ⟨rfl, ⟨hsz, hP, hK, hD⟩, hH⟩ := hv
  have hx := B.exec
  have hb := B.bytes
  have hr := B.returns
  have hts := atoms_spec (ws := wsX0_byteOf) B.pre
  have hout : c.exceptionTable.isEmpty = true := B.noHandlers (hts _ List.mem_cons_self)
  have htg : ∀ w ∈ GW, w.before _ s = true := fun w h => hts w (List.mem_cons_of_mem _ h)
  have hown : s.vm.findClass RX0 = some m.cls := findClass_of_methodNamed B.named
  have hlocks := B.notSynchronized
  subst hsz
  have hA : ∀ q : Nat, s.heap.size ≤ q → (fun q => s.heap.size ≤ q) q := fun _ h => h
  have hS : va_S (fun q => s.heap.size ≤ q) s.heap s.heap [] := va_S.rf
  have hl := lv_entry [.ref (h 0), .long d, .int k] (n := 5) (Nat.le_of_ble_eq_true rfl)
  rw [lg_entry_eq]
  generalize (lg_sl [.ref (h 0), .long d, .int k] ++ List.replicate (5 - (lg_sl [.ref (h 0), .long d, .int k]).length) Slot.unset).toArray = ls at hl ⊢
  have hl : lv_has ls 5 [(0, .ref (h 0)), (1, .long d), (3, .int k)] := hl
  have hP : va_P (dC, dI) vwCl (wBJ cI cJ h σ) s.heap := hP
  refine lv_aload_n hx hb dX0_byteOf_0 rfl (lv_at hl 0 rfl) ?_
  refine lv_lload_n hx hb dX0_byteOf_1 rfl (lv_at hl 1 rfl) ?_
  refine bj_ri (As := [.long d]) (rest := []) (n := 1) ⟨hx, hb, hml, hown, htg⟩ (c_findBlob l σ d (hc)) (cwV 1 htg gX0_64 rfl rfl rfl (by decide +kernel) ⟨Nat.le_of_ble_eq_true rfl, Nat.le_of_ble_eq_true rfl⟩) hK hP hD hS hA hl.1 rfl rfl (Nat.le_of_ble_eq_true rfl) dX0_byteOf_2 (Nat.zero_le _) (Nat.zero_le _) (fun H locs hP hS => ?_)
  have hlt := (fnd_lt hf).1
  rw [hf]
  refine W.eq (g2 := F0 m 5 ls [.int (nI b)]) rfl ?_
  refine lv_istore (lv' := [(4, .int (nI b)), (0, .ref (h 0)), (1, .long d), (3, .int k)]) hx hb dX0_byteOf_5 hl (by decide) rfl (fun ls hl => ?_)
  refine lv_iload hx hb dX0_byteOf_7 (lv_at hl 0 rfl) ?_
  refine lv_iconst (v := -1) hx hb dX0_byteOf_9 (by decide) ?_
  refine lv_icmp_ne (tgt := 23) hx hb dX0_byteOf_10 (by decide) (fun _ => ?_) (fun c => absurd c (optI_none (by omega)))
  refine lv_iload_n hx hb dX0_byteOf_23 rfl (lv_at hl 3 rfl) ?_
  refine lv_if_lt (tgt := 38) hx hb dX0_byteOf_24 (by decide) (fun c24 => ?_) (fun c24 => ?_)
  · exact tx_throwS hx hb hl0 hlocks hout (hl.1.trans hml.symm) (own := RX0) (E := "java/lang/IndexOutOfBoundsException") (text := "the blob has no such byte") (sup := "java/lang/RuntimeException") (names := ["java/lang/Exception"]) (ik := 119) (is := 121) (ic := 123) (ix := 7) (rx := prog_6_method_2_code) hown (by decide +kernel) (by decide +kernel) (by decide +kernel) (by decide +kernel) (by decide +kernel) (by decide +kernel) (by decide +kernel) hH (txAll_123 htg) (htg _ hX0_119) (htg _ z_IndexOutOfBoundsException) (htg _ n_IndexOutOfBoundsException) (by decide +kernel) hS dX0_byteOf_38 dX0_byteOf_41 dX0_byteOf_42 dX0_byteOf_44 dX0_byteOf_47 (Nat.le_of_ble_eq_true rfl) (Nat.le_of_ble_eq_true rfl) (Nat.le_of_ble_eq_true rfl) (Nat.le_of_ble_eq_true rfl) (Nat.le_of_ble_eq_true rfl) (Nat.le_of_ble_eq_true rfl)
  · refine lv_iload_n hx hb dX0_byteOf_27 rfl (lv_at hl 3 rfl) ?_
    refine lv_aload_n hx hb dX0_byteOf_28 rfl (lv_at hl 1 rfl) ?_
    refine va_get (D := (dC, dI)) (ci := 0) (v := .ref (h 5)) (C := RX0) (T := TX0) (N := 14) hx hb htg inX0 (fs := fsBJ h σ) hown hK hP 0 rfl rfl 7 (by decide) (htg _ fX0_23) (fun _ h9 => h9) rfl dX0_byteOf_29 ?_
    refine lv_iload hx hb dX0_byteOf_32 (lv_at hl 0 rfl) ?_
    refine xr_iald (f := jgBL σ) (i := b) hx hb hK hP 5 0 rfl rfl (by omega) (by decide) dX0_byteOf_34 ?_
    refine lv_icmp_lt (tgt := 48) hx hb dX0_byteOf_35 (by decide) (fun c35 => absurd c35 (by exact h0.resolve_left c24)) (fun c35 => ?_)
    exact tx_throwS hx hb hl0 hlocks hout (hl.1.trans hml.symm) (own := RX0) (E := "java/lang/IndexOutOfBoundsException") (text := "the blob has no such byte") (sup := "java/lang/RuntimeException") (names := ["java/lang/Exception"]) (ik := 119) (is := 121) (ic := 123) (ix := 7) (rx := prog_6_method_2_code) hown (by decide +kernel) (by decide +kernel) (by decide +kernel) (by decide +kernel) (by decide +kernel) (by decide +kernel) (by decide +kernel) hH (txAll_123 htg) (htg _ hX0_119) (htg _ z_IndexOutOfBoundsException) (htg _ n_IndexOutOfBoundsException) (by decide +kernel) hS dX0_byteOf_38 dX0_byteOf_41 dX0_byteOf_42 dX0_byteOf_44 dX0_byteOf_47 (Nat.le_of_ble_eq_true rfl) (Nat.le_of_ble_eq_true rfl) (Nat.le_of_ble_eq_true rfl) (Nat.le_of_ble_eq_true rfl) (Nat.le_of_ble_eq_true rfl) (Nat.le_of_ble_eq_true rfl)
set_option maxRecDepth 100000 in
set_option maxHeartbeats 4000000 in
theorem c_countT (l : Launch) (hl0 : l.stackTraces = false) (σ : BJ) (v : Int32) (h0 : v.toInt < 0 ∨ 3 < v.toInt) : tB l yX0_count wsX0_count ({ frames := 7, cells := 1, slots := 6, locals := 140 } : Room) TXL σ [.int v] "java/lang/IllegalArgumentException" := by
  intro dC dI cI cJ h sz
  refine MetT.ofW (cc := cX0_count) (maxL := 2) (ret := (some .int)) (by decide) rfl ?_
  intro p e s m args below meth c s₁ B hml hv
  obtain ⟨rfl, ⟨hsz, hP, hK, hD⟩, hH⟩ := hv
  have hx := B.exec
  have hb := B.bytes
  have hr := B.returns
  have hts := atoms_spec (ws := wsX0_count) B.pre
  have hout : c.exceptionTable.isEmpty = true := B.noHandlers (hts _ List.mem_cons_self)
  have htg : ∀ w ∈ GW, w.before _ s = true := fun w h => hts w (List.mem_cons_of_mem _ h)
  have hown : s.vm.findClass RX0 = some m.cls := findClass_of_methodNamed B.named
  have hlocks := B.notSynchronized
  subst hsz
  have hA : ∀ q : Nat, s.heap.size ≤ q → (fun q => s.heap.size ≤ q) q := fun _ h => h
  have hS : va_S (fun q => s.heap.size ≤ q) s.heap s.heap [] := va_S.rf
  have hl := lv_entry [.ref (h 0), .int v] (n := 2) (Nat.le_of_ble_eq_true rfl)
  rw [lg_entry_eq]
  generalize (lg_sl [.ref (h 0), .int v] ++ List.replicate (2 - (lg_sl [.ref (h 0), .int v]).length) Slot.unset).toArray = ls at hl ⊢
  have hl : lv_has ls 2 [(0, .ref (h 0)), (1, .int v)] := hl
  have hP : va_P (dC, dI) vwCl (wBJ cI cJ h σ) s.heap := hP
  refine lv_iload_n hx hb dX0_count_0 rfl (lv_at hl 1 rfl) ?_
  refine lv_tableOut (tgt := 52) hx hb dX0_count_1 h0 (by decide) ?_
  exact tx_throwS hx hb hl0 hlocks hout (hl.1.trans hml.symm) (own := RX0) (E := "java/lang/IllegalArgumentException") (text := "there is no such count") (sup := "java/lang/RuntimeException") (names := ["java/lang/Exception"]) (ik := 55) (is := 130) (ic := 59) (ix := 7) (rx := prog_5_method_2_code) hown (by decide +kernel) (by decide +kernel) (by decide +kernel) (by decide +kernel) (by decide +kernel) (by decide +kernel) (by decide +kernel) hH (txAll_59 htg) (htg _ hX0_55) (htg _ z_IllegalArgumentException) (htg _ n_IllegalArgumentException) (by decide +kernel) hS dX0_count_52 dX0_count_55 dX0_count_56 dX0_count_58 dX0_count_61 (Nat.le_of_ble_eq_true rfl) (Nat.le_of_ble_eq_true rfl) (Nat.le_of_ble_eq_true rfl) (Nat.le_of_ble_eq_true rfl) (Nat.le_of_ble_eq_true rfl) (Nat.le_of_ble_eq_true rfl)
set_option maxRecDepth 100000 in
set_option maxHeartbeats 4000000 in
theorem c_journalT (l : Launch) (hl0 : l.stackTraces = false) (σ : BJ) (k : Int32) (h0 : k < 0 ∨ ¬ k < nI (jgWc σ)) : tB l yX0_journal wsX0_journal ({ frames := 7, cells := 1, slots := 6, locals := 140 } : Room) TXL σ [.int k] "java/lang/IndexOutOfBoundsException" := by
  intro dC dI cI cJ h sz
  refine MetT.ofW (cc := cX0_journal) (maxL := 2) (ret := (some .int)) (by decide) rfl ?_
  intro p e s m args below meth c s₁ B hml hv
  obtain ⟨rfl, ⟨hsz, hP, hK, hD⟩, hH⟩ := hv
  have hx := B.exec
  have hb := B.bytes
  have hr := B.returns
  have hts := atoms_spec (ws := wsX0_journal) B.pre
  have hout : c.exceptionTable.isEmpty = true := B.noHandlers (hts _ List.mem_cons_self)
  have htg : ∀ w ∈ GW, w.before _ s = true := fun w h => hts w (List.mem_cons_of_mem _ h)
  have hown : s.vm.findClass RX0 = some m.cls := findClass_of_methodNamed B.named
  have hlocks := B.notSynchronized
  subst hsz
  have hA : ∀ q : Nat, s.heap.size ≤ q → (fun q => s.heap.size ≤ q) q := fun _ h => h
  have hS : va_S (fun q => s.heap.size ≤ q) s.heap s.heap [] := va_S.rf
  have hl := lv_entry [.ref (h 0), .int k] (n := 2) (Nat.le_of_ble_eq_true rfl)
  rw [lg_entry_eq]
  generalize (lg_sl [.ref (h 0), .int k] ++ List.replicate (2 - (lg_sl [.ref (h 0), .int k]).length) Slot.unset).toArray = ls at hl ⊢
  have hl : lv_has ls 2 [(0, .ref (h 0)), (1, .int k)] := hl
  have hP : va_P (dC, dI) vwCl (wBJ cI cJ h σ) s.heap := hP
  refine lv_iload_n hx hb dX0_journal_0 rfl (lv_at hl 1 rfl) ?_
  refine lv_if_lt (tgt := 12) hx hb dX0_journal_1 (by decide) (fun c1 => ?_) (fun c1 => ?_)
  · exact tx_throwS hx hb hl0 hlocks hout (hl.1.trans hml.symm) (own := RX0) (E := "java/lang/IndexOutOfBoundsException") (text := "the journal has no such byte") (sup := "java/lang/RuntimeException") (names := ["java/lang/Exception"]) (ik := 119) (is := 132) (ic := 123) (ix := 7) (rx := prog_6_method_2_code) hown (by decide +kernel) (by decide +kernel) (by decide +kernel) (by decide +kernel) (by decide +kernel) (by decide +kernel) (by decide +kernel) hH (txAll_123 htg) (htg _ hX0_119) (htg _ z_IndexOutOfBoundsException) (htg _ n_IndexOutOfBoundsException) (by decide +kernel) hS dX0_journal_12 dX0_journal_15 dX0_journal_16 dX0_journal_18 dX0_journal_21 (Nat.le_of_ble_eq_true rfl) (Nat.le_of_ble_eq_true rfl) (Nat.le_of_ble_eq_true rfl) (Nat.le_of_ble_eq_true rfl) (Nat.le_of_ble_eq_true rfl) (Nat.le_of_ble_eq_true rfl)
  · refine lv_iload_n hx hb dX0_journal_4 rfl (lv_at hl 1 rfl) ?_
    refine lv_aload_n hx hb dX0_journal_5 rfl (lv_at hl 0 rfl) ?_
    refine va_get (D := (dC, dI)) (ci := 0) (v := .int (nI (jgWc σ))) (C := RX0) (T := TX0) (N := 14) hx hb htg inX0 (fs := fsBJ h σ) hown hK hP 0 rfl rfl 3 (by decide) (htg _ fX0_124) (fun _ h9 => h9) rfl dX0_journal_6 ?_
    refine lv_icmp_lt (tgt := 22) hx hb dX0_journal_9 (by decide) (fun c9 => absurd c9 (by exact h0.resolve_left c1)) (fun c9 => ?_)
    exact tx_throwS hx hb hl0 hlocks hout (hl.1.trans hml.symm) (own := RX0) (E := "java/lang/IndexOutOfBoundsException") (text := "the journal has no such byte") (sup := "java/lang/RuntimeException") (names := ["java/lang/Exception"]) (ik := 119) (is := 132) (ic := 123) (ix := 7) (rx := prog_6_method_2_code) hown (by decide +kernel) (by decide +kernel) (by decide +kernel) (by decide +kernel) (by decide +kernel) (by decide +kernel) (by decide +kernel) hH (txAll_123 htg) (htg _ hX0_119) (htg _ z_IndexOutOfBoundsException) (htg _ n_IndexOutOfBoundsException) (by decide +kernel) hS dX0_journal_12 dX0_journal_15 dX0_journal_16 dX0_journal_18 dX0_journal_21 (Nat.le_of_ble_eq_true rfl) (Nat.le_of_ble_eq_true rfl) (Nat.le_of_ble_eq_true rfl) (Nat.le_of_ble_eq_true rfl) (Nat.le_of_ble_eq_true rfl) (Nat.le_of_ble_eq_true rfl)
set_option maxRecDepth 100000 in
set_option maxHeartbeats 4000000 in
theorem c_crashT (l : Launch) (hl0 : l.stackTraces = false) (σ : BJ) (n : Int32) (sp : Int32) (h0 : n < 0 ∨ ¬ n ≤ nI (jgWc σ - jgSc σ)) (hsc : jgSc σ ≤ jgWc σ) : tB l yX0_crash wsX0_crash ({ frames := 7, cells := 1, slots := 6, locals := 140 } : Room) TXL σ [.int n, .int sp] "java/lang/IllegalArgumentException" := by
  intro dC dI cI cJ h sz
  refine MetT.ofW (cc := cX0_crash) (maxL := 3) (ret := (some .int)) (by decide) rfl ?_
  intro p e s m args below meth c s₁ B hml hv
  obtain ⟨rfl, ⟨hsz, hP, hK, hD⟩, hH⟩ := hv
  have hx := B.exec
  have hb := B.bytes
  have hr := B.returns
  have hts := atoms_spec (ws := wsX0_crash) B.pre
  have hout : c.exceptionTable.isEmpty = true := B.noHandlers (hts _ List.mem_cons_self)
  have htg : ∀ w ∈ GW, w.before _ s = true := fun w h => hts w (List.mem_cons_of_mem _ h)
  have hown : s.vm.findClass RX0 = some m.cls := findClass_of_methodNamed B.named
  have hlocks := B.notSynchronized
  subst hsz
  have hA : ∀ q : Nat, s.heap.size ≤ q → (fun q => s.heap.size ≤ q) q := fun _ h => h
  have hS : va_S (fun q => s.heap.size ≤ q) s.heap s.heap [] := va_S.rf
  have hl := lv_entry [.ref (h 0), .int n, .int sp] (n := 3) (Nat.le_of_ble_eq_true rfl)
  rw [lg_entry_eq]
  generalize (lg_sl [.ref (h 0), .int n, .int sp] ++ List.replicate (3 - (lg_sl [.ref (h 0), .int n, .int sp]).length) Slot.unset).toArray = ls at hl ⊢
  have hl : lv_has ls 3 [(0, .ref (h 0)), (1, .int n), (2, .int sp)] := hl
  have hP : va_P (dC, dI) vwCl (wBJ cI cJ h σ) s.heap := hP
  refine lv_iload_n hx hb dX0_crash_0 rfl (lv_at hl 1 rfl) ?_
  refine lv_if_lt (tgt := 17) hx hb dX0_crash_1 (by decide) (fun c1 => ?_) (fun c1 => ?_)
  · exact tx_throwS hx hb hl0 hlocks hout (hl.1.trans hml.symm) (own := RX0) (E := "java/lang/IllegalArgumentException") (text := "not so many bytes are unsynced") (sup := "java/lang/RuntimeException") (names := ["java/lang/Exception"]) (ik := 55) (is := 134) (ic := 59) (ix := 7) (rx := prog_5_method_2_code) hown (by decide +kernel) (by decide +kernel) (by decide +kernel) (by decide +kernel) (by decide +kernel) (by decide +kernel) (by decide +kernel) hH (txAll_59 htg) (htg _ hX0_55) (htg _ z_IllegalArgumentException) (htg _ n_IllegalArgumentException) (by decide +kernel) hS dX0_crash_17 dX0_crash_20 dX0_crash_21 dX0_crash_23 dX0_crash_26 (Nat.le_of_ble_eq_true rfl) (Nat.le_of_ble_eq_true rfl) (Nat.le_of_ble_eq_true rfl) (Nat.le_of_ble_eq_true rfl) (Nat.le_of_ble_eq_true rfl) (Nat.le_of_ble_eq_true rfl)
  · refine lv_iload_n hx hb dX0_crash_4 rfl (lv_at hl 1 rfl) ?_
    refine lv_aload_n hx hb dX0_crash_5 rfl (lv_at hl 0 rfl) ?_
    refine va_get (D := (dC, dI)) (ci := 0) (v := .int (nI (jgWc σ))) (C := RX0) (T := TX0) (N := 14) hx hb htg inX0 (fs := fsBJ h σ) hown hK hP 0 rfl rfl 3 (by decide) (htg _ fX0_124) (fun _ h9 => h9) rfl dX0_crash_6 ?_
    refine lv_aload_n hx hb dX0_crash_9 rfl (lv_at hl 0 rfl) ?_
    refine va_get (D := (dC, dI)) (ci := 0) (v := .int (nI (jgSc σ))) (C := RX0) (T := TX0) (N := 14) hx hb htg inX0 (fs := fsBJ h σ) hown hK hP 0 rfl rfl 4 (by decide) (htg _ fX0_127) (fun _ h9 => h9) rfl dX0_crash_10 ?_
    refine xr_isub hx hb (by omega) dX0_crash_13 ?_
    refine lv_icmp_le (tgt := 27) hx hb dX0_crash_14 (by decide) (fun c14 => absurd c14 (by exact h0.resolve_left c1)) (fun c14 => ?_)
    exact tx_throwS hx hb hl0 hlocks hout (hl.1.trans hml.symm) (own := RX0) (E := "java/lang/IllegalArgumentException") (text := "not so many bytes are unsynced") (sup := "java/lang/RuntimeException") (names := ["java/lang/Exception"]) (ik := 55) (is := 134) (ic := 59) (ix := 7) (rx := prog_5_method_2_code) hown (by decide +kernel) (by decide +kernel) (by decide +kernel) (by decide +kernel) (by decide +kernel) (by decide +kernel) (by decide +kernel) hH (txAll_59 htg) (htg _ hX0_55) (htg _ z_IllegalArgumentException) (htg _ n_IllegalArgumentException) (by decide +kernel) hS dX0_crash_17 dX0_crash_20 dX0_crash_21 dX0_crash_23 dX0_crash_26 (Nat.le_of_ble_eq_true rfl) (Nat.le_of_ble_eq_true rfl) (Nat.le_of_ble_eq_true rfl) (Nat.le_of_ble_eq_true rfl) (Nat.le_of_ble_eq_true rfl) (Nat.le_of_ble_eq_true rfl)
end
section
theorem dX1_init_0 : decode cX1_init 0 = .ok (.aload_n 0, 1) := by decide +kernel
theorem dX1_init_1 : decode cX1_init 1 = .ok (.invokespecial 1, 3) := by decide +kernel
theorem dX1_init_4 : decode cX1_init 4 = .ok (.aload_n 0, 1) := by decide +kernel
theorem dX1_init_5 : decode cX1_init 5 = .ok (.bipush 64, 2) := by decide +kernel
theorem dX1_init_7 : decode cX1_init 7 = .ok (.newarray .int, 2) := by decide +kernel
theorem dX1_init_9 : decode cX1_init 9 = .ok (.putfield 7, 3) := by decide +kernel
theorem dX1_init_12 : decode cX1_init 12 = .ok (.aload_n 0, 1) := by decide +kernel
theorem dX1_init_13 : decode cX1_init 13 = .ok (.bipush 20, 2) := by decide +kernel
theorem dX1_init_15 : decode cX1_init 15 = .ok (.newarray .long, 2) := by decide +kernel
theorem dX1_init_17 : decode cX1_init 17 = .ok (.putfield 13, 3) := by decide +kernel
theorem dX1_init_20 : decode cX1_init 20 = .ok (.aload_n 0, 1) := by decide +kernel
theorem dX1_init_21 : decode cX1_init 21 = .ok (.bipush 20, 2) := by decide +kernel
theorem dX1_init_23 : decode cX1_init 23 = .ok (.newarray .int, 2) := by decide +kernel
theorem dX1_init_25 : decode cX1_init 25 = .ok (.putfield 17, 3) := by decide +kernel
theorem dX1_init_28 : decode cX1_init 28 = .ok (.aload_n 0, 1) := by decide +kernel
theorem dX1_init_29 : decode cX1_init 29 = .ok (.sipush 14000, 3) := by decide +kernel
theorem dX1_init_32 : decode cX1_init 32 = .ok (.newarray .int, 2) := by decide +kernel
theorem dX1_init_34 : decode cX1_init 34 = .ok (.putfield 20, 3) := by decide +kernel
theorem dX1_init_37 : decode cX1_init 37 = .ok (.aload_n 0, 1) := by decide +kernel
theorem dX1_init_38 : decode cX1_init 38 = .ok (.bipush 8, 2) := by decide +kernel
theorem dX1_init_40 : decode cX1_init 40 = .ok (.newarray .long, 2) := by decide +kernel
theorem dX1_init_42 : decode cX1_init 42 = .ok (.putfield 23, 3) := by decide +kernel
theorem dX1_init_45 : decode cX1_init 45 = .ok (.aload_n 0, 1) := by decide +kernel
theorem dX1_init_46 : decode cX1_init 46 = .ok (.bipush 8, 2) := by decide +kernel
theorem dX1_init_48 : decode cX1_init 48 = .ok (.newarray .boolean, 2) := by decide +kernel
theorem dX1_init_50 : decode cX1_init 50 = .ok (.putfield 26, 3) := by decide +kernel
theorem dX1_init_53 : decode cX1_init 53 = .ok (.aload_n 0, 1) := by decide +kernel
theorem dX1_init_54 : decode cX1_init 54 = .ok (.bipush 16, 2) := by decide +kernel
theorem dX1_init_56 : decode cX1_init 56 = .ok (.newarray .long, 2) := by decide +kernel
theorem dX1_init_58 : decode cX1_init 58 = .ok (.putfield 30, 3) := by decide +kernel
theorem dX1_init_61 : decode cX1_init 61 = .ok (.aload_n 0, 1) := by decide +kernel
theorem dX1_init_62 : decode cX1_init 62 = .ok (.bipush 16, 2) := by decide +kernel
theorem dX1_init_64 : decode cX1_init 64 = .ok (.newarray .long, 2) := by decide +kernel
theorem dX1_init_66 : decode cX1_init 66 = .ok (.putfield 33, 3) := by decide +kernel
theorem dX1_init_69 : decode cX1_init 69 = .ok (.aload_n 0, 1) := by decide +kernel
theorem dX1_init_70 : decode cX1_init 70 = .ok (.iconst 4, 1) := by decide +kernel
theorem dX1_init_71 : decode cX1_init 71 = .ok (.newarray .long, 2) := by decide +kernel
theorem dX1_init_73 : decode cX1_init 73 = .ok (.putfield 36, 3) := by decide +kernel
theorem dX1_init_76 : decode cX1_init 76 = .ok (.aload_n 0, 1) := by decide +kernel
theorem dX1_init_77 : decode cX1_init 77 = .ok (.sipush 700, 3) := by decide +kernel
theorem dX1_init_80 : decode cX1_init 80 = .ok (.newarray .int, 2) := by decide +kernel
theorem dX1_init_82 : decode cX1_init 82 = .ok (.putfield 39, 3) := by decide +kernel
theorem dX1_init_85 : decode cX1_init 85 = .ok (.aload_n 0, 1) := by decide +kernel
theorem dX1_init_86 : decode cX1_init 86 = .ok (.sipush 700, 3) := by decide +kernel
theorem dX1_init_89 : decode cX1_init 89 = .ok (.newarray .int, 2) := by decide +kernel
theorem dX1_init_91 : decode cX1_init 91 = .ok (.putfield 42, 3) := by decide +kernel
theorem dX1_init_94 : decode cX1_init 94 = .ok (.return_, 1) := by decide +kernel
theorem dX1_thrown_0 : decode cX1_thrown 0 = .ok (.aload_n 0, 1) := by decide +kernel
theorem dX1_thrown_1 : decode cX1_thrown 1 = .ok (.getfield 45, 3) := by decide +kernel
theorem dX1_thrown_4 : decode cX1_thrown 4 = .ok (.ireturn, 1) := by decide +kernel
theorem dX1_type_0 : decode cX1_type 0 = .ok (.aload_n 0, 1) := by decide +kernel
theorem dX1_type_1 : decode cX1_type 1 = .ok (.aload_n 0, 1) := by decide +kernel
theorem dX1_type_2 : decode cX1_type 2 = .ok (.getfield 49, 3) := by decide +kernel
theorem dX1_type_5 : decode cX1_type 5 = .ok (.iconst 4, 1) := by decide +kernel
theorem dX1_type_6 : decode cX1_type 6 = .ok (.iadd, 1) := by decide +kernel
theorem dX1_type_7 : decode cX1_type 7 = .ok (.bipush 64, 2) := by decide +kernel
theorem dX1_type_9 : decode cX1_type 9 = .ok (.if_icmp .le 7, 3) := by decide +kernel
theorem dX1_type_12 : decode cX1_type 12 = .ok (.iconst 1, 1) := by decide +kernel
theorem dX1_type_13 : decode cX1_type 13 = .ok (.goto 4, 3) := by decide +kernel
theorem dX1_type_16 : decode cX1_type 16 = .ok (.iconst 0, 1) := by decide +kernel
theorem dX1_type_17 : decode cX1_type 17 = .ok (.putfield 45, 3) := by decide +kernel
theorem dX1_type_20 : decode cX1_type 20 = .ok (.aload_n 0, 1) := by decide +kernel
theorem dX1_type_21 : decode cX1_type 21 = .ok (.getfield 45, 3) := by decide +kernel
theorem dX1_type_24 : decode cX1_type 24 = .ok (.ifCond .le 5, 3) := by decide +kernel
theorem dX1_type_27 : decode cX1_type 27 = .ok (.iconst 0, 1) := by decide +kernel
theorem dX1_type_28 : decode cX1_type 28 = .ok (.ireturn, 1) := by decide +kernel
theorem dX1_type_29 : decode cX1_type 29 = .ok (.iconst 0, 1) := by decide +kernel
theorem dX1_type_30 : decode cX1_type 30 = .ok (.istore_n 2, 1) := by decide +kernel
theorem dX1_type_31 : decode cX1_type 31 = .ok (.iload_n 2, 1) := by decide +kernel
theorem dX1_type_32 : decode cX1_type 32 = .ok (.iconst 4, 1) := by decide +kernel
theorem dX1_type_33 : decode cX1_type 33 = .ok (.if_icmp .ge 38, 3) := by decide +kernel
theorem dX1_type_36 : decode cX1_type 36 = .ok (.aload_n 0, 1) := by decide +kernel
theorem dX1_type_37 : decode cX1_type 37 = .ok (.getfield 7, 3) := by decide +kernel
theorem dX1_type_40 : decode cX1_type 40 = .ok (.aload_n 0, 1) := by decide +kernel
theorem dX1_type_41 : decode cX1_type 41 = .ok (.getfield 49, 3) := by decide +kernel
theorem dX1_type_44 : decode cX1_type 44 = .ok (.iload_n 1, 1) := by decide +kernel
theorem dX1_type_45 : decode cX1_type 45 = .ok (.bipush 8, 2) := by decide +kernel
theorem dX1_type_47 : decode cX1_type 47 = .ok (.iload_n 2, 1) := by decide +kernel
theorem dX1_type_48 : decode cX1_type 48 = .ok (.imul, 1) := by decide +kernel
theorem dX1_type_49 : decode cX1_type 49 = .ok (.ishr, 1) := by decide +kernel
theorem dX1_type_50 : decode cX1_type 50 = .ok (.sipush 255, 3) := by decide +kernel
theorem dX1_type_53 : decode cX1_type 53 = .ok (.iand, 1) := by decide +kernel
theorem dX1_type_54 : decode cX1_type 54 = .ok (.iastore, 1) := by decide +kernel
theorem dX1_type_55 : decode cX1_type 55 = .ok (.aload_n 0, 1) := by decide +kernel
theorem dX1_type_56 : decode cX1_type 56 = .ok (.dup, 1) := by decide +kernel
theorem dX1_type_57 : decode cX1_type 57 = .ok (.getfield 49, 3) := by decide +kernel
theorem dX1_type_60 : decode cX1_type 60 = .ok (.iconst 1, 1) := by decide +kernel
theorem dX1_type_61 : decode cX1_type 61 = .ok (.iadd, 1) := by decide +kernel
theorem dX1_type_62 : decode cX1_type 62 = .ok (.putfield 49, 3) := by decide +kernel
theorem dX1_type_65 : decode cX1_type 65 = .ok (.iinc 2 1, 3) := by decide +kernel
theorem dX1_type_68 : decode cX1_type 68 = .ok (.goto (-37), 3) := by decide +kernel
theorem dX1_type_71 : decode cX1_type 71 = .ok (.aload_n 0, 1) := by decide +kernel
theorem dX1_type_72 : decode cX1_type 72 = .ok (.getfield 49, 3) := by decide +kernel
theorem dX1_type_75 : decode cX1_type 75 = .ok (.ireturn, 1) := by decide +kernel
theorem dX1_cut_0 : decode cX1_cut 0 = .ok (.aload_n 0, 1) := by decide +kernel
theorem dX1_cut_1 : decode cX1_cut 1 = .ok (.iload_n 1, 1) := by decide +kernel
theorem dX1_cut_2 : decode cX1_cut 2 = .ok (.ifCond .lt 11, 3) := by decide +kernel
theorem dX1_cut_5 : decode cX1_cut 5 = .ok (.iload_n 1, 1) := by decide +kernel
theorem dX1_cut_6 : decode cX1_cut 6 = .ok (.aload_n 0, 1) := by decide +kernel
theorem dX1_cut_7 : decode cX1_cut 7 = .ok (.getfield 49, 3) := by decide +kernel
theorem dX1_cut_10 : decode cX1_cut 10 = .ok (.if_icmp .le 7, 3) := by decide +kernel
theorem dX1_cut_13 : decode cX1_cut 13 = .ok (.iconst 1, 1) := by decide +kernel
theorem dX1_cut_14 : decode cX1_cut 14 = .ok (.goto 4, 3) := by decide +kernel
theorem dX1_cut_17 : decode cX1_cut 17 = .ok (.iconst 0, 1) := by decide +kernel
theorem dX1_cut_18 : decode cX1_cut 18 = .ok (.putfield 45, 3) := by decide +kernel
theorem dX1_cut_21 : decode cX1_cut 21 = .ok (.aload_n 0, 1) := by decide +kernel
theorem dX1_cut_22 : decode cX1_cut 22 = .ok (.aload_n 0, 1) := by decide +kernel
theorem dX1_cut_23 : decode cX1_cut 23 = .ok (.getfield 45, 3) := by decide +kernel
theorem dX1_cut_26 : decode cX1_cut 26 = .ok (.ifCond .le 10, 3) := by decide +kernel
theorem dX1_cut_29 : decode cX1_cut 29 = .ok (.aload_n 0, 1) := by decide +kernel
theorem dX1_cut_30 : decode cX1_cut 30 = .ok (.getfield 49, 3) := by decide +kernel
theorem dX1_cut_33 : decode cX1_cut 33 = .ok (.goto 4, 3) := by decide +kernel
theorem dX1_cut_36 : decode cX1_cut 36 = .ok (.iload_n 1, 1) := by decide +kernel
theorem dX1_cut_37 : decode cX1_cut 37 = .ok (.putfield 49, 3) := by decide +kernel
theorem dX1_cut_40 : decode cX1_cut 40 = .ok (.return_, 1) := by decide +kernel
theorem dX1_ends_0 : decode cX1_ends 0 = .ok (.lload_n 0, 1) := by decide +kernel
theorem dX1_ends_1 : decode cX1_ends 1 = .ok (.iload_n 2, 1) := by decide +kernel
theorem dX1_ends_2 : decode cX1_ends 2 = .ok (.i2l, 1) := by decide +kernel
theorem dX1_ends_3 : decode cX1_ends 3 = .ok (.lxor, 1) := by decide +kernel
theorem dX1_ends_4 : decode cX1_ends 4 = .ok (.ldc2_w 52, 3) := by decide +kernel
theorem dX1_ends_7 : decode cX1_ends 7 = .ok (.lmul, 1) := by decide +kernel
theorem dX1_ends_8 : decode cX1_ends 8 = .ok (.lstore_n 3, 1) := by decide +kernel
theorem dX1_ends_9 : decode cX1_ends 9 = .ok (.lload_n 3, 1) := by decide +kernel
theorem dX1_ends_10 : decode cX1_ends 10 = .ok (.lload_n 3, 1) := by decide +kernel
theorem dX1_ends_11 : decode cX1_ends 11 = .ok (.bipush 32, 2) := by decide +kernel
theorem dX1_ends_13 : decode cX1_ends 13 = .ok (.lushr, 1) := by decide +kernel
theorem dX1_ends_14 : decode cX1_ends 14 = .ok (.lxor, 1) := by decide +kernel
theorem dX1_ends_15 : decode cX1_ends 15 = .ok (.lreturn, 1) := by decide +kernel
theorem dX1_goes_0 : decode cX1_goes 0 = .ok (.lload_n 0, 1) := by decide +kernel
theorem dX1_goes_1 : decode cX1_goes 1 = .ok (.iload_n 2, 1) := by decide +kernel
theorem dX1_goes_2 : decode cX1_goes 2 = .ok (.i2l, 1) := by decide +kernel
theorem dX1_goes_3 : decode cX1_goes 3 = .ok (.lxor, 1) := by decide +kernel
theorem dX1_goes_4 : decode cX1_goes 4 = .ok (.ldc2_w 54, 3) := by decide +kernel
theorem dX1_goes_7 : decode cX1_goes 7 = .ok (.lmul, 1) := by decide +kernel
theorem dX1_goes_8 : decode cX1_goes 8 = .ok (.lreturn, 1) := by decide +kernel
theorem dX1_digestOfTyped_0 : decode cX1_digestOfTyped 0 = .ok (.ldc2_w 56, 3) := by decide +kernel
theorem dX1_digestOfTyped_3 : decode cX1_digestOfTyped 3 = .ok (.lstore_n 1, 1) := by decide +kernel
theorem dX1_digestOfTyped_4 : decode cX1_digestOfTyped 4 = .ok (.iconst 0, 1) := by decide +kernel
theorem dX1_digestOfTyped_5 : decode cX1_digestOfTyped 5 = .ok (.istore_n 3, 1) := by decide +kernel
theorem dX1_digestOfTyped_6 : decode cX1_digestOfTyped 6 = .ok (.iload_n 3, 1) := by decide +kernel
theorem dX1_digestOfTyped_7 : decode cX1_digestOfTyped 7 = .ok (.aload_n 0, 1) := by decide +kernel
theorem dX1_digestOfTyped_8 : decode cX1_digestOfTyped 8 = .ok (.getfield 49, 3) := by decide +kernel
theorem dX1_digestOfTyped_11 : decode cX1_digestOfTyped 11 = .ok (.if_icmp .ge 20, 3) := by decide +kernel
theorem dX1_digestOfTyped_14 : decode cX1_digestOfTyped 14 = .ok (.lload_n 1, 1) := by decide +kernel
theorem dX1_digestOfTyped_15 : decode cX1_digestOfTyped 15 = .ok (.aload_n 0, 1) := by decide +kernel
theorem dX1_digestOfTyped_16 : decode cX1_digestOfTyped 16 = .ok (.getfield 7, 3) := by decide +kernel
theorem dX1_digestOfTyped_19 : decode cX1_digestOfTyped 19 = .ok (.iload_n 3, 1) := by decide +kernel
theorem dX1_digestOfTyped_20 : decode cX1_digestOfTyped 20 = .ok (.iaload, 1) := by decide +kernel
theorem dX1_digestOfTyped_21 : decode cX1_digestOfTyped 21 = .ok (.invokestatic 58, 3) := by decide +kernel
theorem dX1_digestOfTyped_24 : decode cX1_digestOfTyped 24 = .ok (.lstore_n 1, 1) := by decide +kernel
theorem dX1_digestOfTyped_25 : decode cX1_digestOfTyped 25 = .ok (.iinc 3 1, 3) := by decide +kernel
theorem dX1_digestOfTyped_28 : decode cX1_digestOfTyped 28 = .ok (.goto (-22), 3) := by decide +kernel
theorem dX1_digestOfTyped_31 : decode cX1_digestOfTyped 31 = .ok (.lload_n 1, 1) := by decide +kernel
theorem dX1_digestOfTyped_32 : decode cX1_digestOfTyped 32 = .ok (.aload_n 0, 1) := by decide +kernel
theorem dX1_digestOfTyped_33 : decode cX1_digestOfTyped 33 = .ok (.getfield 49, 3) := by decide +kernel
theorem dX1_digestOfTyped_36 : decode cX1_digestOfTyped 36 = .ok (.invokestatic 62, 3) := by decide +kernel
theorem dX1_digestOfTyped_39 : decode cX1_digestOfTyped 39 = .ok (.lreturn, 1) := by decide +kernel
theorem dX1_digestOfRecord_0 : decode cX1_digestOfRecord 0 = .ok (.ldc2_w 56, 3) := by decide +kernel
theorem dX1_digestOfRecord_3 : decode cX1_digestOfRecord 3 = .ok (.lstore_n 1, 1) := by decide +kernel
theorem dX1_digestOfRecord_4 : decode cX1_digestOfRecord 4 = .ok (.iconst 0, 1) := by decide +kernel
theorem dX1_digestOfRecord_5 : decode cX1_digestOfRecord 5 = .ok (.istore_n 3, 1) := by decide +kernel
theorem dX1_digestOfRecord_6 : decode cX1_digestOfRecord 6 = .ok (.iload_n 3, 1) := by decide +kernel
theorem dX1_digestOfRecord_7 : decode cX1_digestOfRecord 7 = .ok (.aload_n 0, 1) := by decide +kernel
theorem dX1_digestOfRecord_8 : decode cX1_digestOfRecord 8 = .ok (.getfield 65, 3) := by decide +kernel
theorem dX1_digestOfRecord_11 : decode cX1_digestOfRecord 11 = .ok (.if_icmp .ge 20, 3) := by decide +kernel
theorem dX1_digestOfRecord_14 : decode cX1_digestOfRecord 14 = .ok (.lload_n 1, 1) := by decide +kernel
theorem dX1_digestOfRecord_15 : decode cX1_digestOfRecord 15 = .ok (.aload_n 0, 1) := by decide +kernel
theorem dX1_digestOfRecord_16 : decode cX1_digestOfRecord 16 = .ok (.getfield 42, 3) := by decide +kernel
theorem dX1_digestOfRecord_19 : decode cX1_digestOfRecord 19 = .ok (.iload_n 3, 1) := by decide +kernel
theorem dX1_digestOfRecord_20 : decode cX1_digestOfRecord 20 = .ok (.iaload, 1) := by decide +kernel
theorem dX1_digestOfRecord_21 : decode cX1_digestOfRecord 21 = .ok (.invokestatic 58, 3) := by decide +kernel
theorem dX1_digestOfRecord_24 : decode cX1_digestOfRecord 24 = .ok (.lstore_n 1, 1) := by decide +kernel
theorem dX1_digestOfRecord_25 : decode cX1_digestOfRecord 25 = .ok (.iinc 3 1, 3) := by decide +kernel
theorem dX1_digestOfRecord_28 : decode cX1_digestOfRecord 28 = .ok (.goto (-22), 3) := by decide +kernel
theorem dX1_digestOfRecord_31 : decode cX1_digestOfRecord 31 = .ok (.lload_n 1, 1) := by decide +kernel
theorem dX1_digestOfRecord_32 : decode cX1_digestOfRecord 32 = .ok (.aload_n 0, 1) := by decide +kernel
theorem dX1_digestOfRecord_33 : decode cX1_digestOfRecord 33 = .ok (.getfield 65, 3) := by decide +kernel
theorem dX1_digestOfRecord_36 : decode cX1_digestOfRecord 36 = .ok (.invokestatic 62, 3) := by decide +kernel
theorem dX1_digestOfRecord_39 : decode cX1_digestOfRecord 39 = .ok (.lreturn, 1) := by decide +kernel
theorem dX1_digest_0 : decode cX1_digest 0 = .ok (.aload_n 0, 1) := by decide +kernel
theorem dX1_digest_1 : decode cX1_digest 1 = .ok (.iconst 0, 1) := by decide +kernel
theorem dX1_digest_2 : decode cX1_digest 2 = .ok (.putfield 45, 3) := by decide +kernel
theorem dX1_digest_5 : decode cX1_digest 5 = .ok (.aload_n 0, 1) := by decide +kernel
theorem dX1_digest_6 : decode cX1_digest 6 = .ok (.invokevirtual 68, 3) := by decide +kernel
theorem dX1_digest_9 : decode cX1_digest 9 = .ok (.lreturn, 1) := by decide +kernel
theorem dX1_blobOf_0 : decode cX1_blobOf 0 = .ok (.iconst 0, 1) := by decide +kernel
theorem dX1_blobOf_1 : decode cX1_blobOf 1 = .ok (.istore_n 3, 1) := by decide +kernel
theorem dX1_blobOf_2 : decode cX1_blobOf 2 = .ok (.iload_n 3, 1) := by decide +kernel
theorem dX1_blobOf_3 : decode cX1_blobOf 3 = .ok (.aload_n 0, 1) := by decide +kernel
theorem dX1_blobOf_4 : decode cX1_blobOf 4 = .ok (.getfield 72, 3) := by decide +kernel
theorem dX1_blobOf_7 : decode cX1_blobOf 7 = .ok (.if_icmp .ge 22, 3) := by decide +kernel
theorem dX1_blobOf_10 : decode cX1_blobOf 10 = .ok (.aload_n 0, 1) := by decide +kernel
theorem dX1_blobOf_11 : decode cX1_blobOf 11 = .ok (.getfield 13, 3) := by decide +kernel
theorem dX1_blobOf_14 : decode cX1_blobOf 14 = .ok (.iload_n 3, 1) := by decide +kernel
theorem dX1_blobOf_15 : decode cX1_blobOf 15 = .ok (.laload, 1) := by decide +kernel
theorem dX1_blobOf_16 : decode cX1_blobOf 16 = .ok (.lload_n 1, 1) := by decide +kernel
theorem dX1_blobOf_17 : decode cX1_blobOf 17 = .ok (.lcmp, 1) := by decide +kernel
theorem dX1_blobOf_18 : decode cX1_blobOf 18 = .ok (.ifCond .ne 5, 3) := by decide +kernel
theorem dX1_blobOf_21 : decode cX1_blobOf 21 = .ok (.iload_n 3, 1) := by decide +kernel
theorem dX1_blobOf_22 : decode cX1_blobOf 22 = .ok (.ireturn, 1) := by decide +kernel
theorem dX1_blobOf_23 : decode cX1_blobOf 23 = .ok (.iinc 3 1, 3) := by decide +kernel
theorem dX1_blobOf_26 : decode cX1_blobOf 26 = .ok (.goto (-24), 3) := by decide +kernel
theorem dX1_blobOf_29 : decode cX1_blobOf 29 = .ok (.iconst (-1), 1) := by decide +kernel
theorem dX1_blobOf_30 : decode cX1_blobOf 30 = .ok (.ireturn, 1) := by decide +kernel
theorem dX1_keyOf_0 : decode cX1_keyOf 0 = .ok (.iconst 0, 1) := by decide +kernel
theorem dX1_keyOf_1 : decode cX1_keyOf 1 = .ok (.istore_n 3, 1) := by decide +kernel
theorem dX1_keyOf_2 : decode cX1_keyOf 2 = .ok (.iload_n 3, 1) := by decide +kernel
theorem dX1_keyOf_3 : decode cX1_keyOf 3 = .ok (.aload_n 0, 1) := by decide +kernel
theorem dX1_keyOf_4 : decode cX1_keyOf 4 = .ok (.getfield 75, 3) := by decide +kernel
theorem dX1_keyOf_7 : decode cX1_keyOf 7 = .ok (.if_icmp .ge 22, 3) := by decide +kernel
theorem dX1_keyOf_10 : decode cX1_keyOf 10 = .ok (.aload_n 0, 1) := by decide +kernel
theorem dX1_keyOf_11 : decode cX1_keyOf 11 = .ok (.getfield 30, 3) := by decide +kernel
theorem dX1_keyOf_14 : decode cX1_keyOf 14 = .ok (.iload_n 3, 1) := by decide +kernel
theorem dX1_keyOf_15 : decode cX1_keyOf 15 = .ok (.laload, 1) := by decide +kernel
theorem dX1_keyOf_16 : decode cX1_keyOf 16 = .ok (.lload_n 1, 1) := by decide +kernel
theorem dX1_keyOf_17 : decode cX1_keyOf 17 = .ok (.lcmp, 1) := by decide +kernel
theorem dX1_keyOf_18 : decode cX1_keyOf 18 = .ok (.ifCond .ne 5, 3) := by decide +kernel
theorem dX1_keyOf_21 : decode cX1_keyOf 21 = .ok (.iload_n 3, 1) := by decide +kernel
theorem dX1_keyOf_22 : decode cX1_keyOf 22 = .ok (.ireturn, 1) := by decide +kernel
theorem dX1_keyOf_23 : decode cX1_keyOf 23 = .ok (.iinc 3 1, 3) := by decide +kernel
theorem dX1_keyOf_26 : decode cX1_keyOf 26 = .ok (.goto (-24), 3) := by decide +kernel
theorem dX1_keyOf_29 : decode cX1_keyOf 29 = .ok (.iconst (-1), 1) := by decide +kernel
theorem dX1_keyOf_30 : decode cX1_keyOf 30 = .ok (.ireturn, 1) := by decide +kernel
theorem dX1_next_0 : decode cX1_next 0 = .ok (.iconst 0, 1) := by decide +kernel
theorem dX1_next_1 : decode cX1_next 1 = .ok (.istore 4, 2) := by decide +kernel
theorem dX1_next_3 : decode cX1_next 3 = .ok (.iload 4, 2) := by decide +kernel
theorem dX1_next_5 : decode cX1_next 5 = .ok (.iload_n 3, 1) := by decide +kernel
theorem dX1_next_6 : decode cX1_next 6 = .ok (.if_icmp .ge 40, 3) := by decide +kernel
theorem dX1_next_9 : decode cX1_next 9 = .ok (.aload_n 0, 1) := by decide +kernel
theorem dX1_next_10 : decode cX1_next 10 = .ok (.getfield 42, 3) := by decide +kernel
theorem dX1_next_13 : decode cX1_next 13 = .ok (.aload_n 0, 1) := by decide +kernel
theorem dX1_next_14 : decode cX1_next 14 = .ok (.getfield 65, 3) := by decide +kernel
theorem dX1_next_17 : decode cX1_next 17 = .ok (.lload_n 1, 1) := by decide +kernel
theorem dX1_next_18 : decode cX1_next 18 = .ok (.bipush 8, 2) := by decide +kernel
theorem dX1_next_20 : decode cX1_next 20 = .ok (.iload 4, 2) := by decide +kernel
theorem dX1_next_22 : decode cX1_next 22 = .ok (.imul, 1) := by decide +kernel
theorem dX1_next_23 : decode cX1_next 23 = .ok (.lshr, 1) := by decide +kernel
theorem dX1_next_24 : decode cX1_next 24 = .ok (.ldc2_w 78, 3) := by decide +kernel
theorem dX1_next_27 : decode cX1_next 27 = .ok (.land, 1) := by decide +kernel
theorem dX1_next_28 : decode cX1_next 28 = .ok (.l2i, 1) := by decide +kernel
theorem dX1_next_29 : decode cX1_next 29 = .ok (.iastore, 1) := by decide +kernel
theorem dX1_next_30 : decode cX1_next 30 = .ok (.aload_n 0, 1) := by decide +kernel
theorem dX1_next_31 : decode cX1_next 31 = .ok (.dup, 1) := by decide +kernel
theorem dX1_next_32 : decode cX1_next 32 = .ok (.getfield 65, 3) := by decide +kernel
theorem dX1_next_35 : decode cX1_next 35 = .ok (.iconst 1, 1) := by decide +kernel
theorem dX1_next_36 : decode cX1_next 36 = .ok (.iadd, 1) := by decide +kernel
theorem dX1_next_37 : decode cX1_next 37 = .ok (.putfield 65, 3) := by decide +kernel
theorem dX1_next_40 : decode cX1_next 40 = .ok (.iinc 4 1, 3) := by decide +kernel
theorem dX1_next_43 : decode cX1_next 43 = .ok (.goto (-40), 3) := by decide +kernel
theorem dX1_next_46 : decode cX1_next 46 = .ok (.return_, 1) := by decide +kernel
theorem dX1_eight_0 : decode cX1_eight 0 = .ok (.lconst 0, 1) := by decide +kernel
theorem dX1_eight_1 : decode cX1_eight 1 = .ok (.lstore_n 2, 1) := by decide +kernel
theorem dX1_eight_2 : decode cX1_eight 2 = .ok (.bipush 7, 2) := by decide +kernel
theorem dX1_eight_4 : decode cX1_eight 4 = .ok (.istore 4, 2) := by decide +kernel
theorem dX1_eight_6 : decode cX1_eight 6 = .ok (.iload 4, 2) := by decide +kernel
theorem dX1_eight_8 : decode cX1_eight 8 = .ok (.ifCond .lt 25, 3) := by decide +kernel
theorem dX1_eight_11 : decode cX1_eight 11 = .ok (.lload_n 2, 1) := by decide +kernel
theorem dX1_eight_12 : decode cX1_eight 12 = .ok (.bipush 8, 2) := by decide +kernel
theorem dX1_eight_14 : decode cX1_eight 14 = .ok (.lshl, 1) := by decide +kernel
theorem dX1_eight_15 : decode cX1_eight 15 = .ok (.aload_n 0, 1) := by decide +kernel
theorem dX1_eight_16 : decode cX1_eight 16 = .ok (.getfield 42, 3) := by decide +kernel
theorem dX1_eight_19 : decode cX1_eight 19 = .ok (.iload_n 1, 1) := by decide +kernel
theorem dX1_eight_20 : decode cX1_eight 20 = .ok (.iload 4, 2) := by decide +kernel
theorem dX1_eight_22 : decode cX1_eight 22 = .ok (.iadd, 1) := by decide +kernel
theorem dX1_eight_23 : decode cX1_eight 23 = .ok (.iaload, 1) := by decide +kernel
theorem dX1_eight_24 : decode cX1_eight 24 = .ok (.i2l, 1) := by decide +kernel
theorem dX1_eight_25 : decode cX1_eight 25 = .ok (.lor, 1) := by decide +kernel
theorem dX1_eight_26 : decode cX1_eight 26 = .ok (.lstore_n 2, 1) := by decide +kernel
theorem dX1_eight_27 : decode cX1_eight 27 = .ok (.iinc 4 (-1), 3) := by decide +kernel
theorem dX1_eight_30 : decode cX1_eight 30 = .ok (.goto (-24), 3) := by decide +kernel
theorem dX1_eight_33 : decode cX1_eight 33 = .ok (.lload_n 2, 1) := by decide +kernel
theorem dX1_eight_34 : decode cX1_eight 34 = .ok (.lreturn, 1) := by decide +kernel
theorem dX1_hasRoom_0 : decode cX1_hasRoom 0 = .ok (.aload_n 0, 1) := by decide +kernel
theorem dX1_hasRoom_1 : decode cX1_hasRoom 1 = .ok (.getfield 80, 3) := by decide +kernel
theorem dX1_hasRoom_4 : decode cX1_hasRoom 4 = .ok (.aload_n 0, 1) := by decide +kernel
theorem dX1_hasRoom_5 : decode cX1_hasRoom 5 = .ok (.getfield 65, 3) := by decide +kernel
theorem dX1_hasRoom_8 : decode cX1_hasRoom 8 = .ok (.iadd, 1) := by decide +kernel
theorem dX1_hasRoom_9 : decode cX1_hasRoom 9 = .ok (.iconst 4, 1) := by decide +kernel
theorem dX1_hasRoom_10 : decode cX1_hasRoom 10 = .ok (.iadd, 1) := by decide +kernel
theorem dX1_hasRoom_11 : decode cX1_hasRoom 11 = .ok (.sipush 700, 3) := by decide +kernel
theorem dX1_hasRoom_14 : decode cX1_hasRoom 14 = .ok (.if_icmp .gt 7, 3) := by decide +kernel
theorem dX1_hasRoom_17 : decode cX1_hasRoom 17 = .ok (.iconst 1, 1) := by decide +kernel
theorem dX1_hasRoom_18 : decode cX1_hasRoom 18 = .ok (.goto 4, 3) := by decide +kernel
theorem dX1_hasRoom_21 : decode cX1_hasRoom 21 = .ok (.iconst 0, 1) := by decide +kernel
theorem dX1_hasRoom_22 : decode cX1_hasRoom 22 = .ok (.ireturn, 1) := by decide +kernel
theorem dX1_write_0 : decode cX1_write 0 = .ok (.aload_n 0, 1) := by decide +kernel
theorem dX1_write_1 : decode cX1_write 1 = .ok (.getfield 80, 3) := by decide +kernel
theorem dX1_write_4 : decode cX1_write 4 = .ok (.istore_n 2, 1) := by decide +kernel
theorem dX1_write_5 : decode cX1_write 5 = .ok (.aload_n 0, 1) := by decide +kernel
theorem dX1_write_6 : decode cX1_write 6 = .ok (.getfield 39, 3) := by decide +kernel
theorem dX1_write_9 : decode cX1_write 9 = .ok (.aload_n 0, 1) := by decide +kernel
theorem dX1_write_10 : decode cX1_write 10 = .ok (.getfield 80, 3) := by decide +kernel
theorem dX1_write_13 : decode cX1_write 13 = .ok (.iload_n 1, 1) := by decide +kernel
theorem dX1_write_14 : decode cX1_write 14 = .ok (.iastore, 1) := by decide +kernel
theorem dX1_write_15 : decode cX1_write 15 = .ok (.aload_n 0, 1) := by decide +kernel
theorem dX1_write_16 : decode cX1_write 16 = .ok (.getfield 39, 3) := by decide +kernel
theorem dX1_write_19 : decode cX1_write 19 = .ok (.aload_n 0, 1) := by decide +kernel
theorem dX1_write_20 : decode cX1_write 20 = .ok (.getfield 80, 3) := by decide +kernel
theorem dX1_write_23 : decode cX1_write 23 = .ok (.iconst 1, 1) := by decide +kernel
theorem dX1_write_24 : decode cX1_write 24 = .ok (.iadd, 1) := by decide +kernel
theorem dX1_write_25 : decode cX1_write 25 = .ok (.aload_n 0, 1) := by decide +kernel
theorem dX1_write_26 : decode cX1_write 26 = .ok (.getfield 65, 3) := by decide +kernel
theorem dX1_write_29 : decode cX1_write 29 = .ok (.sipush 255, 3) := by decide +kernel
theorem dX1_write_32 : decode cX1_write 32 = .ok (.iand, 1) := by decide +kernel
theorem dX1_write_33 : decode cX1_write 33 = .ok (.iastore, 1) := by decide +kernel
theorem dX1_write_34 : decode cX1_write 34 = .ok (.aload_n 0, 1) := by decide +kernel
theorem dX1_write_35 : decode cX1_write 35 = .ok (.getfield 39, 3) := by decide +kernel
theorem dX1_write_38 : decode cX1_write 38 = .ok (.aload_n 0, 1) := by decide +kernel
theorem dX1_write_39 : decode cX1_write 39 = .ok (.getfield 80, 3) := by decide +kernel
theorem dX1_write_42 : decode cX1_write 42 = .ok (.iconst 2, 1) := by decide +kernel
theorem dX1_write_43 : decode cX1_write 43 = .ok (.iadd, 1) := by decide +kernel
theorem dX1_write_44 : decode cX1_write 44 = .ok (.aload_n 0, 1) := by decide +kernel
theorem dX1_write_45 : decode cX1_write 45 = .ok (.getfield 65, 3) := by decide +kernel
theorem dX1_write_48 : decode cX1_write 48 = .ok (.bipush 8, 2) := by decide +kernel
theorem dX1_write_50 : decode cX1_write 50 = .ok (.ishr, 1) := by decide +kernel
theorem dX1_write_51 : decode cX1_write 51 = .ok (.iastore, 1) := by decide +kernel
theorem dX1_write_52 : decode cX1_write 52 = .ok (.aload_n 0, 1) := by decide +kernel
theorem dX1_write_53 : decode cX1_write 53 = .ok (.dup, 1) := by decide +kernel
theorem dX1_write_54 : decode cX1_write 54 = .ok (.getfield 80, 3) := by decide +kernel
theorem dX1_write_57 : decode cX1_write 57 = .ok (.iconst 3, 1) := by decide +kernel
theorem dX1_write_58 : decode cX1_write 58 = .ok (.iadd, 1) := by decide +kernel
theorem dX1_write_59 : decode cX1_write 59 = .ok (.putfield 80, 3) := by decide +kernel
theorem dX1_write_62 : decode cX1_write 62 = .ok (.iconst 0, 1) := by decide +kernel
theorem dX1_write_63 : decode cX1_write 63 = .ok (.istore_n 3, 1) := by decide +kernel
theorem dX1_write_64 : decode cX1_write 64 = .ok (.iload_n 3, 1) := by decide +kernel
theorem dX1_write_65 : decode cX1_write 65 = .ok (.aload_n 0, 1) := by decide +kernel
theorem dX1_write_66 : decode cX1_write 66 = .ok (.getfield 65, 3) := by decide +kernel
theorem dX1_write_69 : decode cX1_write 69 = .ok (.if_icmp .ge 34, 3) := by decide +kernel
theorem dX1_write_72 : decode cX1_write 72 = .ok (.aload_n 0, 1) := by decide +kernel
theorem dX1_write_73 : decode cX1_write 73 = .ok (.getfield 39, 3) := by decide +kernel
theorem dX1_write_76 : decode cX1_write 76 = .ok (.aload_n 0, 1) := by decide +kernel
theorem dX1_write_77 : decode cX1_write 77 = .ok (.getfield 80, 3) := by decide +kernel
theorem dX1_write_80 : decode cX1_write 80 = .ok (.aload_n 0, 1) := by decide +kernel
theorem dX1_write_81 : decode cX1_write 81 = .ok (.getfield 42, 3) := by decide +kernel
theorem dX1_write_84 : decode cX1_write 84 = .ok (.iload_n 3, 1) := by decide +kernel
theorem dX1_write_85 : decode cX1_write 85 = .ok (.iaload, 1) := by decide +kernel
theorem dX1_write_86 : decode cX1_write 86 = .ok (.iastore, 1) := by decide +kernel
theorem dX1_write_87 : decode cX1_write 87 = .ok (.aload_n 0, 1) := by decide +kernel
theorem dX1_write_88 : decode cX1_write 88 = .ok (.dup, 1) := by decide +kernel
theorem dX1_write_89 : decode cX1_write 89 = .ok (.getfield 80, 3) := by decide +kernel
theorem dX1_write_92 : decode cX1_write 92 = .ok (.iconst 1, 1) := by decide +kernel
theorem dX1_write_93 : decode cX1_write 93 = .ok (.iadd, 1) := by decide +kernel
theorem dX1_write_94 : decode cX1_write 94 = .ok (.putfield 80, 3) := by decide +kernel
theorem dX1_write_97 : decode cX1_write 97 = .ok (.iinc 3 1, 3) := by decide +kernel
theorem dX1_write_100 : decode cX1_write 100 = .ok (.goto (-36), 3) := by decide +kernel
theorem dX1_write_103 : decode cX1_write 103 = .ok (.iconst 0, 1) := by decide +kernel
theorem dX1_write_104 : decode cX1_write 104 = .ok (.istore_n 3, 1) := by decide +kernel
theorem dX1_write_105 : decode cX1_write 105 = .ok (.iload_n 2, 1) := by decide +kernel
theorem dX1_write_106 : decode cX1_write 106 = .ok (.istore 4, 2) := by decide +kernel
theorem dX1_write_108 : decode cX1_write 108 = .ok (.iload 4, 2) := by decide +kernel
theorem dX1_write_110 : decode cX1_write 110 = .ok (.aload_n 0, 1) := by decide +kernel
theorem dX1_write_111 : decode cX1_write 111 = .ok (.getfield 80, 3) := by decide +kernel
theorem dX1_write_114 : decode cX1_write 114 = .ok (.if_icmp .ge 19, 3) := by decide +kernel
theorem dX1_write_117 : decode cX1_write 117 = .ok (.iload_n 3, 1) := by decide +kernel
theorem dX1_write_118 : decode cX1_write 118 = .ok (.aload_n 0, 1) := by decide +kernel
theorem dX1_write_119 : decode cX1_write 119 = .ok (.getfield 39, 3) := by decide +kernel
theorem dX1_write_122 : decode cX1_write 122 = .ok (.iload 4, 2) := by decide +kernel
theorem dX1_write_124 : decode cX1_write 124 = .ok (.iaload, 1) := by decide +kernel
theorem dX1_write_125 : decode cX1_write 125 = .ok (.iadd, 1) := by decide +kernel
theorem dX1_write_126 : decode cX1_write 126 = .ok (.istore_n 3, 1) := by decide +kernel
theorem dX1_write_127 : decode cX1_write 127 = .ok (.iinc 4 1, 3) := by decide +kernel
theorem dX1_write_130 : decode cX1_write 130 = .ok (.goto (-22), 3) := by decide +kernel
theorem dX1_write_133 : decode cX1_write 133 = .ok (.aload_n 0, 1) := by decide +kernel
theorem dX1_write_134 : decode cX1_write 134 = .ok (.getfield 39, 3) := by decide +kernel
theorem dX1_write_137 : decode cX1_write 137 = .ok (.aload_n 0, 1) := by decide +kernel
theorem dX1_write_138 : decode cX1_write 138 = .ok (.getfield 80, 3) := by decide +kernel
theorem dX1_write_141 : decode cX1_write 141 = .ok (.iload_n 3, 1) := by decide +kernel
theorem dX1_write_142 : decode cX1_write 142 = .ok (.sipush 255, 3) := by decide +kernel
theorem dX1_write_145 : decode cX1_write 145 = .ok (.iand, 1) := by decide +kernel
theorem dX1_write_146 : decode cX1_write 146 = .ok (.iastore, 1) := by decide +kernel
theorem dX1_write_147 : decode cX1_write 147 = .ok (.aload_n 0, 1) := by decide +kernel
theorem dX1_write_148 : decode cX1_write 148 = .ok (.dup, 1) := by decide +kernel
theorem dX1_write_149 : decode cX1_write 149 = .ok (.getfield 80, 3) := by decide +kernel
theorem dX1_write_152 : decode cX1_write 152 = .ok (.iconst 1, 1) := by decide +kernel
theorem dX1_write_153 : decode cX1_write 153 = .ok (.iadd, 1) := by decide +kernel
theorem dX1_write_154 : decode cX1_write 154 = .ok (.putfield 80, 3) := by decide +kernel
theorem dX1_write_157 : decode cX1_write 157 = .ok (.return_, 1) := by decide +kernel
theorem dX1_says_0 : decode cX1_says 0 = .ok (.iload_n 1, 1) := by decide +kernel
theorem dX1_says_1 : decode cX1_says 1 = .ok (.tableswitch 165 1 3 #[27, 32, 119], 27) := by decide +kernel
theorem dX1_says_28 : decode cX1_says 28 = .ok (.aload_n 0, 1) := by decide +kernel
theorem dX1_says_29 : decode cX1_says 29 = .ok (.invokevirtual 83, 3) := by decide +kernel
theorem dX1_says_32 : decode cX1_says 32 = .ok (.ireturn, 1) := by decide +kernel
theorem dX1_says_33 : decode cX1_says 33 = .ok (.aload_n 0, 1) := by decide +kernel
theorem dX1_says_34 : decode cX1_says 34 = .ok (.getfield 65, 3) := by decide +kernel
theorem dX1_says_37 : decode cX1_says 37 = .ok (.bipush 9, 2) := by decide +kernel
theorem dX1_says_39 : decode cX1_says 39 = .ok (.if_icmp .ne 11, 3) := by decide +kernel
theorem dX1_says_42 : decode cX1_says 42 = .ok (.aload_n 0, 1) := by decide +kernel
theorem dX1_says_43 : decode cX1_says 43 = .ok (.iconst 1, 1) := by decide +kernel
theorem dX1_says_44 : decode cX1_says 44 = .ok (.invokevirtual 87, 3) := by decide +kernel
theorem dX1_says_47 : decode cX1_says 47 = .ok (.goto 4, 3) := by decide +kernel
theorem dX1_says_50 : decode cX1_says 50 = .ok (.lconst 0, 1) := by decide +kernel
theorem dX1_says_51 : decode cX1_says 51 = .ok (.lstore_n 2, 1) := by decide +kernel
theorem dX1_says_52 : decode cX1_says 52 = .ok (.aload_n 0, 1) := by decide +kernel
theorem dX1_says_53 : decode cX1_says 53 = .ok (.getfield 65, 3) := by decide +kernel
theorem dX1_says_56 : decode cX1_says 56 = .ok (.bipush 9, 2) := by decide +kernel
theorem dX1_says_58 : decode cX1_says 58 = .ok (.if_icmp .ne 27, 3) := by decide +kernel
theorem dX1_says_61 : decode cX1_says 61 = .ok (.aload_n 0, 1) := by decide +kernel
theorem dX1_says_62 : decode cX1_says 62 = .ok (.getfield 42, 3) := by decide +kernel
theorem dX1_says_65 : decode cX1_says 65 = .ok (.iconst 0, 1) := by decide +kernel
theorem dX1_says_66 : decode cX1_says 66 = .ok (.iaload, 1) := by decide +kernel
theorem dX1_says_67 : decode cX1_says 67 = .ok (.bipush 8, 2) := by decide +kernel
theorem dX1_says_69 : decode cX1_says 69 = .ok (.if_icmp .ge 16, 3) := by decide +kernel
theorem dX1_says_72 : decode cX1_says 72 = .ok (.aload_n 0, 1) := by decide +kernel
theorem dX1_says_73 : decode cX1_says 73 = .ok (.lload_n 2, 1) := by decide +kernel
theorem dX1_says_74 : decode cX1_says 74 = .ok (.invokevirtual 91, 3) := by decide +kernel
theorem dX1_says_77 : decode cX1_says 77 = .ok (.iconst (-1), 1) := by decide +kernel
theorem dX1_says_78 : decode cX1_says 78 = .ok (.if_icmp .eq 7, 3) := by decide +kernel
theorem dX1_says_81 : decode cX1_says 81 = .ok (.iconst 1, 1) := by decide +kernel
theorem dX1_says_82 : decode cX1_says 82 = .ok (.goto 4, 3) := by decide +kernel
theorem dX1_says_85 : decode cX1_says 85 = .ok (.iconst 0, 1) := by decide +kernel
theorem dX1_says_86 : decode cX1_says 86 = .ok (.istore 4, 2) := by decide +kernel
theorem dX1_says_88 : decode cX1_says 88 = .ok (.iload 4, 2) := by decide +kernel
theorem dX1_says_90 : decode cX1_says 90 = .ok (.ifCond .eq 27, 3) := by decide +kernel
theorem dX1_says_93 : decode cX1_says 93 = .ok (.aload_n 0, 1) := by decide +kernel
theorem dX1_says_94 : decode cX1_says 94 = .ok (.getfield 23, 3) := by decide +kernel
theorem dX1_says_97 : decode cX1_says 97 = .ok (.aload_n 0, 1) := by decide +kernel
theorem dX1_says_98 : decode cX1_says 98 = .ok (.getfield 42, 3) := by decide +kernel
theorem dX1_says_101 : decode cX1_says 101 = .ok (.iconst 0, 1) := by decide +kernel
theorem dX1_says_102 : decode cX1_says 102 = .ok (.iaload, 1) := by decide +kernel
theorem dX1_says_103 : decode cX1_says 103 = .ok (.lload_n 2, 1) := by decide +kernel
theorem dX1_says_104 : decode cX1_says 104 = .ok (.lastore, 1) := by decide +kernel
theorem dX1_says_105 : decode cX1_says 105 = .ok (.aload_n 0, 1) := by decide +kernel
theorem dX1_says_106 : decode cX1_says 106 = .ok (.getfield 26, 3) := by decide +kernel
theorem dX1_says_109 : decode cX1_says 109 = .ok (.aload_n 0, 1) := by decide +kernel
theorem dX1_says_110 : decode cX1_says 110 = .ok (.getfield 42, 3) := by decide +kernel
theorem dX1_says_113 : decode cX1_says 113 = .ok (.iconst 0, 1) := by decide +kernel
theorem dX1_says_114 : decode cX1_says 114 = .ok (.iaload, 1) := by decide +kernel
theorem dX1_says_115 : decode cX1_says 115 = .ok (.iconst 1, 1) := by decide +kernel
theorem dX1_says_116 : decode cX1_says 116 = .ok (.bastore, 1) := by decide +kernel
theorem dX1_says_117 : decode cX1_says 117 = .ok (.iload 4, 2) := by decide +kernel
theorem dX1_says_119 : decode cX1_says 119 = .ok (.ireturn, 1) := by decide +kernel
theorem dX1_says_120 : decode cX1_says 120 = .ok (.aload_n 0, 1) := by decide +kernel
theorem dX1_says_121 : decode cX1_says 121 = .ok (.getfield 65, 3) := by decide +kernel
theorem dX1_says_124 : decode cX1_says 124 = .ok (.iconst 1, 1) := by decide +kernel
theorem dX1_says_125 : decode cX1_says 125 = .ok (.if_icmp .ne 18, 3) := by decide +kernel
theorem dX1_says_128 : decode cX1_says 128 = .ok (.aload_n 0, 1) := by decide +kernel
theorem dX1_says_129 : decode cX1_says 129 = .ok (.getfield 42, 3) := by decide +kernel
theorem dX1_says_132 : decode cX1_says 132 = .ok (.iconst 0, 1) := by decide +kernel
theorem dX1_says_133 : decode cX1_says 133 = .ok (.iaload, 1) := by decide +kernel
theorem dX1_says_134 : decode cX1_says 134 = .ok (.bipush 8, 2) := by decide +kernel
theorem dX1_says_136 : decode cX1_says 136 = .ok (.if_icmp .ge 7, 3) := by decide +kernel
theorem dX1_says_139 : decode cX1_says 139 = .ok (.iconst 1, 1) := by decide +kernel
theorem dX1_says_140 : decode cX1_says 140 = .ok (.goto 4, 3) := by decide +kernel
theorem dX1_says_143 : decode cX1_says 143 = .ok (.iconst 0, 1) := by decide +kernel
theorem dX1_says_144 : decode cX1_says 144 = .ok (.istore 5, 2) := by decide +kernel
theorem dX1_says_146 : decode cX1_says 146 = .ok (.iload 5, 2) := by decide +kernel
theorem dX1_says_148 : decode cX1_says 148 = .ok (.ifCond .eq 15, 3) := by decide +kernel
theorem dX1_says_151 : decode cX1_says 151 = .ok (.aload_n 0, 1) := by decide +kernel
theorem dX1_says_152 : decode cX1_says 152 = .ok (.getfield 26, 3) := by decide +kernel
theorem dX1_says_155 : decode cX1_says 155 = .ok (.aload_n 0, 1) := by decide +kernel
theorem dX1_says_156 : decode cX1_says 156 = .ok (.getfield 42, 3) := by decide +kernel
theorem dX1_says_159 : decode cX1_says 159 = .ok (.iconst 0, 1) := by decide +kernel
theorem dX1_says_160 : decode cX1_says 160 = .ok (.iaload, 1) := by decide +kernel
theorem dX1_says_161 : decode cX1_says 161 = .ok (.iconst 0, 1) := by decide +kernel
theorem dX1_says_162 : decode cX1_says 162 = .ok (.bastore, 1) := by decide +kernel
theorem dX1_says_163 : decode cX1_says 163 = .ok (.iload 5, 2) := by decide +kernel
theorem dX1_says_165 : decode cX1_says 165 = .ok (.ireturn, 1) := by decide +kernel
theorem dX1_says_166 : decode cX1_says 166 = .ok (.aload_n 0, 1) := by decide +kernel
theorem dX1_says_167 : decode cX1_says 167 = .ok (.getfield 65, 3) := by decide +kernel
theorem dX1_says_170 : decode cX1_says 170 = .ok (.bipush 16, 2) := by decide +kernel
theorem dX1_says_172 : decode cX1_says 172 = .ok (.if_icmp .ne 25, 3) := by decide +kernel
theorem dX1_says_175 : decode cX1_says 175 = .ok (.aload_n 0, 1) := by decide +kernel
theorem dX1_says_176 : decode cX1_says 176 = .ok (.aload_n 0, 1) := by decide +kernel
theorem dX1_says_177 : decode cX1_says 177 = .ok (.iconst 0, 1) := by decide +kernel
theorem dX1_says_178 : decode cX1_says 178 = .ok (.invokevirtual 87, 3) := by decide +kernel
theorem dX1_says_181 : decode cX1_says 181 = .ok (.aload_n 0, 1) := by decide +kernel
theorem dX1_says_182 : decode cX1_says 182 = .ok (.bipush 8, 2) := by decide +kernel
theorem dX1_says_184 : decode cX1_says 184 = .ok (.invokevirtual 87, 3) := by decide +kernel
theorem dX1_says_187 : decode cX1_says 187 = .ok (.invokevirtual 95, 3) := by decide +kernel
theorem dX1_says_190 : decode cX1_says 190 = .ok (.ifCond .eq 7, 3) := by decide +kernel
theorem dX1_says_193 : decode cX1_says 193 = .ok (.iconst 1, 1) := by decide +kernel
theorem dX1_says_194 : decode cX1_says 194 = .ok (.goto 4, 3) := by decide +kernel
theorem dX1_says_197 : decode cX1_says 197 = .ok (.iconst 0, 1) := by decide +kernel
theorem dX1_says_198 : decode cX1_says 198 = .ok (.ireturn, 1) := by decide +kernel
theorem dX1_saysBlob_0 : decode cX1_saysBlob 0 = .ok (.aload_n 0, 1) := by decide +kernel
theorem dX1_saysBlob_1 : decode cX1_saysBlob 1 = .ok (.invokevirtual 99, 3) := by decide +kernel
theorem dX1_saysBlob_4 : decode cX1_saysBlob 4 = .ok (.lstore_n 1, 1) := by decide +kernel
theorem dX1_saysBlob_5 : decode cX1_saysBlob 5 = .ok (.aload_n 0, 1) := by decide +kernel
theorem dX1_saysBlob_6 : decode cX1_saysBlob 6 = .ok (.lload_n 1, 1) := by decide +kernel
theorem dX1_saysBlob_7 : decode cX1_saysBlob 7 = .ok (.invokevirtual 91, 3) := by decide +kernel
theorem dX1_saysBlob_10 : decode cX1_saysBlob 10 = .ok (.iconst (-1), 1) := by decide +kernel
theorem dX1_saysBlob_11 : decode cX1_saysBlob 11 = .ok (.if_icmp .eq 5, 3) := by decide +kernel
theorem dX1_saysBlob_14 : decode cX1_saysBlob 14 = .ok (.iconst 1, 1) := by decide +kernel
theorem dX1_saysBlob_15 : decode cX1_saysBlob 15 = .ok (.ireturn, 1) := by decide +kernel
theorem dX1_saysBlob_16 : decode cX1_saysBlob 16 = .ok (.aload_n 0, 1) := by decide +kernel
theorem dX1_saysBlob_17 : decode cX1_saysBlob 17 = .ok (.getfield 72, 3) := by decide +kernel
theorem dX1_saysBlob_20 : decode cX1_saysBlob 20 = .ok (.bipush 20, 2) := by decide +kernel
theorem dX1_saysBlob_22 : decode cX1_saysBlob 22 = .ok (.if_icmp .ne 5, 3) := by decide +kernel
theorem dX1_saysBlob_25 : decode cX1_saysBlob 25 = .ok (.iconst 0, 1) := by decide +kernel
theorem dX1_saysBlob_26 : decode cX1_saysBlob 26 = .ok (.ireturn, 1) := by decide +kernel
theorem dX1_saysBlob_27 : decode cX1_saysBlob 27 = .ok (.aload_n 0, 1) := by decide +kernel
theorem dX1_saysBlob_28 : decode cX1_saysBlob 28 = .ok (.getfield 13, 3) := by decide +kernel
theorem dX1_saysBlob_31 : decode cX1_saysBlob 31 = .ok (.aload_n 0, 1) := by decide +kernel
theorem dX1_saysBlob_32 : decode cX1_saysBlob 32 = .ok (.getfield 72, 3) := by decide +kernel
theorem dX1_saysBlob_35 : decode cX1_saysBlob 35 = .ok (.lload_n 1, 1) := by decide +kernel
theorem dX1_saysBlob_36 : decode cX1_saysBlob 36 = .ok (.lastore, 1) := by decide +kernel
theorem dX1_saysBlob_37 : decode cX1_saysBlob 37 = .ok (.aload_n 0, 1) := by decide +kernel
theorem dX1_saysBlob_38 : decode cX1_saysBlob 38 = .ok (.getfield 17, 3) := by decide +kernel
theorem dX1_saysBlob_41 : decode cX1_saysBlob 41 = .ok (.aload_n 0, 1) := by decide +kernel
theorem dX1_saysBlob_42 : decode cX1_saysBlob 42 = .ok (.getfield 72, 3) := by decide +kernel
theorem dX1_saysBlob_45 : decode cX1_saysBlob 45 = .ok (.aload_n 0, 1) := by decide +kernel
theorem dX1_saysBlob_46 : decode cX1_saysBlob 46 = .ok (.getfield 65, 3) := by decide +kernel
theorem dX1_saysBlob_49 : decode cX1_saysBlob 49 = .ok (.iastore, 1) := by decide +kernel
theorem dX1_saysBlob_50 : decode cX1_saysBlob 50 = .ok (.iconst 0, 1) := by decide +kernel
theorem dX1_saysBlob_51 : decode cX1_saysBlob 51 = .ok (.istore_n 3, 1) := by decide +kernel
theorem dX1_saysBlob_52 : decode cX1_saysBlob 52 = .ok (.iload_n 3, 1) := by decide +kernel
theorem dX1_saysBlob_53 : decode cX1_saysBlob 53 = .ok (.aload_n 0, 1) := by decide +kernel
theorem dX1_saysBlob_54 : decode cX1_saysBlob 54 = .ok (.getfield 65, 3) := by decide +kernel
theorem dX1_saysBlob_57 : decode cX1_saysBlob 57 = .ok (.if_icmp .ge 30, 3) := by decide +kernel
theorem dX1_saysBlob_60 : decode cX1_saysBlob 60 = .ok (.aload_n 0, 1) := by decide +kernel
theorem dX1_saysBlob_61 : decode cX1_saysBlob 61 = .ok (.getfield 20, 3) := by decide +kernel
theorem dX1_saysBlob_64 : decode cX1_saysBlob 64 = .ok (.sipush 700, 3) := by decide +kernel
theorem dX1_saysBlob_67 : decode cX1_saysBlob 67 = .ok (.aload_n 0, 1) := by decide +kernel
theorem dX1_saysBlob_68 : decode cX1_saysBlob 68 = .ok (.getfield 72, 3) := by decide +kernel
theorem dX1_saysBlob_71 : decode cX1_saysBlob 71 = .ok (.imul, 1) := by decide +kernel
theorem dX1_saysBlob_72 : decode cX1_saysBlob 72 = .ok (.iload_n 3, 1) := by decide +kernel
theorem dX1_saysBlob_73 : decode cX1_saysBlob 73 = .ok (.iadd, 1) := by decide +kernel
theorem dX1_saysBlob_74 : decode cX1_saysBlob 74 = .ok (.aload_n 0, 1) := by decide +kernel
theorem dX1_saysBlob_75 : decode cX1_saysBlob 75 = .ok (.getfield 42, 3) := by decide +kernel
theorem dX1_saysBlob_78 : decode cX1_saysBlob 78 = .ok (.iload_n 3, 1) := by decide +kernel
theorem dX1_saysBlob_79 : decode cX1_saysBlob 79 = .ok (.iaload, 1) := by decide +kernel
theorem dX1_saysBlob_80 : decode cX1_saysBlob 80 = .ok (.iastore, 1) := by decide +kernel
theorem dX1_saysBlob_81 : decode cX1_saysBlob 81 = .ok (.iinc 3 1, 3) := by decide +kernel
theorem dX1_saysBlob_84 : decode cX1_saysBlob 84 = .ok (.goto (-32), 3) := by decide +kernel
theorem dX1_saysBlob_87 : decode cX1_saysBlob 87 = .ok (.aload_n 0, 1) := by decide +kernel
theorem dX1_saysBlob_88 : decode cX1_saysBlob 88 = .ok (.dup, 1) := by decide +kernel
theorem dX1_saysBlob_89 : decode cX1_saysBlob 89 = .ok (.getfield 72, 3) := by decide +kernel
theorem dX1_saysBlob_92 : decode cX1_saysBlob 92 = .ok (.iconst 1, 1) := by decide +kernel
theorem dX1_saysBlob_93 : decode cX1_saysBlob 93 = .ok (.iadd, 1) := by decide +kernel
theorem dX1_saysBlob_94 : decode cX1_saysBlob 94 = .ok (.putfield 72, 3) := by decide +kernel
theorem dX1_saysBlob_97 : decode cX1_saysBlob 97 = .ok (.iconst 1, 1) := by decide +kernel
theorem dX1_saysBlob_98 : decode cX1_saysBlob 98 = .ok (.ireturn, 1) := by decide +kernel
theorem dX1_saysKey_0 : decode cX1_saysKey 0 = .ok (.aload_n 0, 1) := by decide +kernel
theorem dX1_saysKey_1 : decode cX1_saysKey 1 = .ok (.lload_n 1, 1) := by decide +kernel
theorem dX1_saysKey_2 : decode cX1_saysKey 2 = .ok (.invokevirtual 102, 3) := by decide +kernel
theorem dX1_saysKey_5 : decode cX1_saysKey 5 = .ok (.istore 5, 2) := by decide +kernel
theorem dX1_saysKey_7 : decode cX1_saysKey 7 = .ok (.iload 5, 2) := by decide +kernel
theorem dX1_saysKey_9 : decode cX1_saysKey 9 = .ok (.iconst (-1), 1) := by decide +kernel
theorem dX1_saysKey_10 : decode cX1_saysKey 10 = .ok (.if_icmp .ne 14, 3) := by decide +kernel
theorem dX1_saysKey_13 : decode cX1_saysKey 13 = .ok (.aload_n 0, 1) := by decide +kernel
theorem dX1_saysKey_14 : decode cX1_saysKey 14 = .ok (.getfield 75, 3) := by decide +kernel
theorem dX1_saysKey_17 : decode cX1_saysKey 17 = .ok (.bipush 16, 2) := by decide +kernel
theorem dX1_saysKey_19 : decode cX1_saysKey 19 = .ok (.if_icmp .ne 5, 3) := by decide +kernel
theorem dX1_saysKey_22 : decode cX1_saysKey 22 = .ok (.iconst 0, 1) := by decide +kernel
theorem dX1_saysKey_23 : decode cX1_saysKey 23 = .ok (.ireturn, 1) := by decide +kernel
theorem dX1_saysKey_24 : decode cX1_saysKey 24 = .ok (.iload 5, 2) := by decide +kernel
theorem dX1_saysKey_26 : decode cX1_saysKey 26 = .ok (.iconst (-1), 1) := by decide +kernel
theorem dX1_saysKey_27 : decode cX1_saysKey 27 = .ok (.if_icmp .ne 19, 3) := by decide +kernel
theorem dX1_saysKey_30 : decode cX1_saysKey 30 = .ok (.aload_n 0, 1) := by decide +kernel
theorem dX1_saysKey_31 : decode cX1_saysKey 31 = .ok (.getfield 75, 3) := by decide +kernel
theorem dX1_saysKey_34 : decode cX1_saysKey 34 = .ok (.istore 5, 2) := by decide +kernel
theorem dX1_saysKey_36 : decode cX1_saysKey 36 = .ok (.aload_n 0, 1) := by decide +kernel
theorem dX1_saysKey_37 : decode cX1_saysKey 37 = .ok (.dup, 1) := by decide +kernel
theorem dX1_saysKey_38 : decode cX1_saysKey 38 = .ok (.getfield 75, 3) := by decide +kernel
theorem dX1_saysKey_41 : decode cX1_saysKey 41 = .ok (.iconst 1, 1) := by decide +kernel
theorem dX1_saysKey_42 : decode cX1_saysKey 42 = .ok (.iadd, 1) := by decide +kernel
theorem dX1_saysKey_43 : decode cX1_saysKey 43 = .ok (.putfield 75, 3) := by decide +kernel
theorem dX1_saysKey_46 : decode cX1_saysKey 46 = .ok (.aload_n 0, 1) := by decide +kernel
theorem dX1_saysKey_47 : decode cX1_saysKey 47 = .ok (.getfield 30, 3) := by decide +kernel
theorem dX1_saysKey_50 : decode cX1_saysKey 50 = .ok (.iload 5, 2) := by decide +kernel
theorem dX1_saysKey_52 : decode cX1_saysKey 52 = .ok (.lload_n 1, 1) := by decide +kernel
theorem dX1_saysKey_53 : decode cX1_saysKey 53 = .ok (.lastore, 1) := by decide +kernel
theorem dX1_saysKey_54 : decode cX1_saysKey 54 = .ok (.aload_n 0, 1) := by decide +kernel
theorem dX1_saysKey_55 : decode cX1_saysKey 55 = .ok (.getfield 33, 3) := by decide +kernel
theorem dX1_saysKey_58 : decode cX1_saysKey 58 = .ok (.iload 5, 2) := by decide +kernel
theorem dX1_saysKey_60 : decode cX1_saysKey 60 = .ok (.lload_n 3, 1) := by decide +kernel
theorem dX1_saysKey_61 : decode cX1_saysKey 61 = .ok (.lastore, 1) := by decide +kernel
theorem dX1_saysKey_62 : decode cX1_saysKey 62 = .ok (.iconst 1, 1) := by decide +kernel
theorem dX1_saysKey_63 : decode cX1_saysKey 63 = .ok (.ireturn, 1) := by decide +kernel
theorem dX1_keep_0 : decode cX1_keep 0 = .ok (.aload_n 0, 1) := by decide +kernel
theorem dX1_keep_1 : decode cX1_keep 1 = .ok (.invokevirtual 68, 3) := by decide +kernel
theorem dX1_keep_4 : decode cX1_keep 4 = .ok (.lstore_n 1, 1) := by decide +kernel
theorem dX1_keep_5 : decode cX1_keep 5 = .ok (.aload_n 0, 1) := by decide +kernel
theorem dX1_keep_6 : decode cX1_keep 6 = .ok (.iconst 0, 1) := by decide +kernel
theorem dX1_keep_7 : decode cX1_keep 7 = .ok (.putfield 65, 3) := by decide +kernel
theorem dX1_keep_10 : decode cX1_keep 10 = .ok (.iconst 0, 1) := by decide +kernel
theorem dX1_keep_11 : decode cX1_keep 11 = .ok (.istore_n 3, 1) := by decide +kernel
theorem dX1_keep_12 : decode cX1_keep 12 = .ok (.iload_n 3, 1) := by decide +kernel
theorem dX1_keep_13 : decode cX1_keep 13 = .ok (.aload_n 0, 1) := by decide +kernel
theorem dX1_keep_14 : decode cX1_keep 14 = .ok (.getfield 49, 3) := by decide +kernel
theorem dX1_keep_17 : decode cX1_keep 17 = .ok (.if_icmp .ge 21, 3) := by decide +kernel
theorem dX1_keep_20 : decode cX1_keep 20 = .ok (.aload_n 0, 1) := by decide +kernel
theorem dX1_keep_21 : decode cX1_keep 21 = .ok (.aload_n 0, 1) := by decide +kernel
theorem dX1_keep_22 : decode cX1_keep 22 = .ok (.getfield 7, 3) := by decide +kernel
theorem dX1_keep_25 : decode cX1_keep 25 = .ok (.iload_n 3, 1) := by decide +kernel
theorem dX1_keep_26 : decode cX1_keep 26 = .ok (.iaload, 1) := by decide +kernel
theorem dX1_keep_27 : decode cX1_keep 27 = .ok (.i2l, 1) := by decide +kernel
theorem dX1_keep_28 : decode cX1_keep 28 = .ok (.iconst 1, 1) := by decide +kernel
theorem dX1_keep_29 : decode cX1_keep 29 = .ok (.invokevirtual 105, 3) := by decide +kernel
theorem dX1_keep_32 : decode cX1_keep 32 = .ok (.iinc 3 1, 3) := by decide +kernel
theorem dX1_keep_35 : decode cX1_keep 35 = .ok (.goto (-23), 3) := by decide +kernel
theorem dX1_keep_38 : decode cX1_keep 38 = .ok (.aload_n 0, 1) := by decide +kernel
theorem dX1_keep_39 : decode cX1_keep 39 = .ok (.lload_n 1, 1) := by decide +kernel
theorem dX1_keep_40 : decode cX1_keep 40 = .ok (.invokevirtual 91, 3) := by decide +kernel
theorem dX1_keep_43 : decode cX1_keep 43 = .ok (.iconst (-1), 1) := by decide +kernel
theorem dX1_keep_44 : decode cX1_keep 44 = .ok (.if_icmp .ne 7, 3) := by decide +kernel
theorem dX1_keep_47 : decode cX1_keep 47 = .ok (.iconst 1, 1) := by decide +kernel
theorem dX1_keep_48 : decode cX1_keep 48 = .ok (.goto 4, 3) := by decide +kernel
theorem dX1_keep_51 : decode cX1_keep 51 = .ok (.iconst 0, 1) := by decide +kernel
theorem dX1_keep_52 : decode cX1_keep 52 = .ok (.istore_n 3, 1) := by decide +kernel
theorem dX1_keep_53 : decode cX1_keep 53 = .ok (.aload_n 0, 1) := by decide +kernel
theorem dX1_keep_54 : decode cX1_keep 54 = .ok (.iload_n 3, 1) := by decide +kernel
theorem dX1_keep_55 : decode cX1_keep 55 = .ok (.ifCond .eq 23, 3) := by decide +kernel
theorem dX1_keep_58 : decode cX1_keep 58 = .ok (.aload_n 0, 1) := by decide +kernel
theorem dX1_keep_59 : decode cX1_keep 59 = .ok (.getfield 72, 3) := by decide +kernel
theorem dX1_keep_62 : decode cX1_keep 62 = .ok (.bipush 20, 2) := by decide +kernel
theorem dX1_keep_64 : decode cX1_keep 64 = .ok (.if_icmp .eq 10, 3) := by decide +kernel
theorem dX1_keep_67 : decode cX1_keep 67 = .ok (.aload_n 0, 1) := by decide +kernel
theorem dX1_keep_68 : decode cX1_keep 68 = .ok (.invokevirtual 109, 3) := by decide +kernel
theorem dX1_keep_71 : decode cX1_keep 71 = .ok (.ifCond .ne 7, 3) := by decide +kernel
theorem dX1_keep_74 : decode cX1_keep 74 = .ok (.iconst 1, 1) := by decide +kernel
theorem dX1_keep_75 : decode cX1_keep 75 = .ok (.goto 4, 3) := by decide +kernel
theorem dX1_keep_78 : decode cX1_keep 78 = .ok (.iconst 0, 1) := by decide +kernel
theorem dX1_keep_79 : decode cX1_keep 79 = .ok (.putfield 45, 3) := by decide +kernel
theorem dX1_keep_82 : decode cX1_keep 82 = .ok (.aload_n 0, 1) := by decide +kernel
theorem dX1_keep_83 : decode cX1_keep 83 = .ok (.getfield 45, 3) := by decide +kernel
theorem dX1_keep_86 : decode cX1_keep 86 = .ok (.ifCond .ne 18, 3) := by decide +kernel
theorem dX1_keep_89 : decode cX1_keep 89 = .ok (.iload_n 3, 1) := by decide +kernel
theorem dX1_keep_90 : decode cX1_keep 90 = .ok (.ifCond .eq 14, 3) := by decide +kernel
theorem dX1_keep_93 : decode cX1_keep 93 = .ok (.aload_n 0, 1) := by decide +kernel
theorem dX1_keep_94 : decode cX1_keep 94 = .ok (.iconst 1, 1) := by decide +kernel
theorem dX1_keep_95 : decode cX1_keep 95 = .ok (.invokevirtual 112, 3) := by decide +kernel
theorem dX1_keep_98 : decode cX1_keep 98 = .ok (.aload_n 0, 1) := by decide +kernel
theorem dX1_keep_99 : decode cX1_keep 99 = .ok (.iconst 1, 1) := by decide +kernel
theorem dX1_keep_100 : decode cX1_keep 100 = .ok (.invokevirtual 116, 3) := by decide +kernel
theorem dX1_keep_103 : decode cX1_keep 103 = .ok (.pop, 1) := by decide +kernel
theorem dX1_keep_104 : decode cX1_keep 104 = .ok (.aload_n 0, 1) := by decide +kernel
theorem dX1_keep_105 : decode cX1_keep 105 = .ok (.getfield 45, 3) := by decide +kernel
theorem dX1_keep_108 : decode cX1_keep 108 = .ok (.ifCond .le 7, 3) := by decide +kernel
theorem dX1_keep_111 : decode cX1_keep 111 = .ok (.lconst 0, 1) := by decide +kernel
theorem dX1_keep_112 : decode cX1_keep 112 = .ok (.goto 4, 3) := by decide +kernel
theorem dX1_keep_115 : decode cX1_keep 115 = .ok (.lload_n 1, 1) := by decide +kernel
theorem dX1_keep_116 : decode cX1_keep 116 = .ok (.lreturn, 1) := by decide +kernel
theorem dX1_isTag_0 : decode cX1_isTag 0 = .ok (.iload_n 0, 1) := by decide +kernel
theorem dX1_isTag_1 : decode cX1_isTag 1 = .ok (.ifCond .lt 13, 3) := by decide +kernel
theorem dX1_isTag_4 : decode cX1_isTag 4 = .ok (.iload_n 0, 1) := by decide +kernel
theorem dX1_isTag_5 : decode cX1_isTag 5 = .ok (.bipush 8, 2) := by decide +kernel
theorem dX1_isTag_7 : decode cX1_isTag 7 = .ok (.if_icmp .ge 7, 3) := by decide +kernel
theorem dX1_isTag_10 : decode cX1_isTag 10 = .ok (.iconst 1, 1) := by decide +kernel
theorem dX1_isTag_11 : decode cX1_isTag 11 = .ok (.goto 4, 3) := by decide +kernel
theorem dX1_isTag_14 : decode cX1_isTag 14 = .ok (.iconst 0, 1) := by decide +kernel
theorem dX1_isTag_15 : decode cX1_isTag 15 = .ok (.ireturn, 1) := by decide +kernel
theorem dX1_tell_0 : decode cX1_tell 0 = .ok (.aload_n 0, 1) := by decide +kernel
theorem dX1_tell_1 : decode cX1_tell 1 = .ok (.iload_n 1, 1) := by decide +kernel
theorem dX1_tell_2 : decode cX1_tell 2 = .ok (.invokestatic 120, 3) := by decide +kernel
theorem dX1_tell_5 : decode cX1_tell 5 = .ok (.ifCond .ne 7, 3) := by decide +kernel
theorem dX1_tell_8 : decode cX1_tell 8 = .ok (.iconst 1, 1) := by decide +kernel
theorem dX1_tell_9 : decode cX1_tell 9 = .ok (.goto 17, 3) := by decide +kernel
theorem dX1_tell_12 : decode cX1_tell 12 = .ok (.aload_n 0, 1) := by decide +kernel
theorem dX1_tell_13 : decode cX1_tell 13 = .ok (.lload_n 2, 1) := by decide +kernel
theorem dX1_tell_14 : decode cX1_tell 14 = .ok (.invokevirtual 91, 3) := by decide +kernel
theorem dX1_tell_17 : decode cX1_tell 17 = .ok (.iconst (-1), 1) := by decide +kernel
theorem dX1_tell_18 : decode cX1_tell 18 = .ok (.if_icmp .ne 7, 3) := by decide +kernel
theorem dX1_tell_21 : decode cX1_tell 21 = .ok (.iconst 2, 1) := by decide +kernel
theorem dX1_tell_22 : decode cX1_tell 22 = .ok (.goto 4, 3) := by decide +kernel
theorem dX1_tell_25 : decode cX1_tell 25 = .ok (.iconst 0, 1) := by decide +kernel
theorem dX1_tell_26 : decode cX1_tell 26 = .ok (.putfield 45, 3) := by decide +kernel
theorem dX1_tell_29 : decode cX1_tell 29 = .ok (.aload_n 0, 1) := by decide +kernel
theorem dX1_tell_30 : decode cX1_tell 30 = .ok (.getfield 45, 3) := by decide +kernel
theorem dX1_tell_33 : decode cX1_tell 33 = .ok (.ifCond .gt 23, 3) := by decide +kernel
theorem dX1_tell_36 : decode cX1_tell 36 = .ok (.aload_n 0, 1) := by decide +kernel
theorem dX1_tell_37 : decode cX1_tell 37 = .ok (.getfield 26, 3) := by decide +kernel
theorem dX1_tell_40 : decode cX1_tell 40 = .ok (.iload_n 1, 1) := by decide +kernel
theorem dX1_tell_41 : decode cX1_tell 41 = .ok (.baload, 1) := by decide +kernel
theorem dX1_tell_42 : decode cX1_tell 42 = .ok (.ifCond .eq 15, 3) := by decide +kernel
theorem dX1_tell_45 : decode cX1_tell 45 = .ok (.aload_n 0, 1) := by decide +kernel
theorem dX1_tell_46 : decode cX1_tell 46 = .ok (.getfield 23, 3) := by decide +kernel
theorem dX1_tell_49 : decode cX1_tell 49 = .ok (.iload_n 1, 1) := by decide +kernel
theorem dX1_tell_50 : decode cX1_tell 50 = .ok (.laload, 1) := by decide +kernel
theorem dX1_tell_51 : decode cX1_tell 51 = .ok (.lload_n 2, 1) := by decide +kernel
theorem dX1_tell_52 : decode cX1_tell 52 = .ok (.lcmp, 1) := by decide +kernel
theorem dX1_tell_53 : decode cX1_tell 53 = .ok (.ifCond .ne 4, 3) := by decide +kernel
theorem dX1_tell_56 : decode cX1_tell 56 = .ok (.return_, 1) := by decide +kernel
theorem dX1_tell_57 : decode cX1_tell 57 = .ok (.aload_n 0, 1) := by decide +kernel
theorem dX1_tell_58 : decode cX1_tell 58 = .ok (.iconst 0, 1) := by decide +kernel
theorem dX1_tell_59 : decode cX1_tell 59 = .ok (.putfield 65, 3) := by decide +kernel
theorem dX1_tell_62 : decode cX1_tell 62 = .ok (.aload_n 0, 1) := by decide +kernel
theorem dX1_tell_63 : decode cX1_tell 63 = .ok (.iload_n 1, 1) := by decide +kernel
theorem dX1_tell_64 : decode cX1_tell 64 = .ok (.i2l, 1) := by decide +kernel
theorem dX1_tell_65 : decode cX1_tell 65 = .ok (.iconst 1, 1) := by decide +kernel
theorem dX1_tell_66 : decode cX1_tell 66 = .ok (.invokevirtual 105, 3) := by decide +kernel
theorem dX1_tell_69 : decode cX1_tell 69 = .ok (.aload_n 0, 1) := by decide +kernel
theorem dX1_tell_70 : decode cX1_tell 70 = .ok (.lload_n 2, 1) := by decide +kernel
theorem dX1_tell_71 : decode cX1_tell 71 = .ok (.bipush 8, 2) := by decide +kernel
theorem dX1_tell_73 : decode cX1_tell 73 = .ok (.invokevirtual 105, 3) := by decide +kernel
theorem dX1_tell_76 : decode cX1_tell 76 = .ok (.aload_n 0, 1) := by decide +kernel
theorem dX1_tell_77 : decode cX1_tell 77 = .ok (.aload_n 0, 1) := by decide +kernel
theorem dX1_tell_78 : decode cX1_tell 78 = .ok (.invokevirtual 109, 3) := by decide +kernel
theorem dX1_tell_81 : decode cX1_tell 81 = .ok (.ifCond .eq 7, 3) := by decide +kernel
theorem dX1_tell_84 : decode cX1_tell 84 = .ok (.iconst 0, 1) := by decide +kernel
theorem dX1_tell_85 : decode cX1_tell 85 = .ok (.goto 4, 3) := by decide +kernel
theorem dX1_tell_88 : decode cX1_tell 88 = .ok (.iconst 3, 1) := by decide +kernel
theorem dX1_tell_89 : decode cX1_tell 89 = .ok (.putfield 45, 3) := by decide +kernel
theorem dX1_tell_92 : decode cX1_tell 92 = .ok (.aload_n 0, 1) := by decide +kernel
theorem dX1_tell_93 : decode cX1_tell 93 = .ok (.getfield 45, 3) := by decide +kernel
theorem dX1_tell_96 : decode cX1_tell 96 = .ok (.ifCond .ne 14, 3) := by decide +kernel
theorem dX1_tell_99 : decode cX1_tell 99 = .ok (.aload_n 0, 1) := by decide +kernel
theorem dX1_tell_100 : decode cX1_tell 100 = .ok (.iconst 2, 1) := by decide +kernel
theorem dX1_tell_101 : decode cX1_tell 101 = .ok (.invokevirtual 112, 3) := by decide +kernel
theorem dX1_tell_104 : decode cX1_tell 104 = .ok (.aload_n 0, 1) := by decide +kernel
theorem dX1_tell_105 : decode cX1_tell 105 = .ok (.iconst 2, 1) := by decide +kernel
theorem dX1_tell_106 : decode cX1_tell 106 = .ok (.invokevirtual 116, 3) := by decide +kernel
theorem dX1_tell_109 : decode cX1_tell 109 = .ok (.pop, 1) := by decide +kernel
theorem dX1_tell_110 : decode cX1_tell 110 = .ok (.return_, 1) := by decide +kernel
theorem dX1_untell_0 : decode cX1_untell 0 = .ok (.aload_n 0, 1) := by decide +kernel
theorem dX1_untell_1 : decode cX1_untell 1 = .ok (.iload_n 1, 1) := by decide +kernel
theorem dX1_untell_2 : decode cX1_untell 2 = .ok (.invokestatic 120, 3) := by decide +kernel
theorem dX1_untell_5 : decode cX1_untell 5 = .ok (.ifCond .ne 7, 3) := by decide +kernel
theorem dX1_untell_8 : decode cX1_untell 8 = .ok (.iconst 1, 1) := by decide +kernel
theorem dX1_untell_9 : decode cX1_untell 9 = .ok (.goto 17, 3) := by decide +kernel
theorem dX1_untell_12 : decode cX1_untell 12 = .ok (.aload_n 0, 1) := by decide +kernel
theorem dX1_untell_13 : decode cX1_untell 13 = .ok (.getfield 26, 3) := by decide +kernel
theorem dX1_untell_16 : decode cX1_untell 16 = .ok (.iload_n 1, 1) := by decide +kernel
theorem dX1_untell_17 : decode cX1_untell 17 = .ok (.baload, 1) := by decide +kernel
theorem dX1_untell_18 : decode cX1_untell 18 = .ok (.ifCond .ne 7, 3) := by decide +kernel
theorem dX1_untell_21 : decode cX1_untell 21 = .ok (.iconst 2, 1) := by decide +kernel
theorem dX1_untell_22 : decode cX1_untell 22 = .ok (.goto 4, 3) := by decide +kernel
theorem dX1_untell_25 : decode cX1_untell 25 = .ok (.iconst 0, 1) := by decide +kernel
theorem dX1_untell_26 : decode cX1_untell 26 = .ok (.putfield 45, 3) := by decide +kernel
theorem dX1_untell_29 : decode cX1_untell 29 = .ok (.aload_n 0, 1) := by decide +kernel
theorem dX1_untell_30 : decode cX1_untell 30 = .ok (.getfield 45, 3) := by decide +kernel
theorem dX1_untell_33 : decode cX1_untell 33 = .ok (.ifCond .le 4, 3) := by decide +kernel
theorem dX1_untell_36 : decode cX1_untell 36 = .ok (.return_, 1) := by decide +kernel
theorem dX1_untell_37 : decode cX1_untell 37 = .ok (.aload_n 0, 1) := by decide +kernel
theorem dX1_untell_38 : decode cX1_untell 38 = .ok (.iconst 0, 1) := by decide +kernel
theorem dX1_untell_39 : decode cX1_untell 39 = .ok (.putfield 65, 3) := by decide +kernel
theorem dX1_untell_42 : decode cX1_untell 42 = .ok (.aload_n 0, 1) := by decide +kernel
theorem dX1_untell_43 : decode cX1_untell 43 = .ok (.iload_n 1, 1) := by decide +kernel
theorem dX1_untell_44 : decode cX1_untell 44 = .ok (.i2l, 1) := by decide +kernel
theorem dX1_untell_45 : decode cX1_untell 45 = .ok (.iconst 1, 1) := by decide +kernel
theorem dX1_untell_46 : decode cX1_untell 46 = .ok (.invokevirtual 105, 3) := by decide +kernel
theorem dX1_untell_49 : decode cX1_untell 49 = .ok (.aload_n 0, 1) := by decide +kernel
theorem dX1_untell_50 : decode cX1_untell 50 = .ok (.aload_n 0, 1) := by decide +kernel
theorem dX1_untell_51 : decode cX1_untell 51 = .ok (.invokevirtual 109, 3) := by decide +kernel
theorem dX1_untell_54 : decode cX1_untell 54 = .ok (.ifCond .eq 7, 3) := by decide +kernel
theorem dX1_untell_57 : decode cX1_untell 57 = .ok (.iconst 0, 1) := by decide +kernel
theorem dX1_untell_58 : decode cX1_untell 58 = .ok (.goto 4, 3) := by decide +kernel
theorem dX1_untell_61 : decode cX1_untell 61 = .ok (.iconst 3, 1) := by decide +kernel
theorem dX1_untell_62 : decode cX1_untell 62 = .ok (.putfield 45, 3) := by decide +kernel
theorem dX1_untell_65 : decode cX1_untell 65 = .ok (.aload_n 0, 1) := by decide +kernel
theorem dX1_untell_66 : decode cX1_untell 66 = .ok (.getfield 45, 3) := by decide +kernel
theorem dX1_untell_69 : decode cX1_untell 69 = .ok (.ifCond .ne 14, 3) := by decide +kernel
theorem dX1_untell_72 : decode cX1_untell 72 = .ok (.aload_n 0, 1) := by decide +kernel
theorem dX1_untell_73 : decode cX1_untell 73 = .ok (.iconst 3, 1) := by decide +kernel
theorem dX1_untell_74 : decode cX1_untell 74 = .ok (.invokevirtual 112, 3) := by decide +kernel
theorem dX1_untell_77 : decode cX1_untell 77 = .ok (.aload_n 0, 1) := by decide +kernel
theorem dX1_untell_78 : decode cX1_untell 78 = .ok (.iconst 3, 1) := by decide +kernel
theorem dX1_untell_79 : decode cX1_untell 79 = .ok (.invokevirtual 116, 3) := by decide +kernel
theorem dX1_untell_82 : decode cX1_untell 82 = .ok (.pop, 1) := by decide +kernel
theorem dX1_untell_83 : decode cX1_untell 83 = .ok (.return_, 1) := by decide +kernel
theorem dX1_learn_0 : decode cX1_learn 0 = .ok (.aload_n 0, 1) := by decide +kernel
theorem dX1_learn_1 : decode cX1_learn 1 = .ok (.lload_n 1, 1) := by decide +kernel
theorem dX1_learn_2 : decode cX1_learn 2 = .ok (.invokevirtual 102, 3) := by decide +kernel
theorem dX1_learn_5 : decode cX1_learn 5 = .ok (.istore 5, 2) := by decide +kernel
theorem dX1_learn_7 : decode cX1_learn 7 = .ok (.aload_n 0, 1) := by decide +kernel
theorem dX1_learn_8 : decode cX1_learn 8 = .ok (.iconst 0, 1) := by decide +kernel
theorem dX1_learn_9 : decode cX1_learn 9 = .ok (.putfield 45, 3) := by decide +kernel
theorem dX1_learn_12 : decode cX1_learn 12 = .ok (.iload 5, 2) := by decide +kernel
theorem dX1_learn_14 : decode cX1_learn 14 = .ok (.iconst (-1), 1) := by decide +kernel
theorem dX1_learn_15 : decode cX1_learn 15 = .ok (.if_icmp .eq 16, 3) := by decide +kernel
theorem dX1_learn_18 : decode cX1_learn 18 = .ok (.aload_n 0, 1) := by decide +kernel
theorem dX1_learn_19 : decode cX1_learn 19 = .ok (.getfield 33, 3) := by decide +kernel
theorem dX1_learn_22 : decode cX1_learn 22 = .ok (.iload 5, 2) := by decide +kernel
theorem dX1_learn_24 : decode cX1_learn 24 = .ok (.laload, 1) := by decide +kernel
theorem dX1_learn_25 : decode cX1_learn 25 = .ok (.lload_n 3, 1) := by decide +kernel
theorem dX1_learn_26 : decode cX1_learn 26 = .ok (.lcmp, 1) := by decide +kernel
theorem dX1_learn_27 : decode cX1_learn 27 = .ok (.ifCond .ne 4, 3) := by decide +kernel
theorem dX1_learn_30 : decode cX1_learn 30 = .ok (.return_, 1) := by decide +kernel
theorem dX1_learn_31 : decode cX1_learn 31 = .ok (.aload_n 0, 1) := by decide +kernel
theorem dX1_learn_32 : decode cX1_learn 32 = .ok (.iconst 0, 1) := by decide +kernel
theorem dX1_learn_33 : decode cX1_learn 33 = .ok (.putfield 65, 3) := by decide +kernel
theorem dX1_learn_36 : decode cX1_learn 36 = .ok (.aload_n 0, 1) := by decide +kernel
theorem dX1_learn_37 : decode cX1_learn 37 = .ok (.lload_n 1, 1) := by decide +kernel
theorem dX1_learn_38 : decode cX1_learn 38 = .ok (.bipush 8, 2) := by decide +kernel
theorem dX1_learn_40 : decode cX1_learn 40 = .ok (.invokevirtual 105, 3) := by decide +kernel
theorem dX1_learn_43 : decode cX1_learn 43 = .ok (.aload_n 0, 1) := by decide +kernel
theorem dX1_learn_44 : decode cX1_learn 44 = .ok (.lload_n 3, 1) := by decide +kernel
theorem dX1_learn_45 : decode cX1_learn 45 = .ok (.bipush 8, 2) := by decide +kernel
theorem dX1_learn_47 : decode cX1_learn 47 = .ok (.invokevirtual 105, 3) := by decide +kernel
theorem dX1_learn_50 : decode cX1_learn 50 = .ok (.aload_n 0, 1) := by decide +kernel
theorem dX1_learn_51 : decode cX1_learn 51 = .ok (.iload 5, 2) := by decide +kernel
theorem dX1_learn_53 : decode cX1_learn 53 = .ok (.iconst (-1), 1) := by decide +kernel
theorem dX1_learn_54 : decode cX1_learn 54 = .ok (.if_icmp .ne 12, 3) := by decide +kernel
theorem dX1_learn_57 : decode cX1_learn 57 = .ok (.aload_n 0, 1) := by decide +kernel
theorem dX1_learn_58 : decode cX1_learn 58 = .ok (.getfield 75, 3) := by decide +kernel
theorem dX1_learn_61 : decode cX1_learn 61 = .ok (.bipush 16, 2) := by decide +kernel
theorem dX1_learn_63 : decode cX1_learn 63 = .ok (.if_icmp .eq 10, 3) := by decide +kernel
theorem dX1_learn_66 : decode cX1_learn 66 = .ok (.aload_n 0, 1) := by decide +kernel
theorem dX1_learn_67 : decode cX1_learn 67 = .ok (.invokevirtual 109, 3) := by decide +kernel
theorem dX1_learn_70 : decode cX1_learn 70 = .ok (.ifCond .ne 7, 3) := by decide +kernel
theorem dX1_learn_73 : decode cX1_learn 73 = .ok (.iconst 1, 1) := by decide +kernel
theorem dX1_learn_74 : decode cX1_learn 74 = .ok (.goto 4, 3) := by decide +kernel
theorem dX1_learn_77 : decode cX1_learn 77 = .ok (.iconst 0, 1) := by decide +kernel
theorem dX1_learn_78 : decode cX1_learn 78 = .ok (.putfield 45, 3) := by decide +kernel
theorem dX1_learn_81 : decode cX1_learn 81 = .ok (.aload_n 0, 1) := by decide +kernel
theorem dX1_learn_82 : decode cX1_learn 82 = .ok (.getfield 45, 3) := by decide +kernel
theorem dX1_learn_85 : decode cX1_learn 85 = .ok (.ifCond .ne 14, 3) := by decide +kernel
theorem dX1_learn_88 : decode cX1_learn 88 = .ok (.aload_n 0, 1) := by decide +kernel
theorem dX1_learn_89 : decode cX1_learn 89 = .ok (.iconst 4, 1) := by decide +kernel
theorem dX1_learn_90 : decode cX1_learn 90 = .ok (.invokevirtual 112, 3) := by decide +kernel
theorem dX1_learn_93 : decode cX1_learn 93 = .ok (.aload_n 0, 1) := by decide +kernel
theorem dX1_learn_94 : decode cX1_learn 94 = .ok (.iconst 4, 1) := by decide +kernel
theorem dX1_learn_95 : decode cX1_learn 95 = .ok (.invokevirtual 116, 3) := by decide +kernel
theorem dX1_learn_98 : decode cX1_learn 98 = .ok (.pop, 1) := by decide +kernel
theorem dX1_learn_99 : decode cX1_learn 99 = .ok (.return_, 1) := by decide +kernel
theorem dX1_pin_0 : decode cX1_pin 0 = .ok (.aload_n 0, 1) := by decide +kernel
theorem dX1_pin_1 : decode cX1_pin 1 = .ok (.iload_n 1, 1) := by decide +kernel
theorem dX1_pin_2 : decode cX1_pin 2 = .ok (.ifCond .lt 8, 3) := by decide +kernel
theorem dX1_pin_5 : decode cX1_pin 5 = .ok (.iload_n 1, 1) := by decide +kernel
theorem dX1_pin_6 : decode cX1_pin 6 = .ok (.iconst 4, 1) := by decide +kernel
theorem dX1_pin_7 : decode cX1_pin 7 = .ok (.if_icmp .lt 7, 3) := by decide +kernel
theorem dX1_pin_10 : decode cX1_pin 10 = .ok (.iconst 1, 1) := by decide +kernel
theorem dX1_pin_11 : decode cX1_pin 11 = .ok (.goto 4, 3) := by decide +kernel
theorem dX1_pin_14 : decode cX1_pin 14 = .ok (.iconst 0, 1) := by decide +kernel
theorem dX1_pin_15 : decode cX1_pin 15 = .ok (.putfield 45, 3) := by decide +kernel
theorem dX1_pin_18 : decode cX1_pin 18 = .ok (.aload_n 0, 1) := by decide +kernel
theorem dX1_pin_19 : decode cX1_pin 19 = .ok (.getfield 45, 3) := by decide +kernel
theorem dX1_pin_22 : decode cX1_pin 22 = .ok (.ifCond .ne 10, 3) := by decide +kernel
theorem dX1_pin_25 : decode cX1_pin 25 = .ok (.aload_n 0, 1) := by decide +kernel
theorem dX1_pin_26 : decode cX1_pin 26 = .ok (.getfield 36, 3) := by decide +kernel
theorem dX1_pin_29 : decode cX1_pin 29 = .ok (.iload_n 1, 1) := by decide +kernel
theorem dX1_pin_30 : decode cX1_pin 30 = .ok (.lload_n 2, 1) := by decide +kernel
theorem dX1_pin_31 : decode cX1_pin 31 = .ok (.lastore, 1) := by decide +kernel
theorem dX1_pin_32 : decode cX1_pin 32 = .ok (.return_, 1) := by decide +kernel
theorem dX1_tag_0 : decode cX1_tag 0 = .ok (.aload_n 0, 1) := by decide +kernel
theorem dX1_tag_1 : decode cX1_tag 1 = .ok (.iload_n 1, 1) := by decide +kernel
theorem dX1_tag_2 : decode cX1_tag 2 = .ok (.invokestatic 120, 3) := by decide +kernel
theorem dX1_tag_5 : decode cX1_tag 5 = .ok (.ifCond .eq 7, 3) := by decide +kernel
theorem dX1_tag_8 : decode cX1_tag 8 = .ok (.iconst 0, 1) := by decide +kernel
theorem dX1_tag_9 : decode cX1_tag 9 = .ok (.goto 4, 3) := by decide +kernel
theorem dX1_tag_12 : decode cX1_tag 12 = .ok (.iconst 1, 1) := by decide +kernel
theorem dX1_tag_13 : decode cX1_tag 13 = .ok (.putfield 45, 3) := by decide +kernel
theorem dX1_tag_16 : decode cX1_tag 16 = .ok (.aload_n 0, 1) := by decide +kernel
theorem dX1_tag_17 : decode cX1_tag 17 = .ok (.getfield 45, 3) := by decide +kernel
theorem dX1_tag_20 : decode cX1_tag 20 = .ok (.ifCond .gt 12, 3) := by decide +kernel
theorem dX1_tag_23 : decode cX1_tag 23 = .ok (.aload_n 0, 1) := by decide +kernel
theorem dX1_tag_24 : decode cX1_tag 24 = .ok (.getfield 26, 3) := by decide +kernel
theorem dX1_tag_27 : decode cX1_tag 27 = .ok (.iload_n 1, 1) := by decide +kernel
theorem dX1_tag_28 : decode cX1_tag 28 = .ok (.baload, 1) := by decide +kernel
theorem dX1_tag_29 : decode cX1_tag 29 = .ok (.ifCond .ne 7, 3) := by decide +kernel
theorem dX1_tag_32 : decode cX1_tag 32 = .ok (.lconst 0, 1) := by decide +kernel
theorem dX1_tag_33 : decode cX1_tag 33 = .ok (.goto 9, 3) := by decide +kernel
theorem dX1_tag_36 : decode cX1_tag 36 = .ok (.aload_n 0, 1) := by decide +kernel
theorem dX1_tag_37 : decode cX1_tag 37 = .ok (.getfield 23, 3) := by decide +kernel
theorem dX1_tag_40 : decode cX1_tag 40 = .ok (.iload_n 1, 1) := by decide +kernel
theorem dX1_tag_41 : decode cX1_tag 41 = .ok (.laload, 1) := by decide +kernel
theorem dX1_tag_42 : decode cX1_tag 42 = .ok (.lreturn, 1) := by decide +kernel
theorem dX1_look_0 : decode cX1_look 0 = .ok (.aload_n 0, 1) := by decide +kernel
theorem dX1_look_1 : decode cX1_look 1 = .ok (.lload_n 1, 1) := by decide +kernel
theorem dX1_look_2 : decode cX1_look 2 = .ok (.invokevirtual 102, 3) := by decide +kernel
theorem dX1_look_5 : decode cX1_look 5 = .ok (.istore_n 3, 1) := by decide +kernel
theorem dX1_look_6 : decode cX1_look 6 = .ok (.aload_n 0, 1) := by decide +kernel
theorem dX1_look_7 : decode cX1_look 7 = .ok (.iload_n 3, 1) := by decide +kernel
theorem dX1_look_8 : decode cX1_look 8 = .ok (.iconst (-1), 1) := by decide +kernel
theorem dX1_look_9 : decode cX1_look 9 = .ok (.if_icmp .ne 7, 3) := by decide +kernel
theorem dX1_look_12 : decode cX1_look 12 = .ok (.iconst 1, 1) := by decide +kernel
theorem dX1_look_13 : decode cX1_look 13 = .ok (.goto 4, 3) := by decide +kernel
theorem dX1_look_16 : decode cX1_look 16 = .ok (.iconst 0, 1) := by decide +kernel
theorem dX1_look_17 : decode cX1_look 17 = .ok (.putfield 45, 3) := by decide +kernel
theorem dX1_look_20 : decode cX1_look 20 = .ok (.iload_n 3, 1) := by decide +kernel
theorem dX1_look_21 : decode cX1_look 21 = .ok (.iconst (-1), 1) := by decide +kernel
theorem dX1_look_22 : decode cX1_look 22 = .ok (.if_icmp .ne 7, 3) := by decide +kernel
theorem dX1_look_25 : decode cX1_look 25 = .ok (.lconst 0, 1) := by decide +kernel
theorem dX1_look_26 : decode cX1_look 26 = .ok (.goto 9, 3) := by decide +kernel
theorem dX1_look_29 : decode cX1_look 29 = .ok (.aload_n 0, 1) := by decide +kernel
theorem dX1_look_30 : decode cX1_look 30 = .ok (.getfield 33, 3) := by decide +kernel
theorem dX1_look_33 : decode cX1_look 33 = .ok (.iload_n 3, 1) := by decide +kernel
theorem dX1_look_34 : decode cX1_look 34 = .ok (.laload, 1) := by decide +kernel
theorem dX1_look_35 : decode cX1_look 35 = .ok (.lreturn, 1) := by decide +kernel
theorem dX1_length_0 : decode cX1_length 0 = .ok (.aload_n 0, 1) := by decide +kernel
theorem dX1_length_1 : decode cX1_length 1 = .ok (.iconst 0, 1) := by decide +kernel
theorem dX1_length_2 : decode cX1_length 2 = .ok (.putfield 45, 3) := by decide +kernel
theorem dX1_length_5 : decode cX1_length 5 = .ok (.aload_n 0, 1) := by decide +kernel
theorem dX1_length_6 : decode cX1_length 6 = .ok (.lload_n 1, 1) := by decide +kernel
theorem dX1_length_7 : decode cX1_length 7 = .ok (.invokevirtual 91, 3) := by decide +kernel
theorem dX1_length_10 : decode cX1_length 10 = .ok (.istore_n 3, 1) := by decide +kernel
theorem dX1_length_11 : decode cX1_length 11 = .ok (.iload_n 3, 1) := by decide +kernel
theorem dX1_length_12 : decode cX1_length 12 = .ok (.iconst (-1), 1) := by decide +kernel
theorem dX1_length_13 : decode cX1_length 13 = .ok (.if_icmp .ne 7, 3) := by decide +kernel
theorem dX1_length_16 : decode cX1_length 16 = .ok (.iconst (-1), 1) := by decide +kernel
theorem dX1_length_17 : decode cX1_length 17 = .ok (.goto 9, 3) := by decide +kernel
theorem dX1_length_20 : decode cX1_length 20 = .ok (.aload_n 0, 1) := by decide +kernel
theorem dX1_length_21 : decode cX1_length 21 = .ok (.getfield 17, 3) := by decide +kernel
theorem dX1_length_24 : decode cX1_length 24 = .ok (.iload_n 3, 1) := by decide +kernel
theorem dX1_length_25 : decode cX1_length 25 = .ok (.iaload, 1) := by decide +kernel
theorem dX1_length_26 : decode cX1_length 26 = .ok (.ireturn, 1) := by decide +kernel
theorem dX1_byteOf_0 : decode cX1_byteOf 0 = .ok (.aload_n 0, 1) := by decide +kernel
theorem dX1_byteOf_1 : decode cX1_byteOf 1 = .ok (.lload_n 1, 1) := by decide +kernel
theorem dX1_byteOf_2 : decode cX1_byteOf 2 = .ok (.invokevirtual 91, 3) := by decide +kernel
theorem dX1_byteOf_5 : decode cX1_byteOf 5 = .ok (.istore 4, 2) := by decide +kernel
theorem dX1_byteOf_7 : decode cX1_byteOf 7 = .ok (.aload_n 0, 1) := by decide +kernel
theorem dX1_byteOf_8 : decode cX1_byteOf 8 = .ok (.iload 4, 2) := by decide +kernel
theorem dX1_byteOf_10 : decode cX1_byteOf 10 = .ok (.iconst (-1), 1) := by decide +kernel
theorem dX1_byteOf_11 : decode cX1_byteOf 11 = .ok (.if_icmp .ne 7, 3) := by decide +kernel
theorem dX1_byteOf_14 : decode cX1_byteOf 14 = .ok (.iconst 1, 1) := by decide +kernel
theorem dX1_byteOf_15 : decode cX1_byteOf 15 = .ok (.goto 23, 3) := by decide +kernel
theorem dX1_byteOf_18 : decode cX1_byteOf 18 = .ok (.iload_n 3, 1) := by decide +kernel
theorem dX1_byteOf_19 : decode cX1_byteOf 19 = .ok (.ifCond .lt 14, 3) := by decide +kernel
theorem dX1_byteOf_22 : decode cX1_byteOf 22 = .ok (.iload_n 3, 1) := by decide +kernel
theorem dX1_byteOf_23 : decode cX1_byteOf 23 = .ok (.aload_n 0, 1) := by decide +kernel
theorem dX1_byteOf_24 : decode cX1_byteOf 24 = .ok (.getfield 17, 3) := by decide +kernel
theorem dX1_byteOf_27 : decode cX1_byteOf 27 = .ok (.iload 4, 2) := by decide +kernel
theorem dX1_byteOf_29 : decode cX1_byteOf 29 = .ok (.iaload, 1) := by decide +kernel
theorem dX1_byteOf_30 : decode cX1_byteOf 30 = .ok (.if_icmp .lt 7, 3) := by decide +kernel
theorem dX1_byteOf_33 : decode cX1_byteOf 33 = .ok (.iconst 2, 1) := by decide +kernel
theorem dX1_byteOf_34 : decode cX1_byteOf 34 = .ok (.goto 4, 3) := by decide +kernel
theorem dX1_byteOf_37 : decode cX1_byteOf 37 = .ok (.iconst 0, 1) := by decide +kernel
theorem dX1_byteOf_38 : decode cX1_byteOf 38 = .ok (.putfield 45, 3) := by decide +kernel
theorem dX1_byteOf_41 : decode cX1_byteOf 41 = .ok (.aload_n 0, 1) := by decide +kernel
theorem dX1_byteOf_42 : decode cX1_byteOf 42 = .ok (.getfield 45, 3) := by decide +kernel
theorem dX1_byteOf_45 : decode cX1_byteOf 45 = .ok (.ifCond .le 7, 3) := by decide +kernel
theorem dX1_byteOf_48 : decode cX1_byteOf 48 = .ok (.iconst 0, 1) := by decide +kernel
theorem dX1_byteOf_49 : decode cX1_byteOf 49 = .ok (.goto 16, 3) := by decide +kernel
theorem dX1_byteOf_52 : decode cX1_byteOf 52 = .ok (.aload_n 0, 1) := by decide +kernel
theorem dX1_byteOf_53 : decode cX1_byteOf 53 = .ok (.getfield 20, 3) := by decide +kernel
theorem dX1_byteOf_56 : decode cX1_byteOf 56 = .ok (.sipush 700, 3) := by decide +kernel
theorem dX1_byteOf_59 : decode cX1_byteOf 59 = .ok (.iload 4, 2) := by decide +kernel
theorem dX1_byteOf_61 : decode cX1_byteOf 61 = .ok (.imul, 1) := by decide +kernel
theorem dX1_byteOf_62 : decode cX1_byteOf 62 = .ok (.iload_n 3, 1) := by decide +kernel
theorem dX1_byteOf_63 : decode cX1_byteOf 63 = .ok (.iadd, 1) := by decide +kernel
theorem dX1_byteOf_64 : decode cX1_byteOf 64 = .ok (.iaload, 1) := by decide +kernel
theorem dX1_byteOf_65 : decode cX1_byteOf 65 = .ok (.ireturn, 1) := by decide +kernel
theorem dX1_count_0 : decode cX1_count 0 = .ok (.aload_n 0, 1) := by decide +kernel
theorem dX1_count_1 : decode cX1_count 1 = .ok (.iload_n 1, 1) := by decide +kernel
theorem dX1_count_2 : decode cX1_count 2 = .ok (.ifCond .lt 8, 3) := by decide +kernel
theorem dX1_count_5 : decode cX1_count 5 = .ok (.iload_n 1, 1) := by decide +kernel
theorem dX1_count_6 : decode cX1_count 6 = .ok (.iconst 3, 1) := by decide +kernel
theorem dX1_count_7 : decode cX1_count 7 = .ok (.if_icmp .le 7, 3) := by decide +kernel
theorem dX1_count_10 : decode cX1_count 10 = .ok (.iconst 1, 1) := by decide +kernel
theorem dX1_count_11 : decode cX1_count 11 = .ok (.goto 4, 3) := by decide +kernel
theorem dX1_count_14 : decode cX1_count 14 = .ok (.iconst 0, 1) := by decide +kernel
theorem dX1_count_15 : decode cX1_count 15 = .ok (.putfield 45, 3) := by decide +kernel
theorem dX1_count_18 : decode cX1_count 18 = .ok (.iload_n 1, 1) := by decide +kernel
theorem dX1_count_19 : decode cX1_count 19 = .ok (.ifCond .ne 10, 3) := by decide +kernel
theorem dX1_count_22 : decode cX1_count 22 = .ok (.aload_n 0, 1) := by decide +kernel
theorem dX1_count_23 : decode cX1_count 23 = .ok (.getfield 72, 3) := by decide +kernel
theorem dX1_count_26 : decode cX1_count 26 = .ok (.goto 40, 3) := by decide +kernel
theorem dX1_count_29 : decode cX1_count 29 = .ok (.iload_n 1, 1) := by decide +kernel
theorem dX1_count_30 : decode cX1_count 30 = .ok (.iconst 1, 1) := by decide +kernel
theorem dX1_count_31 : decode cX1_count 31 = .ok (.if_icmp .ne 10, 3) := by decide +kernel
theorem dX1_count_34 : decode cX1_count 34 = .ok (.aload_n 0, 1) := by decide +kernel
theorem dX1_count_35 : decode cX1_count 35 = .ok (.getfield 75, 3) := by decide +kernel
theorem dX1_count_38 : decode cX1_count 38 = .ok (.goto 28, 3) := by decide +kernel
theorem dX1_count_41 : decode cX1_count 41 = .ok (.iload_n 1, 1) := by decide +kernel
theorem dX1_count_42 : decode cX1_count 42 = .ok (.iconst 2, 1) := by decide +kernel
theorem dX1_count_43 : decode cX1_count 43 = .ok (.if_icmp .ne 10, 3) := by decide +kernel
theorem dX1_count_46 : decode cX1_count 46 = .ok (.aload_n 0, 1) := by decide +kernel
theorem dX1_count_47 : decode cX1_count 47 = .ok (.getfield 80, 3) := by decide +kernel
theorem dX1_count_50 : decode cX1_count 50 = .ok (.goto 16, 3) := by decide +kernel
theorem dX1_count_53 : decode cX1_count 53 = .ok (.iload_n 1, 1) := by decide +kernel
theorem dX1_count_54 : decode cX1_count 54 = .ok (.iconst 3, 1) := by decide +kernel
theorem dX1_count_55 : decode cX1_count 55 = .ok (.if_icmp .ne 10, 3) := by decide +kernel
theorem dX1_count_58 : decode cX1_count 58 = .ok (.aload_n 0, 1) := by decide +kernel
theorem dX1_count_59 : decode cX1_count 59 = .ok (.getfield 123, 3) := by decide +kernel
theorem dX1_count_62 : decode cX1_count 62 = .ok (.goto 4, 3) := by decide +kernel
theorem dX1_count_65 : decode cX1_count 65 = .ok (.iconst 0, 1) := by decide +kernel
theorem dX1_count_66 : decode cX1_count 66 = .ok (.ireturn, 1) := by decide +kernel
theorem dX1_journal_0 : decode cX1_journal 0 = .ok (.aload_n 0, 1) := by decide +kernel
theorem dX1_journal_1 : decode cX1_journal 1 = .ok (.iload_n 1, 1) := by decide +kernel
theorem dX1_journal_2 : decode cX1_journal 2 = .ok (.ifCond .lt 11, 3) := by decide +kernel
theorem dX1_journal_5 : decode cX1_journal 5 = .ok (.iload_n 1, 1) := by decide +kernel
theorem dX1_journal_6 : decode cX1_journal 6 = .ok (.aload_n 0, 1) := by decide +kernel
theorem dX1_journal_7 : decode cX1_journal 7 = .ok (.getfield 80, 3) := by decide +kernel
theorem dX1_journal_10 : decode cX1_journal 10 = .ok (.if_icmp .lt 7, 3) := by decide +kernel
theorem dX1_journal_13 : decode cX1_journal 13 = .ok (.iconst 1, 1) := by decide +kernel
theorem dX1_journal_14 : decode cX1_journal 14 = .ok (.goto 4, 3) := by decide +kernel
theorem dX1_journal_17 : decode cX1_journal 17 = .ok (.iconst 0, 1) := by decide +kernel
theorem dX1_journal_18 : decode cX1_journal 18 = .ok (.putfield 45, 3) := by decide +kernel
theorem dX1_journal_21 : decode cX1_journal 21 = .ok (.aload_n 0, 1) := by decide +kernel
theorem dX1_journal_22 : decode cX1_journal 22 = .ok (.getfield 45, 3) := by decide +kernel
theorem dX1_journal_25 : decode cX1_journal 25 = .ok (.ifCond .le 7, 3) := by decide +kernel
theorem dX1_journal_28 : decode cX1_journal 28 = .ok (.iconst 0, 1) := by decide +kernel
theorem dX1_journal_29 : decode cX1_journal 29 = .ok (.goto 9, 3) := by decide +kernel
theorem dX1_journal_32 : decode cX1_journal 32 = .ok (.aload_n 0, 1) := by decide +kernel
theorem dX1_journal_33 : decode cX1_journal 33 = .ok (.getfield 39, 3) := by decide +kernel
theorem dX1_journal_36 : decode cX1_journal 36 = .ok (.iload_n 1, 1) := by decide +kernel
theorem dX1_journal_37 : decode cX1_journal 37 = .ok (.iaload, 1) := by decide +kernel
theorem dX1_journal_38 : decode cX1_journal 38 = .ok (.ireturn, 1) := by decide +kernel
theorem dX1_sync_0 : decode cX1_sync 0 = .ok (.aload_n 0, 1) := by decide +kernel
theorem dX1_sync_1 : decode cX1_sync 1 = .ok (.iconst 0, 1) := by decide +kernel
theorem dX1_sync_2 : decode cX1_sync 2 = .ok (.putfield 45, 3) := by decide +kernel
theorem dX1_sync_5 : decode cX1_sync 5 = .ok (.aload_n 0, 1) := by decide +kernel
theorem dX1_sync_6 : decode cX1_sync 6 = .ok (.aload_n 0, 1) := by decide +kernel
theorem dX1_sync_7 : decode cX1_sync 7 = .ok (.getfield 80, 3) := by decide +kernel
theorem dX1_sync_10 : decode cX1_sync 10 = .ok (.putfield 123, 3) := by decide +kernel
theorem dX1_sync_13 : decode cX1_sync 13 = .ok (.return_, 1) := by decide +kernel
theorem dX1_empties_0 : decode cX1_empties 0 = .ok (.aload_n 0, 1) := by decide +kernel
theorem dX1_empties_1 : decode cX1_empties 1 = .ok (.iconst 0, 1) := by decide +kernel
theorem dX1_empties_2 : decode cX1_empties 2 = .ok (.putfield 72, 3) := by decide +kernel
theorem dX1_empties_5 : decode cX1_empties 5 = .ok (.aload_n 0, 1) := by decide +kernel
theorem dX1_empties_6 : decode cX1_empties 6 = .ok (.iconst 0, 1) := by decide +kernel
theorem dX1_empties_7 : decode cX1_empties 7 = .ok (.putfield 75, 3) := by decide +kernel
theorem dX1_empties_10 : decode cX1_empties 10 = .ok (.iconst 0, 1) := by decide +kernel
theorem dX1_empties_11 : decode cX1_empties 11 = .ok (.istore_n 1, 1) := by decide +kernel
theorem dX1_empties_12 : decode cX1_empties 12 = .ok (.iload_n 1, 1) := by decide +kernel
theorem dX1_empties_13 : decode cX1_empties 13 = .ok (.bipush 8, 2) := by decide +kernel
theorem dX1_empties_15 : decode cX1_empties 15 = .ok (.if_icmp .ge 16, 3) := by decide +kernel
theorem dX1_empties_18 : decode cX1_empties 18 = .ok (.aload_n 0, 1) := by decide +kernel
theorem dX1_empties_19 : decode cX1_empties 19 = .ok (.getfield 26, 3) := by decide +kernel
theorem dX1_empties_22 : decode cX1_empties 22 = .ok (.iload_n 1, 1) := by decide +kernel
theorem dX1_empties_23 : decode cX1_empties 23 = .ok (.iconst 0, 1) := by decide +kernel
theorem dX1_empties_24 : decode cX1_empties 24 = .ok (.bastore, 1) := by decide +kernel
theorem dX1_empties_25 : decode cX1_empties 25 = .ok (.iinc 1 1, 3) := by decide +kernel
theorem dX1_empties_28 : decode cX1_empties 28 = .ok (.goto (-16), 3) := by decide +kernel
theorem dX1_empties_31 : decode cX1_empties 31 = .ok (.return_, 1) := by decide +kernel
theorem dX1_reads_0 : decode cX1_reads 0 = .ok (.iload_n 1, 1) := by decide +kernel
theorem dX1_reads_1 : decode cX1_reads 1 = .ok (.iconst 4, 1) := by decide +kernel
theorem dX1_reads_2 : decode cX1_reads 2 = .ok (.iadd, 1) := by decide +kernel
theorem dX1_reads_3 : decode cX1_reads 3 = .ok (.iload_n 2, 1) := by decide +kernel
theorem dX1_reads_4 : decode cX1_reads 4 = .ok (.if_icmp .gt 23, 3) := by decide +kernel
theorem dX1_reads_7 : decode cX1_reads 7 = .ok (.aload_n 0, 1) := by decide +kernel
theorem dX1_reads_8 : decode cX1_reads 8 = .ok (.getfield 39, 3) := by decide +kernel
theorem dX1_reads_11 : decode cX1_reads 11 = .ok (.iload_n 1, 1) := by decide +kernel
theorem dX1_reads_12 : decode cX1_reads 12 = .ok (.iaload, 1) := by decide +kernel
theorem dX1_reads_13 : decode cX1_reads 13 = .ok (.iconst 1, 1) := by decide +kernel
theorem dX1_reads_14 : decode cX1_reads 14 = .ok (.if_icmp .lt 13, 3) := by decide +kernel
theorem dX1_reads_17 : decode cX1_reads 17 = .ok (.aload_n 0, 1) := by decide +kernel
theorem dX1_reads_18 : decode cX1_reads 18 = .ok (.getfield 39, 3) := by decide +kernel
theorem dX1_reads_21 : decode cX1_reads 21 = .ok (.iload_n 1, 1) := by decide +kernel
theorem dX1_reads_22 : decode cX1_reads 22 = .ok (.iaload, 1) := by decide +kernel
theorem dX1_reads_23 : decode cX1_reads 23 = .ok (.iconst 4, 1) := by decide +kernel
theorem dX1_reads_24 : decode cX1_reads 24 = .ok (.if_icmp .le 5, 3) := by decide +kernel
theorem dX1_reads_27 : decode cX1_reads 27 = .ok (.iconst (-1), 1) := by decide +kernel
theorem dX1_reads_28 : decode cX1_reads 28 = .ok (.ireturn, 1) := by decide +kernel
theorem dX1_reads_29 : decode cX1_reads 29 = .ok (.aload_n 0, 1) := by decide +kernel
theorem dX1_reads_30 : decode cX1_reads 30 = .ok (.aload_n 0, 1) := by decide +kernel
theorem dX1_reads_31 : decode cX1_reads 31 = .ok (.getfield 39, 3) := by decide +kernel
theorem dX1_reads_34 : decode cX1_reads 34 = .ok (.iload_n 1, 1) := by decide +kernel
theorem dX1_reads_35 : decode cX1_reads 35 = .ok (.iconst 1, 1) := by decide +kernel
theorem dX1_reads_36 : decode cX1_reads 36 = .ok (.iadd, 1) := by decide +kernel
theorem dX1_reads_37 : decode cX1_reads 37 = .ok (.iaload, 1) := by decide +kernel
theorem dX1_reads_38 : decode cX1_reads 38 = .ok (.sipush 256, 3) := by decide +kernel
theorem dX1_reads_41 : decode cX1_reads 41 = .ok (.aload_n 0, 1) := by decide +kernel
theorem dX1_reads_42 : decode cX1_reads 42 = .ok (.getfield 39, 3) := by decide +kernel
theorem dX1_reads_45 : decode cX1_reads 45 = .ok (.iload_n 1, 1) := by decide +kernel
theorem dX1_reads_46 : decode cX1_reads 46 = .ok (.iconst 2, 1) := by decide +kernel
theorem dX1_reads_47 : decode cX1_reads 47 = .ok (.iadd, 1) := by decide +kernel
theorem dX1_reads_48 : decode cX1_reads 48 = .ok (.iaload, 1) := by decide +kernel
theorem dX1_reads_49 : decode cX1_reads 49 = .ok (.imul, 1) := by decide +kernel
theorem dX1_reads_50 : decode cX1_reads 50 = .ok (.iadd, 1) := by decide +kernel
theorem dX1_reads_51 : decode cX1_reads 51 = .ok (.putfield 65, 3) := by decide +kernel
theorem dX1_reads_54 : decode cX1_reads 54 = .ok (.iload_n 1, 1) := by decide +kernel
theorem dX1_reads_55 : decode cX1_reads 55 = .ok (.iconst 3, 1) := by decide +kernel
theorem dX1_reads_56 : decode cX1_reads 56 = .ok (.iadd, 1) := by decide +kernel
theorem dX1_reads_57 : decode cX1_reads 57 = .ok (.aload_n 0, 1) := by decide +kernel
theorem dX1_reads_58 : decode cX1_reads 58 = .ok (.getfield 65, 3) := by decide +kernel
theorem dX1_reads_61 : decode cX1_reads 61 = .ok (.iadd, 1) := by decide +kernel
theorem dX1_reads_62 : decode cX1_reads 62 = .ok (.istore_n 3, 1) := by decide +kernel
theorem dX1_reads_63 : decode cX1_reads 63 = .ok (.iload_n 3, 1) := by decide +kernel
theorem dX1_reads_64 : decode cX1_reads 64 = .ok (.iload_n 2, 1) := by decide +kernel
theorem dX1_reads_65 : decode cX1_reads 65 = .ok (.if_icmp .lt 5, 3) := by decide +kernel
theorem dX1_reads_68 : decode cX1_reads 68 = .ok (.iconst (-1), 1) := by decide +kernel
theorem dX1_reads_69 : decode cX1_reads 69 = .ok (.ireturn, 1) := by decide +kernel
theorem dX1_reads_70 : decode cX1_reads 70 = .ok (.iconst 0, 1) := by decide +kernel
theorem dX1_reads_71 : decode cX1_reads 71 = .ok (.istore 4, 2) := by decide +kernel
theorem dX1_reads_73 : decode cX1_reads 73 = .ok (.iload_n 1, 1) := by decide +kernel
theorem dX1_reads_74 : decode cX1_reads 74 = .ok (.istore 5, 2) := by decide +kernel
theorem dX1_reads_76 : decode cX1_reads 76 = .ok (.iload 5, 2) := by decide +kernel
theorem dX1_reads_78 : decode cX1_reads 78 = .ok (.iload_n 3, 1) := by decide +kernel
theorem dX1_reads_79 : decode cX1_reads 79 = .ok (.if_icmp .ge 21, 3) := by decide +kernel
theorem dX1_reads_82 : decode cX1_reads 82 = .ok (.iload 4, 2) := by decide +kernel
theorem dX1_reads_84 : decode cX1_reads 84 = .ok (.aload_n 0, 1) := by decide +kernel
theorem dX1_reads_85 : decode cX1_reads 85 = .ok (.getfield 39, 3) := by decide +kernel
theorem dX1_reads_88 : decode cX1_reads 88 = .ok (.iload 5, 2) := by decide +kernel
theorem dX1_reads_90 : decode cX1_reads 90 = .ok (.iaload, 1) := by decide +kernel
theorem dX1_reads_91 : decode cX1_reads 91 = .ok (.iadd, 1) := by decide +kernel
theorem dX1_reads_92 : decode cX1_reads 92 = .ok (.istore 4, 2) := by decide +kernel
theorem dX1_reads_94 : decode cX1_reads 94 = .ok (.iinc 5 1, 3) := by decide +kernel
theorem dX1_reads_97 : decode cX1_reads 97 = .ok (.goto (-21), 3) := by decide +kernel
theorem dX1_reads_100 : decode cX1_reads 100 = .ok (.iconst 0, 1) := by decide +kernel
theorem dX1_reads_101 : decode cX1_reads 101 = .ok (.istore 5, 2) := by decide +kernel
theorem dX1_reads_103 : decode cX1_reads 103 = .ok (.iload 5, 2) := by decide +kernel
theorem dX1_reads_105 : decode cX1_reads 105 = .ok (.aload_n 0, 1) := by decide +kernel
theorem dX1_reads_106 : decode cX1_reads 106 = .ok (.getfield 65, 3) := by decide +kernel
theorem dX1_reads_109 : decode cX1_reads 109 = .ok (.if_icmp .ge 27, 3) := by decide +kernel
theorem dX1_reads_112 : decode cX1_reads 112 = .ok (.aload_n 0, 1) := by decide +kernel
theorem dX1_reads_113 : decode cX1_reads 113 = .ok (.getfield 42, 3) := by decide +kernel
theorem dX1_reads_116 : decode cX1_reads 116 = .ok (.iload 5, 2) := by decide +kernel
theorem dX1_reads_118 : decode cX1_reads 118 = .ok (.aload_n 0, 1) := by decide +kernel
theorem dX1_reads_119 : decode cX1_reads 119 = .ok (.getfield 39, 3) := by decide +kernel
theorem dX1_reads_122 : decode cX1_reads 122 = .ok (.iload_n 1, 1) := by decide +kernel
theorem dX1_reads_123 : decode cX1_reads 123 = .ok (.iconst 3, 1) := by decide +kernel
theorem dX1_reads_124 : decode cX1_reads 124 = .ok (.iadd, 1) := by decide +kernel
theorem dX1_reads_125 : decode cX1_reads 125 = .ok (.iload 5, 2) := by decide +kernel
theorem dX1_reads_127 : decode cX1_reads 127 = .ok (.iadd, 1) := by decide +kernel
theorem dX1_reads_128 : decode cX1_reads 128 = .ok (.iaload, 1) := by decide +kernel
theorem dX1_reads_129 : decode cX1_reads 129 = .ok (.iastore, 1) := by decide +kernel
theorem dX1_reads_130 : decode cX1_reads 130 = .ok (.iinc 5 1, 3) := by decide +kernel
theorem dX1_reads_133 : decode cX1_reads 133 = .ok (.goto (-30), 3) := by decide +kernel
theorem dX1_reads_136 : decode cX1_reads 136 = .ok (.iload 4, 2) := by decide +kernel
theorem dX1_reads_138 : decode cX1_reads 138 = .ok (.sipush 255, 3) := by decide +kernel
theorem dX1_reads_141 : decode cX1_reads 141 = .ok (.iand, 1) := by decide +kernel
theorem dX1_reads_142 : decode cX1_reads 142 = .ok (.aload_n 0, 1) := by decide +kernel
theorem dX1_reads_143 : decode cX1_reads 143 = .ok (.getfield 39, 3) := by decide +kernel
theorem dX1_reads_146 : decode cX1_reads 146 = .ok (.iload_n 3, 1) := by decide +kernel
theorem dX1_reads_147 : decode cX1_reads 147 = .ok (.iaload, 1) := by decide +kernel
theorem dX1_reads_148 : decode cX1_reads 148 = .ok (.if_icmp .ne 9, 3) := by decide +kernel
theorem dX1_reads_151 : decode cX1_reads 151 = .ok (.iload_n 3, 1) := by decide +kernel
theorem dX1_reads_152 : decode cX1_reads 152 = .ok (.iconst 1, 1) := by decide +kernel
theorem dX1_reads_153 : decode cX1_reads 153 = .ok (.iadd, 1) := by decide +kernel
theorem dX1_reads_154 : decode cX1_reads 154 = .ok (.goto 4, 3) := by decide +kernel
theorem dX1_reads_157 : decode cX1_reads 157 = .ok (.iconst (-1), 1) := by decide +kernel
theorem dX1_reads_158 : decode cX1_reads 158 = .ok (.ireturn, 1) := by decide +kernel
theorem dX1_crash_0 : decode cX1_crash 0 = .ok (.aload_n 0, 1) := by decide +kernel
theorem dX1_crash_1 : decode cX1_crash 1 = .ok (.iload_n 1, 1) := by decide +kernel
theorem dX1_crash_2 : decode cX1_crash 2 = .ok (.ifCond .lt 16, 3) := by decide +kernel
theorem dX1_crash_5 : decode cX1_crash 5 = .ok (.iload_n 1, 1) := by decide +kernel
theorem dX1_crash_6 : decode cX1_crash 6 = .ok (.aload_n 0, 1) := by decide +kernel
theorem dX1_crash_7 : decode cX1_crash 7 = .ok (.getfield 80, 3) := by decide +kernel
theorem dX1_crash_10 : decode cX1_crash 10 = .ok (.aload_n 0, 1) := by decide +kernel
theorem dX1_crash_11 : decode cX1_crash 11 = .ok (.getfield 123, 3) := by decide +kernel
theorem dX1_crash_14 : decode cX1_crash 14 = .ok (.isub, 1) := by decide +kernel
theorem dX1_crash_15 : decode cX1_crash 15 = .ok (.if_icmp .le 7, 3) := by decide +kernel
theorem dX1_crash_18 : decode cX1_crash 18 = .ok (.iconst 1, 1) := by decide +kernel
theorem dX1_crash_19 : decode cX1_crash 19 = .ok (.goto 4, 3) := by decide +kernel
theorem dX1_crash_22 : decode cX1_crash 22 = .ok (.iconst 0, 1) := by decide +kernel
theorem dX1_crash_23 : decode cX1_crash 23 = .ok (.putfield 45, 3) := by decide +kernel
theorem dX1_crash_26 : decode cX1_crash 26 = .ok (.aload_n 0, 1) := by decide +kernel
theorem dX1_crash_27 : decode cX1_crash 27 = .ok (.getfield 45, 3) := by decide +kernel
theorem dX1_crash_30 : decode cX1_crash 30 = .ok (.ifCond .le 5, 3) := by decide +kernel
theorem dX1_crash_33 : decode cX1_crash 33 = .ok (.iconst 0, 1) := by decide +kernel
theorem dX1_crash_34 : decode cX1_crash 34 = .ok (.ireturn, 1) := by decide +kernel
theorem dX1_crash_35 : decode cX1_crash 35 = .ok (.aload_n 0, 1) := by decide +kernel
theorem dX1_crash_36 : decode cX1_crash 36 = .ok (.getfield 123, 3) := by decide +kernel
theorem dX1_crash_39 : decode cX1_crash 39 = .ok (.iload_n 1, 1) := by decide +kernel
theorem dX1_crash_40 : decode cX1_crash 40 = .ok (.iadd, 1) := by decide +kernel
theorem dX1_crash_41 : decode cX1_crash 41 = .ok (.istore_n 3, 1) := by decide +kernel
theorem dX1_crash_42 : decode cX1_crash 42 = .ok (.iload_n 2, 1) := by decide +kernel
theorem dX1_crash_43 : decode cX1_crash 43 = .ok (.ifCond .lt 34, 3) := by decide +kernel
theorem dX1_crash_46 : decode cX1_crash 46 = .ok (.iload_n 2, 1) := by decide +kernel
theorem dX1_crash_47 : decode cX1_crash 47 = .ok (.iload_n 1, 1) := by decide +kernel
theorem dX1_crash_48 : decode cX1_crash 48 = .ok (.if_icmp .ge 29, 3) := by decide +kernel
theorem dX1_crash_51 : decode cX1_crash 51 = .ok (.aload_n 0, 1) := by decide +kernel
theorem dX1_crash_52 : decode cX1_crash 52 = .ok (.getfield 39, 3) := by decide +kernel
theorem dX1_crash_55 : decode cX1_crash 55 = .ok (.aload_n 0, 1) := by decide +kernel
theorem dX1_crash_56 : decode cX1_crash 56 = .ok (.getfield 123, 3) := by decide +kernel
theorem dX1_crash_59 : decode cX1_crash 59 = .ok (.iload_n 2, 1) := by decide +kernel
theorem dX1_crash_60 : decode cX1_crash 60 = .ok (.iadd, 1) := by decide +kernel
theorem dX1_crash_61 : decode cX1_crash 61 = .ok (.sipush 255, 3) := by decide +kernel
theorem dX1_crash_64 : decode cX1_crash 64 = .ok (.aload_n 0, 1) := by decide +kernel
theorem dX1_crash_65 : decode cX1_crash 65 = .ok (.getfield 39, 3) := by decide +kernel
theorem dX1_crash_68 : decode cX1_crash 68 = .ok (.aload_n 0, 1) := by decide +kernel
theorem dX1_crash_69 : decode cX1_crash 69 = .ok (.getfield 123, 3) := by decide +kernel
theorem dX1_crash_72 : decode cX1_crash 72 = .ok (.iload_n 2, 1) := by decide +kernel
theorem dX1_crash_73 : decode cX1_crash 73 = .ok (.iadd, 1) := by decide +kernel
theorem dX1_crash_74 : decode cX1_crash 74 = .ok (.iaload, 1) := by decide +kernel
theorem dX1_crash_75 : decode cX1_crash 75 = .ok (.isub, 1) := by decide +kernel
theorem dX1_crash_76 : decode cX1_crash 76 = .ok (.iastore, 1) := by decide +kernel
theorem dX1_crash_77 : decode cX1_crash 77 = .ok (.aload_n 0, 1) := by decide +kernel
theorem dX1_crash_78 : decode cX1_crash 78 = .ok (.invokevirtual 126, 3) := by decide +kernel
theorem dX1_crash_81 : decode cX1_crash 81 = .ok (.iconst 0, 1) := by decide +kernel
theorem dX1_crash_82 : decode cX1_crash 82 = .ok (.istore 4, 2) := by decide +kernel
theorem dX1_crash_84 : decode cX1_crash 84 = .ok (.iload 4, 2) := by decide +kernel
theorem dX1_crash_86 : decode cX1_crash 86 = .ok (.iconst 4, 1) := by decide +kernel
theorem dX1_crash_87 : decode cX1_crash 87 = .ok (.if_icmp .ge 17, 3) := by decide +kernel
theorem dX1_crash_90 : decode cX1_crash 90 = .ok (.aload_n 0, 1) := by decide +kernel
theorem dX1_crash_91 : decode cX1_crash 91 = .ok (.getfield 36, 3) := by decide +kernel
theorem dX1_crash_94 : decode cX1_crash 94 = .ok (.iload 4, 2) := by decide +kernel
theorem dX1_crash_96 : decode cX1_crash 96 = .ok (.lconst 0, 1) := by decide +kernel
theorem dX1_crash_97 : decode cX1_crash 97 = .ok (.lastore, 1) := by decide +kernel
theorem dX1_crash_98 : decode cX1_crash 98 = .ok (.iinc 4 1, 3) := by decide +kernel
theorem dX1_crash_101 : decode cX1_crash 101 = .ok (.goto (-17), 3) := by decide +kernel
theorem dX1_crash_104 : decode cX1_crash 104 = .ok (.iconst 0, 1) := by decide +kernel
theorem dX1_crash_105 : decode cX1_crash 105 = .ok (.istore 4, 2) := by decide +kernel
theorem dX1_crash_107 : decode cX1_crash 107 = .ok (.aload_n 0, 1) := by decide +kernel
theorem dX1_crash_108 : decode cX1_crash 108 = .ok (.iconst 0, 1) := by decide +kernel
theorem dX1_crash_109 : decode cX1_crash 109 = .ok (.iload_n 3, 1) := by decide +kernel
theorem dX1_crash_110 : decode cX1_crash 110 = .ok (.invokevirtual 129, 3) := by decide +kernel
theorem dX1_crash_113 : decode cX1_crash 113 = .ok (.istore 5, 2) := by decide +kernel
theorem dX1_crash_115 : decode cX1_crash 115 = .ok (.iload 5, 2) := by decide +kernel
theorem dX1_crash_117 : decode cX1_crash 117 = .ok (.iconst (-1), 1) := by decide +kernel
theorem dX1_crash_118 : decode cX1_crash 118 = .ok (.if_icmp .eq 33, 3) := by decide +kernel
theorem dX1_crash_121 : decode cX1_crash 121 = .ok (.aload_n 0, 1) := by decide +kernel
theorem dX1_crash_122 : decode cX1_crash 122 = .ok (.aload_n 0, 1) := by decide +kernel
theorem dX1_crash_123 : decode cX1_crash 123 = .ok (.getfield 39, 3) := by decide +kernel
theorem dX1_crash_126 : decode cX1_crash 126 = .ok (.iload 4, 2) := by decide +kernel
theorem dX1_crash_128 : decode cX1_crash 128 = .ok (.iaload, 1) := by decide +kernel
theorem dX1_crash_129 : decode cX1_crash 129 = .ok (.invokevirtual 116, 3) := by decide +kernel
theorem dX1_crash_132 : decode cX1_crash 132 = .ok (.ifCond .eq 19, 3) := by decide +kernel
theorem dX1_crash_135 : decode cX1_crash 135 = .ok (.iload 5, 2) := by decide +kernel
theorem dX1_crash_137 : decode cX1_crash 137 = .ok (.istore 4, 2) := by decide +kernel
theorem dX1_crash_139 : decode cX1_crash 139 = .ok (.aload_n 0, 1) := by decide +kernel
theorem dX1_crash_140 : decode cX1_crash 140 = .ok (.iload 4, 2) := by decide +kernel
theorem dX1_crash_142 : decode cX1_crash 142 = .ok (.iload_n 3, 1) := by decide +kernel
theorem dX1_crash_143 : decode cX1_crash 143 = .ok (.invokevirtual 129, 3) := by decide +kernel
theorem dX1_crash_146 : decode cX1_crash 146 = .ok (.istore 5, 2) := by decide +kernel
theorem dX1_crash_148 : decode cX1_crash 148 = .ok (.goto (-33), 3) := by decide +kernel
theorem dX1_crash_151 : decode cX1_crash 151 = .ok (.aload_n 0, 1) := by decide +kernel
theorem dX1_crash_152 : decode cX1_crash 152 = .ok (.iload 4, 2) := by decide +kernel
theorem dX1_crash_154 : decode cX1_crash 154 = .ok (.putfield 80, 3) := by decide +kernel
theorem dX1_crash_157 : decode cX1_crash 157 = .ok (.aload_n 0, 1) := by decide +kernel
theorem dX1_crash_158 : decode cX1_crash 158 = .ok (.iload 4, 2) := by decide +kernel
theorem dX1_crash_160 : decode cX1_crash 160 = .ok (.putfield 123, 3) := by decide +kernel
theorem dX1_crash_163 : decode cX1_crash 163 = .ok (.iload 4, 2) := by decide +kernel
theorem dX1_crash_165 : decode cX1_crash 165 = .ok (.ireturn, 1) := by decide +kernel
theorem dX1_isTold_0 : decode cX1_isTold 0 = .ok (.iconst 0, 1) := by decide +kernel
theorem dX1_isTold_1 : decode cX1_isTold 1 = .ok (.istore_n 3, 1) := by decide +kernel
theorem dX1_isTold_2 : decode cX1_isTold 2 = .ok (.iconst 0, 1) := by decide +kernel
theorem dX1_isTold_3 : decode cX1_isTold 3 = .ok (.istore 4, 2) := by decide +kernel
theorem dX1_isTold_5 : decode cX1_isTold 5 = .ok (.iload 4, 2) := by decide +kernel
theorem dX1_isTold_7 : decode cX1_isTold 7 = .ok (.bipush 8, 2) := by decide +kernel
theorem dX1_isTold_9 : decode cX1_isTold 9 = .ok (.if_icmp .ge 41, 3) := by decide +kernel
theorem dX1_isTold_12 : decode cX1_isTold 12 = .ok (.iload_n 3, 1) := by decide +kernel
theorem dX1_isTold_13 : decode cX1_isTold 13 = .ok (.ifCond .ne 25, 3) := by decide +kernel
theorem dX1_isTold_16 : decode cX1_isTold 16 = .ok (.aload_n 0, 1) := by decide +kernel
theorem dX1_isTold_17 : decode cX1_isTold 17 = .ok (.getfield 26, 3) := by decide +kernel
theorem dX1_isTold_20 : decode cX1_isTold 20 = .ok (.iload 4, 2) := by decide +kernel
theorem dX1_isTold_22 : decode cX1_isTold 22 = .ok (.baload, 1) := by decide +kernel
theorem dX1_isTold_23 : decode cX1_isTold 23 = .ok (.ifCond .eq 19, 3) := by decide +kernel
theorem dX1_isTold_26 : decode cX1_isTold 26 = .ok (.aload_n 0, 1) := by decide +kernel
theorem dX1_isTold_27 : decode cX1_isTold 27 = .ok (.getfield 23, 3) := by decide +kernel
theorem dX1_isTold_30 : decode cX1_isTold 30 = .ok (.iload 4, 2) := by decide +kernel
theorem dX1_isTold_32 : decode cX1_isTold 32 = .ok (.laload, 1) := by decide +kernel
theorem dX1_isTold_33 : decode cX1_isTold 33 = .ok (.lload_n 1, 1) := by decide +kernel
theorem dX1_isTold_34 : decode cX1_isTold 34 = .ok (.lcmp, 1) := by decide +kernel
theorem dX1_isTold_35 : decode cX1_isTold 35 = .ok (.ifCond .ne 7, 3) := by decide +kernel
theorem dX1_isTold_38 : decode cX1_isTold 38 = .ok (.iconst 1, 1) := by decide +kernel
theorem dX1_isTold_39 : decode cX1_isTold 39 = .ok (.goto 4, 3) := by decide +kernel
theorem dX1_isTold_42 : decode cX1_isTold 42 = .ok (.iconst 0, 1) := by decide +kernel
theorem dX1_isTold_43 : decode cX1_isTold 43 = .ok (.istore_n 3, 1) := by decide +kernel
theorem dX1_isTold_44 : decode cX1_isTold 44 = .ok (.iinc 4 1, 3) := by decide +kernel
theorem dX1_isTold_47 : decode cX1_isTold 47 = .ok (.goto (-42), 3) := by decide +kernel
theorem dX1_isTold_50 : decode cX1_isTold 50 = .ok (.iconst 0, 1) := by decide +kernel
theorem dX1_isTold_51 : decode cX1_isTold 51 = .ok (.istore 4, 2) := by decide +kernel
theorem dX1_isTold_53 : decode cX1_isTold 53 = .ok (.iload 4, 2) := by decide +kernel
theorem dX1_isTold_55 : decode cX1_isTold 55 = .ok (.iconst 4, 1) := by decide +kernel
theorem dX1_isTold_56 : decode cX1_isTold 56 = .ok (.if_icmp .ge 43, 3) := by decide +kernel
theorem dX1_isTold_59 : decode cX1_isTold 59 = .ok (.iload_n 3, 1) := by decide +kernel
theorem dX1_isTold_60 : decode cX1_isTold 60 = .ok (.ifCond .ne 27, 3) := by decide +kernel
theorem dX1_isTold_63 : decode cX1_isTold 63 = .ok (.aload_n 0, 1) := by decide +kernel
theorem dX1_isTold_64 : decode cX1_isTold 64 = .ok (.getfield 36, 3) := by decide +kernel
theorem dX1_isTold_67 : decode cX1_isTold 67 = .ok (.iload 4, 2) := by decide +kernel
theorem dX1_isTold_69 : decode cX1_isTold 69 = .ok (.laload, 1) := by decide +kernel
theorem dX1_isTold_70 : decode cX1_isTold 70 = .ok (.lconst 0, 1) := by decide +kernel
theorem dX1_isTold_71 : decode cX1_isTold 71 = .ok (.lcmp, 1) := by decide +kernel
theorem dX1_isTold_72 : decode cX1_isTold 72 = .ok (.ifCond .eq 19, 3) := by decide +kernel
theorem dX1_isTold_75 : decode cX1_isTold 75 = .ok (.aload_n 0, 1) := by decide +kernel
theorem dX1_isTold_76 : decode cX1_isTold 76 = .ok (.getfield 36, 3) := by decide +kernel
theorem dX1_isTold_79 : decode cX1_isTold 79 = .ok (.iload 4, 2) := by decide +kernel
theorem dX1_isTold_81 : decode cX1_isTold 81 = .ok (.laload, 1) := by decide +kernel
theorem dX1_isTold_82 : decode cX1_isTold 82 = .ok (.lload_n 1, 1) := by decide +kernel
theorem dX1_isTold_83 : decode cX1_isTold 83 = .ok (.lcmp, 1) := by decide +kernel
theorem dX1_isTold_84 : decode cX1_isTold 84 = .ok (.ifCond .ne 7, 3) := by decide +kernel
theorem dX1_isTold_87 : decode cX1_isTold 87 = .ok (.iconst 1, 1) := by decide +kernel
theorem dX1_isTold_88 : decode cX1_isTold 88 = .ok (.goto 4, 3) := by decide +kernel
theorem dX1_isTold_91 : decode cX1_isTold 91 = .ok (.iconst 0, 1) := by decide +kernel
theorem dX1_isTold_92 : decode cX1_isTold 92 = .ok (.istore_n 3, 1) := by decide +kernel
theorem dX1_isTold_93 : decode cX1_isTold 93 = .ok (.iinc 4 1, 3) := by decide +kernel
theorem dX1_isTold_96 : decode cX1_isTold 96 = .ok (.goto (-43), 3) := by decide +kernel
theorem dX1_isTold_99 : decode cX1_isTold 99 = .ok (.iload_n 3, 1) := by decide +kernel
theorem dX1_isTold_100 : decode cX1_isTold 100 = .ok (.ireturn, 1) := by decide +kernel
theorem dX1_collect_0 : decode cX1_collect 0 = .ok (.aload_n 0, 1) := by decide +kernel
theorem dX1_collect_1 : decode cX1_collect 1 = .ok (.iconst 0, 1) := by decide +kernel
theorem dX1_collect_2 : decode cX1_collect 2 = .ok (.putfield 45, 3) := by decide +kernel
theorem dX1_collect_5 : decode cX1_collect 5 = .ok (.aload_n 0, 1) := by decide +kernel
theorem dX1_collect_6 : decode cX1_collect 6 = .ok (.iconst 0, 1) := by decide +kernel
theorem dX1_collect_7 : decode cX1_collect 7 = .ok (.putfield 80, 3) := by decide +kernel
theorem dX1_collect_10 : decode cX1_collect 10 = .ok (.iconst 0, 1) := by decide +kernel
theorem dX1_collect_11 : decode cX1_collect 11 = .ok (.istore_n 1, 1) := by decide +kernel
theorem dX1_collect_12 : decode cX1_collect 12 = .ok (.iconst 0, 1) := by decide +kernel
theorem dX1_collect_13 : decode cX1_collect 13 = .ok (.istore_n 2, 1) := by decide +kernel
theorem dX1_collect_14 : decode cX1_collect 14 = .ok (.iload_n 2, 1) := by decide +kernel
theorem dX1_collect_15 : decode cX1_collect 15 = .ok (.aload_n 0, 1) := by decide +kernel
theorem dX1_collect_16 : decode cX1_collect 16 = .ok (.getfield 72, 3) := by decide +kernel
theorem dX1_collect_19 : decode cX1_collect 19 = .ok (.if_icmp .ge 113, 3) := by decide +kernel
theorem dX1_collect_22 : decode cX1_collect 22 = .ok (.aload_n 0, 1) := by decide +kernel
theorem dX1_collect_23 : decode cX1_collect 23 = .ok (.aload_n 0, 1) := by decide +kernel
theorem dX1_collect_24 : decode cX1_collect 24 = .ok (.getfield 13, 3) := by decide +kernel
theorem dX1_collect_27 : decode cX1_collect 27 = .ok (.iload_n 2, 1) := by decide +kernel
theorem dX1_collect_28 : decode cX1_collect 28 = .ok (.laload, 1) := by decide +kernel
theorem dX1_collect_29 : decode cX1_collect 29 = .ok (.invokevirtual 133, 3) := by decide +kernel
theorem dX1_collect_32 : decode cX1_collect 32 = .ok (.ifCond .eq 94, 3) := by decide +kernel
theorem dX1_collect_35 : decode cX1_collect 35 = .ok (.aload_n 0, 1) := by decide +kernel
theorem dX1_collect_36 : decode cX1_collect 36 = .ok (.iconst 0, 1) := by decide +kernel
theorem dX1_collect_37 : decode cX1_collect 37 = .ok (.putfield 65, 3) := by decide +kernel
theorem dX1_collect_40 : decode cX1_collect 40 = .ok (.iconst 0, 1) := by decide +kernel
theorem dX1_collect_41 : decode cX1_collect 41 = .ok (.istore_n 3, 1) := by decide +kernel
theorem dX1_collect_42 : decode cX1_collect 42 = .ok (.iload_n 3, 1) := by decide +kernel
theorem dX1_collect_43 : decode cX1_collect 43 = .ok (.aload_n 0, 1) := by decide +kernel
theorem dX1_collect_44 : decode cX1_collect 44 = .ok (.getfield 17, 3) := by decide +kernel
theorem dX1_collect_47 : decode cX1_collect 47 = .ok (.iload_n 2, 1) := by decide +kernel
theorem dX1_collect_48 : decode cX1_collect 48 = .ok (.iaload, 1) := by decide +kernel
theorem dX1_collect_49 : decode cX1_collect 49 = .ok (.if_icmp .ge 45, 3) := by decide +kernel
theorem dX1_collect_52 : decode cX1_collect 52 = .ok (.aload_n 0, 1) := by decide +kernel
theorem dX1_collect_53 : decode cX1_collect 53 = .ok (.aload_n 0, 1) := by decide +kernel
theorem dX1_collect_54 : decode cX1_collect 54 = .ok (.getfield 20, 3) := by decide +kernel
theorem dX1_collect_57 : decode cX1_collect 57 = .ok (.sipush 700, 3) := by decide +kernel
theorem dX1_collect_60 : decode cX1_collect 60 = .ok (.iload_n 2, 1) := by decide +kernel
theorem dX1_collect_61 : decode cX1_collect 61 = .ok (.imul, 1) := by decide +kernel
theorem dX1_collect_62 : decode cX1_collect 62 = .ok (.iload_n 3, 1) := by decide +kernel
theorem dX1_collect_63 : decode cX1_collect 63 = .ok (.iadd, 1) := by decide +kernel
theorem dX1_collect_64 : decode cX1_collect 64 = .ok (.iaload, 1) := by decide +kernel
theorem dX1_collect_65 : decode cX1_collect 65 = .ok (.i2l, 1) := by decide +kernel
theorem dX1_collect_66 : decode cX1_collect 66 = .ok (.iconst 1, 1) := by decide +kernel
theorem dX1_collect_67 : decode cX1_collect 67 = .ok (.invokevirtual 105, 3) := by decide +kernel
theorem dX1_collect_70 : decode cX1_collect 70 = .ok (.aload_n 0, 1) := by decide +kernel
theorem dX1_collect_71 : decode cX1_collect 71 = .ok (.getfield 20, 3) := by decide +kernel
theorem dX1_collect_74 : decode cX1_collect 74 = .ok (.sipush 700, 3) := by decide +kernel
theorem dX1_collect_77 : decode cX1_collect 77 = .ok (.iload_n 1, 1) := by decide +kernel
theorem dX1_collect_78 : decode cX1_collect 78 = .ok (.imul, 1) := by decide +kernel
theorem dX1_collect_79 : decode cX1_collect 79 = .ok (.iload_n 3, 1) := by decide +kernel
theorem dX1_collect_80 : decode cX1_collect 80 = .ok (.iadd, 1) := by decide +kernel
theorem dX1_collect_81 : decode cX1_collect 81 = .ok (.aload_n 0, 1) := by decide +kernel
theorem dX1_collect_82 : decode cX1_collect 82 = .ok (.getfield 42, 3) := by decide +kernel
theorem dX1_collect_85 : decode cX1_collect 85 = .ok (.iload_n 3, 1) := by decide +kernel
theorem dX1_collect_86 : decode cX1_collect 86 = .ok (.iaload, 1) := by decide +kernel
theorem dX1_collect_87 : decode cX1_collect 87 = .ok (.iastore, 1) := by decide +kernel
theorem dX1_collect_88 : decode cX1_collect 88 = .ok (.iinc 3 1, 3) := by decide +kernel
theorem dX1_collect_91 : decode cX1_collect 91 = .ok (.goto (-49), 3) := by decide +kernel
theorem dX1_collect_94 : decode cX1_collect 94 = .ok (.aload_n 0, 1) := by decide +kernel
theorem dX1_collect_95 : decode cX1_collect 95 = .ok (.getfield 13, 3) := by decide +kernel
theorem dX1_collect_98 : decode cX1_collect 98 = .ok (.iload_n 1, 1) := by decide +kernel
theorem dX1_collect_99 : decode cX1_collect 99 = .ok (.aload_n 0, 1) := by decide +kernel
theorem dX1_collect_100 : decode cX1_collect 100 = .ok (.getfield 13, 3) := by decide +kernel
theorem dX1_collect_103 : decode cX1_collect 103 = .ok (.iload_n 2, 1) := by decide +kernel
theorem dX1_collect_104 : decode cX1_collect 104 = .ok (.laload, 1) := by decide +kernel
theorem dX1_collect_105 : decode cX1_collect 105 = .ok (.lastore, 1) := by decide +kernel
theorem dX1_collect_106 : decode cX1_collect 106 = .ok (.aload_n 0, 1) := by decide +kernel
theorem dX1_collect_107 : decode cX1_collect 107 = .ok (.getfield 17, 3) := by decide +kernel
theorem dX1_collect_110 : decode cX1_collect 110 = .ok (.iload_n 1, 1) := by decide +kernel
theorem dX1_collect_111 : decode cX1_collect 111 = .ok (.aload_n 0, 1) := by decide +kernel
theorem dX1_collect_112 : decode cX1_collect 112 = .ok (.getfield 17, 3) := by decide +kernel
theorem dX1_collect_115 : decode cX1_collect 115 = .ok (.iload_n 2, 1) := by decide +kernel
theorem dX1_collect_116 : decode cX1_collect 116 = .ok (.iaload, 1) := by decide +kernel
theorem dX1_collect_117 : decode cX1_collect 117 = .ok (.iastore, 1) := by decide +kernel
theorem dX1_collect_118 : decode cX1_collect 118 = .ok (.iinc 1 1, 3) := by decide +kernel
theorem dX1_collect_121 : decode cX1_collect 121 = .ok (.aload_n 0, 1) := by decide +kernel
theorem dX1_collect_122 : decode cX1_collect 122 = .ok (.iconst 1, 1) := by decide +kernel
theorem dX1_collect_123 : decode cX1_collect 123 = .ok (.invokevirtual 112, 3) := by decide +kernel
theorem dX1_collect_126 : decode cX1_collect 126 = .ok (.iinc 2 1, 3) := by decide +kernel
theorem dX1_collect_129 : decode cX1_collect 129 = .ok (.goto (-115), 3) := by decide +kernel
theorem dX1_collect_132 : decode cX1_collect 132 = .ok (.aload_n 0, 1) := by decide +kernel
theorem dX1_collect_133 : decode cX1_collect 133 = .ok (.getfield 72, 3) := by decide +kernel
theorem dX1_collect_136 : decode cX1_collect 136 = .ok (.iload_n 1, 1) := by decide +kernel
theorem dX1_collect_137 : decode cX1_collect 137 = .ok (.isub, 1) := by decide +kernel
theorem dX1_collect_138 : decode cX1_collect 138 = .ok (.istore_n 2, 1) := by decide +kernel
theorem dX1_collect_139 : decode cX1_collect 139 = .ok (.aload_n 0, 1) := by decide +kernel
theorem dX1_collect_140 : decode cX1_collect 140 = .ok (.iload_n 1, 1) := by decide +kernel
theorem dX1_collect_141 : decode cX1_collect 141 = .ok (.putfield 72, 3) := by decide +kernel
theorem dX1_collect_144 : decode cX1_collect 144 = .ok (.iconst 0, 1) := by decide +kernel
theorem dX1_collect_145 : decode cX1_collect 145 = .ok (.istore_n 3, 1) := by decide +kernel
theorem dX1_collect_146 : decode cX1_collect 146 = .ok (.iload_n 3, 1) := by decide +kernel
theorem dX1_collect_147 : decode cX1_collect 147 = .ok (.bipush 8, 2) := by decide +kernel
theorem dX1_collect_149 : decode cX1_collect 149 = .ok (.if_icmp .ge 47, 3) := by decide +kernel
theorem dX1_collect_152 : decode cX1_collect 152 = .ok (.aload_n 0, 1) := by decide +kernel
theorem dX1_collect_153 : decode cX1_collect 153 = .ok (.getfield 26, 3) := by decide +kernel
theorem dX1_collect_156 : decode cX1_collect 156 = .ok (.iload_n 3, 1) := by decide +kernel
theorem dX1_collect_157 : decode cX1_collect 157 = .ok (.baload, 1) := by decide +kernel
theorem dX1_collect_158 : decode cX1_collect 158 = .ok (.ifCond .eq 32, 3) := by decide +kernel
theorem dX1_collect_161 : decode cX1_collect 161 = .ok (.aload_n 0, 1) := by decide +kernel
theorem dX1_collect_162 : decode cX1_collect 162 = .ok (.iconst 0, 1) := by decide +kernel
theorem dX1_collect_163 : decode cX1_collect 163 = .ok (.putfield 65, 3) := by decide +kernel
theorem dX1_collect_166 : decode cX1_collect 166 = .ok (.aload_n 0, 1) := by decide +kernel
theorem dX1_collect_167 : decode cX1_collect 167 = .ok (.iload_n 3, 1) := by decide +kernel
theorem dX1_collect_168 : decode cX1_collect 168 = .ok (.i2l, 1) := by decide +kernel
theorem dX1_collect_169 : decode cX1_collect 169 = .ok (.iconst 1, 1) := by decide +kernel
theorem dX1_collect_170 : decode cX1_collect 170 = .ok (.invokevirtual 105, 3) := by decide +kernel
theorem dX1_collect_173 : decode cX1_collect 173 = .ok (.aload_n 0, 1) := by decide +kernel
theorem dX1_collect_174 : decode cX1_collect 174 = .ok (.aload_n 0, 1) := by decide +kernel
theorem dX1_collect_175 : decode cX1_collect 175 = .ok (.getfield 23, 3) := by decide +kernel
theorem dX1_collect_178 : decode cX1_collect 178 = .ok (.iload_n 3, 1) := by decide +kernel
theorem dX1_collect_179 : decode cX1_collect 179 = .ok (.laload, 1) := by decide +kernel
theorem dX1_collect_180 : decode cX1_collect 180 = .ok (.bipush 8, 2) := by decide +kernel
theorem dX1_collect_182 : decode cX1_collect 182 = .ok (.invokevirtual 105, 3) := by decide +kernel
theorem dX1_collect_185 : decode cX1_collect 185 = .ok (.aload_n 0, 1) := by decide +kernel
theorem dX1_collect_186 : decode cX1_collect 186 = .ok (.iconst 2, 1) := by decide +kernel
theorem dX1_collect_187 : decode cX1_collect 187 = .ok (.invokevirtual 112, 3) := by decide +kernel
theorem dX1_collect_190 : decode cX1_collect 190 = .ok (.iinc 3 1, 3) := by decide +kernel
theorem dX1_collect_193 : decode cX1_collect 193 = .ok (.goto (-47), 3) := by decide +kernel
theorem dX1_collect_196 : decode cX1_collect 196 = .ok (.iconst 0, 1) := by decide +kernel
theorem dX1_collect_197 : decode cX1_collect 197 = .ok (.istore_n 1, 1) := by decide +kernel
theorem dX1_collect_198 : decode cX1_collect 198 = .ok (.iconst 0, 1) := by decide +kernel
theorem dX1_collect_199 : decode cX1_collect 199 = .ok (.istore_n 3, 1) := by decide +kernel
theorem dX1_collect_200 : decode cX1_collect 200 = .ok (.iload_n 3, 1) := by decide +kernel
theorem dX1_collect_201 : decode cX1_collect 201 = .ok (.aload_n 0, 1) := by decide +kernel
theorem dX1_collect_202 : decode cX1_collect 202 = .ok (.getfield 75, 3) := by decide +kernel
theorem dX1_collect_205 : decode cX1_collect 205 = .ok (.if_icmp .ge 84, 3) := by decide +kernel
theorem dX1_collect_208 : decode cX1_collect 208 = .ok (.aload_n 0, 1) := by decide +kernel
theorem dX1_collect_209 : decode cX1_collect 209 = .ok (.aload_n 0, 1) := by decide +kernel
theorem dX1_collect_210 : decode cX1_collect 210 = .ok (.getfield 33, 3) := by decide +kernel
theorem dX1_collect_213 : decode cX1_collect 213 = .ok (.iload_n 3, 1) := by decide +kernel
theorem dX1_collect_214 : decode cX1_collect 214 = .ok (.laload, 1) := by decide +kernel
theorem dX1_collect_215 : decode cX1_collect 215 = .ok (.invokevirtual 91, 3) := by decide +kernel
theorem dX1_collect_218 : decode cX1_collect 218 = .ok (.iconst (-1), 1) := by decide +kernel
theorem dX1_collect_219 : decode cX1_collect 219 = .ok (.if_icmp .eq 64, 3) := by decide +kernel
theorem dX1_collect_222 : decode cX1_collect 222 = .ok (.aload_n 0, 1) := by decide +kernel
theorem dX1_collect_223 : decode cX1_collect 223 = .ok (.iconst 0, 1) := by decide +kernel
theorem dX1_collect_224 : decode cX1_collect 224 = .ok (.putfield 65, 3) := by decide +kernel
theorem dX1_collect_227 : decode cX1_collect 227 = .ok (.aload_n 0, 1) := by decide +kernel
theorem dX1_collect_228 : decode cX1_collect 228 = .ok (.aload_n 0, 1) := by decide +kernel
theorem dX1_collect_229 : decode cX1_collect 229 = .ok (.getfield 30, 3) := by decide +kernel
theorem dX1_collect_232 : decode cX1_collect 232 = .ok (.iload_n 3, 1) := by decide +kernel
theorem dX1_collect_233 : decode cX1_collect 233 = .ok (.laload, 1) := by decide +kernel
theorem dX1_collect_234 : decode cX1_collect 234 = .ok (.bipush 8, 2) := by decide +kernel
theorem dX1_collect_236 : decode cX1_collect 236 = .ok (.invokevirtual 105, 3) := by decide +kernel
theorem dX1_collect_239 : decode cX1_collect 239 = .ok (.aload_n 0, 1) := by decide +kernel
theorem dX1_collect_240 : decode cX1_collect 240 = .ok (.aload_n 0, 1) := by decide +kernel
theorem dX1_collect_241 : decode cX1_collect 241 = .ok (.getfield 33, 3) := by decide +kernel
theorem dX1_collect_244 : decode cX1_collect 244 = .ok (.iload_n 3, 1) := by decide +kernel
theorem dX1_collect_245 : decode cX1_collect 245 = .ok (.laload, 1) := by decide +kernel
theorem dX1_collect_246 : decode cX1_collect 246 = .ok (.bipush 8, 2) := by decide +kernel
theorem dX1_collect_248 : decode cX1_collect 248 = .ok (.invokevirtual 105, 3) := by decide +kernel
theorem dX1_collect_251 : decode cX1_collect 251 = .ok (.aload_n 0, 1) := by decide +kernel
theorem dX1_collect_252 : decode cX1_collect 252 = .ok (.getfield 30, 3) := by decide +kernel
theorem dX1_collect_255 : decode cX1_collect 255 = .ok (.iload_n 1, 1) := by decide +kernel
theorem dX1_collect_256 : decode cX1_collect 256 = .ok (.aload_n 0, 1) := by decide +kernel
theorem dX1_collect_257 : decode cX1_collect 257 = .ok (.getfield 30, 3) := by decide +kernel
theorem dX1_collect_260 : decode cX1_collect 260 = .ok (.iload_n 3, 1) := by decide +kernel
theorem dX1_collect_261 : decode cX1_collect 261 = .ok (.laload, 1) := by decide +kernel
theorem dX1_collect_262 : decode cX1_collect 262 = .ok (.lastore, 1) := by decide +kernel
theorem dX1_collect_263 : decode cX1_collect 263 = .ok (.aload_n 0, 1) := by decide +kernel
theorem dX1_collect_264 : decode cX1_collect 264 = .ok (.getfield 33, 3) := by decide +kernel
theorem dX1_collect_267 : decode cX1_collect 267 = .ok (.iload_n 1, 1) := by decide +kernel
theorem dX1_collect_268 : decode cX1_collect 268 = .ok (.aload_n 0, 1) := by decide +kernel
theorem dX1_collect_269 : decode cX1_collect 269 = .ok (.getfield 33, 3) := by decide +kernel
theorem dX1_collect_272 : decode cX1_collect 272 = .ok (.iload_n 3, 1) := by decide +kernel
theorem dX1_collect_273 : decode cX1_collect 273 = .ok (.laload, 1) := by decide +kernel
theorem dX1_collect_274 : decode cX1_collect 274 = .ok (.lastore, 1) := by decide +kernel
theorem dX1_collect_275 : decode cX1_collect 275 = .ok (.iinc 1 1, 3) := by decide +kernel
theorem dX1_collect_278 : decode cX1_collect 278 = .ok (.aload_n 0, 1) := by decide +kernel
theorem dX1_collect_279 : decode cX1_collect 279 = .ok (.iconst 4, 1) := by decide +kernel
theorem dX1_collect_280 : decode cX1_collect 280 = .ok (.invokevirtual 112, 3) := by decide +kernel
theorem dX1_collect_283 : decode cX1_collect 283 = .ok (.iinc 3 1, 3) := by decide +kernel
theorem dX1_collect_286 : decode cX1_collect 286 = .ok (.goto (-86), 3) := by decide +kernel
theorem dX1_collect_289 : decode cX1_collect 289 = .ok (.aload_n 0, 1) := by decide +kernel
theorem dX1_collect_290 : decode cX1_collect 290 = .ok (.iload_n 1, 1) := by decide +kernel
theorem dX1_collect_291 : decode cX1_collect 291 = .ok (.putfield 75, 3) := by decide +kernel
theorem dX1_collect_294 : decode cX1_collect 294 = .ok (.aload_n 0, 1) := by decide +kernel
theorem dX1_collect_295 : decode cX1_collect 295 = .ok (.aload_n 0, 1) := by decide +kernel
theorem dX1_collect_296 : decode cX1_collect 296 = .ok (.getfield 80, 3) := by decide +kernel
theorem dX1_collect_299 : decode cX1_collect 299 = .ok (.putfield 123, 3) := by decide +kernel
theorem dX1_collect_302 : decode cX1_collect 302 = .ok (.iload_n 2, 1) := by decide +kernel
theorem dX1_collect_303 : decode cX1_collect 303 = .ok (.ireturn, 1) := by decide +kernel
end
section
def updB (f : Nat → Bool) (k : Nat) (b : Bool) : Nat → Bool := fun j => if j = k then b else f j
theorem updB_bI (f : Nat → Bool) (k : Nat) (b : Bool) : upd (fun j => bI (f j)) k (bI b) = fun j => bI (updB f k b j) := by
  funext j
  unfold upd updB
  by_cases h : j = k
  · rw [if_pos h, if_pos h]
  · rw [if_neg h, if_neg h]
section XZ
variable {p : Program} {l : Launch} {e : Env} {R : Room} {s : State} {m : MethodId} {args : Array Value} {below : List Frame} {meth : Method} {c : Code} {H : Heap} {locs : List Loc} {cells slots : Nat} {Q : State → Prop}
variable {cc : ByteArray} {pc : Nat} {ls : Array Slot} {rest : List Value}
theorem xr_zald (hx : p.tables.exec = Jvm.exec) (hb : c.code = cc) {D : va_G} {cl : List vw_C} {tys : List (ClassId × FieldType)} {ws : va_W} (hK : va_K D cl tys s) (hP : va_P D cl ws H) (q0 t0 : Nat) {a : Nat} {cA : ClassId} {n : Nat} {f : Nat → Int32} (ha : ws[q0]? = some (a, .inl (cA, n, .inl f))) (ht : tys[t0]? = some (cA, .boolean)) {i : Nat} (hin : i < n) (hn : n < 2 ^ 31) (hdg : decode cc pc = .ok (.baload, 1)) (kk : W p l e R s m args below meth c H locs cells slots Q (F0 m (pc + 1) ls (.int (f i) :: rest))) : W p l e R s m args below meth c H locs cells slots Q (F0 m pc ls (.int (nI i) :: .ref a :: rest)) :=
  va_zald hx hb hK hP q0 t0 ha ht (vp_in_nI hin hn) hdg (by rw [nI_clamp (Nat.lt_trans hin hn)]; exact kk)
theorem xr_zast (hx : p.tables.exec = Jvm.exec) (hb : c.code = cc) {D : va_G} {cl : List vw_C} {tys : List (ClassId × FieldType)} {ws : va_W} {A : Nat → Prop} {H0 : Heap} (hK : va_K D cl tys s) (hP : va_P D cl ws H) (hD : va_D A ws) (hS : va_S A H0 H locs) (q0 t0 : Nat) {a : Nat} {cA : ClassId} {n : Nat} {f : Nat → Bool} (ha : ws[q0]? = some (a, .inl (cA, n, .inl (fun j => bI (f j))))) (ht : tys[t0]? = some (cA, .boolean)) {i : Nat} {b : Bool} (hin : i < n) (hn : n < 2 ^ 31) (hdg : decode cc pc = .ok (.bastore, 1)) (kk : ∀ (H1 : Heap) (locs1 : List Loc), va_P D cl (ws.set q0 (a, .inl (cA, n, .inl (fun j => bI (updB f i b j))))) H1 → va_D A (ws.set q0 (a, .inl (cA, n, .inl (fun j => bI (updB f i b j))))) → va_S A H0 H1 locs1 → W p l e R s m args below meth c H1 locs1 cells slots Q (F0 m (pc + 1) ls rest)) : W p l e R s m args below meth c H locs cells slots Q (F0 m pc ls (.int (bI b) :: .int (nI i) :: .ref a :: rest)) := by
  refine va_zast hx hb hK hP hD hS q0 t0 ha ht (vp_in_nI hin hn) hdg ?_
  have hv : vp_nar .boolean (bI b) = bI b := by cases b <;> decide
  rw [nI_clamp (Nat.lt_trans hin hn), hv, updB_bI]
  exact kk
end XZ
/-! the reference's state: what its fields and rows hold; the cells in which it lies -/
abbrev BM : Type := (Nat → Nat) × (Nat → Nat → Int32) × (Nat → Nat → Int64) × (Nat → Nat → Bool)
def kgTh (σ : BM) : Nat := σ.1 0
def kgT (σ : BM) : Nat → Int32 := σ.2.1 0
def kgMy (σ : BM) : Nat := σ.1 1
def kgDG (σ : BM) : Nat → Int64 := σ.2.2.1 0
def kgLN (σ : BM) : Nat → Int32 := σ.2.1 1
def kgBY (σ : BM) : Nat → Int32 := σ.2.1 2
def kgBl (σ : BM) : Nat := σ.1 2
def kgTG (σ : BM) : Nat → Int64 := σ.2.2.1 1
def kgTE (σ : BM) : Nat → Bool := σ.2.2.2 0
def kgKS (σ : BM) : Nat → Int64 := σ.2.2.1 2
def kgTO (σ : BM) : Nat → Int64 := σ.2.2.1 3
def kgKn (σ : BM) : Nat := σ.1 3
def kgPN (σ : BM) : Nat → Int64 := σ.2.2.1 4
def kgJR (σ : BM) : Nat → Int32 := σ.2.1 3
def kgSz (σ : BM) : Nat := σ.1 4
def kgSy (σ : BM) : Nat := σ.1 5
def kgRC (σ : BM) : Nat → Int32 := σ.2.1 4
def kgLe (σ : BM) : Nat := σ.1 6
def kuTh (σ : BM) (z : Nat) : BM := (setN σ.1 0 z, σ.2.1, σ.2.2.1, σ.2.2.2)
def kuT (σ : BM) (z : Nat → Int32) : BM := (σ.1, setN σ.2.1 0 z, σ.2.2.1, σ.2.2.2)
def kuMy (σ : BM) (z : Nat) : BM := (setN σ.1 1 z, σ.2.1, σ.2.2.1, σ.2.2.2)
def kuDG (σ : BM) (z : Nat → Int64) : BM := (σ.1, σ.2.1, setN σ.2.2.1 0 z, σ.2.2.2)
def kuLN (σ : BM) (z : Nat → Int32) : BM := (σ.1, setN σ.2.1 1 z, σ.2.2.1, σ.2.2.2)
def kuBY (σ : BM) (z : Nat → Int32) : BM := (σ.1, setN σ.2.1 2 z, σ.2.2.1, σ.2.2.2)
def kuBl (σ : BM) (z : Nat) : BM := (setN σ.1 2 z, σ.2.1, σ.2.2.1, σ.2.2.2)
def kuTG (σ : BM) (z : Nat → Int64) : BM := (σ.1, σ.2.1, setN σ.2.2.1 1 z, σ.2.2.2)
def kuTE (σ : BM) (z : Nat → Bool) : BM := (σ.1, σ.2.1, σ.2.2.1, setN σ.2.2.2 0 z)
def kuKS (σ : BM) (z : Nat → Int64) : BM := (σ.1, σ.2.1, setN σ.2.2.1 2 z, σ.2.2.2)
def kuTO (σ : BM) (z : Nat → Int64) : BM := (σ.1, σ.2.1, setN σ.2.2.1 3 z, σ.2.2.2)
def kuKn (σ : BM) (z : Nat) : BM := (setN σ.1 3 z, σ.2.1, σ.2.2.1, σ.2.2.2)
def kuPN (σ : BM) (z : Nat → Int64) : BM := (σ.1, σ.2.1, setN σ.2.2.1 4 z, σ.2.2.2)
def kuJR (σ : BM) (z : Nat → Int32) : BM := (σ.1, setN σ.2.1 3 z, σ.2.2.1, σ.2.2.2)
def kuSz (σ : BM) (z : Nat) : BM := (setN σ.1 4 z, σ.2.1, σ.2.2.1, σ.2.2.2)
def kuSy (σ : BM) (z : Nat) : BM := (setN σ.1 5 z, σ.2.1, σ.2.2.1, σ.2.2.2)
def kuRC (σ : BM) (z : Nat → Int32) : BM := (σ.1, setN σ.2.1 4 z, σ.2.2.1, σ.2.2.2)
def kuLe (σ : BM) (z : Nat) : BM := (setN σ.1 6 z, σ.2.1, σ.2.2.1, σ.2.2.2)
def fsBM (h : Nat → Nat) (σ : BM) : List Value := [.int (nI (kgTh σ)), .ref (h 1), .int (nI (kgMy σ)), .ref (h 2), .ref (h 3), .ref (h 4), .int (nI (kgBl σ)), .ref (h 5), .ref (h 6), .ref (h 7), .ref (h 8), .int (nI (kgKn σ)), .ref (h 9), .ref (h 10), .int (nI (kgSz σ)), .int (nI (kgSy σ)), .ref (h 11), .int (nI (kgLe σ))]
def wBM (cI cJ cZ : ClassId) (h : Nat → Nat) (σ : BM) : va_W := [(h 0, .inr (1, fsBM h σ)), (h 1, .inl (cI, 64, .inl (kgT σ))), (h 2, .inl (cJ, 20, .inr (.inl (kgDG σ)))), (h 3, .inl (cI, 20, .inl (kgLN σ))), (h 4, .inl (cI, 14000, .inl (kgBY σ))), (h 5, .inl (cJ, 8, .inr (.inl (kgTG σ)))), (h 6, .inl (cZ, 8, .inl (fun j => bI (kgTE σ j)))), (h 7, .inl (cJ, 16, .inr (.inl (kgKS σ)))), (h 8, .inl (cJ, 16, .inr (.inl (kgTO σ)))), (h 9, .inl (cJ, 4, .inr (.inl (kgPN σ)))), (h 10, .inl (cI, 700, .inl (kgJR σ))), (h 11, .inl (cI, 700, .inl (kgRC σ)))]
theorem wBM_Th (cI cJ cZ : ClassId) (h : Nat → Nat) (σ : BM) (z : Nat) : (wBM cI cJ cZ h σ).set 0 (h 0, .inr (1, (fsBM h σ).set 0 (.int (nI z)))) = wBM cI cJ cZ h (kuTh σ z) := rfl
theorem wBM_T (cI cJ cZ : ClassId) (h : Nat → Nat) (σ : BM) (z : Nat → Int32) : (wBM cI cJ cZ h σ).set 1 (h 1, .inl (cI, 64, .inl z)) = wBM cI cJ cZ h (kuT σ z) := rfl
theorem wBM_My (cI cJ cZ : ClassId) (h : Nat → Nat) (σ : BM) (z : Nat) : (wBM cI cJ cZ h σ).set 0 (h 0, .inr (1, (fsBM h σ).set 2 (.int (nI z)))) = wBM cI cJ cZ h (kuMy σ z) := rfl
theorem wBM_DG (cI cJ cZ : ClassId) (h : Nat → Nat) (σ : BM) (z : Nat → Int64) : (wBM cI cJ cZ h σ).set 2 (h 2, .inl (cJ, 20, .inr (.inl z))) = wBM cI cJ cZ h (kuDG σ z) := rfl
theorem wBM_LN (cI cJ cZ : ClassId) (h : Nat → Nat) (σ : BM) (z : Nat → Int32) : (wBM cI cJ cZ h σ).set 3 (h 3, .inl (cI, 20, .inl z)) = wBM cI cJ cZ h (kuLN σ z) := rfl
theorem wBM_BY (cI cJ cZ : ClassId) (h : Nat → Nat) (σ : BM) (z : Nat → Int32) : (wBM cI cJ cZ h σ).set 4 (h 4, .inl (cI, 14000, .inl z)) = wBM cI cJ cZ h (kuBY σ z) := rfl
theorem wBM_Bl (cI cJ cZ : ClassId) (h : Nat → Nat) (σ : BM) (z : Nat) : (wBM cI cJ cZ h σ).set 0 (h 0, .inr (1, (fsBM h σ).set 6 (.int (nI z)))) = wBM cI cJ cZ h (kuBl σ z) := rfl
theorem wBM_TG (cI cJ cZ : ClassId) (h : Nat → Nat) (σ : BM) (z : Nat → Int64) : (wBM cI cJ cZ h σ).set 5 (h 5, .inl (cJ, 8, .inr (.inl z))) = wBM cI cJ cZ h (kuTG σ z) := rfl
theorem wBM_TE (cI cJ cZ : ClassId) (h : Nat → Nat) (σ : BM) (z : Nat → Bool) : (wBM cI cJ cZ h σ).set 6 (h 6, .inl (cZ, 8, .inl (fun j => bI (z j)))) = wBM cI cJ cZ h (kuTE σ z) := rfl
theorem wBM_KS (cI cJ cZ : ClassId) (h : Nat → Nat) (σ : BM) (z : Nat → Int64) : (wBM cI cJ cZ h σ).set 7 (h 7, .inl (cJ, 16, .inr (.inl z))) = wBM cI cJ cZ h (kuKS σ z) := rfl
theorem wBM_TO (cI cJ cZ : ClassId) (h : Nat → Nat) (σ : BM) (z : Nat → Int64) : (wBM cI cJ cZ h σ).set 8 (h 8, .inl (cJ, 16, .inr (.inl z))) = wBM cI cJ cZ h (kuTO σ z) := rfl
theorem wBM_Kn (cI cJ cZ : ClassId) (h : Nat → Nat) (σ : BM) (z : Nat) : (wBM cI cJ cZ h σ).set 0 (h 0, .inr (1, (fsBM h σ).set 11 (.int (nI z)))) = wBM cI cJ cZ h (kuKn σ z) := rfl
theorem wBM_PN (cI cJ cZ : ClassId) (h : Nat → Nat) (σ : BM) (z : Nat → Int64) : (wBM cI cJ cZ h σ).set 9 (h 9, .inl (cJ, 4, .inr (.inl z))) = wBM cI cJ cZ h (kuPN σ z) := rfl
theorem wBM_JR (cI cJ cZ : ClassId) (h : Nat → Nat) (σ : BM) (z : Nat → Int32) : (wBM cI cJ cZ h σ).set 10 (h 10, .inl (cI, 700, .inl z)) = wBM cI cJ cZ h (kuJR σ z) := rfl
theorem wBM_Sz (cI cJ cZ : ClassId) (h : Nat → Nat) (σ : BM) (z : Nat) : (wBM cI cJ cZ h σ).set 0 (h 0, .inr (1, (fsBM h σ).set 14 (.int (nI z)))) = wBM cI cJ cZ h (kuSz σ z) := rfl
theorem wBM_Sy (cI cJ cZ : ClassId) (h : Nat → Nat) (σ : BM) (z : Nat) : (wBM cI cJ cZ h σ).set 0 (h 0, .inr (1, (fsBM h σ).set 15 (.int (nI z)))) = wBM cI cJ cZ h (kuSy σ z) := rfl
theorem wBM_RC (cI cJ cZ : ClassId) (h : Nat → Nat) (σ : BM) (z : Nat → Int32) : (wBM cI cJ cZ h σ).set 11 (h 11, .inl (cI, 700, .inl z)) = wBM cI cJ cZ h (kuRC σ z) := rfl
theorem wBM_Le (cI cJ cZ : ClassId) (h : Nat → Nat) (σ : BM) (z : Nat) : (wBM cI cJ cZ h σ).set 0 (h 0, .inr (1, (fsBM h σ).set 17 (.int (nI z)))) = wBM cI cJ cZ h (kuLe σ z) := rfl
/-! contracts of the reference's methods in one form, and calls of them over the reference's world -/
def pBM (dC : Nat → ClassId) (dI : Nat → Nat → Nat) (cI cJ cZ : ClassId) (h : Nat → Nat) (sz : Nat) (σ : BM) (U : State) : Prop := U.heap.size = sz ∧ va_P (dC, dI) vwCl (wBM cI cJ cZ h σ) U.heap ∧ va_K (dC, dI) vwCl [(cI, .int), (cJ, .long), (cZ, .boolean)] U ∧ va_D (fun _ => True) (wBM cI cJ cZ h σ)
def aBM (dC : Nat → ClassId) (dI : Nat → Nat → Nat) (cI cJ cZ : ClassId) (h : Nat → Nat) (A : Nat → Prop) (σ : BM) (t : State) : Prop := va_P (dC, dI) vwCl (wBM cI cJ cZ h σ) t.heap ∧ va_K (dC, dI) vwCl [(cI, .int), (cJ, .long), (cZ, .boolean)] t ∧ va_D A (wBM cI cJ cZ h σ)
theorem pBM.moved {dC : Nat → ClassId} {dI : Nat → Nat → Nat} {cI cJ cZ : ClassId} {h : Nat → Nat} {sz : Nat} {σ : BM} {U : State} (q : pBM dC dI cI cJ cZ h sz σ U) (g : JFrame) (mk : MethodId) (a : Array Value) : pBM dC dI cI cJ cZ h sz σ (U.calling g mk a) := by
  obtain ⟨q1, qP, qK, qD⟩ := q
  exact ⟨q1, qP, va_K.moved (u := U) (U := U.calling g mk a) (Vm.Alike.refl U.vm) qK, qD⟩
theorem pBM.blind {dC : Nat → ClassId} {dI : Nat → Nat → Nat} {cI cJ cZ : ClassId} {h : Nat → Nat} {sz : Nat} {σ : BM} {av : List Value} : FrameBlind (va_Pc av (pBM dC dI cI cJ cZ h sz σ)) :=
  fun a U g mk q => ⟨q.1, q.2.moved g mk a⟩
/-- reads, answers an int (a boolean) | a long -/
def rMi (l : Launch) (y : MethodName) (ws : List Cond) (rm : Room) (σ : BM) (As : List Value) (r : Int32) : Prop := ∀ (dC : Nat → ClassId) (dI : Nat → Nat → Nat) (cI cJ cZ : ClassId) (h : Nat → Nat) (sz : Nat),
  Met l y ws rm (va_Pc (.ref (h 0) :: As) (pBM dC dI cI cJ cZ h sz σ)) (va_Qi (fun (r' : Int32) (_ : Unit) => r' = r) (fun _ _ => True) (fun q => sz ≤ q)) 0 0 (fun q => sz ≤ q)
def rMl (l : Launch) (y : MethodName) (ws : List Cond) (rm : Room) (σ : BM) (As : List Value) (r : Int64) : Prop := ∀ (dC : Nat → ClassId) (dI : Nat → Nat → Nat) (cI cJ cZ : ClassId) (h : Nat → Nat) (sz : Nat),
  Met l y ws rm (va_Pc (.ref (h 0) :: As) (pBM dC dI cI cJ cZ h sz σ)) (va_Ql (fun (r' : Int64) (_ : Unit) => r' = r) (fun _ _ => True) (fun q => sz ≤ q)) 0 0 (fun q => sz ≤ q)
def rMv (l : Launch) (y : MethodName) (ws : List Cond) (rm : Room) (σ : BM) (As : List Value) : Prop := ∀ (dC : Nat → ClassId) (dI : Nat → Nat → Nat) (cI cJ cZ : ClassId) (h : Nat → Nat) (sz : Nat),
  Met l y ws rm (va_Pc (.ref (h 0) :: As) (pBM dC dI cI cJ cZ h sz σ)) (va_Qv (fun (_ : Unit) => True) (fun _ _ => True) (fun q => sz ≤ q)) 0 0 (fun q => sz ≤ q)
/-- writes, answers nothing | an int (a boolean) | a long -/
def wMv (l : Launch) (y : MethodName) (ws : List Cond) (rm : Room) (σ : BM) (As : List Value) (σ' : BM) : Prop := ∀ (dC : Nat → ClassId) (dI : Nat → Nat → Nat) (cI cJ cZ : ClassId) (h : Nat → Nat) (sz : Nat),
  Met l y ws rm (va_Pc (.ref (h 0) :: As) (pBM dC dI cI cJ cZ h sz σ)) (va_Qv (fun (_ : Unit) => True) (fun _ => aBM dC dI cI cJ cZ h (va_A (wBM cI cJ cZ h σ) sz) σ') (va_A (wBM cI cJ cZ h σ) sz)) 0 0 (va_A (wBM cI cJ cZ h σ) sz)
def wMi (l : Launch) (y : MethodName) (ws : List Cond) (rm : Room) (σ : BM) (As : List Value) (r : Int32) (σ' : BM) : Prop := ∀ (dC : Nat → ClassId) (dI : Nat → Nat → Nat) (cI cJ cZ : ClassId) (h : Nat → Nat) (sz : Nat),
  Met l y ws rm (va_Pc (.ref (h 0) :: As) (pBM dC dI cI cJ cZ h sz σ)) (va_Qi (fun (r' : Int32) (_ : Unit) => r' = r) (fun _ => aBM dC dI cI cJ cZ h (va_A (wBM cI cJ cZ h σ) sz) σ') (va_A (wBM cI cJ cZ h σ) sz)) 0 0 (va_A (wBM cI cJ cZ h σ) sz)
def wMl (l : Launch) (y : MethodName) (ws : List Cond) (rm : Room) (σ : BM) (As : List Value) (r : Int64) (σ' : BM) : Prop := ∀ (dC : Nat → ClassId) (dI : Nat → Nat → Nat) (cI cJ cZ : ClassId) (h : Nat → Nat) (sz : Nat),
  Met l y ws rm (va_Pc (.ref (h 0) :: As) (pBM dC dI cI cJ cZ h sz σ)) (va_Ql (fun (r' : Int64) (_ : Unit) => r' = r) (fun _ => aBM dC dI cI cJ cZ h (va_A (wBM cI cJ cZ h σ) sz) σ') (va_A (wBM cI cJ cZ h σ) sz)) 0 0 (va_A (wBM cI cJ cZ h σ) sz)
section BMC
variable {p : Program} {l : Launch} {e : Env} {R : Room} {s : State} {m : MethodId} {args : Array Value} {below : List Frame} {meth : Method} {c : Code} {H : Heap} {locs : List Loc} {cells slots : Nat} {Q : State → Prop}
variable {cc bytes : ByteArray} {pc nL maxL n index : Nat} {ls : Array Slot} {As rest st0 : List Value} {Ts ws : List Cond} {own : String} {y : MethodName} {ret : Option FieldType} {rm : Room}
variable {dC : Nat → ClassId} {dI : Nat → Nat → Nat} {cI cJ cZ : ClassId} {h : Nat → Nat} {σ σ' : BM} {A A' : Nat → Prop} {H0 : Heap}
theorem bm_ri {r : Int32} (S : CallFix p m c cc nL s args Ts own) (hM : rMi l y ws rm σ As r) (cw : CallW R s args own RX1 index y bytes maxL ret ws rm 0 0 n)
    (hK : va_K (dC, dI) vwCl [(cI, .int), (cJ, .long), (cZ, .boolean)] s) (hP : va_P (dC, dI) vwCl (wBM cI cJ cZ h σ) H) (hD : va_D A' (wBM cI cJ cZ h σ)) (hS : va_S A H0 H locs) (hA : ∀ q, H0.size ≤ q → A q)
    (hl : ls.size = nL) (hn : As.length = n) (hst : st0 = As.reverse ++ .ref (h 0) :: rest) (hroom : (rest.map fun v => v.category).sum ≤ 8) (hdg : decode cc pc = .ok (.invokevirtual index, 3)) (hc : cells ≤ R.cells) (hs : slots ≤ R.slots)
    (kk : ∀ (H1 : Heap) (locs1 : List Loc), va_P (dC, dI) vwCl (wBM cI cJ cZ h σ) H1 → va_S A H0 H1 locs1 → W p l e R s m args below meth c H1 locs1 cells slots Q (F0 m (pc + 3) ls (.int r :: rest))) :
    W p l e R s m args below meth c H locs cells slots Q (F0 m pc ls st0) :=
  xr_roi (va_runV (As := As) (rest := rest) S (hM dC dI cI cJ cZ h H.size) cw ⟨pBM.blind, va_recv hK hP (ci := 1) (q0 := 0) rfl rfl, fun U hU hW => ⟨rfl, by rw [hU], by rw [hU]; exact hP, va_K.moved hW.alike hK, hD.weaken (fun _ _ _ _ => trivial)⟩⟩ rfl hn hl hst (lv_room hroom) hdg ⟨hc, hs⟩) hP hS hA (fun H1 locs1 hP1 hS1 _ => kk H1 locs1 hP1 hS1)
theorem bm_rl {r : Int64} (S : CallFix p m c cc nL s args Ts own) (hM : rMl l y ws rm σ As r) (cw : CallW R s args own RX1 index y bytes maxL ret ws rm 0 0 n)
    (hK : va_K (dC, dI) vwCl [(cI, .int), (cJ, .long), (cZ, .boolean)] s) (hP : va_P (dC, dI) vwCl (wBM cI cJ cZ h σ) H) (hD : va_D A' (wBM cI cJ cZ h σ)) (hS : va_S A H0 H locs) (hA : ∀ q, H0.size ≤ q → A q)
    (hl : ls.size = nL) (hn : As.length = n) (hst : st0 = As.reverse ++ .ref (h 0) :: rest) (hroom : (rest.map fun v => v.category).sum ≤ 8) (hdg : decode cc pc = .ok (.invokevirtual index, 3)) (hc : cells ≤ R.cells) (hs : slots ≤ R.slots)
    (kk : ∀ (H1 : Heap) (locs1 : List Loc), va_P (dC, dI) vwCl (wBM cI cJ cZ h σ) H1 → va_S A H0 H1 locs1 → W p l e R s m args below meth c H1 locs1 cells slots Q (F0 m (pc + 3) ls (.long r :: rest))) :
    W p l e R s m args below meth c H locs cells slots Q (F0 m pc ls st0) :=
  xr_rol (va_runV (As := As) (rest := rest) S (hM dC dI cI cJ cZ h H.size) cw ⟨pBM.blind, va_recv hK hP (ci := 1) (q0 := 0) rfl rfl, fun U hU hW => ⟨rfl, by rw [hU], by rw [hU]; exact hP, va_K.moved hW.alike hK, hD.weaken (fun _ _ _ _ => trivial)⟩⟩ rfl hn hl hst (lv_room hroom) hdg ⟨hc, hs⟩) hP hS hA (fun H1 locs1 hP1 hS1 _ => kk H1 locs1 hP1 hS1)
theorem bm_rv (S : CallFix p m c cc nL s args Ts own) (hM : rMv l y ws rm σ As) (cw : CallW R s args own RX1 index y bytes maxL ret ws rm 0 0 n)
    (hK : va_K (dC, dI) vwCl [(cI, .int), (cJ, .long), (cZ, .boolean)] s) (hP : va_P (dC, dI) vwCl (wBM cI cJ cZ h σ) H) (hD : va_D A' (wBM cI cJ cZ h σ)) (hS : va_S A H0 H locs) (hA : ∀ q, H0.size ≤ q → A q)
    (hl : ls.size = nL) (hn : As.length = n) (hst : st0 = As.reverse ++ .ref (h 0) :: rest) (hroom : (rest.map fun v => v.category).sum ≤ 8) (hdg : decode cc pc = .ok (.invokevirtual index, 3)) (hc : cells ≤ R.cells) (hs : slots ≤ R.slots)
    (kk : ∀ (H1 : Heap) (locs1 : List Loc), va_P (dC, dI) vwCl (wBM cI cJ cZ h σ) H1 → va_S A H0 H1 locs1 → W p l e R s m args below meth c H1 locs1 cells slots Q (F0 m (pc + 3) ls rest)) :
    W p l e R s m args below meth c H locs cells slots Q (F0 m pc ls st0) :=
  xr_rov (va_runV (As := As) (rest := rest) S (hM dC dI cI cJ cZ h H.size) cw ⟨pBM.blind, va_recv hK hP (ci := 1) (q0 := 0) rfl rfl, fun U hU hW => ⟨rfl, by rw [hU], by rw [hU]; exact hP, va_K.moved hW.alike hK, hD.weaken (fun _ _ _ _ => trivial)⟩⟩ rfl hn hl hst (lv_room hroom) hdg ⟨hc, hs⟩) hP hS hA (fun H1 locs1 hP1 hS1 _ => kk H1 locs1 hP1 hS1)
theorem bm_wv (S : CallFix p m c cc nL s args Ts own) (hM : wMv l y ws rm σ As σ') (cw : CallW R s args own RX1 index y bytes maxL ret ws rm 0 0 n)
    (hK : va_K (dC, dI) vwCl [(cI, .int), (cJ, .long), (cZ, .boolean)] s) (hP : va_P (dC, dI) vwCl (wBM cI cJ cZ h σ) H) (hD : va_D A (wBM cI cJ cZ h σ)) (hS : va_S A H0 H locs) (hA : ∀ q, H0.size ≤ q → A q)
    (hl : ls.size = nL) (hn : As.length = n) (hst : st0 = As.reverse ++ .ref (h 0) :: rest) (hroom : (rest.map fun v => v.category).sum ≤ 8) (hdg : decode cc pc = .ok (.invokevirtual index, 3)) (hc : cells ≤ R.cells) (hs : slots ≤ R.slots)
    (kk : ∀ (H1 : Heap) (locs1 : List Loc), va_P (dC, dI) vwCl (wBM cI cJ cZ h σ') H1 → va_D A (wBM cI cJ cZ h σ') → va_S A H0 H1 locs1 → W p l e R s m args below meth c H1 locs1 cells slots Q (F0 m (pc + 3) ls rest)) :
    W p l e R s m args below meth c H locs cells slots Q (F0 m pc ls st0) := by
  have hFc := va_free (wc := wBM cI cJ cZ h σ) hD hS hA [0, 1, 2, 3, 4, 5, 6, 7, 8, 9, 10, 11] rfl
  refine va_callv (va_runV (As := As) (rest := rest) S (hM dC dI cI cJ cZ h H.size) cw ⟨pBM.blind, va_recv hK hP (ci := 1) (q0 := 0) rfl rfl, fun U hU hW => ⟨rfl, by rw [hU], by rw [hU]; exact hP, va_K.moved hW.alike hK, hD.weaken (fun _ _ _ _ => trivial)⟩⟩ rfl hn hl hst (lv_room hroom) hdg ⟨hc, hs⟩) hS (fun q _ h => hFc q h) hFc (fun u t H1 locs1 ht hvm hw hB hz1 hk1 hS1 => ?_)
  obtain ⟨hP1, hK1, hD1⟩ := hB
  rw [ht] at hP1
  obtain ⟨hP2, hD2⟩ := va_join (wr := []) (w1 := wBM cI cJ cZ h σ') hP hD [0, 1, 2, 3, 4, 5, 6, 7, 8, 9, 10, 11] [] rfl rfl (by decide) (by decide) hk1 hFc hP1 hD1
  exact kk H1 locs1 hP2 hD2 hS1
theorem bm_wi {r : Int32} (S : CallFix p m c cc nL s args Ts own) (hM : wMi l y ws rm σ As r σ') (cw : CallW R s args own RX1 index y bytes maxL ret ws rm 0 0 n)
    (hK : va_K (dC, dI) vwCl [(cI, .int), (cJ, .long), (cZ, .boolean)] s) (hP : va_P (dC, dI) vwCl (wBM cI cJ cZ h σ) H) (hD : va_D A (wBM cI cJ cZ h σ)) (hS : va_S A H0 H locs) (hA : ∀ q, H0.size ≤ q → A q)
    (hl : ls.size = nL) (hn : As.length = n) (hst : st0 = As.reverse ++ .ref (h 0) :: rest) (hroom : (rest.map fun v => v.category).sum ≤ 8) (hdg : decode cc pc = .ok (.invokevirtual index, 3)) (hc : cells ≤ R.cells) (hs : slots ≤ R.slots)
    (kk : ∀ (H1 : Heap) (locs1 : List Loc), va_P (dC, dI) vwCl (wBM cI cJ cZ h σ') H1 → va_D A (wBM cI cJ cZ h σ') → va_S A H0 H1 locs1 → W p l e R s m args below meth c H1 locs1 cells slots Q (F0 m (pc + 3) ls (.int r :: rest))) :
    W p l e R s m args below meth c H locs cells slots Q (F0 m pc ls st0) := by
  have hFc := va_free (wc := wBM cI cJ cZ h σ) hD hS hA [0, 1, 2, 3, 4, 5, 6, 7, 8, 9, 10, 11] rfl
  refine va_calli (va_runV (As := As) (rest := rest) S (hM dC dI cI cJ cZ h H.size) cw ⟨pBM.blind, va_recv hK hP (ci := 1) (q0 := 0) rfl rfl, fun U hU hW => ⟨rfl, by rw [hU], by rw [hU]; exact hP, va_K.moved hW.alike hK, hD.weaken (fun _ _ _ _ => trivial)⟩⟩ rfl hn hl hst (lv_room hroom) hdg ⟨hc, hs⟩) hS (fun q _ h => hFc q h) hFc (fun r' u t H1 locs1 ht hvm hw hB hz1 hk1 hS1 => ?_)
  subst hw
  obtain ⟨hP1, hK1, hD1⟩ := hB
  rw [ht] at hP1
  obtain ⟨hP2, hD2⟩ := va_join (wr := []) (w1 := wBM cI cJ cZ h σ') hP hD [0, 1, 2, 3, 4, 5, 6, 7, 8, 9, 10, 11] [] rfl rfl (by decide) (by decide) hk1 hFc hP1 hD1
  exact kk H1 locs1 hP2 hD2 hS1
end BMC
end
section
/-! what the reference's methods do, in pure words -/
/-- a list laid into a row from place a on -/
def putL (f : Nat → Int32) (a : Nat) (bs : List Int32) : Nat → Int32 := fun i => if a ≤ i ∧ i < a + bs.length then bs.getD (i - a) 0 else f i
theorem putL_nil (f : Nat → Int32) (a : Nat) : putL f a [] = f := by
  funext i
  rw [putL, if_neg (by simp only [List.length_nil]; omega)]
theorem putL_snoc (f : Nat → Int32) (a : Nat) (bs : List Int32) (v : Int32) : upd (putL f a bs) (a + bs.length) v = putL f a (bs ++ [v]) := by
  funext i
  unfold upd putL
  simp only [List.length_append, List.length_cons, List.length_nil]
  by_cases h : i = a + bs.length
  · subst h
    rw [if_pos rfl, if_pos (by omega), show a + bs.length - a = bs.length by omega]
    simp [List.getD_eq_getElem?_getD]
  · rw [if_neg h]
    by_cases h2 : a ≤ i ∧ i < a + bs.length
    · rw [if_pos h2, if_pos (by omega)]
      rw [List.getD_eq_getElem?_getD, List.getD_eq_getElem?_getD, List.getElem?_append_left (by omega)]
    · rw [if_neg h2, if_neg (by omega)]
theorem putL_one (f : Nat → Int32) (a : Nat) (v : Int32) : upd f a v = putL f a [v] := by
  have := putL_snoc f a [] v
  rw [putL_nil] at this
  exact this
theorem rng_map {α : Type} (f : Nat → α) (n : Nat) : (List.range (n + 1)).map f = (List.range n).map f ++ [f n] := by rw [List.range_succ, List.map_append]; rfl
theorem rng_len {α : Type} (f : Nat → α) (n : Nat) : ((List.range n).map f).length = n := by simp
def ishrB (v : Int32) (k : Nat) : Int32 := (v >>> ((nI (8 * k)) &&& 31)) &&& nI 255
def tySt (τ : BM) (v : Int32) (i : Nat) : BM := kuMy (kuT (kuTh τ 0) (putL (kgT τ) (kgMy τ) ((List.range i).map (ishrB v)))) (kgMy τ + i)
theorem ku_T_My (τ : BM) (b : Nat) (c : Nat → Int32) : kuT (kuMy τ b) c = kuMy (kuT τ c) b := rfl
theorem ku_T_T (τ : BM) (a c : Nat → Int32) : kuT (kuT τ a) c = kuT τ c := by unfold kuT; rw [setN_setN]
theorem ku_My_My (τ : BM) (a c : Nat) : kuMy (kuMy τ a) c = kuMy τ c := by unfold kuMy; rw [setN_setN]
theorem ku_MT (τ : BM) (a c : Nat → Int32) (b d : Nat) : kuMy (kuT (kuMy (kuT τ a) b) c) d = kuMy (kuT τ c) d := by rw [ku_T_My, ku_T_T, ku_My_My]
theorem tySt_step (τ : BM) (v : Int32) (i : Nat) : kuMy (kuT (tySt τ v i) (upd (kgT (tySt τ v i)) (kgMy (tySt τ v i)) (ishrB v i))) (kgMy (tySt τ v i) + 1) = tySt τ v (i + 1) := by
  have h1 : kgT (tySt τ v i) = putL (kgT τ) (kgMy τ) ((List.range i).map (ishrB v)) := rfl
  have h2 : kgMy (tySt τ v i) = kgMy τ + i := rfl
  have e := putL_snoc (kgT τ) (kgMy τ) ((List.range i).map (ishrB v)) (ishrB v i)
  rw [rng_len] at e
  rw [h1, h2, e, ← rng_map]
  unfold tySt
  rw [ku_MT, Nat.add_assoc]
/-- byte k of a long, as the reference cuts it -/
def nb8 (v : Int64) (k : Nat) : Int32 := ((v >>> ((nI (8 * k)).toInt64 &&& 63)) &&& 255).toInt32
theorem setN_self {α : Type} (f : Nat → α) (k : Nat) : setN f k (f k) = f := by
  funext j
  unfold setN
  by_cases h : j = k
  · rw [if_pos h, h]
  · rw [if_neg h]
theorem ku_self_LR (τ : BM) : kuLe (kuRC τ (kgRC τ)) (kgLe τ) = τ := by
  unfold kuLe kuRC kgRC kgLe
  simp only [setN_self]
def nxSt (τ : BM) (v : Int64) (i : Nat) : BM := kuLe (kuRC τ (putL (kgRC τ) (kgLe τ) ((List.range i).map (nb8 v)))) (kgLe τ + i)
theorem nxSt_0 (τ : BM) (v : Int64) : nxSt τ v 0 = τ := by
  unfold nxSt
  rw [List.range_zero, List.map_nil, putL_nil, Nat.add_zero]
  exact ku_self_LR τ
theorem ku_RC_Le (τ : BM) (b : Nat) (c : Nat → Int32) : kuRC (kuLe τ b) c = kuLe (kuRC τ c) b := rfl
theorem ku_RC_RC (τ : BM) (a c : Nat → Int32) : kuRC (kuRC τ a) c = kuRC τ c := by unfold kuRC; rw [setN_setN]
theorem ku_Le_Le (τ : BM) (a c : Nat) : kuLe (kuLe τ a) c = kuLe τ c := by unfold kuLe; rw [setN_setN]
theorem ku_LR (τ : BM) (a c : Nat → Int32) (b d : Nat) : kuLe (kuRC (kuLe (kuRC τ a) b) c) d = kuLe (kuRC τ c) d := by rw [ku_RC_Le, ku_RC_RC, ku_Le_Le]
theorem nxSt_step (τ : BM) (v : Int64) (i : Nat) : kuLe (kuRC (nxSt τ v i) (upd (kgRC (nxSt τ v i)) (kgLe (nxSt τ v i)) (nb8 v i))) (kgLe (nxSt τ v i) + 1) = nxSt τ v (i + 1) := by
  have h1 : kgRC (nxSt τ v i) = putL (kgRC τ) (kgLe τ) ((List.range i).map (nb8 v)) := rfl
  have h2 : kgLe (nxSt τ v i) = kgLe τ + i := rfl
  have e := putL_snoc (kgRC τ) (kgLe τ) ((List.range i).map (nb8 v)) (nb8 v i)
  rw [rng_len] at e
  rw [h1, h2, e, ← rng_map]
  unfold nxSt
  rw [ku_LR, Nat.add_assoc]
def recB (τ : BM) : List Int32 := (List.range (kgLe τ)).map (kgRC τ)
def hdM (k : Int32) (n : Nat) : List Int32 := [k, nI n &&& nI 255, nI n >>> (nI 8 &&& 31)]
/-- a write: the head and i bytes of the record -/
def wrSt (τ : BM) (k : Int32) (i : Nat) : BM := kuSz (kuJR τ (putL (kgJR τ) (kgSz τ) (hdM k (kgLe τ) ++ (List.range i).map (kgRC τ)))) (kgSz τ + 3 + i)
theorem ku_JJ (τ : BM) (a b : Nat → Int32) : kuJR (kuJR τ a) b = kuJR τ b := by unfold kuJR; rw [setN_setN]
theorem ku_JR_Sz (τ : BM) (b : Nat) (c : Nat → Int32) : kuJR (kuSz τ b) c = kuSz (kuJR τ c) b := rfl
theorem ku_Sz_Sz (τ : BM) (a c : Nat) : kuSz (kuSz τ a) c = kuSz τ c := by unfold kuSz; rw [setN_setN]
theorem ku_SJ (τ : BM) (a c : Nat → Int32) (b d : Nat) : kuSz (kuJR (kuSz (kuJR τ a) b) c) d = kuSz (kuJR τ c) d := by rw [ku_JR_Sz, ku_JJ, ku_Sz_Sz]
theorem wrSt_0 (τ : BM) (k : Int32) : kuSz (kuJR (kuJR (kuJR τ (upd (kgJR τ) (kgSz τ) k)) (upd (upd (kgJR τ) (kgSz τ) k) (kgSz τ + 1) (nI (kgLe τ) &&& nI 255))) (upd (upd (upd (kgJR τ) (kgSz τ) k) (kgSz τ + 1) (nI (kgLe τ) &&& nI 255)) (kgSz τ + 2) (nI (kgLe τ) >>> (nI 8 &&& 31)))) (kgSz τ + 3) = wrSt τ k 0 := by
  have e1 := putL_one (kgJR τ) (kgSz τ) k
  have e2 : upd (putL (kgJR τ) (kgSz τ) [k]) (kgSz τ + 1) (nI (kgLe τ) &&& nI 255) = putL (kgJR τ) (kgSz τ) [k, nI (kgLe τ) &&& nI 255] := putL_snoc (kgJR τ) (kgSz τ) [k] (nI (kgLe τ) &&& nI 255)
  have e3 : upd (putL (kgJR τ) (kgSz τ) [k, nI (kgLe τ) &&& nI 255]) (kgSz τ + 2) (nI (kgLe τ) >>> (nI 8 &&& 31)) = putL (kgJR τ) (kgSz τ) (hdM k (kgLe τ)) := putL_snoc (kgJR τ) (kgSz τ) [k, nI (kgLe τ) &&& nI 255] (nI (kgLe τ) >>> (nI 8 &&& 31))
  rw [e1, e2, e3, ku_JJ, ku_JJ]
  unfold wrSt
  rw [List.range_zero, List.map_nil, List.append_nil]
theorem wrSt_step (τ : BM) (k : Int32) (i : Nat) : kuSz (kuJR (wrSt τ k i) (upd (kgJR (wrSt τ k i)) (kgSz (wrSt τ k i)) (kgRC (wrSt τ k i) i))) (kgSz (wrSt τ k i) + 1) = wrSt τ k (i + 1) := by
  have h1 : kgJR (wrSt τ k i) = putL (kgJR τ) (kgSz τ) (hdM k (kgLe τ) ++ (List.range i).map (kgRC τ)) := rfl
  have h2 : kgSz (wrSt τ k i) = kgSz τ + 3 + i := rfl
  have h3 : kgRC (wrSt τ k i) = kgRC τ := rfl
  have e := putL_snoc (kgJR τ) (kgSz τ) (hdM k (kgLe τ) ++ (List.range i).map (kgRC τ)) (kgRC τ i)
  rw [List.length_append, rng_len, show (hdM k (kgLe τ)).length = 3 from rfl, ← Nat.add_assoc] at e
  rw [h1, h2, h3, e, List.append_assoc, ← rng_map]
  unfold wrSt
  rw [ku_SJ, Nat.add_assoc (kgSz τ + 3)]
def wrM (τ : BM) (k : Int32) : BM := kuSz (kuJR (wrSt τ k (kgLe τ)) (upd (kgJR (wrSt τ k (kgLe τ))) (kgSz τ + 3 + kgLe τ) (sm (kgJR (wrSt τ k (kgLe τ))) (kgSz τ) (3 + kgLe τ)))) (kgSz τ + 3 + kgLe τ + 1)
end
section
set_option maxRecDepth 100000 in
set_option maxHeartbeats 4000000 in
theorem m_ends (l : Launch) (x : Int64) (n : Int32) (sz : Nat) : Met l yX1_ends wsX1_ends ({ frames := 0, cells := 0, slots := 0, locals := 0 } : Room) (va_Pc [.long x, .int n] (fun U => U.heap.size = sz)) (va_Ql (fun (r' : Int64) (_ : Unit) => r' = (dgX ((x ^^^ n.toInt64) * (-2960836687156293229)))) (fun _ _ => True) (fun q => sz ≤ q)) 0 0 (fun q => sz ≤ q) := by
  refine Met.ofW (cc := cX1_ends) (maxL := 5) (ret := (some .long)) (by decide) rfl ?_
  intro p e s m args below meth c s₁ B hml hv
  obtain ⟨rfl, hsz⟩ := hv
  have hx := B.exec
  have hb := B.bytes
  have hr := B.returns
  have hts := atoms_spec (ws := wsX1_ends) B.pre
  have htg : ∀ w ∈ GW, w.before _ s = true := fun w h => hts w (List.mem_cons_of_mem _ h)
  have hown : s.vm.findClass RX1 = some m.cls := findClass_of_methodNamed B.named
  have hlocks := B.notSynchronized
  subst hsz
  have hS : va_S (fun q => s.heap.size ≤ q) s.heap s.heap [] := va_S.rf
  have hl := lv_entry [.long x, .int n] (n := 5) (Nat.le_of_ble_eq_true rfl)
  rw [lg_entry_eq]
  generalize (lg_sl [.long x, .int n] ++ List.replicate (5 - (lg_sl [.long x, .int n]).length) Slot.unset).toArray = ls at hl ⊢
  have hl : lv_has ls 5 [(0, .long x), (2, .int n)] := hl
  refine lv_lload_n hx hb dX1_ends_0 rfl (lv_at hl 0 rfl) ?_
  refine lv_iload_n hx hb dX1_ends_1 rfl (lv_at hl 1 rfl) ?_
  refine lv_i2l (v := n.toInt64) hx hb dX1_ends_2 rfl ?_
  refine lv_lxor hx hb dX1_ends_3 ?_
  refine lv_ldc2 hx hb hown (htg _ qX1_52) dX1_ends_4 ?_
  refine lv_lmul hx hb dX1_ends_7 ?_
  refine lv_lstore_n (lv' := [(3, .long ((x ^^^ n.toInt64) * (-2960836687156293229))), (0, .long x), (2, .int n)]) hx hb dX1_ends_8 rfl hl (by decide) rfl (fun ls hl => ?_)
  refine lv_lload_n hx hb dX1_ends_9 rfl (lv_at hl 0 rfl) ?_
  refine lv_lload_n hx hb dX1_ends_10 rfl (lv_at hl 0 rfl) ?_
  refine lv_bipush (v := nI 32) hx hb dX1_ends_11 (by decide) ?_
  refine lv_lushr (v := ((((x ^^^ n.toInt64) * (-2960836687156293229))).toUInt64 >>> (((nI 32)).toInt64.toUInt64 &&& Int64.toUInt64 63)).toInt64) hx hb dX1_ends_13 rfl ?_
  refine lv_lxor hx hb dX1_ends_14 ?_
  exact W.lret (v := ((x ^^^ n.toInt64) * (-2960836687156293229)) ^^^ (((((x ^^^ n.toInt64) * (-2960836687156293229))).toUInt64 >>> (((nI 32)).toInt64.toUInt64 &&& Int64.toUInt64 63)).toInt64)) hx hb hr (fun t ht hW => ⟨⟨_, (), rfl, rfl, trivial⟩, hS.F ht⟩) hS.2.2 dX1_ends_15
set_option maxRecDepth 100000 in
set_option maxHeartbeats 4000000 in
theorem m_goes (l : Launch) (x : Int64) (b : Int32) (sz : Nat) : Met l yX1_goes wsX1_goes ({ frames := 0, cells := 0, slots := 0, locals := 0 } : Room) (va_Pc [.long x, .int b] (fun U => U.heap.size = sz)) (va_Ql (fun (r' : Int64) (_ : Unit) => r' = ((x ^^^ b.toInt64) * 1099511628211)) (fun _ _ => True) (fun q => sz ≤ q)) 0 0 (fun q => sz ≤ q) := by
  refine Met.ofW (cc := cX1_goes) (maxL := 3) (ret := (some .long)) (by decide) rfl ?_
  intro p e s m args below meth c s₁ B hml hv
  obtain ⟨rfl, hsz⟩ := hv
  have hx := B.exec
  have hb := B.bytes
  have hr := B.returns
  have hts := atoms_spec (ws := wsX1_goes) B.pre
  have htg : ∀ w ∈ GW, w.before _ s = true := fun w h => hts w (List.mem_cons_of_mem _ h)
  have hown : s.vm.findClass RX1 = some m.cls := findClass_of_methodNamed B.named
  have hlocks := B.notSynchronized
  subst hsz
  have hS : va_S (fun q => s.heap.size ≤ q) s.heap s.heap [] := va_S.rf
  have hl := lv_entry [.long x, .int b] (n := 3) (Nat.le_of_ble_eq_true rfl)
  rw [lg_entry_eq]
  generalize (lg_sl [.long x, .int b] ++ List.replicate (3 - (lg_sl [.long x, .int b]).length) Slot.unset).toArray = ls at hl ⊢
  have hl : lv_has ls 3 [(0, .long x), (2, .int b)] := hl
  refine lv_lload_n hx hb dX1_goes_0 rfl (lv_at hl 0 rfl) ?_
  refine lv_iload_n hx hb dX1_goes_1 rfl (lv_at hl 1 rfl) ?_
  refine lv_i2l (v := b.toInt64) hx hb dX1_goes_2 rfl ?_
  refine lv_lxor hx hb dX1_goes_3 ?_
  refine lv_ldc2 hx hb hown (htg _ qX1_54) dX1_goes_4 ?_
  refine lv_lmul hx hb dX1_goes_7 ?_
  exact W.lret (v := (x ^^^ b.toInt64) * 1099511628211) hx hb hr (fun t ht hW => ⟨⟨_, (), rfl, rfl, trivial⟩, hS.F ht⟩) hS.2.2 dX1_goes_8
set_option maxRecDepth 100000 in
set_option maxHeartbeats 4000000 in
theorem m_isTag (l : Launch) (t : Int32) (sz : Nat) : Met l yX1_isTag wsX1_isTag ({ frames := 0, cells := 0, slots := 0, locals := 0 } : Room) (va_Pc [.int t] (fun U => U.heap.size = sz)) (va_Qi (fun (r' : Int32) (_ : Unit) => r' = (bI (isTg t))) (fun _ _ => True) (fun q => sz ≤ q)) 0 0 (fun q => sz ≤ q) := by
  refine Met.ofW (cc := cX1_isTag) (maxL := 1) (ret := (some .boolean)) (by decide) rfl ?_
  intro p e s m args below meth c s₁ B hml hv
  obtain ⟨rfl, hsz⟩ := hv
  have hx := B.exec
  have hb := B.bytes
  have hr := B.returns
  have hts := atoms_spec (ws := wsX1_isTag) B.pre
  have htg : ∀ w ∈ GW, w.before _ s = true := fun w h => hts w (List.mem_cons_of_mem _ h)
  have hown : s.vm.findClass RX1 = some m.cls := findClass_of_methodNamed B.named
  have hlocks := B.notSynchronized
  subst hsz
  have hS : va_S (fun q => s.heap.size ≤ q) s.heap s.heap [] := va_S.rf
  have hl := lv_entry [.int t] (n := 1) (Nat.le_of_ble_eq_true rfl)
  rw [lg_entry_eq]
  generalize (lg_sl [.int t] ++ List.replicate (1 - (lg_sl [.int t]).length) Slot.unset).toArray = ls at hl ⊢
  have hl : lv_has ls 1 [(0, .int t)] := hl
  refine lv_iload_n hx hb dX1_isTag_0 rfl (lv_at hl 0 rfl) ?_
  refine lv_if_lt (tgt := 14) hx hb dX1_isTag_1 (by decide) (fun c1 => ?_) (fun c1 => ?_)
  · refine lv_iconst (v := nI 0) hx hb dX1_isTag_14 (by decide) ?_
    exact W.zret (ty := .boolean) (v := nI 0) hx hb hr (by first | rfl | decide) (fun t9 ht hW => ⟨⟨_, (), rfl, isTg_no (by first | exact Or.inl c1 | exact Or.inr c7), trivial⟩, hS.F ht⟩) hS.2.2 dX1_isTag_15
  · refine lv_iload_n hx hb dX1_isTag_4 rfl (lv_at hl 0 rfl) ?_
    refine lv_bipush (v := nI 8) hx hb dX1_isTag_5 (by decide) ?_
    refine lv_icmp_ge (tgt := 14) hx hb dX1_isTag_7 (by decide) (fun c7 => ?_) (fun c7 => ?_)
    · refine lv_iconst (v := nI 0) hx hb dX1_isTag_14 (by decide) ?_
      exact W.zret (ty := .boolean) (v := nI 0) hx hb hr (by first | rfl | decide) (fun t9 ht hW => ⟨⟨_, (), rfl, isTg_no (by first | exact Or.inl c1 | exact Or.inr c7), trivial⟩, hS.F ht⟩) hS.2.2 dX1_isTag_15
    · refine lv_iconst (v := nI 1) hx hb dX1_isTag_10 (by decide) ?_
      refine lv_goto (tgt := 15) hx hb dX1_isTag_11 (by decide) ?_
      exact W.zret (ty := .boolean) (v := nI 1) hx hb hr (by first | rfl | decide) (fun t9 ht hW => ⟨⟨_, (), rfl, by rw [isTg, decide_eq_true c1, decide_eq_true c7]; rfl, trivial⟩, hS.F ht⟩) hS.2.2 dX1_isTag_15
set_option maxRecDepth 100000 in
set_option maxHeartbeats 4000000 in
theorem m_thrown (l : Launch) (σ : BM) : rMi l yX1_thrown wsX1_thrown ({ frames := 0, cells := 0, slots := 0, locals := 0 } : Room) σ [] (nI (kgTh σ)) := by
  intro dC dI cI cJ cZ h sz
  refine Met.ofW (cc := cX1_thrown) (maxL := 1) (ret := (some .int)) (by decide) rfl ?_
  intro p e s m args below meth c s₁ B hml hv
  obtain ⟨rfl, hsz, hP, hK, hD0⟩ := hv
  have hx := B.exec
  have hb := B.bytes
  have hr := B.returns
  have hts := atoms_spec (ws := wsX1_thrown) B.pre
  have hown : s.vm.findClass RX1 = some m.cls := findClass_of_methodNamed B.named
  have hlocks := B.notSynchronized
  subst hsz
  have htg : ∀ w ∈ GW, w.before _ s = true := fun w h => hts w (List.mem_cons_of_mem _ h)
  have hD := hD0
  have hA : ∀ q : Nat, s.heap.size ≤ q → (fun q => s.heap.size ≤ q) q := fun _ h => h
  have hS : va_S (fun q => s.heap.size ≤ q) s.heap s.heap [] := va_S.rf
  have hl := lv_entry [.ref (h 0)] (n := 1) (Nat.le_of_ble_eq_true rfl)
  rw [lg_entry_eq]
  generalize (lg_sl [.ref (h 0)] ++ List.replicate (1 - (lg_sl [.ref (h 0)]).length) Slot.unset).toArray = ls at hl ⊢
  have hl : lv_has ls 1 [(0, .ref (h 0))] := hl
  have hP : va_P (dC, dI) vwCl (wBM cI cJ cZ h σ) s.heap := hP
  refine lv_aload_n hx hb dX1_thrown_0 rfl (lv_at hl 0 rfl) ?_
  refine va_get (D := (dC, dI)) (ci := 1) (v := .int (nI (kgTh σ))) (C := RX1) (T := TX1) (N := 18) hx hb htg inX1 (fs := fsBM h σ) hown hK hP 0 rfl rfl 0 (by decide) (htg _ fX1_45) (fun _ h9 => h9) rfl dX1_thrown_1 ?_
  exact W.iret (v := nI (kgTh σ)) hx hb hr (fun t ht hW => ⟨⟨_, (), rfl, rfl, trivial⟩, hS.F ht⟩) hS.2.2 dX1_thrown_4
set_option maxRecDepth 100000 in
set_option maxHeartbeats 4000000 in
theorem m_digestOfTyped (l : Launch) (σ : BM) (hm : kgMy σ ≤ 64) : rMl l yX1_digestOfTyped wsX1_digestOfTyped ({ frames := 1, cells := 0, slots := 0, locals := 24 } : Room) σ [] (dg (kgT σ) 0 (kgMy σ)) := by
  intro dC dI cI cJ cZ h sz
  refine Met.ofW (cc := cX1_digestOfTyped) (maxL := 4) (ret := (some .long)) (by decide) rfl ?_
  intro p e s m args below meth c s₁ B hml hv
  obtain ⟨rfl, hsz, hP, hK, hD0⟩ := hv
  have hx := B.exec
  have hb := B.bytes
  have hr := B.returns
  have hts := atoms_spec (ws := wsX1_digestOfTyped) B.pre
  have hown : s.vm.findClass RX1 = some m.cls := findClass_of_methodNamed B.named
  have hlocks := B.notSynchronized
  subst hsz
  have htg : ∀ w ∈ GW, w.before _ s = true := fun w h => hts w (List.mem_cons_of_mem _ h)
  have hD := hD0
  have hA : ∀ q : Nat, s.heap.size ≤ q → (fun q => s.heap.size ≤ q) q := fun _ h => h
  have hS : va_S (fun q => s.heap.size ≤ q) s.heap s.heap [] := va_S.rf
  have hl := lv_entry [.ref (h 0)] (n := 4) (Nat.le_of_ble_eq_true rfl)
  rw [lg_entry_eq]
  generalize (lg_sl [.ref (h 0)] ++ List.replicate (4 - (lg_sl [.ref (h 0)]).length) Slot.unset).toArray = ls at hl ⊢
  have hl : lv_has ls 4 [(0, .ref (h 0))] := hl
  have hP : va_P (dC, dI) vwCl (wBM cI cJ cZ h σ) s.heap := hP
  refine lv_ldc2 hx hb hown (htg _ qX1_56) dX1_digestOfTyped_0 ?_
  refine lv_lstore_n (lv' := [(1, .long (-7046029254386353131)), (0, .ref (h 0))]) hx hb dX1_digestOfTyped_3 rfl hl (by decide) rfl (fun ls hl => ?_)
  refine lv_iconst (v := nI 0) hx hb dX1_digestOfTyped_4 (by decide) ?_
  refine lv_istore_n (lv' := [(3, .int (nI 0)), (1, .long (-7046029254386353131)), (0, .ref (h 0))]) hx hb dX1_digestOfTyped_5 rfl hl (by decide) rfl (fun ls hl => ?_)
  have loop : ∀ (fu i : Nat) (x : Int64), i ≤ kgMy σ → kgMy σ < i + fu → x = dgL (kgT σ) 0 i → ∀ (H : Heap) (locs : List Loc), va_P (dC, dI) vwCl (wBM cI cJ cZ h σ) H → va_S (fun q => s.heap.size ≤ q) s.heap H locs → ∀ (ls : Array Slot), lv_has ls 4 [(3, .int (nI i)), (1, .long x), (0, .ref (h 0))] → W p l e (headSpec wsX1_digestOfTyped ({ frames := 1, cells := 0, slots := 0, locals := 24 } : Room)).room s m ([.ref (h 0)].toArray) below meth c H locs 0 0 (MQ below (va_Ql (fun (r' : Int64) (_ : Unit) => r' = (dg (kgT σ) 0 (kgMy σ))) (fun _ _ => True) (fun q => s.heap.size ≤ q)) ([.ref (h 0)].toArray) s 0 0 (fun q => s.heap.size ≤ q)) (F0 m 6 ls []) := by
    intro fu
    induction fu with
    | zero => intro i x h1 h2; exact absurd h2 (by omega)
    | succ fu ih =>
      intro i x hi hin ex H locs hP hS ls hl
      refine lv_iload_n hx hb dX1_digestOfTyped_6 rfl (lv_at hl 0 rfl) ?_
      refine lv_aload_n hx hb dX1_digestOfTyped_7 rfl (lv_at hl 2 rfl) ?_
      refine va_get (D := (dC, dI)) (ci := 1) (v := .int (nI (kgMy σ))) (C := RX1) (T := TX1) (N := 18) hx hb htg inX1 (fs := fsBM h σ) hown hK hP 0 rfl rfl 2 (by decide) (htg _ fX1_49) (fun _ h9 => h9) rfl dX1_digestOfTyped_8 ?_
      refine xr_icmp_ge (tgt := 31) hx hb dX1_digestOfTyped_11 (by decide) (by omega) (by omega) (fun c11 => ?_) (fun c11 => ?_)
      · refine lv_lload_n hx hb dX1_digestOfTyped_31 rfl (lv_at hl 1 rfl) ?_
        refine lv_aload_n hx hb dX1_digestOfTyped_32 rfl (lv_at hl 2 rfl) ?_
        refine va_get (D := (dC, dI)) (ci := 1) (v := .int (nI (kgMy σ))) (C := RX1) (T := TX1) (N := 18) hx hb htg inX1 (fs := fsBM h σ) hown hK hP 0 rfl rfl 2 (by decide) (htg _ fX1_49) (fun _ h9 => h9) rfl dX1_digestOfTyped_33 ?_
        refine xr_rol (va_runS (As := [.long x, .int (nI (kgMy σ))]) (rest := []) ⟨hx, hb, hml, hown, htg⟩ (m_ends l x (nI (kgMy σ)) _) (va_cwS 2 htg gX1_62 rfl rfl rfl (by decide +kernel) ⟨Nat.le_of_ble_eq_true rfl, Nat.le_of_ble_eq_true rfl⟩) ⟨fun a U g mk q => q, fun U hU hW => ⟨rfl, congrArg Array.size hU⟩⟩ rfl rfl hl.1 rfl (lv_room (Nat.le_of_ble_eq_true rfl)) dX1_digestOfTyped_36 ⟨Nat.zero_le _, Nat.zero_le _⟩) hP hS hA (fun H locs hP hS _ => ?_)
        exact W.lret (v := dgX ((x ^^^ ((nI (kgMy σ))).toInt64) * (-2960836687156293229))) hx hb hr (fun t ht hW => ⟨⟨_, (), rfl, by rw [ex, show i = kgMy σ by omega]; rfl, trivial⟩, hS.F ht⟩) hS.2.2 dX1_digestOfTyped_39
      · refine lv_lload_n hx hb dX1_digestOfTyped_14 rfl (lv_at hl 1 rfl) ?_
        refine lv_aload_n hx hb dX1_digestOfTyped_15 rfl (lv_at hl 2 rfl) ?_
        refine va_get (D := (dC, dI)) (ci := 1) (v := .ref (h 1)) (C := RX1) (T := TX1) (N := 18) hx hb htg inX1 (fs := fsBM h σ) hown hK hP 0 rfl rfl 1 (by decide) (htg _ fX1_7) (fun _ h9 => h9) rfl dX1_digestOfTyped_16 ?_
        refine lv_iload_n hx hb dX1_digestOfTyped_19 rfl (lv_at hl 0 rfl) ?_
        refine xr_iald (f := kgT σ) (i := i) hx hb hK hP 1 0 rfl rfl (by omega) (by decide) dX1_digestOfTyped_20 ?_
        refine xr_rol (va_runS (As := [.long x, .int ((kgT σ) i)]) (rest := []) ⟨hx, hb, hml, hown, htg⟩ (m_goes l x ((kgT σ) i) _) (va_cwS 2 htg gX1_58 rfl rfl rfl (by decide +kernel) ⟨Nat.le_of_ble_eq_true rfl, Nat.le_of_ble_eq_true rfl⟩) ⟨fun a U g mk q => q, fun U hU hW => ⟨rfl, congrArg Array.size hU⟩⟩ rfl rfl hl.1 rfl (lv_room (Nat.le_of_ble_eq_true rfl)) dX1_digestOfTyped_21 ⟨Nat.zero_le _, Nat.zero_le _⟩) hP hS hA (fun H locs hP hS _ => ?_)
        refine lv_lstore_n (lv' := [(1, .long ((x ^^^ (((kgT σ) i)).toInt64) * 1099511628211)), (3, .int (nI i)), (0, .ref (h 0))]) hx hb dX1_digestOfTyped_24 rfl hl (by decide) rfl (fun ls hl => ?_)
        refine lv_iinc (v := nI (i + 1)) (lv' := [(3, .int (nI (i + 1))), (1, .long ((x ^^^ (((kgT σ) i)).toInt64) * 1099511628211)), (0, .ref (h 0))]) hx hb dX1_digestOfTyped_25 hl (k := 1) rfl (nI_add _ 1) (by decide) rfl (fun ls hl => ?_)
        refine lv_goto (tgt := 6) hx hb dX1_digestOfTyped_28 (by decide) ?_
        exact ih (i + 1) ((x ^^^ (((kgT σ) i)).toInt64) * 1099511628211) (by omega) (by omega) (by rw [ex]; show _ = (_ ^^^ _) * _; rw [Nat.zero_add]) H locs hP hS ls (lv_sub hl [0, 1, 2] rfl)
  exact loop (kgMy σ + 1) 0 (-7046029254386353131) (by omega) (by omega) (rfl) _ _ hP hS ls (lv_sub hl [0, 1, 2] rfl)
set_option maxRecDepth 100000 in
set_option maxHeartbeats 4000000 in
theorem m_digestOfRecord (l : Launch) (σ : BM) (hm : kgLe σ ≤ 700) : rMl l yX1_digestOfRecord wsX1_digestOfRecord ({ frames := 1, cells := 0, slots := 0, locals := 24 } : Room) σ [] (dg (kgRC σ) 0 (kgLe σ)) := by
  intro dC dI cI cJ cZ h sz
  refine Met.ofW (cc := cX1_digestOfRecord) (maxL := 4) (ret := (some .long)) (by decide) rfl ?_
  intro p e s m args below meth c s₁ B hml hv
  obtain ⟨rfl, hsz, hP, hK, hD0⟩ := hv
  have hx := B.exec
  have hb := B.bytes
  have hr := B.returns
  have hts := atoms_spec (ws := wsX1_digestOfRecord) B.pre
  have hown : s.vm.findClass RX1 = some m.cls := findClass_of_methodNamed B.named
  have hlocks := B.notSynchronized
  subst hsz
  have htg : ∀ w ∈ GW, w.before _ s = true := fun w h => hts w (List.mem_cons_of_mem _ h)
  have hD := hD0
  have hA : ∀ q : Nat, s.heap.size ≤ q → (fun q => s.heap.size ≤ q) q := fun _ h => h
  have hS : va_S (fun q => s.heap.size ≤ q) s.heap s.heap [] := va_S.rf
  have hl := lv_entry [.ref (h 0)] (n := 4) (Nat.le_of_ble_eq_true rfl)
  rw [lg_entry_eq]
  generalize (lg_sl [.ref (h 0)] ++ List.replicate (4 - (lg_sl [.ref (h 0)]).length) Slot.unset).toArray = ls at hl ⊢
  have hl : lv_has ls 4 [(0, .ref (h 0))] := hl
  have hP : va_P (dC, dI) vwCl (wBM cI cJ cZ h σ) s.heap := hP
  refine lv_ldc2 hx hb hown (htg _ qX1_56) dX1_digestOfRecord_0 ?_
  refine lv_lstore_n (lv' := [(1, .long (-7046029254386353131)), (0, .ref (h 0))]) hx hb dX1_digestOfRecord_3 rfl hl (by decide) rfl (fun ls hl => ?_)
  refine lv_iconst (v := nI 0) hx hb dX1_digestOfRecord_4 (by decide) ?_
  refine lv_istore_n (lv' := [(3, .int (nI 0)), (1, .long (-7046029254386353131)), (0, .ref (h 0))]) hx hb dX1_digestOfRecord_5 rfl hl (by decide) rfl (fun ls hl => ?_)
  have loop : ∀ (fu i : Nat) (x : Int64), i ≤ kgLe σ → kgLe σ < i + fu → x = dgL (kgRC σ) 0 i → ∀ (H : Heap) (locs : List Loc), va_P (dC, dI) vwCl (wBM cI cJ cZ h σ) H → va_S (fun q => s.heap.size ≤ q) s.heap H locs → ∀ (ls : Array Slot), lv_has ls 4 [(3, .int (nI i)), (1, .long x), (0, .ref (h 0))] → W p l e (headSpec wsX1_digestOfRecord ({ frames := 1, cells := 0, slots := 0, locals := 24 } : Room)).room s m ([.ref (h 0)].toArray) below meth c H locs 0 0 (MQ below (va_Ql (fun (r' : Int64) (_ : Unit) => r' = (dg (kgRC σ) 0 (kgLe σ))) (fun _ _ => True) (fun q => s.heap.size ≤ q)) ([.ref (h 0)].toArray) s 0 0 (fun q => s.heap.size ≤ q)) (F0 m 6 ls []) := by
    intro fu
    induction fu with
    | zero => intro i x h1 h2; exact absurd h2 (by omega)
    | succ fu ih =>
      intro i x hi hin ex H locs hP hS ls hl
      refine lv_iload_n hx hb dX1_digestOfRecord_6 rfl (lv_at hl 0 rfl) ?_
      refine lv_aload_n hx hb dX1_digestOfRecord_7 rfl (lv_at hl 2 rfl) ?_
      refine va_get (D := (dC, dI)) (ci := 1) (v := .int (nI (kgLe σ))) (C := RX1) (T := TX1) (N := 18) hx hb htg inX1 (fs := fsBM h σ) hown hK hP 0 rfl rfl 17 (by decide) (htg _ fX1_65) (fun _ h9 => h9) rfl dX1_digestOfRecord_8 ?_
      refine xr_icmp_ge (tgt := 31) hx hb dX1_digestOfRecord_11 (by decide) (by omega) (by omega) (fun c11 => ?_) (fun c11 => ?_)
      · refine lv_lload_n hx hb dX1_digestOfRecord_31 rfl (lv_at hl 1 rfl) ?_
        refine lv_aload_n hx hb dX1_digestOfRecord_32 rfl (lv_at hl 2 rfl) ?_
        refine va_get (D := (dC, dI)) (ci := 1) (v := .int (nI (kgLe σ))) (C := RX1) (T := TX1) (N := 18) hx hb htg inX1 (fs := fsBM h σ) hown hK hP 0 rfl rfl 17 (by decide) (htg _ fX1_65) (fun _ h9 => h9) rfl dX1_digestOfRecord_33 ?_
        refine xr_rol (va_runS (As := [.long x, .int (nI (kgLe σ))]) (rest := []) ⟨hx, hb, hml, hown, htg⟩ (m_ends l x (nI (kgLe σ)) _) (va_cwS 2 htg gX1_62 rfl rfl rfl (by decide +kernel) ⟨Nat.le_of_ble_eq_true rfl, Nat.le_of_ble_eq_true rfl⟩) ⟨fun a U g mk q => q, fun U hU hW => ⟨rfl, congrArg Array.size hU⟩⟩ rfl rfl hl.1 rfl (lv_room (Nat.le_of_ble_eq_true rfl)) dX1_digestOfRecord_36 ⟨Nat.zero_le _, Nat.zero_le _⟩) hP hS hA (fun H locs hP hS _ => ?_)
        exact W.lret (v := dgX ((x ^^^ ((nI (kgLe σ))).toInt64) * (-2960836687156293229))) hx hb hr (fun t ht hW => ⟨⟨_, (), rfl, by rw [ex, show i = kgLe σ by omega]; rfl, trivial⟩, hS.F ht⟩) hS.2.2 dX1_digestOfRecord_39
      · refine lv_lload_n hx hb dX1_digestOfRecord_14 rfl (lv_at hl 1 rfl) ?_
        refine lv_aload_n hx hb dX1_digestOfRecord_15 rfl (lv_at hl 2 rfl) ?_
        refine va_get (D := (dC, dI)) (ci := 1) (v := .ref (h 11)) (C := RX1) (T := TX1) (N := 18) hx hb htg inX1 (fs := fsBM h σ) hown hK hP 0 rfl rfl 16 (by decide) (htg _ fX1_42) (fun _ h9 => h9) rfl dX1_digestOfRecord_16 ?_
        refine lv_iload_n hx hb dX1_digestOfRecord_19 rfl (lv_at hl 0 rfl) ?_
        refine xr_iald (f := kgRC σ) (i := i) hx hb hK hP 11 0 rfl rfl (by omega) (by decide) dX1_digestOfRecord_20 ?_
        refine xr_rol (va_runS (As := [.long x, .int ((kgRC σ) i)]) (rest := []) ⟨hx, hb, hml, hown, htg⟩ (m_goes l x ((kgRC σ) i) _) (va_cwS 2 htg gX1_58 rfl rfl rfl (by decide +kernel) ⟨Nat.le_of_ble_eq_true rfl, Nat.le_of_ble_eq_true rfl⟩) ⟨fun a U g mk q => q, fun U hU hW => ⟨rfl, congrArg Array.size hU⟩⟩ rfl rfl hl.1 rfl (lv_room (Nat.le_of_ble_eq_true rfl)) dX1_digestOfRecord_21 ⟨Nat.zero_le _, Nat.zero_le _⟩) hP hS hA (fun H locs hP hS _ => ?_)
        refine lv_lstore_n (lv' := [(1, .long ((x ^^^ (((kgRC σ) i)).toInt64) * 1099511628211)), (3, .int (nI i)), (0, .ref (h 0))]) hx hb dX1_digestOfRecord_24 rfl hl (by decide) rfl (fun ls hl => ?_)
        refine lv_iinc (v := nI (i + 1)) (lv' := [(3, .int (nI (i + 1))), (1, .long ((x ^^^ (((kgRC σ) i)).toInt64) * 1099511628211)), (0, .ref (h 0))]) hx hb dX1_digestOfRecord_25 hl (k := 1) rfl (nI_add _ 1) (by decide) rfl (fun ls hl => ?_)
        refine lv_goto (tgt := 6) hx hb dX1_digestOfRecord_28 (by decide) ?_
        exact ih (i + 1) ((x ^^^ (((kgRC σ) i)).toInt64) * 1099511628211) (by omega) (by omega) (by rw [ex]; show _ = (_ ^^^ _) * _; rw [Nat.zero_add]) H locs hP hS ls (lv_sub hl [0, 1, 2] rfl)
  exact loop (kgLe σ + 1) 0 (-7046029254386353131) (by omega) (by omega) (rfl) _ _ hP hS ls (lv_sub hl [0, 1, 2] rfl)
set_option maxRecDepth 100000 in
set_option maxHeartbeats 4000000 in
theorem m_blobOf (l : Launch) (σ : BM) (d : Int64) (hc : kgBl σ ≤ 20) : rMi l yX1_blobOf wsX1_blobOf ({ frames := 0, cells := 0, slots := 0, locals := 0 } : Room) σ [.long d] (optI (fnd (kgDG σ) d (kgBl σ))) := by
  intro dC dI cI cJ cZ h sz
  refine Met.ofW (cc := cX1_blobOf) (maxL := 4) (ret := (some .int)) (by decide) rfl ?_
  intro p e s m args below meth c s₁ B hml hv
  obtain ⟨rfl, hsz, hP, hK, hD0⟩ := hv
  have hx := B.exec
  have hb := B.bytes
  have hr := B.returns
  have hts := atoms_spec (ws := wsX1_blobOf) B.pre
  have hown : s.vm.findClass RX1 = some m.cls := findClass_of_methodNamed B.named
  have hlocks := B.notSynchronized
  subst hsz
  have htg : ∀ w ∈ GW, w.before _ s = true := fun w h => hts w (List.mem_cons_of_mem _ h)
  have hD := hD0
  have hA : ∀ q : Nat, s.heap.size ≤ q → (fun q => s.heap.size ≤ q) q := fun _ h => h
  have hS : va_S (fun q => s.heap.size ≤ q) s.heap s.heap [] := va_S.rf
  have hl := lv_entry [.ref (h 0), .long d] (n := 4) (Nat.le_of_ble_eq_true rfl)
  rw [lg_entry_eq]
  generalize (lg_sl [.ref (h 0), .long d] ++ List.replicate (4 - (lg_sl [.ref (h 0), .long d]).length) Slot.unset).toArray = ls at hl ⊢
  have hl : lv_has ls 4 [(0, .ref (h 0)), (1, .long d)] := hl
  have hP : va_P (dC, dI) vwCl (wBM cI cJ cZ h σ) s.heap := hP
  refine lv_iconst (v := nI 0) hx hb dX1_blobOf_0 (by decide) ?_
  refine lv_istore_n (lv' := [(3, .int (nI 0)), (0, .ref (h 0)), (1, .long d)]) hx hb dX1_blobOf_1 rfl hl (by decide) rfl (fun ls hl => ?_)
  have loop : ∀ (fu i : Nat), i ≤ kgBl σ → kgBl σ < i + fu → fnd (kgDG σ) d i = none → ∀ (H : Heap) (locs : List Loc), va_P (dC, dI) vwCl (wBM cI cJ cZ h σ) H → va_S (fun q => s.heap.size ≤ q) s.heap H locs → ∀ (ls : Array Slot), lv_has ls 4 [(3, .int (nI i)), (0, .ref (h 0)), (1, .long d)] → W p l e (headSpec wsX1_blobOf ({ frames := 0, cells := 0, slots := 0, locals := 0 } : Room)).room s m ([.ref (h 0), .long d].toArray) below meth c H locs 0 0 (MQ below (va_Qi (fun (r' : Int32) (_ : Unit) => r' = (optI (fnd (kgDG σ) d (kgBl σ)))) (fun _ _ => True) (fun q => s.heap.size ≤ q)) ([.ref (h 0), .long d].toArray) s 0 0 (fun q => s.heap.size ≤ q)) (F0 m 2 ls []) := by
    intro fu
    induction fu with
    | zero => intro i h1 h2; exact absurd h2 (by omega)
    | succ fu ih =>
      intro i hi hin h0 H locs hP hS ls hl
      refine lv_iload_n hx hb dX1_blobOf_2 rfl (lv_at hl 0 rfl) ?_
      refine lv_aload_n hx hb dX1_blobOf_3 rfl (lv_at hl 1 rfl) ?_
      refine va_get (D := (dC, dI)) (ci := 1) (v := .int (nI (kgBl σ))) (C := RX1) (T := TX1) (N := 18) hx hb htg inX1 (fs := fsBM h σ) hown hK hP 0 rfl rfl 6 (by decide) (htg _ fX1_72) (fun _ h9 => h9) rfl dX1_blobOf_4 ?_
      refine xr_icmp_ge (tgt := 29) hx hb dX1_blobOf_7 (by decide) (by omega) (by omega) (fun c7 => ?_) (fun c7 => ?_)
      · refine lv_iconst (v := -1) hx hb dX1_blobOf_29 (by decide) ?_
        exact W.iret (v := -1) hx hb hr (fun t ht hW => ⟨⟨_, (), rfl, by rw [← show i = kgBl σ by omega, h0]; rfl, trivial⟩, hS.F ht⟩) hS.2.2 dX1_blobOf_30
      · refine lv_aload_n hx hb dX1_blobOf_10 rfl (lv_at hl 1 rfl) ?_
        refine va_get (D := (dC, dI)) (ci := 1) (v := .ref (h 2)) (C := RX1) (T := TX1) (N := 18) hx hb htg inX1 (fs := fsBM h σ) hown hK hP 0 rfl rfl 3 (by decide) (htg _ fX1_13) (fun _ h9 => h9) rfl dX1_blobOf_11 ?_
        refine lv_iload_n hx hb dX1_blobOf_14 rfl (lv_at hl 0 rfl) ?_
        refine xr_lald (f := kgDG σ) (i := i) hx hb hK hP 2 1 rfl rfl (by omega) (by decide) dX1_blobOf_15 ?_
        refine lv_lload_n hx hb dX1_blobOf_16 rfl (lv_at hl 2 rfl) ?_
        refine xr_lcmp_ne (tgt := 23) hx hb dX1_blobOf_17 dX1_blobOf_18 (by decide) (fun c17 => ?_) (fun c17 => ?_)
        · refine lv_iinc (v := nI (i + 1)) (lv' := [(3, .int (nI (i + 1))), (0, .ref (h 0)), (1, .long d)]) hx hb dX1_blobOf_23 hl (k := 0) rfl (nI_add _ 1) (by decide) rfl (fun ls hl => ?_)
          refine lv_goto (tgt := 2) hx hb dX1_blobOf_26 (by decide) ?_
          exact ih (i + 1) (by omega) (by omega) (fnd_miss h0 c17) H locs hP hS ls (lv_sub hl [0, 1, 2] rfl)
        · refine lv_iload_n hx hb dX1_blobOf_21 rfl (lv_at hl 0 rfl) ?_
          exact W.iret (v := nI i) hx hb hr (fun t ht hW => ⟨⟨_, (), rfl, by rw [fnd_hit h0 c17 c7]; rfl, trivial⟩, hS.F ht⟩) hS.2.2 dX1_blobOf_22
  exact loop (kgBl σ + 1) 0 (by omega) (by omega) (rfl) _ _ hP hS ls (lv_sub hl [0, 1, 2] rfl)
set_option maxRecDepth 100000 in
set_option maxHeartbeats 4000000 in
theorem m_keyOf (l : Launch) (σ : BM) (d : Int64) (hc : kgKn σ ≤ 16) : rMi l yX1_keyOf wsX1_keyOf ({ frames := 0, cells := 0, slots := 0, locals := 0 } : Room) σ [.long d] (optI (fnd (kgKS σ) d (kgKn σ))) := by
  intro dC dI cI cJ cZ h sz
  refine Met.ofW (cc := cX1_keyOf) (maxL := 4) (ret := (some .int)) (by decide) rfl ?_
  intro p e s m args below meth c s₁ B hml hv
  obtain ⟨rfl, hsz, hP, hK, hD0⟩ := hv
  have hx := B.exec
  have hb := B.bytes
  have hr := B.returns
  have hts := atoms_spec (ws := wsX1_keyOf) B.pre
  have hown : s.vm.findClass RX1 = some m.cls := findClass_of_methodNamed B.named
  have hlocks := B.notSynchronized
  subst hsz
  have htg : ∀ w ∈ GW, w.before _ s = true := fun w h => hts w (List.mem_cons_of_mem _ h)
  have hD := hD0
  have hA : ∀ q : Nat, s.heap.size ≤ q → (fun q => s.heap.size ≤ q) q := fun _ h => h
  have hS : va_S (fun q => s.heap.size ≤ q) s.heap s.heap [] := va_S.rf
  have hl := lv_entry [.ref (h 0), .long d] (n := 4) (Nat.le_of_ble_eq_true rfl)
  rw [lg_entry_eq]
  generalize (lg_sl [.ref (h 0), .long d] ++ List.replicate (4 - (lg_sl [.ref (h 0), .long d]).length) Slot.unset).toArray = ls at hl ⊢
  have hl : lv_has ls 4 [(0, .ref (h 0)), (1, .long d)] := hl
  have hP : va_P (dC, dI) vwCl (wBM cI cJ cZ h σ) s.heap := hP
  refine lv_iconst (v := nI 0) hx hb dX1_keyOf_0 (by decide) ?_
  refine lv_istore_n (lv' := [(3, .int (nI 0)), (0, .ref (h 0)), (1, .long d)]) hx hb dX1_keyOf_1 rfl hl (by decide) rfl (fun ls hl => ?_)
  have loop : ∀ (fu i : Nat), i ≤ kgKn σ → kgKn σ < i + fu → fnd (kgKS σ) d i = none → ∀ (H : Heap) (locs : List Loc), va_P (dC, dI) vwCl (wBM cI cJ cZ h σ) H → va_S (fun q => s.heap.size ≤ q) s.heap H locs → ∀ (ls : Array Slot), lv_has ls 4 [(3, .int (nI i)), (0, .ref (h 0)), (1, .long d)] → W p l e (headSpec wsX1_keyOf ({ frames := 0, cells := 0, slots := 0, locals := 0 } : Room)).room s m ([.ref (h 0), .long d].toArray) below meth c H locs 0 0 (MQ below (va_Qi (fun (r' : Int32) (_ : Unit) => r' = (optI (fnd (kgKS σ) d (kgKn σ)))) (fun _ _ => True) (fun q => s.heap.size ≤ q)) ([.ref (h 0), .long d].toArray) s 0 0 (fun q => s.heap.size ≤ q)) (F0 m 2 ls []) := by
    intro fu
    induction fu with
    | zero => intro i h1 h2; exact absurd h2 (by omega)
    | succ fu ih =>
      intro i hi hin h0 H locs hP hS ls hl
      refine lv_iload_n hx hb dX1_keyOf_2 rfl (lv_at hl 0 rfl) ?_
      refine lv_aload_n hx hb dX1_keyOf_3 rfl (lv_at hl 1 rfl) ?_
      refine va_get (D := (dC, dI)) (ci := 1) (v := .int (nI (kgKn σ))) (C := RX1) (T := TX1) (N := 18) hx hb htg inX1 (fs := fsBM h σ) hown hK hP 0 rfl rfl 11 (by decide) (htg _ fX1_75) (fun _ h9 => h9) rfl dX1_keyOf_4 ?_
      refine xr_icmp_ge (tgt := 29) hx hb dX1_keyOf_7 (by decide) (by omega) (by omega) (fun c7 => ?_) (fun c7 => ?_)
      · refine lv_iconst (v := -1) hx hb dX1_keyOf_29 (by decide) ?_
        exact W.iret (v := -1) hx hb hr (fun t ht hW => ⟨⟨_, (), rfl, by rw [← show i = kgKn σ by omega, h0]; rfl, trivial⟩, hS.F ht⟩) hS.2.2 dX1_keyOf_30
      · refine lv_aload_n hx hb dX1_keyOf_10 rfl (lv_at hl 1 rfl) ?_
        refine va_get (D := (dC, dI)) (ci := 1) (v := .ref (h 7)) (C := RX1) (T := TX1) (N := 18) hx hb htg inX1 (fs := fsBM h σ) hown hK hP 0 rfl rfl 9 (by decide) (htg _ fX1_30) (fun _ h9 => h9) rfl dX1_keyOf_11 ?_
        refine lv_iload_n hx hb dX1_keyOf_14 rfl (lv_at hl 0 rfl) ?_
        refine xr_lald (f := kgKS σ) (i := i) hx hb hK hP 7 1 rfl rfl (by omega) (by decide) dX1_keyOf_15 ?_
        refine lv_lload_n hx hb dX1_keyOf_16 rfl (lv_at hl 2 rfl) ?_
        refine xr_lcmp_ne (tgt := 23) hx hb dX1_keyOf_17 dX1_keyOf_18 (by decide) (fun c17 => ?_) (fun c17 => ?_)
        · refine lv_iinc (v := nI (i + 1)) (lv' := [(3, .int (nI (i + 1))), (0, .ref (h 0)), (1, .long d)]) hx hb dX1_keyOf_23 hl (k := 0) rfl (nI_add _ 1) (by decide) rfl (fun ls hl => ?_)
          refine lv_goto (tgt := 2) hx hb dX1_keyOf_26 (by decide) ?_
          exact ih (i + 1) (by omega) (by omega) (fnd_miss h0 c17) H locs hP hS ls (lv_sub hl [0, 1, 2] rfl)
        · refine lv_iload_n hx hb dX1_keyOf_21 rfl (lv_at hl 0 rfl) ?_
          exact W.iret (v := nI i) hx hb hr (fun t ht hW => ⟨⟨_, (), rfl, by rw [fnd_hit h0 c17 c7]; rfl, trivial⟩, hS.F ht⟩) hS.2.2 dX1_keyOf_22
  exact loop (kgKn σ + 1) 0 (by omega) (by omega) (rfl) _ _ hP hS ls (lv_sub hl [0, 1, 2] rfl)
set_option maxRecDepth 100000 in
set_option maxHeartbeats 4000000 in
theorem m_hasRoom (l : Launch) (σ : BM) (hs : kgSz σ ≤ 700) (hl7 : kgLe σ ≤ 700) : rMi l yX1_hasRoom wsX1_hasRoom ({ frames := 0, cells := 0, slots := 0, locals := 0 } : Room) σ [] (bI (decide (kgSz σ + kgLe σ + 4 ≤ 700))) := by
  intro dC dI cI cJ cZ h sz
  refine Met.ofW (cc := cX1_hasRoom) (maxL := 1) (ret := (some .boolean)) (by decide) rfl ?_
  intro p e s m args below meth c s₁ B hml hv
  obtain ⟨rfl, hsz, hP, hK, hD0⟩ := hv
  have hx := B.exec
  have hb := B.bytes
  have hr := B.returns
  have hts := atoms_spec (ws := wsX1_hasRoom) B.pre
  have hown : s.vm.findClass RX1 = some m.cls := findClass_of_methodNamed B.named
  have hlocks := B.notSynchronized
  subst hsz
  have htg : ∀ w ∈ GW, w.before _ s = true := fun w h => hts w (List.mem_cons_of_mem _ h)
  have hD := hD0
  have hA : ∀ q : Nat, s.heap.size ≤ q → (fun q => s.heap.size ≤ q) q := fun _ h => h
  have hS : va_S (fun q => s.heap.size ≤ q) s.heap s.heap [] := va_S.rf
  have hl := lv_entry [.ref (h 0)] (n := 1) (Nat.le_of_ble_eq_true rfl)
  rw [lg_entry_eq]
  generalize (lg_sl [.ref (h 0)] ++ List.replicate (1 - (lg_sl [.ref (h 0)]).length) Slot.unset).toArray = ls at hl ⊢
  have hl : lv_has ls 1 [(0, .ref (h 0))] := hl
  have hP : va_P (dC, dI) vwCl (wBM cI cJ cZ h σ) s.heap := hP
  refine lv_aload_n hx hb dX1_hasRoom_0 rfl (lv_at hl 0 rfl) ?_
  refine va_get (D := (dC, dI)) (ci := 1) (v := .int (nI (kgSz σ))) (C := RX1) (T := TX1) (N := 18) hx hb htg inX1 (fs := fsBM h σ) hown hK hP 0 rfl rfl 14 (by decide) (htg _ fX1_80) (fun _ h9 => h9) rfl dX1_hasRoom_1 ?_
  refine lv_aload_n hx hb dX1_hasRoom_4 rfl (lv_at hl 0 rfl) ?_
  refine va_get (D := (dC, dI)) (ci := 1) (v := .int (nI (kgLe σ))) (C := RX1) (T := TX1) (N := 18) hx hb htg inX1 (fs := fsBM h σ) hown hK hP 0 rfl rfl 17 (by decide) (htg _ fX1_65) (fun _ h9 => h9) rfl dX1_hasRoom_5 ?_
  refine xr_iadd hx hb dX1_hasRoom_8 ?_
  refine lv_iconst (v := nI 4) hx hb dX1_hasRoom_9 (by decide) ?_
  refine xr_iadd hx hb dX1_hasRoom_10 ?_
  refine lv_sipush (v := nI 700) hx hb dX1_hasRoom_11 (by decide) ?_
  refine xr_icmp_gt (tgt := 21) hx hb dX1_hasRoom_14 (by decide) (by omega) (by omega) (fun c14 => ?_) (fun c14 => ?_)
  · refine lv_iconst (v := nI 0) hx hb dX1_hasRoom_21 (by decide) ?_
    exact W.zret (ty := .boolean) (v := nI 0) hx hb hr (by first | rfl | decide | exact bI_nar _) (fun t ht hW => ⟨⟨_, (), rfl, by rw [decide_eq_false (by omega)]; rfl, trivial⟩, hS.F ht⟩) hS.2.2 dX1_hasRoom_22
  · refine lv_iconst (v := nI 1) hx hb dX1_hasRoom_17 (by decide) ?_
    refine lv_goto (tgt := 22) hx hb dX1_hasRoom_18 (by decide) ?_
    exact W.zret (ty := .boolean) (v := nI 1) hx hb hr (by first | rfl | decide | exact bI_nar _) (fun t ht hW => ⟨⟨_, (), rfl, by rw [decide_eq_true c14]; rfl, trivial⟩, hS.F ht⟩) hS.2.2 dX1_hasRoom_22
set_option maxRecDepth 100000 in
set_option maxHeartbeats 4000000 in
theorem m_eight (l : Launch) (σ : BM) (a : Nat) (ha : a + 7 < 700) : rMl l yX1_eight wsX1_eight ({ frames := 0, cells := 0, slots := 0, locals := 0 } : Room) σ [.int (nI a)] (longAt (kgRC σ) a) := by
  intro dC dI cI cJ cZ h sz
  refine Met.ofW (cc := cX1_eight) (maxL := 5) (ret := (some .long)) (by decide) rfl ?_
  intro p e s m args below meth c s₁ B hml hv
  obtain ⟨rfl, hsz, hP, hK, hD0⟩ := hv
  have hx := B.exec
  have hb := B.bytes
  have hr := B.returns
  have hts := atoms_spec (ws := wsX1_eight) B.pre
  have hown : s.vm.findClass RX1 = some m.cls := findClass_of_methodNamed B.named
  have hlocks := B.notSynchronized
  subst hsz
  have htg : ∀ w ∈ GW, w.before _ s = true := fun w h => hts w (List.mem_cons_of_mem _ h)
  have hD := hD0
  have hA : ∀ q : Nat, s.heap.size ≤ q → (fun q => s.heap.size ≤ q) q := fun _ h => h
  have hS : va_S (fun q => s.heap.size ≤ q) s.heap s.heap [] := va_S.rf
  have hl := lv_entry [.ref (h 0), .int (nI a)] (n := 5) (Nat.le_of_ble_eq_true rfl)
  rw [lg_entry_eq]
  generalize (lg_sl [.ref (h 0), .int (nI a)] ++ List.replicate (5 - (lg_sl [.ref (h 0), .int (nI a)]).length) Slot.unset).toArray = ls at hl ⊢
  have hl : lv_has ls 5 [(0, .ref (h 0)), (1, .int (nI a))] := hl
  have hP : va_P (dC, dI) vwCl (wBM cI cJ cZ h σ) s.heap := hP
  refine lv_lconst (v := 0) hx hb dX1_eight_0 (by decide) ?_
  refine lv_lstore_n (lv' := [(2, .long 0), (0, .ref (h 0)), (1, .int (nI a))]) hx hb dX1_eight_1 rfl hl (by decide) rfl (fun ls hl => ?_)
  refine lv_bipush (v := nI 7) hx hb dX1_eight_2 (by decide) ?_
  refine lv_istore (lv' := [(4, .int (nI 7)), (2, .long 0), (0, .ref (h 0)), (1, .int (nI a))]) hx hb dX1_eight_4 hl (by decide) rfl (fun ls hl => ?_)
  have loop : ∀ (n i k : Nat) (x : Int64), i < n → i + k = 8 → x = laL (kgRC σ) a k → ∀ (H : Heap) (locs : List Loc), va_P (dC, dI) vwCl (wBM cI cJ cZ h σ) H → va_S (fun q => s.heap.size ≤ q) s.heap H locs → ∀ (ls : Array Slot), lv_has ls 5 [(4, .int (nI i - 1)), (2, .long x), (0, .ref (h 0)), (1, .int (nI a))] → W p l e (headSpec wsX1_eight ({ frames := 0, cells := 0, slots := 0, locals := 0 } : Room)).room s m ([.ref (h 0), .int (nI a)].toArray) below meth c H locs 0 0 (MQ below (va_Ql (fun (r' : Int64) (_ : Unit) => r' = (longAt (kgRC σ) a)) (fun _ _ => True) (fun q => s.heap.size ≤ q)) ([.ref (h 0), .int (nI a)].toArray) s 0 0 (fun q => s.heap.size ≤ q)) (F0 m 6 ls []) := by
    intro n
    induction n with
    | zero => intro i k x h1; exact absurd h1 (by omega)
    | succ n ih =>
      intro i k x hin hik e3 H locs hP hS ls hl
      cases i with
      | zero =>
        have hl : lv_has ls 5 [(4, .int (-1)), (2, .long x), (0, .ref (h 0)), (1, .int (nI a))] := hl
        refine lv_iload hx hb dX1_eight_6 (lv_at hl 0 rfl) ?_
        refine lv_if_lt (tgt := 33) hx hb dX1_eight_8 (by decide) (fun c8 => ?_) (fun c8 => absurd c8 (by decide))
        refine lv_lload_n hx hb dX1_eight_33 rfl (lv_at hl 1 rfl) ?_
        exact W.lret (v := x) hx hb hr (fun t ht hW => ⟨⟨_, (), rfl, by rw [e3, show k = 8 by omega]; rfl, trivial⟩, hS.F ht⟩) hS.2.2 dX1_eight_34
      | succ i =>
        have hl : lv_has ls 5 [(4, .int (nI i)), (2, .long x), (0, .ref (h 0)), (1, .int (nI a))] := by rw [nI_pred] at hl; exact hl
        refine lv_iload hx hb dX1_eight_6 (lv_at hl 0 rfl) ?_
        refine lv_if_lt (tgt := 33) hx hb dX1_eight_8 (by decide) (fun c8 => absurd c8 (by exact nI_pos (by omega))) (fun c8 => ?_)
        refine lv_lload_n hx hb dX1_eight_11 rfl (lv_at hl 1 rfl) ?_
        refine lv_bipush (v := nI 8) hx hb dX1_eight_12 (by decide) ?_
        refine lv_lshl (v := x <<< (((nI 8)).toInt64 &&& 63)) hx hb dX1_eight_14 rfl ?_
        refine lv_aload_n hx hb dX1_eight_15 rfl (lv_at hl 2 rfl) ?_
        refine va_get (D := (dC, dI)) (ci := 1) (v := .ref (h 11)) (C := RX1) (T := TX1) (N := 18) hx hb htg inX1 (fs := fsBM h σ) hown hK hP 0 rfl rfl 16 (by decide) (htg _ fX1_42) (fun _ h9 => h9) rfl dX1_eight_16 ?_
        refine lv_iload_n hx hb dX1_eight_19 rfl (lv_at hl 3 rfl) ?_
        refine lv_iload hx hb dX1_eight_20 (lv_at hl 0 rfl) ?_
        refine xr_iadd hx hb dX1_eight_22 ?_
        refine xr_iald (f := kgRC σ) (i := a + i) hx hb hK hP 11 0 rfl rfl (by omega) (by decide) dX1_eight_23 ?_
        refine lv_i2l (v := ((kgRC σ) (a + i)).toInt64) hx hb dX1_eight_24 rfl ?_
        refine lv_lor hx hb dX1_eight_25 ?_
        refine lv_lstore_n (lv' := [(2, .long ((x <<< (((nI 8)).toInt64 &&& 63)) ||| (((kgRC σ) (a + i)).toInt64))), (4, .int (nI i)), (0, .ref (h 0)), (1, .int (nI a))]) hx hb dX1_eight_26 rfl hl (by decide) rfl (fun ls hl => ?_)
        refine lv_iinc (v := nI i - 1) (lv' := [(4, .int (nI i - 1)), (2, .long ((x <<< (((nI 8)).toInt64 &&& 63)) ||| (((kgRC σ) (a + i)).toInt64))), (0, .ref (h 0)), (1, .int (nI a))]) hx hb dX1_eight_27 hl (k := 1) rfl (by rw [Int32.sub_eq_add_neg]; rfl) (by decide) rfl (fun ls hl => ?_)
        refine lv_goto (tgt := 6) hx hb dX1_eight_30 (by decide) ?_
        exact ih i (k + 1) ((x <<< (((nI 8)).toInt64 &&& 63)) ||| (((kgRC σ) (a + i)).toInt64)) (by omega) (by omega) (by rw [e3]; show _ = (_ <<< _) ||| _; rw [show 7 - k = i by omega]) H locs hP hS ls (lv_sub hl [0, 1, 2, 3] rfl)
  exact loop 9 8 0 0 (by omega) (by omega) rfl _ _ hP hS ls (by have hl := lv_sub hl [0, 1, 2, 3] rfl; exact hl)
set_option maxRecDepth 100000 in
set_option maxHeartbeats 4000000 in
theorem m_next (l : Launch) (σ : BM) (v : Int64) (n : Nat) (hn : kgLe σ + n ≤ 700) (h8 : n ≤ 8) : wMv l yX1_next wsX1_next ({ frames := 0, cells := 0, slots := 0, locals := 0 } : Room) σ [.long v, .int (nI n)] (nxSt σ v n) := by
  intro dC dI cI cJ cZ h sz
  refine Met.ofW (cc := cX1_next) (maxL := 5) (ret := none) (by decide) rfl ?_
  intro p e s m args below meth c s₁ B hml hv
  obtain ⟨rfl, hsz, hP, hK, hD0⟩ := hv
  have hx := B.exec
  have hb := B.bytes
  have hr := B.returns
  have hts := atoms_spec (ws := wsX1_next) B.pre
  have hown : s.vm.findClass RX1 = some m.cls := findClass_of_methodNamed B.named
  have hlocks := B.notSynchronized
  subst hsz
  have htg : ∀ w ∈ GW, w.before _ s = true := fun w h => hts w (List.mem_cons_of_mem _ h)
  have hD := hD0.self (sz := s.heap.size)
  generalize hAe : va_A (wBM cI cJ cZ h σ) s.heap.size = A at hD ⊢
  have hA : ∀ q : Nat, s.heap.size ≤ q → A q := fun q h => by rw [← hAe]; exact Or.inr h
  have hS : va_S A s.heap s.heap [] := va_S.rf
  have hl := lv_entry [.ref (h 0), .long v, .int (nI n)] (n := 5) (Nat.le_of_ble_eq_true rfl)
  rw [lg_entry_eq]
  generalize (lg_sl [.ref (h 0), .long v, .int (nI n)] ++ List.replicate (5 - (lg_sl [.ref (h 0), .long v, .int (nI n)]).length) Slot.unset).toArray = ls at hl ⊢
  have hl : lv_has ls 5 [(0, .ref (h 0)), (1, .long v), (3, .int (nI n))] := hl
  have hP : va_P (dC, dI) vwCl (wBM cI cJ cZ h σ) s.heap := hP
  refine lv_iconst (v := nI 0) hx hb dX1_next_0 (by decide) ?_
  refine lv_istore (lv' := [(4, .int (nI 0)), (0, .ref (h 0)), (1, .long v), (3, .int (nI n))]) hx hb dX1_next_1 hl (by decide) rfl (fun ls hl => ?_)
  have loop : ∀ (fu i : Nat) (z : BM), i ≤ n → n < i + fu → z = nxSt σ v i → ∀ (H : Heap) (locs : List Loc), va_P (dC, dI) vwCl (wBM cI cJ cZ h z) H → va_D A (wBM cI cJ cZ h z) → va_S A s.heap H locs → ∀ (ls : Array Slot), lv_has ls 5 [(4, .int (nI i)), (0, .ref (h 0)), (1, .long v), (3, .int (nI n))] → W p l e (headSpec wsX1_next ({ frames := 0, cells := 0, slots := 0, locals := 0 } : Room)).room s m ([.ref (h 0), .long v, .int (nI n)].toArray) below meth c H locs 0 0 (MQ below (va_Qv (fun (_ : Unit) => True) (fun _ => aBM dC dI cI cJ cZ h A (nxSt σ v n)) A) ([.ref (h 0), .long v, .int (nI n)].toArray) s 0 0 A) (F0 m 3 ls []) := by
    intro fu
    induction fu with
    | zero => intro i z h1 h2; exact absurd h2 (by omega)
    | succ fu ih =>
      intro i z hi hin ez H locs hP hD hS ls hl
      refine lv_iload hx hb dX1_next_3 (lv_at hl 0 rfl) ?_
      refine lv_iload_n hx hb dX1_next_5 rfl (lv_at hl 3 rfl) ?_
      refine xr_icmp_ge (tgt := 46) hx hb dX1_next_6 (by decide) (by omega) (by omega) (fun c6 => ?_) (fun c6 => ?_)
      · have hfin : z = nxSt σ v n := by rw [ez, show i = n by omega]
        rw [hfin] at hP hD
        exact W.vret hx hb hr (fun t ht hW => ⟨⟨(), rfl, trivial, by rw [ht]; exact hP, va_K.moved hW.alike hK, hD⟩, hS.F ht⟩) hS.2.2 dX1_next_46
      · refine lv_aload_n hx hb dX1_next_9 rfl (lv_at hl 1 rfl) ?_
        have hLe : kgLe z = kgLe σ + i := by rw [ez]; rfl
        refine va_get (D := (dC, dI)) (ci := 1) (v := .ref (h 11)) (C := RX1) (T := TX1) (N := 18) hx hb htg inX1 (fs := fsBM h z) hown hK hP 0 rfl rfl 16 (by decide) (htg _ fX1_42) (fun _ h9 => h9) rfl dX1_next_10 ?_
        refine lv_aload_n hx hb dX1_next_13 rfl (lv_at hl 1 rfl) ?_
        refine va_get (D := (dC, dI)) (ci := 1) (v := .int (nI (kgLe z))) (C := RX1) (T := TX1) (N := 18) hx hb htg inX1 (fs := fsBM h z) hown hK hP 0 rfl rfl 17 (by decide) (htg _ fX1_65) (fun _ h9 => h9) rfl dX1_next_14 ?_
        refine lv_lload_n hx hb dX1_next_17 rfl (lv_at hl 2 rfl) ?_
        refine lv_bipush (v := nI 8) hx hb dX1_next_18 (by decide) ?_
        refine lv_iload hx hb dX1_next_20 (lv_at hl 0 rfl) ?_
        refine xr_imul hx hb dX1_next_22 ?_
        refine lv_lshr (v := v >>> (((nI (8 * i))).toInt64 &&& 63)) hx hb dX1_next_23 rfl ?_
        refine lv_ldc2 hx hb hown (htg _ qX1_78) dX1_next_24 ?_
        refine lv_land hx hb dX1_next_27 ?_
        refine lv_l2i (v := ((v >>> (((nI (8 * i))).toInt64 &&& 63)) &&& 255).toInt32) hx hb dX1_next_28 rfl ?_
        refine xr_iast (f := kgRC z) (i := kgLe z) (x := ((v >>> (((nI (8 * i))).toInt64 &&& 63)) &&& 255).toInt32) hx hb hK hP hD hS 11 0 rfl rfl (by omega) (by decide) dX1_next_29 (fun H locs hP hD hS => ?_)
        rw [wBM_RC] at hP hD
        refine lv_aload_n hx hb dX1_next_30 rfl (lv_at hl 1 rfl) ?_
        refine lv_dup hx hb dX1_next_31 rfl ?_
        refine va_get (D := (dC, dI)) (ci := 1) (v := .int (nI (kgLe z))) (C := RX1) (T := TX1) (N := 18) hx hb htg inX1 (fs := fsBM h (kuRC z (upd (kgRC z) (kgLe z) (((v >>> (((nI (8 * i))).toInt64 &&& 63)) &&& 255).toInt32)))) hown hK hP 0 rfl rfl 17 (by decide) (htg _ fX1_65) (fun _ h9 => h9) rfl dX1_next_32 ?_
        refine lv_iconst (v := nI 1) hx hb dX1_next_35 (by decide) ?_
        refine xr_iadd hx hb dX1_next_36 ?_
        refine va_put (D := (dC, dI)) (ci := 1) (v := .int (nI (kgLe z + 1))) (ty := .int) (C := RX1) (T := TX1) (N := 18) hx hb htg inX1 tyX1 tyX1_ok nmX1 (fs := fsBM h (kuRC z (upd (kgRC z) (kgLe z) (((v >>> (((nI (8 * i))).toInt64 &&& 63)) &&& 255).toInt32)))) hown hK hP hD hS 0 rfl rfl 17 (by decide) (htg _ fX1_65) (fun _ h9 => h9) rfl (by decide +kernel) rfl rfl (Nat.le_of_ble_eq_true rfl) dX1_next_37 (fun H locs hP hD hS => ?_)
        rw [wBM_Le] at hP hD
        refine lv_iinc (v := nI (i + 1)) (lv' := [(4, .int (nI (i + 1))), (0, .ref (h 0)), (1, .long v), (3, .int (nI n))]) hx hb dX1_next_40 hl (k := 0) rfl (nI_add _ 1) (by decide) rfl (fun ls hl => ?_)
        refine lv_goto (tgt := 3) hx hb dX1_next_43 (by decide) ?_
        exact ih (i + 1) (kuLe (kuRC z (upd (kgRC z) (kgLe z) (((v >>> (((nI (8 * i))).toInt64 &&& 63)) &&& 255).toInt32))) (kgLe z + 1)) (by omega) (by omega) (by rw [ez]; exact nxSt_step σ v i) H locs hP hD hS ls (lv_sub hl [0, 1, 2, 3] rfl)
  exact loop (n + 1) 0 σ (by omega) (by omega) ((nxSt_0 σ v).symm) _ _ hP hD hS ls (lv_sub hl [0, 1, 2, 3] rfl)
set_option maxRecDepth 100000 in
set_option maxHeartbeats 4000000 in
theorem m_write (l : Launch) (σ : BM) (k : Int32) (hw : kgSz σ + kgLe σ + 4 ≤ 700) : wMv l yX1_write wsX1_write ({ frames := 0, cells := 0, slots := 0, locals := 0 } : Room) σ [.int k] (wrM σ k) := by
  intro dC dI cI cJ cZ h sz
  refine Met.ofW (cc := cX1_write) (maxL := 5) (ret := none) (by decide) rfl ?_
  intro p e s m args below meth c s₁ B hml hv
  obtain ⟨rfl, hsz, hP, hK, hD0⟩ := hv
  have hx := B.exec
  have hb := B.bytes
  have hr := B.returns
  have hts := atoms_spec (ws := wsX1_write) B.pre
  have hown : s.vm.findClass RX1 = some m.cls := findClass_of_methodNamed B.named
  have hlocks := B.notSynchronized
  subst hsz
  have htg : ∀ w ∈ GW, w.before _ s = true := fun w h => hts w (List.mem_cons_of_mem _ h)
  have hD := hD0.self (sz := s.heap.size)
  generalize hAe : va_A (wBM cI cJ cZ h σ) s.heap.size = A at hD ⊢
  have hA : ∀ q : Nat, s.heap.size ≤ q → A q := fun q h => by rw [← hAe]; exact Or.inr h
  have hS : va_S A s.heap s.heap [] := va_S.rf
  have hl := lv_entry [.ref (h 0), .int k] (n := 5) (Nat.le_of_ble_eq_true rfl)
  rw [lg_entry_eq]
  generalize (lg_sl [.ref (h 0), .int k] ++ List.replicate (5 - (lg_sl [.ref (h 0), .int k]).length) Slot.unset).toArray = ls at hl ⊢
  have hl : lv_has ls 5 [(0, .ref (h 0)), (1, .int k)] := hl
  have hP : va_P (dC, dI) vwCl (wBM cI cJ cZ h σ) s.heap := hP
  refine lv_aload_n hx hb dX1_write_0 rfl (lv_at hl 0 rfl) ?_
  refine va_get (D := (dC, dI)) (ci := 1) (v := .int (nI (kgSz σ))) (C := RX1) (T := TX1) (N := 18) hx hb htg inX1 (fs := fsBM h σ) hown hK hP 0 rfl rfl 14 (by decide) (htg _ fX1_80) (fun _ h9 => h9) rfl dX1_write_1 ?_
  refine lv_istore_n (lv' := [(2, .int (nI (kgSz σ))), (0, .ref (h 0)), (1, .int k)]) hx hb dX1_write_4 rfl hl (by decide) rfl (fun ls hl => ?_)
  refine lv_aload_n hx hb dX1_write_5 rfl (lv_at hl 1 rfl) ?_
  refine va_get (D := (dC, dI)) (ci := 1) (v := .ref (h 10)) (C := RX1) (T := TX1) (N := 18) hx hb htg inX1 (fs := fsBM h σ) hown hK hP 0 rfl rfl 13 (by decide) (htg _ fX1_39) (fun _ h9 => h9) rfl dX1_write_6 ?_
  refine lv_aload_n hx hb dX1_write_9 rfl (lv_at hl 1 rfl) ?_
  refine va_get (D := (dC, dI)) (ci := 1) (v := .int (nI (kgSz σ))) (C := RX1) (T := TX1) (N := 18) hx hb htg inX1 (fs := fsBM h σ) hown hK hP 0 rfl rfl 14 (by decide) (htg _ fX1_80) (fun _ h9 => h9) rfl dX1_write_10 ?_
  refine lv_iload_n hx hb dX1_write_13 rfl (lv_at hl 2 rfl) ?_
  refine xr_iast (f := kgJR σ) (i := kgSz σ) (x := k) hx hb hK hP hD hS 10 0 rfl rfl (by omega) (by decide) dX1_write_14 (fun H locs hP hD hS => ?_)
  rw [wBM_JR] at hP hD
  refine lv_aload_n hx hb dX1_write_15 rfl (lv_at hl 1 rfl) ?_
  refine va_get (D := (dC, dI)) (ci := 1) (v := .ref (h 10)) (C := RX1) (T := TX1) (N := 18) hx hb htg inX1 (fs := fsBM h (kuJR σ (upd (kgJR σ) (kgSz σ) k))) hown hK hP 0 rfl rfl 13 (by decide) (htg _ fX1_39) (fun _ h9 => h9) rfl dX1_write_16 ?_
  refine lv_aload_n hx hb dX1_write_19 rfl (lv_at hl 1 rfl) ?_
  refine va_get (D := (dC, dI)) (ci := 1) (v := .int (nI (kgSz σ))) (C := RX1) (T := TX1) (N := 18) hx hb htg inX1 (fs := fsBM h (kuJR σ (upd (kgJR σ) (kgSz σ) k))) hown hK hP 0 rfl rfl 14 (by decide) (htg _ fX1_80) (fun _ h9 => h9) rfl dX1_write_20 ?_
  refine lv_iconst (v := nI 1) hx hb dX1_write_23 (by decide) ?_
  refine xr_iadd hx hb dX1_write_24 ?_
  refine lv_aload_n hx hb dX1_write_25 rfl (lv_at hl 1 rfl) ?_
  refine va_get (D := (dC, dI)) (ci := 1) (v := .int (nI (kgLe σ))) (C := RX1) (T := TX1) (N := 18) hx hb htg inX1 (fs := fsBM h (kuJR σ (upd (kgJR σ) (kgSz σ) k))) hown hK hP 0 rfl rfl 17 (by decide) (htg _ fX1_65) (fun _ h9 => h9) rfl dX1_write_26 ?_
  refine lv_sipush (v := nI 255) hx hb dX1_write_29 (by decide) ?_
  refine lv_iand hx hb dX1_write_32 ?_
  refine xr_iast (f := upd (kgJR σ) (kgSz σ) k) (i := kgSz σ + 1) (x := (nI (kgLe σ)) &&& (nI 255)) hx hb hK hP hD hS 10 0 rfl rfl (by omega) (by decide) dX1_write_33 (fun H locs hP hD hS => ?_)
  rw [wBM_JR] at hP hD
  refine lv_aload_n hx hb dX1_write_34 rfl (lv_at hl 1 rfl) ?_
  refine va_get (D := (dC, dI)) (ci := 1) (v := .ref (h 10)) (C := RX1) (T := TX1) (N := 18) hx hb htg inX1 (fs := fsBM h (kuJR (kuJR σ (upd (kgJR σ) (kgSz σ) k)) (upd (upd (kgJR σ) (kgSz σ) k) (kgSz σ + 1) ((nI (kgLe σ)) &&& (nI 255))))) hown hK hP 0 rfl rfl 13 (by decide) (htg _ fX1_39) (fun _ h9 => h9) rfl dX1_write_35 ?_
  refine lv_aload_n hx hb dX1_write_38 rfl (lv_at hl 1 rfl) ?_
  refine va_get (D := (dC, dI)) (ci := 1) (v := .int (nI (kgSz σ))) (C := RX1) (T := TX1) (N := 18) hx hb htg inX1 (fs := fsBM h (kuJR (kuJR σ (upd (kgJR σ) (kgSz σ) k)) (upd (upd (kgJR σ) (kgSz σ) k) (kgSz σ + 1) ((nI (kgLe σ)) &&& (nI 255))))) hown hK hP 0 rfl rfl 14 (by decide) (htg _ fX1_80) (fun _ h9 => h9) rfl dX1_write_39 ?_
  refine lv_iconst (v := nI 2) hx hb dX1_write_42 (by decide) ?_
  refine xr_iadd hx hb dX1_write_43 ?_
  refine lv_aload_n hx hb dX1_write_44 rfl (lv_at hl 1 rfl) ?_
  refine va_get (D := (dC, dI)) (ci := 1) (v := .int (nI (kgLe σ))) (C := RX1) (T := TX1) (N := 18) hx hb htg inX1 (fs := fsBM h (kuJR (kuJR σ (upd (kgJR σ) (kgSz σ) k)) (upd (upd (kgJR σ) (kgSz σ) k) (kgSz σ + 1) ((nI (kgLe σ)) &&& (nI 255))))) hown hK hP 0 rfl rfl 17 (by decide) (htg _ fX1_65) (fun _ h9 => h9) rfl dX1_write_45 ?_
  refine lv_bipush (v := nI 8) hx hb dX1_write_48 (by decide) ?_
  refine lv_ishr hx hb dX1_write_50 ?_
  refine xr_iast (f := upd (upd (kgJR σ) (kgSz σ) k) (kgSz σ + 1) ((nI (kgLe σ)) &&& (nI 255))) (i := kgSz σ + 2) (x := (nI (kgLe σ)) >>> ((nI 8) &&& 31)) hx hb hK hP hD hS 10 0 rfl rfl (by omega) (by decide) dX1_write_51 (fun H locs hP hD hS => ?_)
  rw [wBM_JR] at hP hD
  refine lv_aload_n hx hb dX1_write_52 rfl (lv_at hl 1 rfl) ?_
  refine lv_dup hx hb dX1_write_53 rfl ?_
  refine va_get (D := (dC, dI)) (ci := 1) (v := .int (nI (kgSz σ))) (C := RX1) (T := TX1) (N := 18) hx hb htg inX1 (fs := fsBM h (kuJR (kuJR (kuJR σ (upd (kgJR σ) (kgSz σ) k)) (upd (upd (kgJR σ) (kgSz σ) k) (kgSz σ + 1) ((nI (kgLe σ)) &&& (nI 255)))) (upd (upd (upd (kgJR σ) (kgSz σ) k) (kgSz σ + 1) ((nI (kgLe σ)) &&& (nI 255))) (kgSz σ + 2) ((nI (kgLe σ)) >>> ((nI 8) &&& 31))))) hown hK hP 0 rfl rfl 14 (by decide) (htg _ fX1_80) (fun _ h9 => h9) rfl dX1_write_54 ?_
  refine lv_iconst (v := nI 3) hx hb dX1_write_57 (by decide) ?_
  refine xr_iadd hx hb dX1_write_58 ?_
  refine va_put (D := (dC, dI)) (ci := 1) (v := .int (nI (kgSz σ + 3))) (ty := .int) (C := RX1) (T := TX1) (N := 18) hx hb htg inX1 tyX1 tyX1_ok nmX1 (fs := fsBM h (kuJR (kuJR (kuJR σ (upd (kgJR σ) (kgSz σ) k)) (upd (upd (kgJR σ) (kgSz σ) k) (kgSz σ + 1) ((nI (kgLe σ)) &&& (nI 255)))) (upd (upd (upd (kgJR σ) (kgSz σ) k) (kgSz σ + 1) ((nI (kgLe σ)) &&& (nI 255))) (kgSz σ + 2) ((nI (kgLe σ)) >>> ((nI 8) &&& 31))))) hown hK hP hD hS 0 rfl rfl 14 (by decide) (htg _ fX1_80) (fun _ h9 => h9) rfl (by decide +kernel) rfl rfl (Nat.le_of_ble_eq_true rfl) dX1_write_59 (fun H locs hP hD hS => ?_)
  rw [wBM_Sz] at hP hD
  refine lv_iconst (v := nI 0) hx hb dX1_write_62 (by decide) ?_
  refine lv_istore_n (lv' := [(3, .int (nI 0)), (2, .int (nI (kgSz σ))), (0, .ref (h 0)), (1, .int k)]) hx hb dX1_write_63 rfl hl (by decide) rfl (fun ls hl => ?_)
  have loop : ∀ (fu i : Nat) (z : BM), i ≤ kgLe σ → kgLe σ < i + fu → z = wrSt σ k i → ∀ (H : Heap) (locs : List Loc), va_P (dC, dI) vwCl (wBM cI cJ cZ h z) H → va_D A (wBM cI cJ cZ h z) → va_S A s.heap H locs → ∀ (ls : Array Slot), lv_has ls 5 [(3, .int (nI i)), (0, .ref (h 0)), (2, .int (nI (kgSz σ)))] → W p l e (headSpec wsX1_write ({ frames := 0, cells := 0, slots := 0, locals := 0 } : Room)).room s m ([.ref (h 0), .int k].toArray) below meth c H locs 0 0 (MQ below (va_Qv (fun (_ : Unit) => True) (fun _ => aBM dC dI cI cJ cZ h A (wrM σ k)) A) ([.ref (h 0), .int k].toArray) s 0 0 A) (F0 m 64 ls []) := by
    intro fu
    induction fu with
    | zero => intro i z h1 h2; exact absurd h2 (by omega)
    | succ fu ih =>
      intro i z hi hin ez H locs hP hD hS ls hl
      refine lv_iload_n hx hb dX1_write_64 rfl (lv_at hl 0 rfl) ?_
      refine lv_aload_n hx hb dX1_write_65 rfl (lv_at hl 1 rfl) ?_
      have hLe : kgLe z = kgLe σ := by rw [ez]; rfl
      have hSz : kgSz z = kgSz σ + 3 + i := by rw [ez]; rfl
      refine va_get (D := (dC, dI)) (ci := 1) (v := .int (nI (kgLe z))) (C := RX1) (T := TX1) (N := 18) hx hb htg inX1 (fs := fsBM h z) hown hK hP 0 rfl rfl 17 (by decide) (htg _ fX1_65) (fun _ h9 => h9) rfl dX1_write_66 ?_
      refine xr_icmp_ge (tgt := 103) hx hb dX1_write_69 (by decide) (by omega) (by omega) (fun c69 => ?_) (fun c69 => ?_)
      · have hi9 : i = kgLe σ := by omega
        have hSz9 : kgSz z = kgSz σ + 3 + kgLe σ := by omega
        refine lv_iconst (v := nI 0) hx hb dX1_write_103 (by decide) ?_
        refine lv_istore_n (lv' := [(3, .int (nI 0)), (0, .ref (h 0)), (2, .int (nI (kgSz σ)))]) hx hb dX1_write_104 rfl hl (by decide) rfl (fun ls hl => ?_)
        refine lv_iload_n hx hb dX1_write_105 rfl (lv_at hl 2 rfl) ?_
        refine lv_istore (lv' := [(4, .int (nI (kgSz σ))), (3, .int (nI 0)), (0, .ref (h 0)), (2, .int (nI (kgSz σ)))]) hx hb dX1_write_106 hl (by decide) rfl (fun ls hl => ?_)
        have loop : ∀ (fu j : Nat) (x : Int32), j ≤ kgSz σ + 3 + kgLe σ → kgSz σ + 3 + kgLe σ < j + fu → kgSz σ ≤ j → x = smL (kgJR z) (kgSz σ) (j - kgSz σ) → ∀ (H : Heap) (locs : List Loc), va_P (dC, dI) vwCl (wBM cI cJ cZ h z) H → va_D A (wBM cI cJ cZ h z) → va_S A s.heap H locs → ∀ (ls : Array Slot), lv_has ls 5 [(4, .int (nI j)), (3, .int x), (0, .ref (h 0)), (2, .int (nI (kgSz σ)))] → W p l e (headSpec wsX1_write ({ frames := 0, cells := 0, slots := 0, locals := 0 } : Room)).room s m ([.ref (h 0), .int k].toArray) below meth c H locs 0 0 (MQ below (va_Qv (fun (_ : Unit) => True) (fun _ => aBM dC dI cI cJ cZ h A (wrM σ k)) A) ([.ref (h 0), .int k].toArray) s 0 0 A) (F0 m 108 ls []) := by
          intro fu
          induction fu with
          | zero => intro j x h1 h2; exact absurd h2 (by omega)
          | succ fu ih =>
            intro j x hi hin hj ex H locs hP hD hS ls hl
            refine lv_iload hx hb dX1_write_108 (lv_at hl 0 rfl) ?_
            refine lv_aload_n hx hb dX1_write_110 rfl (lv_at hl 2 rfl) ?_
            refine va_get (D := (dC, dI)) (ci := 1) (v := .int (nI (kgSz z))) (C := RX1) (T := TX1) (N := 18) hx hb htg inX1 (fs := fsBM h z) hown hK hP 0 rfl rfl 14 (by decide) (htg _ fX1_80) (fun _ h9 => h9) rfl dX1_write_111 ?_
            refine xr_icmp_ge (tgt := 133) hx hb dX1_write_114 (by decide) (by omega) (by omega) (fun c114 => ?_) (fun c114 => ?_)
            · refine lv_aload_n hx hb dX1_write_133 rfl (lv_at hl 2 rfl) ?_
              refine va_get (D := (dC, dI)) (ci := 1) (v := .ref (h 10)) (C := RX1) (T := TX1) (N := 18) hx hb htg inX1 (fs := fsBM h z) hown hK hP 0 rfl rfl 13 (by decide) (htg _ fX1_39) (fun _ h9 => h9) rfl dX1_write_134 ?_
              refine lv_aload_n hx hb dX1_write_137 rfl (lv_at hl 2 rfl) ?_
              refine va_get (D := (dC, dI)) (ci := 1) (v := .int (nI (kgSz z))) (C := RX1) (T := TX1) (N := 18) hx hb htg inX1 (fs := fsBM h z) hown hK hP 0 rfl rfl 14 (by decide) (htg _ fX1_80) (fun _ h9 => h9) rfl dX1_write_138 ?_
              refine lv_iload_n hx hb dX1_write_141 rfl (lv_at hl 1 rfl) ?_
              refine lv_sipush (v := nI 255) hx hb dX1_write_142 (by decide) ?_
              refine lv_iand hx hb dX1_write_145 ?_
              refine xr_iast (f := kgJR z) (i := kgSz z) (x := x &&& (nI 255)) hx hb hK hP hD hS 10 0 rfl rfl (by omega) (by decide) dX1_write_146 (fun H locs hP hD hS => ?_)
              rw [wBM_JR] at hP hD
              refine lv_aload_n hx hb dX1_write_147 rfl (lv_at hl 2 rfl) ?_
              refine lv_dup hx hb dX1_write_148 rfl ?_
              refine va_get (D := (dC, dI)) (ci := 1) (v := .int (nI (kgSz z))) (C := RX1) (T := TX1) (N := 18) hx hb htg inX1 (fs := fsBM h (kuJR z (upd (kgJR z) (kgSz z) (x &&& (nI 255))))) hown hK hP 0 rfl rfl 14 (by decide) (htg _ fX1_80) (fun _ h9 => h9) rfl dX1_write_149 ?_
              refine lv_iconst (v := nI 1) hx hb dX1_write_152 (by decide) ?_
              refine xr_iadd hx hb dX1_write_153 ?_
              refine va_put (D := (dC, dI)) (ci := 1) (v := .int (nI (kgSz z + 1))) (ty := .int) (C := RX1) (T := TX1) (N := 18) hx hb htg inX1 tyX1 tyX1_ok nmX1 (fs := fsBM h (kuJR z (upd (kgJR z) (kgSz z) (x &&& (nI 255))))) hown hK hP hD hS 0 rfl rfl 14 (by decide) (htg _ fX1_80) (fun _ h9 => h9) rfl (by decide +kernel) rfl rfl (Nat.le_of_ble_eq_true rfl) dX1_write_154 (fun H locs hP hD hS => ?_)
              rw [wBM_Sz] at hP hD
              have hfin : kuSz (kuJR z (upd (kgJR z) (kgSz z) (x &&& (nI 255)))) (kgSz z + 1) = wrM σ k := by
                         rw [wrM, ← hi9, ← ez, ex, hSz, show j - kgSz σ = 3 + i by omega]; rfl
              rw [hfin] at hP hD
              exact W.vret hx hb hr (fun t ht hW => ⟨⟨(), rfl, trivial, by rw [ht]; exact hP, va_K.moved hW.alike hK, hD⟩, hS.F ht⟩) hS.2.2 dX1_write_157
            · refine lv_iload_n hx hb dX1_write_117 rfl (lv_at hl 1 rfl) ?_
              refine lv_aload_n hx hb dX1_write_118 rfl (lv_at hl 2 rfl) ?_
              refine va_get (D := (dC, dI)) (ci := 1) (v := .ref (h 10)) (C := RX1) (T := TX1) (N := 18) hx hb htg inX1 (fs := fsBM h z) hown hK hP 0 rfl rfl 13 (by decide) (htg _ fX1_39) (fun _ h9 => h9) rfl dX1_write_119 ?_
              refine lv_iload hx hb dX1_write_122 (lv_at hl 0 rfl) ?_
              refine xr_iald (f := kgJR z) (i := j) hx hb hK hP 10 0 rfl rfl (by omega) (by decide) dX1_write_124 ?_
              refine lv_iadd hx hb dX1_write_125 ?_
              refine lv_istore_n (lv' := [(3, .int (x + ((kgJR z) j))), (4, .int (nI j)), (0, .ref (h 0)), (2, .int (nI (kgSz σ)))]) hx hb dX1_write_126 rfl hl (by decide) rfl (fun ls hl => ?_)
              refine lv_iinc (v := nI (j + 1)) (lv' := [(4, .int (nI (j + 1))), (3, .int (x + ((kgJR z) j))), (0, .ref (h 0)), (2, .int (nI (kgSz σ)))]) hx hb dX1_write_127 hl (k := 1) rfl (nI_add _ 1) (by decide) rfl (fun ls hl => ?_)
              refine lv_goto (tgt := 108) hx hb dX1_write_130 (by decide) ?_
              exact ih (j + 1) (x + ((kgJR z) j)) (by omega) (by omega) (by omega) (by rw [show j + 1 - kgSz σ = (j - kgSz σ) + 1 by omega, ex]; show _ = smL _ _ _ + _; rw [show kgSz σ + (j - kgSz σ) = j by omega]) H locs hP hD hS ls (lv_sub hl [0, 1, 2, 3] rfl)
        exact loop (kgSz σ + 3 + kgLe σ + 1) (kgSz σ) (nI 0) (by omega) (by omega) (Nat.le_refl _) (by rw [Nat.sub_self]; rfl) _ _ hP hD hS ls (lv_sub hl [0, 1, 2, 3] rfl)
      · refine lv_aload_n hx hb dX1_write_72 rfl (lv_at hl 1 rfl) ?_
        refine va_get (D := (dC, dI)) (ci := 1) (v := .ref (h 10)) (C := RX1) (T := TX1) (N := 18) hx hb htg inX1 (fs := fsBM h z) hown hK hP 0 rfl rfl 13 (by decide) (htg _ fX1_39) (fun _ h9 => h9) rfl dX1_write_73 ?_
        refine lv_aload_n hx hb dX1_write_76 rfl (lv_at hl 1 rfl) ?_
        refine va_get (D := (dC, dI)) (ci := 1) (v := .int (nI (kgSz z))) (C := RX1) (T := TX1) (N := 18) hx hb htg inX1 (fs := fsBM h z) hown hK hP 0 rfl rfl 14 (by decide) (htg _ fX1_80) (fun _ h9 => h9) rfl dX1_write_77 ?_
        refine lv_aload_n hx hb dX1_write_80 rfl (lv_at hl 1 rfl) ?_
        refine va_get (D := (dC, dI)) (ci := 1) (v := .ref (h 11)) (C := RX1) (T := TX1) (N := 18) hx hb htg inX1 (fs := fsBM h z) hown hK hP 0 rfl rfl 16 (by decide) (htg _ fX1_42) (fun _ h9 => h9) rfl dX1_write_81 ?_
        refine lv_iload_n hx hb dX1_write_84 rfl (lv_at hl 0 rfl) ?_
        refine xr_iald (f := kgRC z) (i := i) hx hb hK hP 11 0 rfl rfl (by omega) (by decide) dX1_write_85 ?_
        refine xr_iast (f := kgJR z) (i := kgSz z) (x := (kgRC z) i) hx hb hK hP hD hS 10 0 rfl rfl (by omega) (by decide) dX1_write_86 (fun H locs hP hD hS => ?_)
        rw [wBM_JR] at hP hD
        refine lv_aload_n hx hb dX1_write_87 rfl (lv_at hl 1 rfl) ?_
        refine lv_dup hx hb dX1_write_88 rfl ?_
        refine va_get (D := (dC, dI)) (ci := 1) (v := .int (nI (kgSz z))) (C := RX1) (T := TX1) (N := 18) hx hb htg inX1 (fs := fsBM h (kuJR z (upd (kgJR z) (kgSz z) ((kgRC z) i)))) hown hK hP 0 rfl rfl 14 (by decide) (htg _ fX1_80) (fun _ h9 => h9) rfl dX1_write_89 ?_
        refine lv_iconst (v := nI 1) hx hb dX1_write_92 (by decide) ?_
        refine xr_iadd hx hb dX1_write_93 ?_
        refine va_put (D := (dC, dI)) (ci := 1) (v := .int (nI (kgSz z + 1))) (ty := .int) (C := RX1) (T := TX1) (N := 18) hx hb htg inX1 tyX1 tyX1_ok nmX1 (fs := fsBM h (kuJR z (upd (kgJR z) (kgSz z) ((kgRC z) i)))) hown hK hP hD hS 0 rfl rfl 14 (by decide) (htg _ fX1_80) (fun _ h9 => h9) rfl (by decide +kernel) rfl rfl (Nat.le_of_ble_eq_true rfl) dX1_write_94 (fun H locs hP hD hS => ?_)
        rw [wBM_Sz] at hP hD
        refine lv_iinc (v := nI (i + 1)) (lv' := [(3, .int (nI (i + 1))), (0, .ref (h 0)), (2, .int (nI (kgSz σ)))]) hx hb dX1_write_97 hl (k := 0) rfl (nI_add _ 1) (by decide) rfl (fun ls hl => ?_)
        refine lv_goto (tgt := 64) hx hb dX1_write_100 (by decide) ?_
        exact ih (i + 1) (kuSz (kuJR z (upd (kgJR z) (kgSz z) ((kgRC z) i))) (kgSz z + 1)) (by omega) (by omega) (by rw [ez]; exact wrSt_step σ k i) H locs hP hD hS ls (lv_sub hl [0, 1, 2] rfl)
  exact loop (kgLe σ + 1) 0 (kuSz (kuJR (kuJR (kuJR σ (upd (kgJR σ) (kgSz σ) k)) (upd (upd (kgJR σ) (kgSz σ) k) (kgSz σ + 1) ((nI (kgLe σ)) &&& (nI 255)))) (upd (upd (upd (kgJR σ) (kgSz σ) k) (kgSz σ + 1) ((nI (kgLe σ)) &&& (nI 255))) (kgSz σ + 2) ((nI (kgLe σ)) >>> ((nI 8) &&& 31)))) (kgSz σ + 3)) (by omega) (by omega) (wrSt_0 σ k) _ _ hP hD hS ls (lv_sub hl [0, 2, 1] rfl)
end
