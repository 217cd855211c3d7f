section
-- ===== PART A: goes FIRST, ahead of the names: the tables' words, and 'selects' of the private methods out of them =====
/-- a private method of a class that the tables say can be made, by its rows of tables_1 -/
def lw_okq (q : MethodName × Nat) : Prop := (q.1.cls ≠ "java/lang/invoke/MethodHandle" ∧ q.1.cls ≠ "java/lang/invoke/VarHandle") ∧ Cond.instantiable q.1.cls q.2 ∈ tables_1 ∧ Cond.privateMethod q.1 ∈ tables_1 ∧ Cond.instanceMethod q.1 ∈ tables_1
theorem lw_p0 : lw_okq (⟨"CommitShards", "isTxn", "(I)Z"⟩, 8) := ⟨⟨by decide +kernel, by decide +kernel⟩, List.mem_of_getElem? (i := 17) (by decide +kernel), List.mem_of_getElem? (i := 387) (by decide +kernel), List.mem_of_getElem? (i := 388) (by decide +kernel)⟩
theorem lw_p1 : lw_okq (⟨"CommitShards", "access", "(III)I"⟩, 8) := ⟨⟨by decide +kernel, by decide +kernel⟩, List.mem_of_getElem? (i := 17) (by decide +kernel), List.mem_of_getElem? (i := 395) (by decide +kernel), List.mem_of_getElem? (i := 396) (by decide +kernel)⟩
theorem lw_p2 : lw_okq (⟨"CommitShards", "isKey", "(I)Z"⟩, 8) := ⟨⟨by decide +kernel, by decide +kernel⟩, List.mem_of_getElem? (i := 17) (by decide +kernel), List.mem_of_getElem? (i := 399) (by decide +kernel), List.mem_of_getElem? (i := 400) (by decide +kernel)⟩
theorem lw_p3 : lw_okq (⟨"CommitShards", "handOver", "(I)I"⟩, 8) := ⟨⟨by decide +kernel, by decide +kernel⟩, List.mem_of_getElem? (i := 17) (by decide +kernel), List.mem_of_getElem? (i := 493) (by decide +kernel), List.mem_of_getElem? (i := 494) (by decide +kernel)⟩
theorem lw_p4 : lw_okq (⟨"CommitShards", "nodeAt", "(I)LCommitShards$Node;"⟩, 8) := ⟨⟨by decide +kernel, by decide +kernel⟩, List.mem_of_getElem? (i := 17) (by decide +kernel), List.mem_of_getElem? (i := 505) (by decide +kernel), List.mem_of_getElem? (i := 506) (by decide +kernel)⟩
theorem lw_p5 : lw_okq (⟨"CommitShards", "acceptorAt", "(I)LCommitShards$Acceptor;"⟩, 8) := ⟨⟨by decide +kernel, by decide +kernel⟩, List.mem_of_getElem? (i := 17) (by decide +kernel), List.mem_of_getElem? (i := 509) (by decide +kernel), List.mem_of_getElem? (i := 510) (by decide +kernel)⟩
theorem lw_p6 : lw_okq (⟨"CommitShards$Acceptor", "hearVote", "(LCommitShards$Message;LCommitShards$View;)Z"⟩, 8) := ⟨⟨by decide +kernel, by decide +kernel⟩, List.mem_of_getElem? (i := 284) (by decide +kernel), List.mem_of_getElem? (i := 519) (by decide +kernel), List.mem_of_getElem? (i := 520) (by decide +kernel)⟩
theorem lw_p7 : lw_okq (⟨"CommitShards$Acceptor", "hearAccepted", "(LCommitShards$Message;LCommitShards$View;)V"⟩, 8) := ⟨⟨by decide +kernel, by decide +kernel⟩, List.mem_of_getElem? (i := 284) (by decide +kernel), List.mem_of_getElem? (i := 550) (by decide +kernel), List.mem_of_getElem? (i := 551) (by decide +kernel)⟩
theorem lw_p8 : lw_okq (⟨"CommitShards$Acceptor", "bitOf", "(I)I"⟩, 8) := ⟨⟨by decide +kernel, by decide +kernel⟩, List.mem_of_getElem? (i := 284) (by decide +kernel), List.mem_of_getElem? (i := 558) (by decide +kernel), List.mem_of_getElem? (i := 559) (by decide +kernel)⟩
theorem lw_p9 : lw_okq (⟨"CommitShards$Acceptor", "endOf", "(ILCommitShards$View;)I"⟩, 8) := ⟨⟨by decide +kernel, by decide +kernel⟩, List.mem_of_getElem? (i := 284) (by decide +kernel), List.mem_of_getElem? (i := 566) (by decide +kernel), List.mem_of_getElem? (i := 567) (by decide +kernel)⟩
theorem lw_p10 : lw_okq (⟨"CommitShards$Acceptor", "postEnd", "(II)V"⟩, 8) := ⟨⟨by decide +kernel, by decide +kernel⟩, List.mem_of_getElem? (i := 284) (by decide +kernel), List.mem_of_getElem? (i := 581) (by decide +kernel), List.mem_of_getElem? (i := 582) (by decide +kernel)⟩
theorem lw_p11 : lw_okq (⟨"CommitShards$Acceptor", "hearAsk", "(LCommitShards$Message;LCommitShards$View;)Z"⟩, 8) := ⟨⟨by decide +kernel, by decide +kernel⟩, List.mem_of_getElem? (i := 284) (by decide +kernel), List.mem_of_getElem? (i := 587) (by decide +kernel), List.mem_of_getElem? (i := 588) (by decide +kernel)⟩
theorem lw_p12 : lw_okq (⟨"CommitShards$Acceptor", "promise", "(II)V"⟩, 8) := ⟨⟨by decide +kernel, by decide +kernel⟩, List.mem_of_getElem? (i := 284) (by decide +kernel), List.mem_of_getElem? (i := 591) (by decide +kernel), List.mem_of_getElem? (i := 592) (by decide +kernel)⟩
theorem lw_p13 : lw_okq (⟨"CommitShards$Acceptor", "hearPromise", "(LCommitShards$Message;LCommitShards$View;)V"⟩, 8) := ⟨⟨by decide +kernel, by decide +kernel⟩, List.mem_of_getElem? (i := 284) (by decide +kernel), List.mem_of_getElem? (i := 599) (by decide +kernel), List.mem_of_getElem? (i := 600) (by decide +kernel)⟩
theorem lw_p14 : lw_okq (⟨"CommitShards$Shard", "hearPrepare", "(I)Z"⟩, 9) := ⟨⟨by decide +kernel, by decide +kernel⟩, List.mem_of_getElem? (i := 208) (by decide +kernel), List.mem_of_getElem? (i := 619) (by decide +kernel), List.mem_of_getElem? (i := 620) (by decide +kernel)⟩
theorem lw_p15 : lw_okq (⟨"CommitShards$Shard", "vote", "(I)V"⟩, 9) := ⟨⟨by decide +kernel, by decide +kernel⟩, List.mem_of_getElem? (i := 208) (by decide +kernel), List.mem_of_getElem? (i := 624) (by decide +kernel), List.mem_of_getElem? (i := 625) (by decide +kernel)⟩
def lw_privs_1 : List (MethodName × Nat) := [(⟨"CommitShards", "isTxn", "(I)Z"⟩, 8), (⟨"CommitShards", "access", "(III)I"⟩, 8), (⟨"CommitShards", "isKey", "(I)Z"⟩, 8), (⟨"CommitShards", "handOver", "(I)I"⟩, 8), (⟨"CommitShards", "nodeAt", "(I)LCommitShards$Node;"⟩, 8), (⟨"CommitShards", "acceptorAt", "(I)LCommitShards$Acceptor;"⟩, 8), (⟨"CommitShards$Acceptor", "hearVote", "(LCommitShards$Message;LCommitShards$View;)Z"⟩, 8), (⟨"CommitShards$Acceptor", "hearAccepted", "(LCommitShards$Message;LCommitShards$View;)V"⟩, 8), (⟨"CommitShards$Acceptor", "bitOf", "(I)I"⟩, 8), (⟨"CommitShards$Acceptor", "endOf", "(ILCommitShards$View;)I"⟩, 8), (⟨"CommitShards$Acceptor", "postEnd", "(II)V"⟩, 8), (⟨"CommitShards$Acceptor", "hearAsk", "(LCommitShards$Message;LCommitShards$View;)Z"⟩, 8), (⟨"CommitShards$Acceptor", "promise", "(II)V"⟩, 8), (⟨"CommitShards$Acceptor", "hearPromise", "(LCommitShards$Message;LCommitShards$View;)V"⟩, 8), (⟨"CommitShards$Shard", "hearPrepare", "(I)Z"⟩, 9), (⟨"CommitShards$Shard", "vote", "(I)V"⟩, 9)]
theorem lw_r1 : ∀ q ∈ lw_privs_1, lw_okq q := List.forall_mem_cons.mpr ⟨lw_p0, List.forall_mem_cons.mpr ⟨lw_p1, List.forall_mem_cons.mpr ⟨lw_p2, List.forall_mem_cons.mpr ⟨lw_p3, List.forall_mem_cons.mpr ⟨lw_p4, List.forall_mem_cons.mpr ⟨lw_p5, List.forall_mem_cons.mpr ⟨lw_p6, List.forall_mem_cons.mpr ⟨lw_p7, List.forall_mem_cons.mpr ⟨lw_p8, List.forall_mem_cons.mpr ⟨lw_p9, List.forall_mem_cons.mpr ⟨lw_p10, List.forall_mem_cons.mpr ⟨lw_p11, List.forall_mem_cons.mpr ⟨lw_p12, List.forall_mem_cons.mpr ⟨lw_p13, List.forall_mem_cons.mpr ⟨lw_p14, List.forall_mem_cons.mpr ⟨lw_p15, fun _ h => absurd h List.not_mem_nil⟩⟩⟩⟩⟩⟩⟩⟩⟩⟩⟩⟩⟩⟩⟩⟩
theorem lw_p16 : lw_okq (⟨"CommitShards$Shard", "hearEnd", "(II)Z"⟩, 9) := ⟨⟨by decide +kernel, by decide +kernel⟩, List.mem_of_getElem? (i := 208) (by decide +kernel), List.mem_of_getElem? (i := 635) (by decide +kernel), List.mem_of_getElem? (i := 636) (by decide +kernel)⟩
theorem lw_p17 : lw_okq (⟨"CommitShards$Acceptor", "nextOwn", "(I)I"⟩, 8) := ⟨⟨by decide +kernel, by decide +kernel⟩, List.mem_of_getElem? (i := 284) (by decide +kernel), List.mem_of_getElem? (i := 662) (by decide +kernel), List.mem_of_getElem? (i := 663) (by decide +kernel)⟩
theorem lw_p18 : lw_okq (⟨"CommitShards$Acceptor", "unpromised", "()I"⟩, 8) := ⟨⟨by decide +kernel, by decide +kernel⟩, List.mem_of_getElem? (i := 284) (by decide +kernel), List.mem_of_getElem? (i := 740) (by decide +kernel), List.mem_of_getElem? (i := 741) (by decide +kernel)⟩
theorem lw_p19 : lw_okq (⟨"CommitShards$Acceptor", "ended", "()I"⟩, 8) := ⟨⟨by decide +kernel, by decide +kernel⟩, List.mem_of_getElem? (i := 284) (by decide +kernel), List.mem_of_getElem? (i := 744) (by decide +kernel), List.mem_of_getElem? (i := 745) (by decide +kernel)⟩
theorem lw_p20 : lw_okq (⟨"CommitShards$Shard", "openSessions", "()I"⟩, 9) := ⟨⟨by decide +kernel, by decide +kernel⟩, List.mem_of_getElem? (i := 208) (by decide +kernel), List.mem_of_getElem? (i := 751) (by decide +kernel), List.mem_of_getElem? (i := 752) (by decide +kernel)⟩
theorem lw_p21 : lw_okq (⟨"CommitShardsModel", "forget", "(I)V"⟩, 38) := ⟨⟨by decide +kernel, by decide +kernel⟩, List.mem_of_getElem? (i := 791) (by decide +kernel), List.mem_of_getElem? (i := 800) (by decide +kernel), List.mem_of_getElem? (i := 801) (by decide +kernel)⟩
theorem lw_p22 : lw_okq (⟨"CommitShardsModel", "begins", "(I)V"⟩, 38) := ⟨⟨by decide +kernel, by decide +kernel⟩, List.mem_of_getElem? (i := 791) (by decide +kernel), List.mem_of_getElem? (i := 804) (by decide +kernel), List.mem_of_getElem? (i := 805) (by decide +kernel)⟩
theorem lw_p23 : lw_okq (⟨"CommitShardsModel", "isTxn", "(I)Z"⟩, 38) := ⟨⟨by decide +kernel, by decide +kernel⟩, List.mem_of_getElem? (i := 791) (by decide +kernel), List.mem_of_getElem? (i := 927) (by decide +kernel), List.mem_of_getElem? (i := 928) (by decide +kernel)⟩
theorem lw_p24 : lw_okq (⟨"CommitShardsModel", "isKey", "(I)Z"⟩, 38) := ⟨⟨by decide +kernel, by decide +kernel⟩, List.mem_of_getElem? (i := 791) (by decide +kernel), List.mem_of_getElem? (i := 938) (by decide +kernel), List.mem_of_getElem? (i := 939) (by decide +kernel)⟩
theorem lw_p25 : lw_okq (⟨"CommitShardsModel", "locks", "(IIZ)I"⟩, 38) := ⟨⟨by decide +kernel, by decide +kernel⟩, List.mem_of_getElem? (i := 791) (by decide +kernel), List.mem_of_getElem? (i := 942) (by decide +kernel), List.mem_of_getElem? (i := 943) (by decide +kernel)⟩
theorem lw_p26 : lw_okq (⟨"CommitShardsModel", "touches", "(II)Z"⟩, 38) := ⟨⟨by decide +kernel, by decide +kernel⟩, List.mem_of_getElem? (i := 791) (by decide +kernel), List.mem_of_getElem? (i := 946) (by decide +kernel), List.mem_of_getElem? (i := 947) (by decide +kernel)⟩
theorem lw_p27 : lw_okq (⟨"CommitShardsModel", "post", "(IIIIIII)I"⟩, 38) := ⟨⟨by decide +kernel, by decide +kernel⟩, List.mem_of_getElem? (i := 791) (by decide +kernel), List.mem_of_getElem? (i := 962) (by decide +kernel), List.mem_of_getElem? (i := 963) (by decide +kernel)⟩
theorem lw_p28 : lw_okq (⟨"CommitShardsModel", "endSession", "(II)V"⟩, 38) := ⟨⟨by decide +kernel, by decide +kernel⟩, List.mem_of_getElem? (i := 791) (by decide +kernel), List.mem_of_getElem? (i := 970) (by decide +kernel), List.mem_of_getElem? (i := 971) (by decide +kernel)⟩
theorem lw_p29 : lw_okq (⟨"CommitShardsModel", "isMessage", "(I)Z"⟩, 38) := ⟨⟨by decide +kernel, by decide +kernel⟩, List.mem_of_getElem? (i := 791) (by decide +kernel), List.mem_of_getElem? (i := 986) (by decide +kernel), List.mem_of_getElem? (i := 987) (by decide +kernel)⟩
theorem lw_p30 : lw_okq (⟨"CommitShardsModel", "takeOut", "(I)V"⟩, 38) := ⟨⟨by decide +kernel, by decide +kernel⟩, List.mem_of_getElem? (i := 791) (by decide +kernel), List.mem_of_getElem? (i := 990) (by decide +kernel), List.mem_of_getElem? (i := 991) (by decide +kernel)⟩
theorem lw_p31 : lw_okq (⟨"CommitShardsModel", "does", "(II)Z"⟩, 38) := ⟨⟨by decide +kernel, by decide +kernel⟩, List.mem_of_getElem? (i := 791) (by decide +kernel), List.mem_of_getElem? (i := 994) (by decide +kernel), List.mem_of_getElem? (i := 995) (by decide +kernel)⟩
def lw_privs_2 : List (MethodName × Nat) := [(⟨"CommitShards$Shard", "hearEnd", "(II)Z"⟩, 9), (⟨"CommitShards$Acceptor", "nextOwn", "(I)I"⟩, 8), (⟨"CommitShards$Acceptor", "unpromised", "()I"⟩, 8), (⟨"CommitShards$Acceptor", "ended", "()I"⟩, 8), (⟨"CommitShards$Shard", "openSessions", "()I"⟩, 9), (⟨"CommitShardsModel", "forget", "(I)V"⟩, 38), (⟨"CommitShardsModel", "begins", "(I)V"⟩, 38), (⟨"CommitShardsModel", "isTxn", "(I)Z"⟩, 38), (⟨"CommitShardsModel", "isKey", "(I)Z"⟩, 38), (⟨"CommitShardsModel", "locks", "(IIZ)I"⟩, 38), (⟨"CommitShardsModel", "touches", "(II)Z"⟩, 38), (⟨"CommitShardsModel", "post", "(IIIIIII)I"⟩, 38), (⟨"CommitShardsModel", "endSession", "(II)V"⟩, 38), (⟨"CommitShardsModel", "isMessage", "(I)Z"⟩, 38), (⟨"CommitShardsModel", "takeOut", "(I)V"⟩, 38), (⟨"CommitShardsModel", "does", "(II)Z"⟩, 38)]
theorem lw_r2 : ∀ q ∈ lw_privs_2, lw_okq q := List.forall_mem_cons.mpr ⟨lw_p16, List.forall_mem_cons.mpr ⟨lw_p17, List.forall_mem_cons.mpr ⟨lw_p18, List.forall_mem_cons.mpr ⟨lw_p19, List.forall_mem_cons.mpr ⟨lw_p20, List.forall_mem_cons.mpr ⟨lw_p21, List.forall_mem_cons.mpr ⟨lw_p22, List.forall_mem_cons.mpr ⟨lw_p23, List.forall_mem_cons.mpr ⟨lw_p24, List.forall_mem_cons.mpr ⟨lw_p25, List.forall_mem_cons.mpr ⟨lw_p26, List.forall_mem_cons.mpr ⟨lw_p27, List.forall_mem_cons.mpr ⟨lw_p28, List.forall_mem_cons.mpr ⟨lw_p29, List.forall_mem_cons.mpr ⟨lw_p30, List.forall_mem_cons.mpr ⟨lw_p31, fun _ h => absurd h List.not_mem_nil⟩⟩⟩⟩⟩⟩⟩⟩⟩⟩⟩⟩⟩⟩⟩⟩
theorem lw_p32 : lw_okq (⟨"CommitShardsModel", "prepare", "(II)Z"⟩, 38) := ⟨⟨by decide +kernel, by decide +kernel⟩, List.mem_of_getElem? (i := 791) (by decide +kernel), List.mem_of_getElem? (i := 998) (by decide +kernel), List.mem_of_getElem? (i := 999) (by decide +kernel)⟩
theorem lw_p33 : lw_okq (⟨"CommitShardsModel", "writes", "(IIIII)Z"⟩, 38) := ⟨⟨by decide +kernel, by decide +kernel⟩, List.mem_of_getElem? (i := 791) (by decide +kernel), List.mem_of_getElem? (i := 1002) (by decide +kernel), List.mem_of_getElem? (i := 1003) (by decide +kernel)⟩
theorem lw_p34 : lw_okq (⟨"CommitShardsModel", "postAll", "(IIIIII)V"⟩, 38) := ⟨⟨by decide +kernel, by decide +kernel⟩, List.mem_of_getElem? (i := 791) (by decide +kernel), List.mem_of_getElem? (i := 1006) (by decide +kernel), List.mem_of_getElem? (i := 1007) (by decide +kernel)⟩
theorem lw_p35 : lw_okq (⟨"CommitShardsModel", "vote", "(III)Z"⟩, 38) := ⟨⟨by decide +kernel, by decide +kernel⟩, List.mem_of_getElem? (i := 791) (by decide +kernel), List.mem_of_getElem? (i := 1010) (by decide +kernel), List.mem_of_getElem? (i := 1011) (by decide +kernel)⟩
theorem lw_p36 : lw_okq (⟨"CommitShardsModel", "accept", "(III)V"⟩, 38) := ⟨⟨by decide +kernel, by decide +kernel⟩, List.mem_of_getElem? (i := 791) (by decide +kernel), List.mem_of_getElem? (i := 1014) (by decide +kernel), List.mem_of_getElem? (i := 1015) (by decide +kernel)⟩
theorem lw_p37 : lw_okq (⟨"CommitShardsModel", "isMajority", "(I)Z"⟩, 38) := ⟨⟨by decide +kernel, by decide +kernel⟩, List.mem_of_getElem? (i := 791) (by decide +kernel), List.mem_of_getElem? (i := 1018) (by decide +kernel), List.mem_of_getElem? (i := 1019) (by decide +kernel)⟩
theorem lw_p38 : lw_okq (⟨"CommitShardsModel", "answer", "(III)Z"⟩, 38) := ⟨⟨by decide +kernel, by decide +kernel⟩, List.mem_of_getElem? (i := 791) (by decide +kernel), List.mem_of_getElem? (i := 1025) (by decide +kernel), List.mem_of_getElem? (i := 1026) (by decide +kernel)⟩
theorem lw_p39 : lw_okq (⟨"CommitShardsModel", "promise", "(III)V"⟩, 38) := ⟨⟨by decide +kernel, by decide +kernel⟩, List.mem_of_getElem? (i := 791) (by decide +kernel), List.mem_of_getElem? (i := 1029) (by decide +kernel), List.mem_of_getElem? (i := 1030) (by decide +kernel)⟩
theorem lw_p40 : lw_okq (⟨"CommitShardsModel", "end", "(II)Z"⟩, 38) := ⟨⟨by decide +kernel, by decide +kernel⟩, List.mem_of_getElem? (i := 791) (by decide +kernel), List.mem_of_getElem? (i := 1033) (by decide +kernel), List.mem_of_getElem? (i := 1034) (by decide +kernel)⟩
theorem lw_p41 : lw_okq (⟨"CommitShardsModel", "isAcceptor", "(I)Z"⟩, 38) := ⟨⟨by decide +kernel, by decide +kernel⟩, List.mem_of_getElem? (i := 791) (by decide +kernel), List.mem_of_getElem? (i := 1049) (by decide +kernel), List.mem_of_getElem? (i := 1050) (by decide +kernel)⟩
theorem lw_p42 : lw_okq (⟨"CommitShardsModel", "isNode", "(I)Z"⟩, 38) := ⟨⟨by decide +kernel, by decide +kernel⟩, List.mem_of_getElem? (i := 791) (by decide +kernel), List.mem_of_getElem? (i := 1057) (by decide +kernel), List.mem_of_getElem? (i := 1058) (by decide +kernel)⟩
def lw_privs_3 : List (MethodName × Nat) := [(⟨"CommitShardsModel", "prepare", "(II)Z"⟩, 38), (⟨"CommitShardsModel", "writes", "(IIIII)Z"⟩, 38), (⟨"CommitShardsModel", "postAll", "(IIIIII)V"⟩, 38), (⟨"CommitShardsModel", "vote", "(III)Z"⟩, 38), (⟨"CommitShardsModel", "accept", "(III)V"⟩, 38), (⟨"CommitShardsModel", "isMajority", "(I)Z"⟩, 38), (⟨"CommitShardsModel", "answer", "(III)Z"⟩, 38), (⟨"CommitShardsModel", "promise", "(III)V"⟩, 38), (⟨"CommitShardsModel", "end", "(II)Z"⟩, 38), (⟨"CommitShardsModel", "isAcceptor", "(I)Z"⟩, 38), (⟨"CommitShardsModel", "isNode", "(I)Z"⟩, 38)]
theorem lw_r3 : ∀ q ∈ lw_privs_3, lw_okq q := List.forall_mem_cons.mpr ⟨lw_p32, List.forall_mem_cons.mpr ⟨lw_p33, List.forall_mem_cons.mpr ⟨lw_p34, List.forall_mem_cons.mpr ⟨lw_p35, List.forall_mem_cons.mpr ⟨lw_p36, List.forall_mem_cons.mpr ⟨lw_p37, List.forall_mem_cons.mpr ⟨lw_p38, List.forall_mem_cons.mpr ⟨lw_p39, List.forall_mem_cons.mpr ⟨lw_p40, List.forall_mem_cons.mpr ⟨lw_p41, List.forall_mem_cons.mpr ⟨lw_p42, fun _ h => absurd h List.not_mem_nil⟩⟩⟩⟩⟩⟩⟩⟩⟩⟩⟩
def lw_privs : List (MethodName × Nat) := lw_privs_1 ++ (lw_privs_2 ++ (lw_privs_3))
def lw_tbl : List Cond := k2_sels lw_privs ++ tables_1
theorem lw_privs_ok : ∀ q ∈ lw_privs, lw_okq q := by
  show ∀ q ∈ lw_privs_1 ++ (lw_privs_2 ++ (lw_privs_3)), lw_okq q
  exact List.forall_mem_append.mpr ⟨lw_r1, List.forall_mem_append.mpr ⟨lw_r2, lw_r3⟩⟩
end
section
def RX0 : String := "CommitShards$Acceptor"
def TX0 : u_T := fun k => match k with
  | 0 => ("CommitShards$Node", "number", "I", true)
  | 1 => ("CommitShards$Node", "sizes", "LCommitShards$Sizes;", true)
  | 2 => ("CommitShards$Node", "pool", "LCommitShards$Pool;", true)
  | 3 => ("CommitShards$Node", "log", "LCommitShards$Log;", true)
  | 4 => ("CommitShards$Node", "up", "Z", false)
  | 5 => ("CommitShards$Acceptor", "views", "[LCommitShards$View;", true)
  | 6 => ("CommitShards$Acceptor", "index", "I", true)
  | _ => ("CommitShards$Acceptor", "txns", "LCommitShards$Txns;", true)
def tyX0 : Nat → FieldType := fun k => match k with
  | 0 => .int
  | 1 => .object "CommitShards$Sizes"
  | 2 => .object "CommitShards$Pool"
  | 3 => .object "CommitShards$Log"
  | 4 => .boolean
  | 5 => .array (.object "CommitShards$View")
  | 6 => .int
  | _ => .object "CommitShards$Txns"
theorem nmX0 : ∀ a, a < 8 → ∀ b, b < 8 → a ≠ b → (TX0 a).2.1 ≠ (TX0 b).2.1 := by decide +kernel
theorem tyX0_ok : ∀ k, k < 8 → parseFieldDescriptor (TX0 k).2.2.1 = some (tyX0 k) := by decide +kernel
abbrev cX0_init : ByteArray := prog_2_method_1_code
def yX0_init : MethodName := ⟨RX0, "<init>", "(ILCommitShards$Sizes;LCommitShards$Txns;LCommitShards$Pool;)V"⟩
abbrev cX0_hear : ByteArray := prog_2_method_2_code
def yX0_hear : MethodName := ⟨RX0, "hear", "(LCommitShards$Message;)Z"⟩
abbrev cX0_hearVote : ByteArray := prog_2_method_3_code
def yX0_hearVote : MethodName := ⟨RX0, "hearVote", "(LCommitShards$Message;LCommitShards$View;)Z"⟩
abbrev cX0_hearAccepted : ByteArray := prog_2_method_4_code
def yX0_hearAccepted : MethodName := ⟨RX0, "hearAccepted", "(LCommitShards$Message;LCommitShards$View;)V"⟩
abbrev cX0_endOf : ByteArray := prog_2_method_5_code
def yX0_endOf : MethodName := ⟨RX0, "endOf", "(ILCommitShards$View;)I"⟩
abbrev cX0_postEnd : ByteArray := prog_2_method_6_code
def yX0_postEnd : MethodName := ⟨RX0, "postEnd", "(II)V"⟩
abbrev cX0_hearAsk : ByteArray := prog_2_method_7_code
def yX0_hearAsk : MethodName := ⟨RX0, "hearAsk", "(LCommitShards$Message;LCommitShards$View;)Z"⟩
abbrev cX0_promise : ByteArray := prog_2_method_8_code
def yX0_promise : MethodName := ⟨RX0, "promise", "(II)V"⟩
abbrev cX0_hearPromise : ByteArray := prog_2_method_9_code
def yX0_hearPromise : MethodName := ⟨RX0, "hearPromise", "(LCommitShards$Message;LCommitShards$View;)V"⟩
abbrev cX0_takeOver : ByteArray := prog_2_method_10_code
def yX0_takeOver : MethodName := ⟨RX0, "takeOver", "(I)I"⟩
abbrev cX0_nextOwn : ByteArray := prog_2_method_11_code
def yX0_nextOwn : MethodName := ⟨RX0, "nextOwn", "(I)I"⟩
abbrev cX0_bitOf : ByteArray := prog_2_method_12_code
def yX0_bitOf : MethodName := ⟨RX0, "bitOf", "(I)I"⟩
abbrev cX0_forget : ByteArray := prog_2_method_13_code
def yX0_forget : MethodName := ⟨RX0, "forget", "()V"⟩
abbrev cX0_told : ByteArray := prog_2_method_14_code
def yX0_told : MethodName := ⟨RX0, "told", "(I)I"⟩
abbrev cX0_unpromised : ByteArray := prog_2_method_15_code
def yX0_unpromised : MethodName := ⟨RX0, "unpromised", "()I"⟩
abbrev cX0_ended : ByteArray := prog_2_method_16_code
def yX0_ended : MethodName := ⟨RX0, "ended", "()I"⟩
def RX1 : String := "CommitShards$Keys"
def TX1 : u_T := fun k => match k with
  | 0 => ("CommitShards$Keys", "values", "[J", true)
  | 1 => ("CommitShards$Keys", "sizes", "LCommitShards$Sizes;", true)
  | 2 => ("CommitShards$Keys", "locks", "[[I", true)
  | _ => ("CommitShards$Keys", "newValues", "[[J", true)
def tyX1 : Nat → FieldType := fun k => match k with
  | 0 => .array .long
  | 1 => .object "CommitShards$Sizes"
  | 2 => .array (.array .int)
  | _ => .array (.array .long)
theorem nmX1 : ∀ a, a < 4 → ∀ b, b < 4 → a ≠ b → (TX1 a).2.1 ≠ (TX1 b).2.1 := by decide +kernel
theorem tyX1_ok : ∀ k, k < 4 → parseFieldDescriptor (TX1 k).2.2.1 = some (tyX1 k) := by decide +kernel
abbrev cX1_init : ByteArray := prog_3_method_1_code
def yX1_init : MethodName := ⟨RX1, "<init>", "(LCommitShards$Sizes;)V"⟩
abbrev cX1_canGrant : ByteArray := prog_3_method_2_code
def yX1_canGrant : MethodName := ⟨RX1, "canGrant", "(III)Z"⟩
abbrev cX1_grant : ByteArray := prog_3_method_3_code
def yX1_grant : MethodName := ⟨RX1, "grant", "(III)V"⟩
abbrev cX1_renew : ByteArray := prog_3_method_4_code
def yX1_renew : MethodName := ⟨RX1, "renew", "(IIJ)V"⟩
abbrev cX1_seenBy : ByteArray := prog_3_method_5_code
def yX1_seenBy : MethodName := ⟨RX1, "seenBy", "(II)J"⟩
abbrev cX1_install : ByteArray := prog_3_method_6_code
def yX1_install : MethodName := ⟨RX1, "install", "(II)V"⟩
abbrev cX1_dropShared : ByteArray := prog_3_method_7_code
def yX1_dropShared : MethodName := ⟨RX1, "dropShared", "(II)V"⟩
abbrev cX1_dropAll : ByteArray := prog_3_method_8_code
def yX1_dropAll : MethodName := ⟨RX1, "dropAll", "(II)V"⟩
abbrev cX1_holders : ByteArray := prog_3_method_9_code
def yX1_holders : MethodName := ⟨RX1, "holders", "(I)I"⟩
abbrev cX1_leastHolder : ByteArray := prog_3_method_10_code
def yX1_leastHolder : MethodName := ⟨RX1, "leastHolder", "(I)I"⟩
abbrev cX1_isExclusive : ByteArray := prog_3_method_11_code
def yX1_isExclusive : MethodName := ⟨RX1, "isExclusive", "(I)Z"⟩
def RX2 : String := "CommitShards$Log"
def TX2 : u_T := fun k => match k with
  | 0 => ("CommitShards$Log", "rows", "[[I", true)
  | _ => ("CommitShards$Log", "length", "I", false)
def tyX2 : Nat → FieldType := fun k => match k with
  | 0 => .array (.array .int)
  | _ => .int
theorem nmX2 : ∀ a, a < 2 → ∀ b, b < 2 → a ≠ b → (TX2 a).2.1 ≠ (TX2 b).2.1 := by decide +kernel
theorem tyX2_ok : ∀ k, k < 2 → parseFieldDescriptor (TX2 k).2.2.1 = some (tyX2 k) := by decide +kernel
abbrev cX2_init : ByteArray := prog_4_method_1_code
def yX2_init : MethodName := ⟨RX2, "<init>", "(I)V"⟩
abbrev cX2_isFull : ByteArray := prog_4_method_2_code
def yX2_isFull : MethodName := ⟨RX2, "isFull", "()Z"⟩
abbrev cX2_put : ByteArray := prog_4_method_3_code
def yX2_put : MethodName := ⟨RX2, "put", "(IIII)V"⟩
abbrev cX2_told : ByteArray := prog_4_method_4_code
def yX2_told : MethodName := ⟨RX2, "told", "(II)I"⟩
def RX3 : String := "CommitShards$Message"
def TX3 : u_T := fun k => match k with
  | 0 => ("CommitShards$Message", "kind", "I", false)
  | 1 => ("CommitShards$Message", "to", "I", false)
  | 2 => ("CommitShards$Message", "txn", "I", false)
  | 3 => ("CommitShards$Message", "ballot", "I", false)
  | 4 => ("CommitShards$Message", "shard", "I", false)
  | 5 => ("CommitShards$Message", "vote", "I", false)
  | 6 => ("CommitShards$Message", "from", "I", false)
  | 7 => ("CommitShards$Message", "toldBallots", "[I", true)
  | _ => ("CommitShards$Message", "toldVotes", "[I", true)
def tyX3 : Nat → FieldType := fun k => match k with
  | 0 => .int
  | 1 => .int
  | 2 => .int
  | 3 => .int
  | 4 => .int
  | 5 => .int
  | 6 => .int
  | 7 => .array .int
  | _ => .array .int
theorem nmX3 : ∀ a, a < 9 → ∀ b, b < 9 → a ≠ b → (TX3 a).2.1 ≠ (TX3 b).2.1 := by decide +kernel
theorem tyX3_ok : ∀ k, k < 9 → parseFieldDescriptor (TX3 k).2.2.1 = some (tyX3 k) := by decide +kernel
abbrev cX3_init : ByteArray := prog_5_method_1_code
def yX3_init : MethodName := ⟨RX3, "<init>", "(I)V"⟩
abbrev cX3_copyFrom : ByteArray := prog_5_method_2_code
def yX3_copyFrom : MethodName := ⟨RX3, "copyFrom", "(LCommitShards$Message;I)V"⟩
abbrev cX3_tell : ByteArray := prog_5_method_3_code
def yX3_tell : MethodName := ⟨RX3, "tell", "([I[I)V"⟩
abbrev cX3_told : ByteArray := prog_5_method_4_code
def yX3_told : MethodName := ⟨RX3, "told", "(I)I"⟩
def RX4 : String := "CommitShards$Node"
def TX4 : u_T := fun k => match k with
  | _ => ("", "", "", false)
def tyX4 : Nat → FieldType := fun k => match k with
  | _ => .int
theorem nmX4 : ∀ a, a < 0 → ∀ b, b < 0 → a ≠ b → (TX4 a).2.1 ≠ (TX4 b).2.1 := by decide +kernel
theorem tyX4_ok : ∀ k, k < 0 → parseFieldDescriptor (TX4 k).2.2.1 = some (tyX4 k) := by decide +kernel
abbrev cX4_init : ByteArray := prog_6_method_1_code
def yX4_init : MethodName := ⟨RX4, "<init>", "(ILCommitShards$Sizes;LCommitShards$Pool;)V"⟩
def RX5 : String := "CommitShards$Pool"
def TX5 : u_T := fun k => match k with
  | 0 => ("CommitShards$Pool", "sizes", "LCommitShards$Sizes;", true)
  | 1 => ("CommitShards$Pool", "queue", "[LCommitShards$Message;", true)
  | 2 => ("CommitShards$Pool", "draft", "LCommitShards$Message;", true)
  | 3 => ("CommitShards$Pool", "inHand", "LCommitShards$Message;", false)
  | 4 => ("CommitShards$Pool", "waiting", "I", false)
  | 5 => ("CommitShards$Pool", "posted", "I", false)
  | _ => ("CommitShards$Pool", "lost", "I", false)
def tyX5 : Nat → FieldType := fun k => match k with
  | 0 => .object "CommitShards$Sizes"
  | 1 => .array (.object "CommitShards$Message")
  | 2 => .object "CommitShards$Message"
  | 3 => .object "CommitShards$Message"
  | 4 => .int
  | 5 => .int
  | _ => .int
theorem nmX5 : ∀ a, a < 7 → ∀ b, b < 7 → a ≠ b → (TX5 a).2.1 ≠ (TX5 b).2.1 := by decide +kernel
theorem tyX5_ok : ∀ k, k < 7 → parseFieldDescriptor (TX5 k).2.2.1 = some (tyX5 k) := by decide +kernel
abbrev cX5_init : ByteArray := prog_7_method_1_code
def yX5_init : MethodName := ⟨RX5, "<init>", "(LCommitShards$Sizes;)V"⟩
abbrev cX5_has : ByteArray := prog_7_method_2_code
def yX5_has : MethodName := ⟨RX5, "has", "(I)Z"⟩
abbrev cX5_take : ByteArray := prog_7_method_3_code
def yX5_take : MethodName := ⟨RX5, "take", "(I)LCommitShards$Message;"⟩
abbrev cX5_startDraft : ByteArray := prog_7_method_4_code
def yX5_startDraft : MethodName := ⟨RX5, "startDraft", "(III)V"⟩
abbrev cX5_startDraftOfVote : ByteArray := prog_7_method_5_code
def yX5_startDraftOfVote : MethodName := ⟨RX5, "startDraftOfVote", "(IIIIII)V"⟩
abbrev cX5_postDraftToAcceptors : ByteArray := prog_7_method_6_code
def yX5_postDraftToAcceptors : MethodName := ⟨RX5, "postDraftToAcceptors", "()V"⟩
abbrev cX5_post : ByteArray := prog_7_method_7_code
def yX5_post : MethodName := ⟨RX5, "post", "(LCommitShards$Message;I)Z"⟩
def RX6 : String := "CommitShards$Shard"
def TX6 : u_T := fun k => match k with
  | 0 => ("CommitShards$Node", "number", "I", true)
  | 1 => ("CommitShards$Node", "sizes", "LCommitShards$Sizes;", true)
  | 2 => ("CommitShards$Node", "pool", "LCommitShards$Pool;", true)
  | 3 => ("CommitShards$Node", "log", "LCommitShards$Log;", true)
  | 4 => ("CommitShards$Node", "up", "Z", false)
  | 5 => ("CommitShards$Shard", "sessions", "[Z", true)
  | 6 => ("CommitShards$Shard", "keys", "LCommitShards$Keys;", true)
  | 7 => ("CommitShards$Shard", "voted", "[I", true)
  | _ => ("CommitShards$Shard", "decided", "[I", true)
def tyX6 : Nat → FieldType := fun k => match k with
  | 0 => .int
  | 1 => .object "CommitShards$Sizes"
  | 2 => .object "CommitShards$Pool"
  | 3 => .object "CommitShards$Log"
  | 4 => .boolean
  | 5 => .array .boolean
  | 6 => .object "CommitShards$Keys"
  | 7 => .array .int
  | _ => .array .int
theorem nmX6 : ∀ a, a < 9 → ∀ b, b < 9 → a ≠ b → (TX6 a).2.1 ≠ (TX6 b).2.1 := by decide +kernel
theorem tyX6_ok : ∀ k, k < 9 → parseFieldDescriptor (TX6 k).2.2.1 = some (tyX6 k) := by decide +kernel
abbrev cX6_init : ByteArray := prog_8_method_1_code
def yX6_init : MethodName := ⟨RX6, "<init>", "(ILCommitShards$Sizes;LCommitShards$Keys;LCommitShards$Pool;)V"⟩
abbrev cX6_hear : ByteArray := prog_8_method_2_code
def yX6_hear : MethodName := ⟨RX6, "hear", "(LCommitShards$Message;)Z"⟩
abbrev cX6_hearPrepare : ByteArray := prog_8_method_3_code
def yX6_hearPrepare : MethodName := ⟨RX6, "hearPrepare", "(I)Z"⟩
abbrev cX6_vote : ByteArray := prog_8_method_4_code
def yX6_vote : MethodName := ⟨RX6, "vote", "(I)V"⟩
abbrev cX6_hearEnd : ByteArray := prog_8_method_5_code
def yX6_hearEnd : MethodName := ⟨RX6, "hearEnd", "(II)Z"⟩
abbrev cX6_endSession : ByteArray := prog_8_method_6_code
def yX6_endSession : MethodName := ⟨RX6, "endSession", "(I)V"⟩
abbrev cX6_forget : ByteArray := prog_8_method_7_code
def yX6_forget : MethodName := ⟨RX6, "forget", "()V"⟩
abbrev cX6_told : ByteArray := prog_8_method_8_code
def yX6_told : MethodName := ⟨RX6, "told", "(I)I"⟩
abbrev cX6_openSessions : ByteArray := prog_8_method_9_code
def yX6_openSessions : MethodName := ⟨RX6, "openSessions", "()I"⟩
def RX7 : String := "CommitShards$Sizes"
def TX7 : u_T := fun k => match k with
  | 0 => ("CommitShards$Sizes", "shards", "I", true)
  | 1 => ("CommitShards$Sizes", "acceptors", "I", true)
  | 2 => ("CommitShards$Sizes", "txns", "I", true)
  | 3 => ("CommitShards$Sizes", "keys", "I", true)
  | 4 => ("CommitShards$Sizes", "pool", "I", true)
  | _ => ("CommitShards$Sizes", "log", "I", true)
def tyX7 : Nat → FieldType := fun k => match k with
  | 0 => .int
  | 1 => .int
  | 2 => .int
  | 3 => .int
  | 4 => .int
  | _ => .int
theorem nmX7 : ∀ a, a < 6 → ∀ b, b < 6 → a ≠ b → (TX7 a).2.1 ≠ (TX7 b).2.1 := by decide +kernel
theorem tyX7_ok : ∀ k, k < 6 → parseFieldDescriptor (TX7 k).2.2.1 = some (tyX7 k) := by decide +kernel
abbrev cX7_init : ByteArray := prog_9_method_1_code
def yX7_init : MethodName := ⟨RX7, "<init>", "(IIIIII)V"⟩
abbrev cX7_nearest : ByteArray := prog_9_method_2_code
def yX7_nearest : MethodName := ⟨RX7, "nearest", "(II)I"⟩
abbrev cX7_nearestOdd : ByteArray := prog_9_method_3_code
def yX7_nearestOdd : MethodName := ⟨RX7, "nearestOdd", "(I)I"⟩
abbrev cX7_client : ByteArray := prog_9_method_4_code
def yX7_client : MethodName := ⟨RX7, "client", "()I"⟩
abbrev cX7_shardOf : ByteArray := prog_9_method_5_code
def yX7_shardOf : MethodName := ⟨RX7, "shardOf", "(I)I"⟩
abbrev cX7_acceptorOf : ByteArray := prog_9_method_6_code
def yX7_acceptorOf : MethodName := ⟨RX7, "acceptorOf", "(I)I"⟩
abbrev cX7_isMajority : ByteArray := prog_9_method_7_code
def yX7_isMajority : MethodName := ⟨RX7, "isMajority", "(I)Z"⟩
def RX8 : String := "CommitShards$Txns"
def TX8 : u_T := fun k => match k with
  | 0 => ("CommitShards$Txns", "states", "[I", true)
  | _ => ("CommitShards$Txns", "touched", "[I", true)
def tyX8 : Nat → FieldType := fun k => match k with
  | 0 => .array .int
  | _ => .array .int
theorem nmX8 : ∀ a, a < 2 → ∀ b, b < 2 → a ≠ b → (TX8 a).2.1 ≠ (TX8 b).2.1 := by decide +kernel
theorem tyX8_ok : ∀ k, k < 2 → parseFieldDescriptor (TX8 k).2.2.1 = some (tyX8 k) := by decide +kernel
abbrev cX8_init : ByteArray := prog_10_method_1_code
def yX8_init : MethodName := ⟨RX8, "<init>", "(LCommitShards$Sizes;)V"⟩
abbrev cX8_touch : ByteArray := prog_10_method_2_code
def yX8_touch : MethodName := ⟨RX8, "touch", "(II)V"⟩
abbrev cX8_touches : ByteArray := prog_10_method_3_code
def yX8_touches : MethodName := ⟨RX8, "touches", "(II)Z"⟩
abbrev cX8_touchesNone : ByteArray := prog_10_method_4_code
def yX8_touchesNone : MethodName := ⟨RX8, "touchesNone", "(I)Z"⟩
abbrev cX8_hearEnd : ByteArray := prog_10_method_5_code
def yX8_hearEnd : MethodName := ⟨RX8, "hearEnd", "(II)V"⟩
abbrev cX8_in : ByteArray := prog_10_method_6_code
def yX8_in : MethodName := ⟨RX8, "in", "(I)I"⟩
def RX9 : String := "CommitShards$View"
def TX9 : u_T := fun k => match k with
  | 0 => ("CommitShards$View", "firstLed", "I", true)
  | 1 => ("CommitShards$View", "promised", "I", false)
  | 2 => ("CommitShards$View", "led", "I", false)
  | 3 => ("CommitShards$View", "known", "I", false)
  | 4 => ("CommitShards$View", "promisers", "I", false)
  | 5 => ("CommitShards$View", "acceptedBallots", "[I", true)
  | 6 => ("CommitShards$View", "acceptedVotes", "[I", true)
  | 7 => ("CommitShards$View", "keptBallots", "[I", true)
  | 8 => ("CommitShards$View", "keptVotes", "[I", true)
  | 9 => ("CommitShards$View", "countedYes", "[I", true)
  | _ => ("CommitShards$View", "countedNo", "[I", true)
def tyX9 : Nat → FieldType := fun k => match k with
  | 0 => .int
  | 1 => .int
  | 2 => .int
  | 3 => .int
  | 4 => .int
  | 5 => .array .int
  | 6 => .array .int
  | 7 => .array .int
  | 8 => .array .int
  | 9 => .array .int
  | _ => .array .int
theorem nmX9 : ∀ a, a < 11 → ∀ b, b < 11 → a ≠ b → (TX9 a).2.1 ≠ (TX9 b).2.1 := by decide +kernel
theorem tyX9_ok : ∀ k, k < 11 → parseFieldDescriptor (TX9 k).2.2.1 = some (tyX9 k) := by decide +kernel
abbrev cX9_init : ByteArray := prog_11_method_1_code
def yX9_init : MethodName := ⟨RX9, "<init>", "(II)V"⟩
abbrev cX9_lead : ByteArray := prog_11_method_2_code
def yX9_lead : MethodName := ⟨RX9, "lead", "(I)V"⟩
abbrev cX9_forget : ByteArray := prog_11_method_3_code
def yX9_forget : MethodName := ⟨RX9, "forget", "()V"⟩
abbrev cX9_hasAccepted : ByteArray := prog_11_method_4_code
def yX9_hasAccepted : MethodName := ⟨RX9, "hasAccepted", "(III)Z"⟩
abbrev cX9_take : ByteArray := prog_11_method_5_code
def yX9_take : MethodName := ⟨RX9, "take", "(III)V"⟩
abbrev cX9_listensFor : ByteArray := prog_11_method_6_code
def yX9_listensFor : MethodName := ⟨RX9, "listensFor", "(I)Z"⟩
abbrev cX9_countVoter : ByteArray := prog_11_method_7_code
def yX9_countVoter : MethodName := ⟨RX9, "countVoter", "(III)V"⟩
abbrev cX9_keepGreatest : ByteArray := prog_11_method_8_code
def yX9_keepGreatest : MethodName := ⟨RX9, "keepGreatest", "([I[I)V"⟩
abbrev cX9_keptOrNo : ByteArray := prog_11_method_9_code
def yX9_keptOrNo : MethodName := ⟨RX9, "keptOrNo", "(I)I"⟩
abbrev cX9_toldOfBallot : ByteArray := prog_11_method_10_code
def yX9_toldOfBallot : MethodName := ⟨RX9, "toldOfBallot", "(I)I"⟩
abbrev cX9_toldOfShard : ByteArray := prog_11_method_11_code
def yX9_toldOfShard : MethodName := ⟨RX9, "toldOfShard", "(II)I"⟩
def RX10 : String := "CommitShards"
def TX10 : u_T := fun k => match k with
  | 0 => ("CommitShards", "sizes", "LCommitShards$Sizes;", true)
  | 1 => ("CommitShards", "txns", "LCommitShards$Txns;", true)
  | 2 => ("CommitShards", "keys", "LCommitShards$Keys;", true)
  | 3 => ("CommitShards", "pool", "LCommitShards$Pool;", true)
  | 4 => ("CommitShards", "shardNodes", "[LCommitShards$Shard;", true)
  | 5 => ("CommitShards", "acceptorNodes", "[LCommitShards$Acceptor;", true)
  | 6 => ("CommitShards", "latestRead", "I", false)
  | _ => ("CommitShards", "delivered", "I", false)
def tyX10 : Nat → FieldType := fun k => match k with
  | 0 => .object "CommitShards$Sizes"
  | 1 => .object "CommitShards$Txns"
  | 2 => .object "CommitShards$Keys"
  | 3 => .object "CommitShards$Pool"
  | 4 => .array (.object "CommitShards$Shard")
  | 5 => .array (.object "CommitShards$Acceptor")
  | 6 => .int
  | _ => .int
theorem nmX10 : ∀ a, a < 8 → ∀ b, b < 8 → a ≠ b → (TX10 a).2.1 ≠ (TX10 b).2.1 := by decide +kernel
theorem tyX10_ok : ∀ k, k < 8 → parseFieldDescriptor (TX10 k).2.2.1 = some (tyX10 k) := by decide +kernel
abbrev cX10_init : ByteArray := prog_1_method_1_code
def yX10_init : MethodName := ⟨RX10, "<init>", "(IIIIII)V"⟩
abbrev cX10_begin : ByteArray := prog_1_method_2_code
def yX10_begin : MethodName := ⟨RX10, "begin", "(I)I"⟩
abbrev cX10_read : ByteArray := prog_1_method_3_code
def yX10_read : MethodName := ⟨RX10, "read", "(II)J"⟩
abbrev cX10_readStatus : ByteArray := prog_1_method_4_code
def yX10_readStatus : MethodName := ⟨RX10, "readStatus", "()I"⟩
abbrev cX10_write : ByteArray := prog_1_method_5_code
def yX10_write : MethodName := ⟨RX10, "write", "(IIJ)I"⟩
abbrev cX10_requestCommit : ByteArray := prog_1_method_6_code
def yX10_requestCommit : MethodName := ⟨RX10, "requestCommit", "(I)I"⟩
abbrev cX10_abort : ByteArray := prog_1_method_7_code
def yX10_abort : MethodName := ⟨RX10, "abort", "(I)I"⟩
abbrev cX10_outcome : ByteArray := prog_1_method_8_code
def yX10_outcome : MethodName := ⟨RX10, "outcome", "(I)I"⟩
abbrev cX10_committedValue : ByteArray := prog_1_method_9_code
def yX10_committedValue : MethodName := ⟨RX10, "committedValue", "(I)J"⟩
abbrev cX10_deliver : ByteArray := prog_1_method_10_code
def yX10_deliver : MethodName := ⟨RX10, "deliver", "(I)I"⟩
abbrev cX10_drop : ByteArray := prog_1_method_11_code
def yX10_drop : MethodName := ⟨RX10, "drop", "(I)I"⟩
abbrev cX10_twice : ByteArray := prog_1_method_12_code
def yX10_twice : MethodName := ⟨RX10, "twice", "(I)I"⟩
abbrev cX10_timeout : ByteArray := prog_1_method_13_code
def yX10_timeout : MethodName := ⟨RX10, "timeout", "(II)I"⟩
abbrev cX10_crash : ByteArray := prog_1_method_14_code
def yX10_crash : MethodName := ⟨RX10, "crash", "(I)I"⟩
abbrev cX10_restart : ByteArray := prog_1_method_15_code
def yX10_restart : MethodName := ⟨RX10, "restart", "(I)I"⟩
abbrev cX10_pending : ByteArray := prog_1_method_16_code
def yX10_pending : MethodName := ⟨RX10, "pending", "()I"⟩
abbrev cX10_play : ByteArray := prog_1_method_17_code
def yX10_play : MethodName := ⟨RX10, "play", "(JI)I"⟩
abbrev cX10_message : ByteArray := prog_1_method_18_code
def yX10_message : MethodName := ⟨RX10, "message", "(II)I"⟩
abbrev cX10_lock : ByteArray := prog_1_method_19_code
def yX10_lock : MethodName := ⟨RX10, "lock", "(II)I"⟩
abbrev cX10_node : ByteArray := prog_1_method_20_code
def yX10_node : MethodName := ⟨RX10, "node", "(II)I"⟩
abbrev cX10_entry : ByteArray := prog_1_method_21_code
def yX10_entry : MethodName := ⟨RX10, "entry", "(III)I"⟩
abbrev cX10_ballot : ByteArray := prog_1_method_22_code
def yX10_ballot : MethodName := ⟨RX10, "ballot", "(III)I"⟩
abbrev cX10_accepted : ByteArray := prog_1_method_23_code
def yX10_accepted : MethodName := ⟨RX10, "accepted", "(IIII)I"⟩
abbrev cX10_count : ByteArray := prog_1_method_24_code
def yX10_count : MethodName := ⟨RX10, "count", "(I)I"⟩
abbrev cX10_isTxn : ByteArray := prog_1_method_25_code
def yX10_isTxn : MethodName := ⟨RX10, "isTxn", "(I)Z"⟩
abbrev cX10_isKey : ByteArray := prog_1_method_26_code
def yX10_isKey : MethodName := ⟨RX10, "isKey", "(I)Z"⟩
abbrev cX10_acceptorAt : ByteArray := prog_1_method_27_code
def yX10_acceptorAt : MethodName := ⟨RX10, "acceptorAt", "(I)LCommitShards$Acceptor;"⟩
abbrev cX10_nodeAt : ByteArray := prog_1_method_28_code
def yX10_nodeAt : MethodName := ⟨RX10, "nodeAt", "(I)LCommitShards$Node;"⟩
abbrev cX10_access : ByteArray := prog_1_method_29_code
def yX10_access : MethodName := ⟨RX10, "access", "(III)I"⟩
abbrev cX10_handOver : ByteArray := prog_1_method_30_code
def yX10_handOver : MethodName := ⟨RX10, "handOver", "(I)I"⟩
def RX11 : String := "CommitShardsModel"
def TX11 : u_T := fun k => match k with
  | 0 => ("CommitShardsModel", "shards", "I", true)
  | 1 => ("CommitShardsModel", "acceptors", "I", true)
  | 2 => ("CommitShardsModel", "txns", "I", true)
  | 3 => ("CommitShardsModel", "keys", "I", true)
  | 4 => ("CommitShardsModel", "pool", "I", true)
  | 5 => ("CommitShardsModel", "log", "I", true)
  | 6 => ("CommitShardsModel", "up", "[Z", true)
  | 7 => ("CommitShardsModel", "entries", "[I", true)
  | 8 => ("CommitShardsModel", "entry", "[I", true)
  | 9 => ("CommitShardsModel", "value", "[J", true)
  | 10 => ("CommitShardsModel", "holders", "[I", true)
  | 11 => ("CommitShardsModel", "exclusive", "[I", true)
  | 12 => ("CommitShardsModel", "state", "[I", true)
  | 13 => ("CommitShardsModel", "touched", "[I", true)
  | 14 => ("CommitShardsModel", "isNew", "[Z", true)
  | 15 => ("CommitShardsModel", "newValue", "[J", true)
  | 16 => ("CommitShardsModel", "session", "[Z", true)
  | 17 => ("CommitShardsModel", "voted", "[I", true)
  | 18 => ("CommitShardsModel", "decided", "[I", true)
  | 19 => ("CommitShardsModel", "promised", "[I", true)
  | 20 => ("CommitShardsModel", "leads", "[I", true)
  | 21 => ("CommitShardsModel", "knows", "[I", true)
  | 22 => ("CommitShardsModel", "promises", "[I", true)
  | 23 => ("CommitShardsModel", "ballotOf", "[I", true)
  | 24 => ("CommitShardsModel", "voteOf", "[I", true)
  | 25 => ("CommitShardsModel", "yes", "[I", true)
  | 26 => ("CommitShardsModel", "no", "[I", true)
  | 27 => ("CommitShardsModel", "keptBallot", "[I", true)
  | 28 => ("CommitShardsModel", "keptVote", "[I", true)
  | 29 => ("CommitShardsModel", "messages", "I", false)
  | 30 => ("CommitShardsModel", "message", "[I", true)
  | 31 => ("CommitShardsModel", "told", "[I", true)
  | 32 => ("CommitShardsModel", "posted", "I", false)
  | 33 => ("CommitShardsModel", "lost", "I", false)
  | 34 => ("CommitShardsModel", "delivered", "I", false)
  | 35 => ("CommitShardsModel", "readStatus", "I", false)
  | 36 => ("CommitShardsModel", "taken", "[I", true)
  | _ => ("CommitShardsModel", "takenTold", "[I", true)
def tyX11 : Nat → FieldType := fun k => match k with
  | 0 => .int
  | 1 => .int
  | 2 => .int
  | 3 => .int
  | 4 => .int
  | 5 => .int
  | 6 => .array .boolean
  | 7 => .array .int
  | 8 => .array .int
  | 9 => .array .long
  | 10 => .array .int
  | 11 => .array .int
  | 12 => .array .int
  | 13 => .array .int
  | 14 => .array .boolean
  | 15 => .array .long
  | 16 => .array .boolean
  | 17 => .array .int
  | 18 => .array .int
  | 19 => .array .int
  | 20 => .array .int
  | 21 => .array .int
  | 22 => .array .int
  | 23 => .array .int
  | 24 => .array .int
  | 25 => .array .int
  | 26 => .array .int
  | 27 => .array .int
  | 28 => .array .int
  | 29 => .int
  | 30 => .array .int
  | 31 => .array .int
  | 32 => .int
  | 33 => .int
  | 34 => .int
  | 35 => .int
  | 36 => .array .int
  | _ => .array .int
theorem nmX11 : ∀ a, a < 38 → ∀ b, b < 38 → a ≠ b → (TX11 a).2.1 ≠ (TX11 b).2.1 := by decide +kernel
theorem tyX11_ok : ∀ k, k < 38 → parseFieldDescriptor (TX11 k).2.2.1 = some (tyX11 k) := by decide +kernel
abbrev cX11_init : ByteArray := prog_13_method_1_code
def yX11_init : MethodName := ⟨RX11, "<init>", "(IIIIII)V"⟩
abbrev cX11_near : ByteArray := prog_13_method_2_code
def yX11_near : MethodName := ⟨RX11, "near", "(III)I"⟩
abbrev cX11_in : ByteArray := prog_13_method_4_code
def yX11_in : MethodName := ⟨RX11, "in", "(III)Z"⟩
abbrev cX11_isTxn : ByteArray := prog_13_method_5_code
def yX11_isTxn : MethodName := ⟨RX11, "isTxn", "(I)Z"⟩
abbrev cX11_isKey : ByteArray := prog_13_method_6_code
def yX11_isKey : MethodName := ⟨RX11, "isKey", "(I)Z"⟩
abbrev cX11_isNode : ByteArray := prog_13_method_7_code
def yX11_isNode : MethodName := ⟨RX11, "isNode", "(I)Z"⟩
abbrev cX11_isAcceptor : ByteArray := prog_13_method_8_code
def yX11_isAcceptor : MethodName := ⟨RX11, "isAcceptor", "(I)Z"⟩
abbrev cX11_touches : ByteArray := prog_13_method_9_code
def yX11_touches : MethodName := ⟨RX11, "touches", "(II)Z"⟩
abbrev cX11_bits : ByteArray := prog_13_method_10_code
def yX11_bits : MethodName := ⟨RX11, "bits", "(I)I"⟩
abbrev cX11_isMajority : ByteArray := prog_13_method_11_code
def yX11_isMajority : MethodName := ⟨RX11, "isMajority", "(I)Z"⟩
abbrev cX11_endSession : ByteArray := prog_13_method_12_code
def yX11_endSession : MethodName := ⟨RX11, "endSession", "(II)V"⟩
abbrev cX11_locks : ByteArray := prog_13_method_13_code
def yX11_locks : MethodName := ⟨RX11, "locks", "(IIZ)I"⟩
abbrev cX11_begin : ByteArray := prog_13_method_14_code
def yX11_begin : MethodName := ⟨RX11, "begin", "(I)I"⟩
abbrev cX11_read : ByteArray := prog_13_method_15_code
def yX11_read : MethodName := ⟨RX11, "read", "(II)J"⟩
abbrev cX11_readStatus : ByteArray := prog_13_method_16_code
def yX11_readStatus : MethodName := ⟨RX11, "readStatus", "()I"⟩
abbrev cX11_write : ByteArray := prog_13_method_17_code
def yX11_write : MethodName := ⟨RX11, "write", "(IIJ)I"⟩
abbrev cX11_requestCommit : ByteArray := prog_13_method_18_code
def yX11_requestCommit : MethodName := ⟨RX11, "requestCommit", "(I)I"⟩
abbrev cX11_abort : ByteArray := prog_13_method_19_code
def yX11_abort : MethodName := ⟨RX11, "abort", "(I)I"⟩
abbrev cX11_outcome : ByteArray := prog_13_method_20_code
def yX11_outcome : MethodName := ⟨RX11, "outcome", "(I)I"⟩
abbrev cX11_committedValue : ByteArray := prog_13_method_21_code
def yX11_committedValue : MethodName := ⟨RX11, "committedValue", "(I)J"⟩
abbrev cX11_post : ByteArray := prog_13_method_22_code
def yX11_post : MethodName := ⟨RX11, "post", "(IIIIIII)I"⟩
abbrev cX11_postAll : ByteArray := prog_13_method_23_code
def yX11_postAll : MethodName := ⟨RX11, "postAll", "(IIIIII)V"⟩
abbrev cX11_takeOut : ByteArray := prog_13_method_24_code
def yX11_takeOut : MethodName := ⟨RX11, "takeOut", "(I)V"⟩
abbrev cX11_isMessage : ByteArray := prog_13_method_25_code
def yX11_isMessage : MethodName := ⟨RX11, "isMessage", "(I)Z"⟩
abbrev cX11_writes : ByteArray := prog_13_method_26_code
def yX11_writes : MethodName := ⟨RX11, "writes", "(IIIII)Z"⟩
abbrev cX11_deliver : ByteArray := prog_13_method_27_code
def yX11_deliver : MethodName := ⟨RX11, "deliver", "(I)I"⟩
abbrev cX11_does : ByteArray := prog_13_method_28_code
def yX11_does : MethodName := ⟨RX11, "does", "(II)Z"⟩
abbrev cX11_prepare : ByteArray := prog_13_method_29_code
def yX11_prepare : MethodName := ⟨RX11, "prepare", "(II)Z"⟩
abbrev cX11_vote : ByteArray := prog_13_method_30_code
def yX11_vote : MethodName := ⟨RX11, "vote", "(III)Z"⟩
abbrev cX11_accept : ByteArray := prog_13_method_31_code
def yX11_accept : MethodName := ⟨RX11, "accept", "(III)V"⟩
abbrev cX11_answer : ByteArray := prog_13_method_32_code
def yX11_answer : MethodName := ⟨RX11, "answer", "(III)Z"⟩
abbrev cX11_promise : ByteArray := prog_13_method_33_code
def yX11_promise : MethodName := ⟨RX11, "promise", "(III)V"⟩
abbrev cX11_end : ByteArray := prog_13_method_34_code
def yX11_end : MethodName := ⟨RX11, "end", "(II)Z"⟩
abbrev cX11_drop : ByteArray := prog_13_method_35_code
def yX11_drop : MethodName := ⟨RX11, "drop", "(I)I"⟩
abbrev cX11_twice : ByteArray := prog_13_method_36_code
def yX11_twice : MethodName := ⟨RX11, "twice", "(I)I"⟩
abbrev cX11_begins : ByteArray := prog_13_method_37_code
def yX11_begins : MethodName := ⟨RX11, "begins", "(I)V"⟩
abbrev cX11_forget : ByteArray := prog_13_method_38_code
def yX11_forget : MethodName := ⟨RX11, "forget", "(I)V"⟩
abbrev cX11_timeout : ByteArray := prog_13_method_39_code
def yX11_timeout : MethodName := ⟨RX11, "timeout", "(II)I"⟩
abbrev cX11_crash : ByteArray := prog_13_method_40_code
def yX11_crash : MethodName := ⟨RX11, "crash", "(I)I"⟩
abbrev cX11_restart : ByteArray := prog_13_method_41_code
def yX11_restart : MethodName := ⟨RX11, "restart", "(I)I"⟩
abbrev cX11_pending : ByteArray := prog_13_method_42_code
def yX11_pending : MethodName := ⟨RX11, "pending", "()I"⟩
abbrev cX11_play : ByteArray := prog_13_method_43_code
def yX11_play : MethodName := ⟨RX11, "play", "(JI)I"⟩
abbrev cX11_message : ByteArray := prog_13_method_44_code
def yX11_message : MethodName := ⟨RX11, "message", "(II)I"⟩
abbrev cX11_lock : ByteArray := prog_13_method_45_code
def yX11_lock : MethodName := ⟨RX11, "lock", "(II)I"⟩
abbrev cX11_node : ByteArray := prog_13_method_46_code
def yX11_node : MethodName := ⟨RX11, "node", "(II)I"⟩
abbrev cX11_entry : ByteArray := prog_13_method_47_code
def yX11_entry : MethodName := ⟨RX11, "entry", "(III)I"⟩
abbrev cX11_ballot : ByteArray := prog_13_method_48_code
def yX11_ballot : MethodName := ⟨RX11, "ballot", "(III)I"⟩
abbrev cX11_accepted : ByteArray := prog_13_method_49_code
def yX11_accepted : MethodName := ⟨RX11, "accepted", "(IIII)I"⟩
abbrev cX11_count : ByteArray := prog_13_method_50_code
def yX11_count : MethodName := ⟨RX11, "count", "(I)I"⟩
def RJ6 : String := "java/lang/Integer"
def TJ6 : u_T := fun k => match k with
  | _ => ("", "", "", false)
def tyJ6 : Nat → FieldType := fun k => match k with
  | _ => .int
theorem nmJ6 : ∀ a, a < 0 → ∀ b, b < 0 → a ≠ b → (TJ6 a).2.1 ≠ (TJ6 b).2.1 := by decide +kernel
theorem tyJ6_ok : ∀ k, k < 0 → parseFieldDescriptor (TJ6 k).2.2.1 = some (tyJ6 k) := by decide +kernel
abbrev cJ6_bitCount_0f7a4 : ByteArray := prog_14_method_49_code
def yJ6_bitCount_0f7a4 : MethodName := ⟨RJ6, "bitCount", "(I)I"⟩
def RJ9 : String := "java/lang/Math"
def TJ9 : u_T := fun k => match k with
  | _ => ("", "", "", false)
def tyJ9 : Nat → FieldType := fun k => match k with
  | _ => .int
theorem nmJ9 : ∀ a, a < 0 → ∀ b, b < 0 → a ≠ b → (TJ9 a).2.1 ≠ (TJ9 b).2.1 := by decide +kernel
theorem tyJ9_ok : ∀ k, k < 0 → parseFieldDescriptor (TJ9 k).2.2.1 = some (tyJ9 k) := by decide +kernel
abbrev cJ9_floorMod_7cf53 : ByteArray := prog_15_method_50_code
def yJ9_floorMod_7cf53 : MethodName := ⟨RJ9, "floorMod", "(II)I"⟩
abbrev cJ9_max_7cf53 : ByteArray := prog_15_method_65_code
def yJ9_max_7cf53 : MethodName := ⟨RJ9, "max", "(II)I"⟩
abbrev cJ9_min_7cf53 : ByteArray := prog_15_method_69_code
def yJ9_min_7cf53 : MethodName := ⟨RJ9, "min", "(II)I"⟩
def RJ7 : String := "java/util/Arrays"
def TJ7 : u_T := fun k => match k with
  | _ => ("", "", "", false)
def tyJ7 : Nat → FieldType := fun k => match k with
  | _ => .int
theorem nmJ7 : ∀ a, a < 0 → ∀ b, b < 0 → a ≠ b → (TJ7 a).2.1 ≠ (TJ7 b).2.1 := by decide +kernel
theorem tyJ7_ok : ∀ k, k < 0 → parseFieldDescriptor (TJ7 k).2.2.1 = some (tyJ7 k) := by decide +kernel
abbrev cJ7_fill_53178 : ByteArray := prog_16_method_103_code
def yJ7_fill_53178 : MethodName := ⟨RJ7, "fill", "([II)V"⟩
def RL : String := "CommitShardsLaw"
abbrev cL_cell : ByteArray := method_2_code
def yL_cell : MethodName := ⟨RL, "cell", "([II)I"⟩
abbrev cL_law : ByteArray := code
def yL_law : MethodName := ⟨RL, "law", "([I)Z"⟩
abbrev vwCl : List vw_C := [(RX0, TX0, 8), (RX1, TX1, 4), (RX2, TX2, 2), (RX3, TX3, 9), (RX5, TX5, 7), (RX6, TX6, 9), (RX7, TX7, 6), (RX8, TX8, 2), (RX9, TX9, 11), (RX10, TX10, 8), (RX11, TX11, 38)]
end
section
theorem dX0_init_0 : decode cX0_init 0 = .ok (.aload_n 0, 1) := by decide +kernel
theorem dX0_init_1 : decode cX0_init 1 = .ok (.aload_n 2, 1) := by decide +kernel
theorem dX0_init_2 : decode cX0_init 2 = .ok (.getfield 3, 3) := by decide +kernel
theorem dX0_init_5 : decode cX0_init 5 = .ok (.iload_n 1, 1) := by decide +kernel
theorem dX0_init_6 : decode cX0_init 6 = .ok (.iadd, 1) := by decide +kernel
theorem dX0_init_7 : decode cX0_init 7 = .ok (.aload_n 2, 1) := by decide +kernel
theorem dX0_init_8 : decode cX0_init 8 = .ok (.aload 4, 2) := by decide +kernel
theorem dX0_init_10 : decode cX0_init 10 = .ok (.invokespecial 9, 3) := by decide +kernel
theorem dX0_init_13 : decode cX0_init 13 = .ok (.aload_n 0, 1) := by decide +kernel
theorem dX0_init_14 : decode cX0_init 14 = .ok (.iload_n 1, 1) := by decide +kernel
theorem dX0_init_15 : decode cX0_init 15 = .ok (.putfield 15, 3) := by decide +kernel
theorem dX0_init_18 : decode cX0_init 18 = .ok (.aload_n 0, 1) := by decide +kernel
theorem dX0_init_19 : decode cX0_init 19 = .ok (.aload_n 3, 1) := by decide +kernel
theorem dX0_init_20 : decode cX0_init 20 = .ok (.putfield 20, 3) := by decide +kernel
theorem dX0_init_23 : decode cX0_init 23 = .ok (.aload_n 0, 1) := by decide +kernel
theorem dX0_init_24 : decode cX0_init 24 = .ok (.aload_n 2, 1) := by decide +kernel
theorem dX0_init_25 : decode cX0_init 25 = .ok (.getfield 24, 3) := by decide +kernel
theorem dX0_init_28 : decode cX0_init 28 = .ok (.anewarray 26, 3) := by decide +kernel
theorem dX0_init_31 : decode cX0_init 31 = .ok (.putfield 28, 3) := by decide +kernel
theorem dX0_init_34 : decode cX0_init 34 = .ok (.iconst 0, 1) := by decide +kernel
theorem dX0_init_35 : decode cX0_init 35 = .ok (.istore 5, 2) := by decide +kernel
theorem dX0_init_37 : decode cX0_init 37 = .ok (.iload 5, 2) := by decide +kernel
theorem dX0_init_39 : decode cX0_init 39 = .ok (.aload_n 0, 1) := by decide +kernel
theorem dX0_init_40 : decode cX0_init 40 = .ok (.getfield 28, 3) := by decide +kernel
theorem dX0_init_43 : decode cX0_init 43 = .ok (.arraylength, 1) := by decide +kernel
theorem dX0_init_44 : decode cX0_init 44 = .ok (.if_icmp .ge 36, 3) := by decide +kernel
theorem dX0_init_47 : decode cX0_init 47 = .ok (.aload_n 0, 1) := by decide +kernel
theorem dX0_init_48 : decode cX0_init 48 = .ok (.getfield 28, 3) := by decide +kernel
theorem dX0_init_51 : decode cX0_init 51 = .ok (.iload 5, 2) := by decide +kernel
theorem dX0_init_53 : decode cX0_init 53 = .ok (.new 26, 3) := by decide +kernel
theorem dX0_init_56 : decode cX0_init 56 = .ok (.dup, 1) := by decide +kernel
theorem dX0_init_57 : decode cX0_init 57 = .ok (.iload_n 1, 1) := by decide +kernel
theorem dX0_init_58 : decode cX0_init 58 = .ok (.ifCond .ne 7, 3) := by decide +kernel
theorem dX0_init_61 : decode cX0_init 61 = .ok (.iconst 0, 1) := by decide +kernel
theorem dX0_init_62 : decode cX0_init 62 = .ok (.goto 4, 3) := by decide +kernel
theorem dX0_init_65 : decode cX0_init 65 = .ok (.iconst (-1), 1) := by decide +kernel
theorem dX0_init_66 : decode cX0_init 66 = .ok (.aload_n 2, 1) := by decide +kernel
theorem dX0_init_67 : decode cX0_init 67 = .ok (.getfield 3, 3) := by decide +kernel
theorem dX0_init_70 : decode cX0_init 70 = .ok (.invokespecial 32, 3) := by decide +kernel
theorem dX0_init_73 : decode cX0_init 73 = .ok (.aastore, 1) := by decide +kernel
theorem dX0_init_74 : decode cX0_init 74 = .ok (.iinc 5 1, 3) := by decide +kernel
theorem dX0_init_77 : decode cX0_init 77 = .ok (.goto (-40), 3) := by decide +kernel
theorem dX0_init_80 : decode cX0_init 80 = .ok (.return_, 1) := by decide +kernel
theorem dX0_hear_0 : decode cX0_hear 0 = .ok (.aload_n 0, 1) := by decide +kernel
theorem dX0_hear_1 : decode cX0_hear 1 = .ok (.getfield 28, 3) := by decide +kernel
theorem dX0_hear_4 : decode cX0_hear 4 = .ok (.aload_n 1, 1) := by decide +kernel
theorem dX0_hear_5 : decode cX0_hear 5 = .ok (.getfield 35, 3) := by decide +kernel
theorem dX0_hear_8 : decode cX0_hear 8 = .ok (.aaload, 1) := by decide +kernel
theorem dX0_hear_9 : decode cX0_hear 9 = .ok (.astore_n 2, 1) := by decide +kernel
theorem dX0_hear_10 : decode cX0_hear 10 = .ok (.aload_n 1, 1) := by decide +kernel
theorem dX0_hear_11 : decode cX0_hear 11 = .ok (.getfield 40, 3) := by decide +kernel
theorem dX0_hear_14 : decode cX0_hear 14 = .ok (.tableswitch 60 2 5 #[30, 37, 45, 52], 30) := by decide +kernel
theorem dX0_hear_44 : decode cX0_hear 44 = .ok (.aload_n 0, 1) := by decide +kernel
theorem dX0_hear_45 : decode cX0_hear 45 = .ok (.aload_n 1, 1) := by decide +kernel
theorem dX0_hear_46 : decode cX0_hear 46 = .ok (.aload_n 2, 1) := by decide +kernel
theorem dX0_hear_47 : decode cX0_hear 47 = .ok (.invokevirtual 43, 3) := by decide +kernel
theorem dX0_hear_50 : decode cX0_hear 50 = .ok (.ireturn, 1) := by decide +kernel
theorem dX0_hear_51 : decode cX0_hear 51 = .ok (.aload_n 0, 1) := by decide +kernel
theorem dX0_hear_52 : decode cX0_hear 52 = .ok (.aload_n 1, 1) := by decide +kernel
theorem dX0_hear_53 : decode cX0_hear 53 = .ok (.aload_n 2, 1) := by decide +kernel
theorem dX0_hear_54 : decode cX0_hear 54 = .ok (.invokevirtual 47, 3) := by decide +kernel
theorem dX0_hear_57 : decode cX0_hear 57 = .ok (.iconst 1, 1) := by decide +kernel
theorem dX0_hear_58 : decode cX0_hear 58 = .ok (.ireturn, 1) := by decide +kernel
theorem dX0_hear_59 : decode cX0_hear 59 = .ok (.aload_n 0, 1) := by decide +kernel
theorem dX0_hear_60 : decode cX0_hear 60 = .ok (.aload_n 1, 1) := by decide +kernel
theorem dX0_hear_61 : decode cX0_hear 61 = .ok (.aload_n 2, 1) := by decide +kernel
theorem dX0_hear_62 : decode cX0_hear 62 = .ok (.invokevirtual 51, 3) := by decide +kernel
theorem dX0_hear_65 : decode cX0_hear 65 = .ok (.ireturn, 1) := by decide +kernel
theorem dX0_hear_66 : decode cX0_hear 66 = .ok (.aload_n 0, 1) := by decide +kernel
theorem dX0_hear_67 : decode cX0_hear 67 = .ok (.aload_n 1, 1) := by decide +kernel
theorem dX0_hear_68 : decode cX0_hear 68 = .ok (.aload_n 2, 1) := by decide +kernel
theorem dX0_hear_69 : decode cX0_hear 69 = .ok (.invokevirtual 54, 3) := by decide +kernel
theorem dX0_hear_72 : decode cX0_hear 72 = .ok (.iconst 1, 1) := by decide +kernel
theorem dX0_hear_73 : decode cX0_hear 73 = .ok (.ireturn, 1) := by decide +kernel
theorem dX0_hear_74 : decode cX0_hear 74 = .ok (.iconst 1, 1) := by decide +kernel
theorem dX0_hear_75 : decode cX0_hear 75 = .ok (.ireturn, 1) := by decide +kernel
theorem dX0_hearVote_0 : decode cX0_hearVote 0 = .ok (.aload_n 1, 1) := by decide +kernel
theorem dX0_hearVote_1 : decode cX0_hearVote 1 = .ok (.getfield 57, 3) := by decide +kernel
theorem dX0_hearVote_4 : decode cX0_hearVote 4 = .ok (.aload_n 2, 1) := by decide +kernel
theorem dX0_hearVote_5 : decode cX0_hearVote 5 = .ok (.getfield 60, 3) := by decide +kernel
theorem dX0_hearVote_8 : decode cX0_hearVote 8 = .ok (.if_icmp .ge 5, 3) := by decide +kernel
theorem dX0_hearVote_11 : decode cX0_hearVote 11 = .ok (.iconst 1, 1) := by decide +kernel
theorem dX0_hearVote_12 : decode cX0_hearVote 12 = .ok (.ireturn, 1) := by decide +kernel
theorem dX0_hearVote_13 : decode cX0_hearVote 13 = .ok (.aload_n 2, 1) := by decide +kernel
theorem dX0_hearVote_14 : decode cX0_hearVote 14 = .ok (.aload_n 1, 1) := by decide +kernel
theorem dX0_hearVote_15 : decode cX0_hearVote 15 = .ok (.getfield 57, 3) := by decide +kernel
theorem dX0_hearVote_18 : decode cX0_hearVote 18 = .ok (.aload_n 1, 1) := by decide +kernel
theorem dX0_hearVote_19 : decode cX0_hearVote 19 = .ok (.getfield 63, 3) := by decide +kernel
theorem dX0_hearVote_22 : decode cX0_hearVote 22 = .ok (.aload_n 1, 1) := by decide +kernel
theorem dX0_hearVote_23 : decode cX0_hearVote 23 = .ok (.getfield 66, 3) := by decide +kernel
theorem dX0_hearVote_26 : decode cX0_hearVote 26 = .ok (.invokevirtual 69, 3) := by decide +kernel
theorem dX0_hearVote_29 : decode cX0_hearVote 29 = .ok (.ifCond .ne 59, 3) := by decide +kernel
theorem dX0_hearVote_32 : decode cX0_hearVote 32 = .ok (.aload_n 0, 1) := by decide +kernel
theorem dX0_hearVote_33 : decode cX0_hearVote 33 = .ok (.getfield 73, 3) := by decide +kernel
theorem dX0_hearVote_36 : decode cX0_hearVote 36 = .ok (.invokevirtual 77, 3) := by decide +kernel
theorem dX0_hearVote_39 : decode cX0_hearVote 39 = .ok (.ifCond .eq 5, 3) := by decide +kernel
theorem dX0_hearVote_42 : decode cX0_hearVote 42 = .ok (.iconst 0, 1) := by decide +kernel
theorem dX0_hearVote_43 : decode cX0_hearVote 43 = .ok (.ireturn, 1) := by decide +kernel
theorem dX0_hearVote_44 : decode cX0_hearVote 44 = .ok (.aload_n 0, 1) := by decide +kernel
theorem dX0_hearVote_45 : decode cX0_hearVote 45 = .ok (.getfield 73, 3) := by decide +kernel
theorem dX0_hearVote_48 : decode cX0_hearVote 48 = .ok (.iconst 4, 1) := by decide +kernel
theorem dX0_hearVote_49 : decode cX0_hearVote 49 = .ok (.aload_n 1, 1) := by decide +kernel
theorem dX0_hearVote_50 : decode cX0_hearVote 50 = .ok (.getfield 35, 3) := by decide +kernel
theorem dX0_hearVote_53 : decode cX0_hearVote 53 = .ok (.aload_n 1, 1) := by decide +kernel
theorem dX0_hearVote_54 : decode cX0_hearVote 54 = .ok (.getfield 57, 3) := by decide +kernel
theorem dX0_hearVote_57 : decode cX0_hearVote 57 = .ok (.bipush 10, 2) := by decide +kernel
theorem dX0_hearVote_59 : decode cX0_hearVote 59 = .ok (.aload_n 1, 1) := by decide +kernel
theorem dX0_hearVote_60 : decode cX0_hearVote 60 = .ok (.getfield 63, 3) := by decide +kernel
theorem dX0_hearVote_63 : decode cX0_hearVote 63 = .ok (.imul, 1) := by decide +kernel
theorem dX0_hearVote_64 : decode cX0_hearVote 64 = .ok (.aload_n 1, 1) := by decide +kernel
theorem dX0_hearVote_65 : decode cX0_hearVote 65 = .ok (.getfield 66, 3) := by decide +kernel
theorem dX0_hearVote_68 : decode cX0_hearVote 68 = .ok (.iadd, 1) := by decide +kernel
theorem dX0_hearVote_69 : decode cX0_hearVote 69 = .ok (.invokevirtual 83, 3) := by decide +kernel
theorem dX0_hearVote_72 : decode cX0_hearVote 72 = .ok (.aload_n 2, 1) := by decide +kernel
theorem dX0_hearVote_73 : decode cX0_hearVote 73 = .ok (.aload_n 1, 1) := by decide +kernel
theorem dX0_hearVote_74 : decode cX0_hearVote 74 = .ok (.getfield 57, 3) := by decide +kernel
theorem dX0_hearVote_77 : decode cX0_hearVote 77 = .ok (.aload_n 1, 1) := by decide +kernel
theorem dX0_hearVote_78 : decode cX0_hearVote 78 = .ok (.getfield 63, 3) := by decide +kernel
theorem dX0_hearVote_81 : decode cX0_hearVote 81 = .ok (.aload_n 1, 1) := by decide +kernel
theorem dX0_hearVote_82 : decode cX0_hearVote 82 = .ok (.getfield 66, 3) := by decide +kernel
theorem dX0_hearVote_85 : decode cX0_hearVote 85 = .ok (.invokevirtual 87, 3) := by decide +kernel
theorem dX0_hearVote_88 : decode cX0_hearVote 88 = .ok (.aload_n 0, 1) := by decide +kernel
theorem dX0_hearVote_89 : decode cX0_hearVote 89 = .ok (.getfield 91, 3) := by decide +kernel
theorem dX0_hearVote_92 : decode cX0_hearVote 92 = .ok (.iconst 3, 1) := by decide +kernel
theorem dX0_hearVote_93 : decode cX0_hearVote 93 = .ok (.aload_n 1, 1) := by decide +kernel
theorem dX0_hearVote_94 : decode cX0_hearVote 94 = .ok (.getfield 35, 3) := by decide +kernel
theorem dX0_hearVote_97 : decode cX0_hearVote 97 = .ok (.aload_n 0, 1) := by decide +kernel
theorem dX0_hearVote_98 : decode cX0_hearVote 98 = .ok (.getfield 95, 3) := by decide +kernel
theorem dX0_hearVote_101 : decode cX0_hearVote 101 = .ok (.aload_n 1, 1) := by decide +kernel
theorem dX0_hearVote_102 : decode cX0_hearVote 102 = .ok (.getfield 57, 3) := by decide +kernel
theorem dX0_hearVote_105 : decode cX0_hearVote 105 = .ok (.aload_n 1, 1) := by decide +kernel
theorem dX0_hearVote_106 : decode cX0_hearVote 106 = .ok (.getfield 63, 3) := by decide +kernel
theorem dX0_hearVote_109 : decode cX0_hearVote 109 = .ok (.aload_n 1, 1) := by decide +kernel
theorem dX0_hearVote_110 : decode cX0_hearVote 110 = .ok (.getfield 66, 3) := by decide +kernel
theorem dX0_hearVote_113 : decode cX0_hearVote 113 = .ok (.invokevirtual 98, 3) := by decide +kernel
theorem dX0_hearVote_116 : decode cX0_hearVote 116 = .ok (.aload_n 0, 1) := by decide +kernel
theorem dX0_hearVote_117 : decode cX0_hearVote 117 = .ok (.getfield 91, 3) := by decide +kernel
theorem dX0_hearVote_120 : decode cX0_hearVote 120 = .ok (.aload_n 0, 1) := by decide +kernel
theorem dX0_hearVote_121 : decode cX0_hearVote 121 = .ok (.getfield 91, 3) := by decide +kernel
theorem dX0_hearVote_124 : decode cX0_hearVote 124 = .ok (.getfield 104, 3) := by decide +kernel
theorem dX0_hearVote_127 : decode cX0_hearVote 127 = .ok (.aload_n 0, 1) := by decide +kernel
theorem dX0_hearVote_128 : decode cX0_hearVote 128 = .ok (.getfield 108, 3) := by decide +kernel
theorem dX0_hearVote_131 : decode cX0_hearVote 131 = .ok (.aload_n 1, 1) := by decide +kernel
theorem dX0_hearVote_132 : decode cX0_hearVote 132 = .ok (.getfield 57, 3) := by decide +kernel
theorem dX0_hearVote_135 : decode cX0_hearVote 135 = .ok (.invokevirtual 112, 3) := by decide +kernel
theorem dX0_hearVote_138 : decode cX0_hearVote 138 = .ok (.invokevirtual 116, 3) := by decide +kernel
theorem dX0_hearVote_141 : decode cX0_hearVote 141 = .ok (.pop, 1) := by decide +kernel
theorem dX0_hearVote_142 : decode cX0_hearVote 142 = .ok (.iconst 1, 1) := by decide +kernel
theorem dX0_hearVote_143 : decode cX0_hearVote 143 = .ok (.ireturn, 1) := by decide +kernel
theorem dX0_hearAccepted_0 : decode cX0_hearAccepted 0 = .ok (.aload_n 2, 1) := by decide +kernel
theorem dX0_hearAccepted_1 : decode cX0_hearAccepted 1 = .ok (.aload_n 1, 1) := by decide +kernel
theorem dX0_hearAccepted_2 : decode cX0_hearAccepted 2 = .ok (.getfield 57, 3) := by decide +kernel
theorem dX0_hearAccepted_5 : decode cX0_hearAccepted 5 = .ok (.invokevirtual 120, 3) := by decide +kernel
theorem dX0_hearAccepted_8 : decode cX0_hearAccepted 8 = .ok (.ifCond .ne 4, 3) := by decide +kernel
theorem dX0_hearAccepted_11 : decode cX0_hearAccepted 11 = .ok (.return_, 1) := by decide +kernel
theorem dX0_hearAccepted_12 : decode cX0_hearAccepted 12 = .ok (.aload_n 2, 1) := by decide +kernel
theorem dX0_hearAccepted_13 : decode cX0_hearAccepted 13 = .ok (.aload_n 1, 1) := by decide +kernel
theorem dX0_hearAccepted_14 : decode cX0_hearAccepted 14 = .ok (.getfield 63, 3) := by decide +kernel
theorem dX0_hearAccepted_17 : decode cX0_hearAccepted 17 = .ok (.aload_n 1, 1) := by decide +kernel
theorem dX0_hearAccepted_18 : decode cX0_hearAccepted 18 = .ok (.getfield 66, 3) := by decide +kernel
theorem dX0_hearAccepted_21 : decode cX0_hearAccepted 21 = .ok (.aload_n 0, 1) := by decide +kernel
theorem dX0_hearAccepted_22 : decode cX0_hearAccepted 22 = .ok (.aload_n 1, 1) := by decide +kernel
theorem dX0_hearAccepted_23 : decode cX0_hearAccepted 23 = .ok (.getfield 124, 3) := by decide +kernel
theorem dX0_hearAccepted_26 : decode cX0_hearAccepted 26 = .ok (.invokevirtual 127, 3) := by decide +kernel
theorem dX0_hearAccepted_29 : decode cX0_hearAccepted 29 = .ok (.invokevirtual 130, 3) := by decide +kernel
theorem dX0_hearAccepted_32 : decode cX0_hearAccepted 32 = .ok (.aload_n 0, 1) := by decide +kernel
theorem dX0_hearAccepted_33 : decode cX0_hearAccepted 33 = .ok (.aload_n 1, 1) := by decide +kernel
theorem dX0_hearAccepted_34 : decode cX0_hearAccepted 34 = .ok (.getfield 35, 3) := by decide +kernel
theorem dX0_hearAccepted_37 : decode cX0_hearAccepted 37 = .ok (.aload_n 2, 1) := by decide +kernel
theorem dX0_hearAccepted_38 : decode cX0_hearAccepted 38 = .ok (.invokevirtual 133, 3) := by decide +kernel
theorem dX0_hearAccepted_41 : decode cX0_hearAccepted 41 = .ok (.istore_n 3, 1) := by decide +kernel
theorem dX0_hearAccepted_42 : decode cX0_hearAccepted 42 = .ok (.iload_n 3, 1) := by decide +kernel
theorem dX0_hearAccepted_43 : decode cX0_hearAccepted 43 = .ok (.ifCond .eq 17, 3) := by decide +kernel
theorem dX0_hearAccepted_46 : decode cX0_hearAccepted 46 = .ok (.aload_n 2, 1) := by decide +kernel
theorem dX0_hearAccepted_47 : decode cX0_hearAccepted 47 = .ok (.iload_n 3, 1) := by decide +kernel
theorem dX0_hearAccepted_48 : decode cX0_hearAccepted 48 = .ok (.putfield 137, 3) := by decide +kernel
theorem dX0_hearAccepted_51 : decode cX0_hearAccepted 51 = .ok (.aload_n 0, 1) := by decide +kernel
theorem dX0_hearAccepted_52 : decode cX0_hearAccepted 52 = .ok (.aload_n 1, 1) := by decide +kernel
theorem dX0_hearAccepted_53 : decode cX0_hearAccepted 53 = .ok (.getfield 35, 3) := by decide +kernel
theorem dX0_hearAccepted_56 : decode cX0_hearAccepted 56 = .ok (.iload_n 3, 1) := by decide +kernel
theorem dX0_hearAccepted_57 : decode cX0_hearAccepted 57 = .ok (.invokevirtual 140, 3) := by decide +kernel
theorem dX0_hearAccepted_60 : decode cX0_hearAccepted 60 = .ok (.return_, 1) := by decide +kernel
theorem dX0_endOf_0 : decode cX0_endOf 0 = .ok (.iconst 1, 1) := by decide +kernel
theorem dX0_endOf_1 : decode cX0_endOf 1 = .ok (.istore_n 3, 1) := by decide +kernel
theorem dX0_endOf_2 : decode cX0_endOf 2 = .ok (.iconst 0, 1) := by decide +kernel
theorem dX0_endOf_3 : decode cX0_endOf 3 = .ok (.istore 4, 2) := by decide +kernel
theorem dX0_endOf_5 : decode cX0_endOf 5 = .ok (.iload 4, 2) := by decide +kernel
theorem dX0_endOf_7 : decode cX0_endOf 7 = .ok (.aload_n 0, 1) := by decide +kernel
theorem dX0_endOf_8 : decode cX0_endOf 8 = .ok (.getfield 108, 3) := by decide +kernel
theorem dX0_endOf_11 : decode cX0_endOf 11 = .ok (.getfield 3, 3) := by decide +kernel
theorem dX0_endOf_14 : decode cX0_endOf 14 = .ok (.if_icmp .ge 68, 3) := by decide +kernel
theorem dX0_endOf_17 : decode cX0_endOf 17 = .ok (.aload_n 0, 1) := by decide +kernel
theorem dX0_endOf_18 : decode cX0_endOf 18 = .ok (.getfield 20, 3) := by decide +kernel
theorem dX0_endOf_21 : decode cX0_endOf 21 = .ok (.iload_n 1, 1) := by decide +kernel
theorem dX0_endOf_22 : decode cX0_endOf 22 = .ok (.iload 4, 2) := by decide +kernel
theorem dX0_endOf_24 : decode cX0_endOf 24 = .ok (.invokevirtual 143, 3) := by decide +kernel
theorem dX0_endOf_27 : decode cX0_endOf 27 = .ok (.ifCond .eq 49, 3) := by decide +kernel
theorem dX0_endOf_30 : decode cX0_endOf 30 = .ok (.aload_n 0, 1) := by decide +kernel
theorem dX0_endOf_31 : decode cX0_endOf 31 = .ok (.getfield 108, 3) := by decide +kernel
theorem dX0_endOf_34 : decode cX0_endOf 34 = .ok (.aload_n 2, 1) := by decide +kernel
theorem dX0_endOf_35 : decode cX0_endOf 35 = .ok (.getfield 149, 3) := by decide +kernel
theorem dX0_endOf_38 : decode cX0_endOf 38 = .ok (.iload 4, 2) := by decide +kernel
theorem dX0_endOf_40 : decode cX0_endOf 40 = .ok (.iaload, 1) := by decide +kernel
theorem dX0_endOf_41 : decode cX0_endOf 41 = .ok (.invokevirtual 153, 3) := by decide +kernel
theorem dX0_endOf_44 : decode cX0_endOf 44 = .ok (.ifCond .eq 5, 3) := by decide +kernel
theorem dX0_endOf_47 : decode cX0_endOf 47 = .ok (.iconst 4, 1) := by decide +kernel
theorem dX0_endOf_48 : decode cX0_endOf 48 = .ok (.ireturn, 1) := by decide +kernel
theorem dX0_endOf_49 : decode cX0_endOf 49 = .ok (.iload_n 3, 1) := by decide +kernel
theorem dX0_endOf_50 : decode cX0_endOf 50 = .ok (.ifCond .eq 24, 3) := by decide +kernel
theorem dX0_endOf_53 : decode cX0_endOf 53 = .ok (.aload_n 0, 1) := by decide +kernel
theorem dX0_endOf_54 : decode cX0_endOf 54 = .ok (.getfield 108, 3) := by decide +kernel
theorem dX0_endOf_57 : decode cX0_endOf 57 = .ok (.aload_n 2, 1) := by decide +kernel
theorem dX0_endOf_58 : decode cX0_endOf 58 = .ok (.getfield 156, 3) := by decide +kernel
theorem dX0_endOf_61 : decode cX0_endOf 61 = .ok (.iload 4, 2) := by decide +kernel
theorem dX0_endOf_63 : decode cX0_endOf 63 = .ok (.iaload, 1) := by decide +kernel
theorem dX0_endOf_64 : decode cX0_endOf 64 = .ok (.invokevirtual 153, 3) := by decide +kernel
theorem dX0_endOf_67 : decode cX0_endOf 67 = .ok (.ifCond .eq 7, 3) := by decide +kernel
theorem dX0_endOf_70 : decode cX0_endOf 70 = .ok (.iconst 1, 1) := by decide +kernel
theorem dX0_endOf_71 : decode cX0_endOf 71 = .ok (.goto 4, 3) := by decide +kernel
theorem dX0_endOf_74 : decode cX0_endOf 74 = .ok (.iconst 0, 1) := by decide +kernel
theorem dX0_endOf_75 : decode cX0_endOf 75 = .ok (.istore_n 3, 1) := by decide +kernel
theorem dX0_endOf_76 : decode cX0_endOf 76 = .ok (.iinc 4 1, 3) := by decide +kernel
theorem dX0_endOf_79 : decode cX0_endOf 79 = .ok (.goto (-74), 3) := by decide +kernel
theorem dX0_endOf_82 : decode cX0_endOf 82 = .ok (.iload_n 3, 1) := by decide +kernel
theorem dX0_endOf_83 : decode cX0_endOf 83 = .ok (.ifCond .eq 7, 3) := by decide +kernel
theorem dX0_endOf_86 : decode cX0_endOf 86 = .ok (.iconst 3, 1) := by decide +kernel
theorem dX0_endOf_87 : decode cX0_endOf 87 = .ok (.goto 4, 3) := by decide +kernel
theorem dX0_endOf_90 : decode cX0_endOf 90 = .ok (.iconst 0, 1) := by decide +kernel
theorem dX0_endOf_91 : decode cX0_endOf 91 = .ok (.ireturn, 1) := by decide +kernel
theorem dX0_postEnd_0 : decode cX0_postEnd 0 = .ok (.aload_n 0, 1) := by decide +kernel
theorem dX0_postEnd_1 : decode cX0_postEnd 1 = .ok (.getfield 91, 3) := by decide +kernel
theorem dX0_postEnd_4 : decode cX0_postEnd 4 = .ok (.bipush 6, 2) := by decide +kernel
theorem dX0_postEnd_6 : decode cX0_postEnd 6 = .ok (.iload_n 1, 1) := by decide +kernel
theorem dX0_postEnd_7 : decode cX0_postEnd 7 = .ok (.aload_n 0, 1) := by decide +kernel
theorem dX0_postEnd_8 : decode cX0_postEnd 8 = .ok (.getfield 95, 3) := by decide +kernel
theorem dX0_postEnd_11 : decode cX0_postEnd 11 = .ok (.invokevirtual 159, 3) := by decide +kernel
theorem dX0_postEnd_14 : decode cX0_postEnd 14 = .ok (.aload_n 0, 1) := by decide +kernel
theorem dX0_postEnd_15 : decode cX0_postEnd 15 = .ok (.getfield 91, 3) := by decide +kernel
theorem dX0_postEnd_18 : decode cX0_postEnd 18 = .ok (.getfield 104, 3) := by decide +kernel
theorem dX0_postEnd_21 : decode cX0_postEnd 21 = .ok (.iload_n 2, 1) := by decide +kernel
theorem dX0_postEnd_22 : decode cX0_postEnd 22 = .ok (.putfield 66, 3) := by decide +kernel
theorem dX0_postEnd_25 : decode cX0_postEnd 25 = .ok (.iconst 0, 1) := by decide +kernel
theorem dX0_postEnd_26 : decode cX0_postEnd 26 = .ok (.istore_n 3, 1) := by decide +kernel
theorem dX0_postEnd_27 : decode cX0_postEnd 27 = .ok (.iload_n 3, 1) := by decide +kernel
theorem dX0_postEnd_28 : decode cX0_postEnd 28 = .ok (.aload_n 0, 1) := by decide +kernel
theorem dX0_postEnd_29 : decode cX0_postEnd 29 = .ok (.getfield 108, 3) := by decide +kernel
theorem dX0_postEnd_32 : decode cX0_postEnd 32 = .ok (.getfield 3, 3) := by decide +kernel
theorem dX0_postEnd_35 : decode cX0_postEnd 35 = .ok (.if_icmp .ge 37, 3) := by decide +kernel
theorem dX0_postEnd_38 : decode cX0_postEnd 38 = .ok (.aload_n 0, 1) := by decide +kernel
theorem dX0_postEnd_39 : decode cX0_postEnd 39 = .ok (.getfield 20, 3) := by decide +kernel
theorem dX0_postEnd_42 : decode cX0_postEnd 42 = .ok (.iload_n 1, 1) := by decide +kernel
theorem dX0_postEnd_43 : decode cX0_postEnd 43 = .ok (.iload_n 3, 1) := by decide +kernel
theorem dX0_postEnd_44 : decode cX0_postEnd 44 = .ok (.invokevirtual 143, 3) := by decide +kernel
theorem dX0_postEnd_47 : decode cX0_postEnd 47 = .ok (.ifCond .eq 19, 3) := by decide +kernel
theorem dX0_postEnd_50 : decode cX0_postEnd 50 = .ok (.aload_n 0, 1) := by decide +kernel
theorem dX0_postEnd_51 : decode cX0_postEnd 51 = .ok (.getfield 91, 3) := by decide +kernel
theorem dX0_postEnd_54 : decode cX0_postEnd 54 = .ok (.aload_n 0, 1) := by decide +kernel
theorem dX0_postEnd_55 : decode cX0_postEnd 55 = .ok (.getfield 91, 3) := by decide +kernel
theorem dX0_postEnd_58 : decode cX0_postEnd 58 = .ok (.getfield 104, 3) := by decide +kernel
theorem dX0_postEnd_61 : decode cX0_postEnd 61 = .ok (.iload_n 3, 1) := by decide +kernel
theorem dX0_postEnd_62 : decode cX0_postEnd 62 = .ok (.invokevirtual 116, 3) := by decide +kernel
theorem dX0_postEnd_65 : decode cX0_postEnd 65 = .ok (.pop, 1) := by decide +kernel
theorem dX0_postEnd_66 : decode cX0_postEnd 66 = .ok (.iinc 3 1, 3) := by decide +kernel
theorem dX0_postEnd_69 : decode cX0_postEnd 69 = .ok (.goto (-42), 3) := by decide +kernel
theorem dX0_postEnd_72 : decode cX0_postEnd 72 = .ok (.aload_n 0, 1) := by decide +kernel
theorem dX0_postEnd_73 : decode cX0_postEnd 73 = .ok (.getfield 91, 3) := by decide +kernel
theorem dX0_postEnd_76 : decode cX0_postEnd 76 = .ok (.aload_n 0, 1) := by decide +kernel
theorem dX0_postEnd_77 : decode cX0_postEnd 77 = .ok (.getfield 91, 3) := by decide +kernel
theorem dX0_postEnd_80 : decode cX0_postEnd 80 = .ok (.getfield 104, 3) := by decide +kernel
theorem dX0_postEnd_83 : decode cX0_postEnd 83 = .ok (.aload_n 0, 1) := by decide +kernel
theorem dX0_postEnd_84 : decode cX0_postEnd 84 = .ok (.getfield 108, 3) := by decide +kernel
theorem dX0_postEnd_87 : decode cX0_postEnd 87 = .ok (.invokevirtual 162, 3) := by decide +kernel
theorem dX0_postEnd_90 : decode cX0_postEnd 90 = .ok (.invokevirtual 116, 3) := by decide +kernel
theorem dX0_postEnd_93 : decode cX0_postEnd 93 = .ok (.pop, 1) := by decide +kernel
theorem dX0_postEnd_94 : decode cX0_postEnd 94 = .ok (.return_, 1) := by decide +kernel
theorem dX0_hearAsk_0 : decode cX0_hearAsk 0 = .ok (.aload_n 1, 1) := by decide +kernel
theorem dX0_hearAsk_1 : decode cX0_hearAsk 1 = .ok (.getfield 57, 3) := by decide +kernel
theorem dX0_hearAsk_4 : decode cX0_hearAsk 4 = .ok (.aload_n 2, 1) := by decide +kernel
theorem dX0_hearAsk_5 : decode cX0_hearAsk 5 = .ok (.getfield 60, 3) := by decide +kernel
theorem dX0_hearAsk_8 : decode cX0_hearAsk 8 = .ok (.if_icmp .ge 5, 3) := by decide +kernel
theorem dX0_hearAsk_11 : decode cX0_hearAsk 11 = .ok (.iconst 1, 1) := by decide +kernel
theorem dX0_hearAsk_12 : decode cX0_hearAsk 12 = .ok (.ireturn, 1) := by decide +kernel
theorem dX0_hearAsk_13 : decode cX0_hearAsk 13 = .ok (.aload_n 1, 1) := by decide +kernel
theorem dX0_hearAsk_14 : decode cX0_hearAsk 14 = .ok (.getfield 57, 3) := by decide +kernel
theorem dX0_hearAsk_17 : decode cX0_hearAsk 17 = .ok (.aload_n 2, 1) := by decide +kernel
theorem dX0_hearAsk_18 : decode cX0_hearAsk 18 = .ok (.getfield 60, 3) := by decide +kernel
theorem dX0_hearAsk_21 : decode cX0_hearAsk 21 = .ok (.if_icmp .le 27, 3) := by decide +kernel
theorem dX0_hearAsk_24 : decode cX0_hearAsk 24 = .ok (.aload_n 0, 1) := by decide +kernel
theorem dX0_hearAsk_25 : decode cX0_hearAsk 25 = .ok (.getfield 73, 3) := by decide +kernel
theorem dX0_hearAsk_28 : decode cX0_hearAsk 28 = .ok (.invokevirtual 77, 3) := by decide +kernel
theorem dX0_hearAsk_31 : decode cX0_hearAsk 31 = .ok (.ifCond .eq 5, 3) := by decide +kernel
theorem dX0_hearAsk_34 : decode cX0_hearAsk 34 = .ok (.iconst 0, 1) := by decide +kernel
theorem dX0_hearAsk_35 : decode cX0_hearAsk 35 = .ok (.ireturn, 1) := by decide +kernel
theorem dX0_hearAsk_36 : decode cX0_hearAsk 36 = .ok (.aload_n 0, 1) := by decide +kernel
theorem dX0_hearAsk_37 : decode cX0_hearAsk 37 = .ok (.aload_n 1, 1) := by decide +kernel
theorem dX0_hearAsk_38 : decode cX0_hearAsk 38 = .ok (.getfield 35, 3) := by decide +kernel
theorem dX0_hearAsk_41 : decode cX0_hearAsk 41 = .ok (.aload_n 1, 1) := by decide +kernel
theorem dX0_hearAsk_42 : decode cX0_hearAsk 42 = .ok (.getfield 57, 3) := by decide +kernel
theorem dX0_hearAsk_45 : decode cX0_hearAsk 45 = .ok (.invokevirtual 166, 3) := by decide +kernel
theorem dX0_hearAsk_48 : decode cX0_hearAsk 48 = .ok (.aload_n 0, 1) := by decide +kernel
theorem dX0_hearAsk_49 : decode cX0_hearAsk 49 = .ok (.getfield 91, 3) := by decide +kernel
theorem dX0_hearAsk_52 : decode cX0_hearAsk 52 = .ok (.iconst 5, 1) := by decide +kernel
theorem dX0_hearAsk_53 : decode cX0_hearAsk 53 = .ok (.aload_n 1, 1) := by decide +kernel
theorem dX0_hearAsk_54 : decode cX0_hearAsk 54 = .ok (.getfield 35, 3) := by decide +kernel
theorem dX0_hearAsk_57 : decode cX0_hearAsk 57 = .ok (.aload_n 0, 1) := by decide +kernel
theorem dX0_hearAsk_58 : decode cX0_hearAsk 58 = .ok (.getfield 95, 3) := by decide +kernel
theorem dX0_hearAsk_61 : decode cX0_hearAsk 61 = .ok (.invokevirtual 159, 3) := by decide +kernel
theorem dX0_hearAsk_64 : decode cX0_hearAsk 64 = .ok (.aload_n 0, 1) := by decide +kernel
theorem dX0_hearAsk_65 : decode cX0_hearAsk 65 = .ok (.getfield 91, 3) := by decide +kernel
theorem dX0_hearAsk_68 : decode cX0_hearAsk 68 = .ok (.getfield 104, 3) := by decide +kernel
theorem dX0_hearAsk_71 : decode cX0_hearAsk 71 = .ok (.aload_n 1, 1) := by decide +kernel
theorem dX0_hearAsk_72 : decode cX0_hearAsk 72 = .ok (.getfield 57, 3) := by decide +kernel
theorem dX0_hearAsk_75 : decode cX0_hearAsk 75 = .ok (.putfield 57, 3) := by decide +kernel
theorem dX0_hearAsk_78 : decode cX0_hearAsk 78 = .ok (.aload_n 0, 1) := by decide +kernel
theorem dX0_hearAsk_79 : decode cX0_hearAsk 79 = .ok (.getfield 91, 3) := by decide +kernel
theorem dX0_hearAsk_82 : decode cX0_hearAsk 82 = .ok (.getfield 104, 3) := by decide +kernel
theorem dX0_hearAsk_85 : decode cX0_hearAsk 85 = .ok (.aload_n 2, 1) := by decide +kernel
theorem dX0_hearAsk_86 : decode cX0_hearAsk 86 = .ok (.getfield 169, 3) := by decide +kernel
theorem dX0_hearAsk_89 : decode cX0_hearAsk 89 = .ok (.aload_n 2, 1) := by decide +kernel
theorem dX0_hearAsk_90 : decode cX0_hearAsk 90 = .ok (.getfield 172, 3) := by decide +kernel
theorem dX0_hearAsk_93 : decode cX0_hearAsk 93 = .ok (.invokevirtual 175, 3) := by decide +kernel
theorem dX0_hearAsk_96 : decode cX0_hearAsk 96 = .ok (.aload_n 0, 1) := by decide +kernel
theorem dX0_hearAsk_97 : decode cX0_hearAsk 97 = .ok (.getfield 91, 3) := by decide +kernel
theorem dX0_hearAsk_100 : decode cX0_hearAsk 100 = .ok (.aload_n 0, 1) := by decide +kernel
theorem dX0_hearAsk_101 : decode cX0_hearAsk 101 = .ok (.getfield 91, 3) := by decide +kernel
theorem dX0_hearAsk_104 : decode cX0_hearAsk 104 = .ok (.getfield 104, 3) := by decide +kernel
theorem dX0_hearAsk_107 : decode cX0_hearAsk 107 = .ok (.aload_n 0, 1) := by decide +kernel
theorem dX0_hearAsk_108 : decode cX0_hearAsk 108 = .ok (.getfield 108, 3) := by decide +kernel
theorem dX0_hearAsk_111 : decode cX0_hearAsk 111 = .ok (.aload_n 1, 1) := by decide +kernel
theorem dX0_hearAsk_112 : decode cX0_hearAsk 112 = .ok (.getfield 57, 3) := by decide +kernel
theorem dX0_hearAsk_115 : decode cX0_hearAsk 115 = .ok (.invokevirtual 112, 3) := by decide +kernel
theorem dX0_hearAsk_118 : decode cX0_hearAsk 118 = .ok (.invokevirtual 116, 3) := by decide +kernel
theorem dX0_hearAsk_121 : decode cX0_hearAsk 121 = .ok (.pop, 1) := by decide +kernel
theorem dX0_hearAsk_122 : decode cX0_hearAsk 122 = .ok (.iconst 1, 1) := by decide +kernel
theorem dX0_hearAsk_123 : decode cX0_hearAsk 123 = .ok (.ireturn, 1) := by decide +kernel
theorem dX0_promise_0 : decode cX0_promise 0 = .ok (.aload_n 0, 1) := by decide +kernel
theorem dX0_promise_1 : decode cX0_promise 1 = .ok (.getfield 73, 3) := by decide +kernel
theorem dX0_promise_4 : decode cX0_promise 4 = .ok (.iconst 3, 1) := by decide +kernel
theorem dX0_promise_5 : decode cX0_promise 5 = .ok (.iload_n 1, 1) := by decide +kernel
theorem dX0_promise_6 : decode cX0_promise 6 = .ok (.iload_n 2, 1) := by decide +kernel
theorem dX0_promise_7 : decode cX0_promise 7 = .ok (.iconst 0, 1) := by decide +kernel
theorem dX0_promise_8 : decode cX0_promise 8 = .ok (.invokevirtual 83, 3) := by decide +kernel
theorem dX0_promise_11 : decode cX0_promise 11 = .ok (.aload_n 0, 1) := by decide +kernel
theorem dX0_promise_12 : decode cX0_promise 12 = .ok (.getfield 28, 3) := by decide +kernel
theorem dX0_promise_15 : decode cX0_promise 15 = .ok (.iload_n 1, 1) := by decide +kernel
theorem dX0_promise_16 : decode cX0_promise 16 = .ok (.aaload, 1) := by decide +kernel
theorem dX0_promise_17 : decode cX0_promise 17 = .ok (.iload_n 2, 1) := by decide +kernel
theorem dX0_promise_18 : decode cX0_promise 18 = .ok (.putfield 60, 3) := by decide +kernel
theorem dX0_promise_21 : decode cX0_promise 21 = .ok (.return_, 1) := by decide +kernel
theorem dX0_hearPromise_0 : decode cX0_hearPromise 0 = .ok (.aload_n 2, 1) := by decide +kernel
theorem dX0_hearPromise_1 : decode cX0_hearPromise 1 = .ok (.aload_n 1, 1) := by decide +kernel
theorem dX0_hearPromise_2 : decode cX0_hearPromise 2 = .ok (.getfield 57, 3) := by decide +kernel
theorem dX0_hearPromise_5 : decode cX0_hearPromise 5 = .ok (.invokevirtual 120, 3) := by decide +kernel
theorem dX0_hearPromise_8 : decode cX0_hearPromise 8 = .ok (.ifCond .eq 17, 3) := by decide +kernel
theorem dX0_hearPromise_11 : decode cX0_hearPromise 11 = .ok (.aload_n 0, 1) := by decide +kernel
theorem dX0_hearPromise_12 : decode cX0_hearPromise 12 = .ok (.getfield 108, 3) := by decide +kernel
theorem dX0_hearPromise_15 : decode cX0_hearPromise 15 = .ok (.aload_n 2, 1) := by decide +kernel
theorem dX0_hearPromise_16 : decode cX0_hearPromise 16 = .ok (.getfield 179, 3) := by decide +kernel
theorem dX0_hearPromise_19 : decode cX0_hearPromise 19 = .ok (.invokevirtual 153, 3) := by decide +kernel
theorem dX0_hearPromise_22 : decode cX0_hearPromise 22 = .ok (.ifCond .eq 4, 3) := by decide +kernel
theorem dX0_hearPromise_25 : decode cX0_hearPromise 25 = .ok (.return_, 1) := by decide +kernel
theorem dX0_hearPromise_26 : decode cX0_hearPromise 26 = .ok (.aload_n 2, 1) := by decide +kernel
theorem dX0_hearPromise_27 : decode cX0_hearPromise 27 = .ok (.dup, 1) := by decide +kernel
theorem dX0_hearPromise_28 : decode cX0_hearPromise 28 = .ok (.getfield 179, 3) := by decide +kernel
theorem dX0_hearPromise_31 : decode cX0_hearPromise 31 = .ok (.aload_n 0, 1) := by decide +kernel
theorem dX0_hearPromise_32 : decode cX0_hearPromise 32 = .ok (.aload_n 1, 1) := by decide +kernel
theorem dX0_hearPromise_33 : decode cX0_hearPromise 33 = .ok (.getfield 124, 3) := by decide +kernel
theorem dX0_hearPromise_36 : decode cX0_hearPromise 36 = .ok (.invokevirtual 127, 3) := by decide +kernel
theorem dX0_hearPromise_39 : decode cX0_hearPromise 39 = .ok (.ior, 1) := by decide +kernel
theorem dX0_hearPromise_40 : decode cX0_hearPromise 40 = .ok (.putfield 179, 3) := by decide +kernel
theorem dX0_hearPromise_43 : decode cX0_hearPromise 43 = .ok (.aload_n 2, 1) := by decide +kernel
theorem dX0_hearPromise_44 : decode cX0_hearPromise 44 = .ok (.aload_n 1, 1) := by decide +kernel
theorem dX0_hearPromise_45 : decode cX0_hearPromise 45 = .ok (.getfield 182, 3) := by decide +kernel
theorem dX0_hearPromise_48 : decode cX0_hearPromise 48 = .ok (.aload_n 1, 1) := by decide +kernel
theorem dX0_hearPromise_49 : decode cX0_hearPromise 49 = .ok (.getfield 185, 3) := by decide +kernel
theorem dX0_hearPromise_52 : decode cX0_hearPromise 52 = .ok (.invokevirtual 188, 3) := by decide +kernel
theorem dX0_hearPromise_55 : decode cX0_hearPromise 55 = .ok (.aload_n 0, 1) := by decide +kernel
theorem dX0_hearPromise_56 : decode cX0_hearPromise 56 = .ok (.getfield 108, 3) := by decide +kernel
theorem dX0_hearPromise_59 : decode cX0_hearPromise 59 = .ok (.aload_n 2, 1) := by decide +kernel
theorem dX0_hearPromise_60 : decode cX0_hearPromise 60 = .ok (.getfield 179, 3) := by decide +kernel
theorem dX0_hearPromise_63 : decode cX0_hearPromise 63 = .ok (.invokevirtual 153, 3) := by decide +kernel
theorem dX0_hearPromise_66 : decode cX0_hearPromise 66 = .ok (.ifCond .ne 4, 3) := by decide +kernel
theorem dX0_hearPromise_69 : decode cX0_hearPromise 69 = .ok (.return_, 1) := by decide +kernel
theorem dX0_hearPromise_70 : decode cX0_hearPromise 70 = .ok (.iconst 0, 1) := by decide +kernel
theorem dX0_hearPromise_71 : decode cX0_hearPromise 71 = .ok (.istore_n 3, 1) := by decide +kernel
theorem dX0_hearPromise_72 : decode cX0_hearPromise 72 = .ok (.iload_n 3, 1) := by decide +kernel
theorem dX0_hearPromise_73 : decode cX0_hearPromise 73 = .ok (.aload_n 0, 1) := by decide +kernel
theorem dX0_hearPromise_74 : decode cX0_hearPromise 74 = .ok (.getfield 108, 3) := by decide +kernel
theorem dX0_hearPromise_77 : decode cX0_hearPromise 77 = .ok (.getfield 3, 3) := by decide +kernel
theorem dX0_hearPromise_80 : decode cX0_hearPromise 80 = .ok (.if_icmp .ge 57, 3) := by decide +kernel
theorem dX0_hearPromise_83 : decode cX0_hearPromise 83 = .ok (.aload_n 0, 1) := by decide +kernel
theorem dX0_hearPromise_84 : decode cX0_hearPromise 84 = .ok (.getfield 20, 3) := by decide +kernel
theorem dX0_hearPromise_87 : decode cX0_hearPromise 87 = .ok (.aload_n 1, 1) := by decide +kernel
theorem dX0_hearPromise_88 : decode cX0_hearPromise 88 = .ok (.getfield 35, 3) := by decide +kernel
theorem dX0_hearPromise_91 : decode cX0_hearPromise 91 = .ok (.iload_n 3, 1) := by decide +kernel
theorem dX0_hearPromise_92 : decode cX0_hearPromise 92 = .ok (.invokevirtual 143, 3) := by decide +kernel
theorem dX0_hearPromise_95 : decode cX0_hearPromise 95 = .ok (.ifCond .eq 36, 3) := by decide +kernel
theorem dX0_hearPromise_98 : decode cX0_hearPromise 98 = .ok (.aload_n 0, 1) := by decide +kernel
theorem dX0_hearPromise_99 : decode cX0_hearPromise 99 = .ok (.getfield 91, 3) := by decide +kernel
theorem dX0_hearPromise_102 : decode cX0_hearPromise 102 = .ok (.iconst 2, 1) := by decide +kernel
theorem dX0_hearPromise_103 : decode cX0_hearPromise 103 = .ok (.aload_n 1, 1) := by decide +kernel
theorem dX0_hearPromise_104 : decode cX0_hearPromise 104 = .ok (.getfield 35, 3) := by decide +kernel
theorem dX0_hearPromise_107 : decode cX0_hearPromise 107 = .ok (.aload_n 0, 1) := by decide +kernel
theorem dX0_hearPromise_108 : decode cX0_hearPromise 108 = .ok (.getfield 95, 3) := by decide +kernel
theorem dX0_hearPromise_111 : decode cX0_hearPromise 111 = .ok (.aload_n 1, 1) := by decide +kernel
theorem dX0_hearPromise_112 : decode cX0_hearPromise 112 = .ok (.getfield 57, 3) := by decide +kernel
theorem dX0_hearPromise_115 : decode cX0_hearPromise 115 = .ok (.iload_n 3, 1) := by decide +kernel
theorem dX0_hearPromise_116 : decode cX0_hearPromise 116 = .ok (.aload_n 2, 1) := by decide +kernel
theorem dX0_hearPromise_117 : decode cX0_hearPromise 117 = .ok (.iload_n 3, 1) := by decide +kernel
theorem dX0_hearPromise_118 : decode cX0_hearPromise 118 = .ok (.invokevirtual 191, 3) := by decide +kernel
theorem dX0_hearPromise_121 : decode cX0_hearPromise 121 = .ok (.invokevirtual 98, 3) := by decide +kernel
theorem dX0_hearPromise_124 : decode cX0_hearPromise 124 = .ok (.aload_n 0, 1) := by decide +kernel
theorem dX0_hearPromise_125 : decode cX0_hearPromise 125 = .ok (.getfield 91, 3) := by decide +kernel
theorem dX0_hearPromise_128 : decode cX0_hearPromise 128 = .ok (.invokevirtual 194, 3) := by decide +kernel
theorem dX0_hearPromise_131 : decode cX0_hearPromise 131 = .ok (.iinc 3 1, 3) := by decide +kernel
theorem dX0_hearPromise_134 : decode cX0_hearPromise 134 = .ok (.goto (-62), 3) := by decide +kernel
theorem dX0_hearPromise_137 : decode cX0_hearPromise 137 = .ok (.return_, 1) := by decide +kernel
theorem dX0_takeOver_0 : decode cX0_takeOver 0 = .ok (.aload_n 0, 1) := by decide +kernel
theorem dX0_takeOver_1 : decode cX0_takeOver 1 = .ok (.getfield 28, 3) := by decide +kernel
theorem dX0_takeOver_4 : decode cX0_takeOver 4 = .ok (.iload_n 1, 1) := by decide +kernel
theorem dX0_takeOver_5 : decode cX0_takeOver 5 = .ok (.aaload, 1) := by decide +kernel
theorem dX0_takeOver_6 : decode cX0_takeOver 6 = .ok (.astore_n 2, 1) := by decide +kernel
theorem dX0_takeOver_7 : decode cX0_takeOver 7 = .ok (.aload_n 0, 1) := by decide +kernel
theorem dX0_takeOver_8 : decode cX0_takeOver 8 = .ok (.getfield 198, 3) := by decide +kernel
theorem dX0_takeOver_11 : decode cX0_takeOver 11 = .ok (.ifCond .eq 20, 3) := by decide +kernel
theorem dX0_takeOver_14 : decode cX0_takeOver 14 = .ok (.aload_n 2, 1) := by decide +kernel
theorem dX0_takeOver_15 : decode cX0_takeOver 15 = .ok (.getfield 137, 3) := by decide +kernel
theorem dX0_takeOver_18 : decode cX0_takeOver 18 = .ok (.ifCond .ne 13, 3) := by decide +kernel
theorem dX0_takeOver_21 : decode cX0_takeOver 21 = .ok (.aload_n 0, 1) := by decide +kernel
theorem dX0_takeOver_22 : decode cX0_takeOver 22 = .ok (.getfield 73, 3) := by decide +kernel
theorem dX0_takeOver_25 : decode cX0_takeOver 25 = .ok (.invokevirtual 77, 3) := by decide +kernel
theorem dX0_takeOver_28 : decode cX0_takeOver 28 = .ok (.ifCond .eq 5, 3) := by decide +kernel
theorem dX0_takeOver_31 : decode cX0_takeOver 31 = .ok (.iconst 0, 1) := by decide +kernel
theorem dX0_takeOver_32 : decode cX0_takeOver 32 = .ok (.ireturn, 1) := by decide +kernel
theorem dX0_takeOver_33 : decode cX0_takeOver 33 = .ok (.aload_n 0, 1) := by decide +kernel
theorem dX0_takeOver_34 : decode cX0_takeOver 34 = .ok (.iconst 0, 1) := by decide +kernel
theorem dX0_takeOver_35 : decode cX0_takeOver 35 = .ok (.aload_n 2, 1) := by decide +kernel
theorem dX0_takeOver_36 : decode cX0_takeOver 36 = .ok (.getfield 202, 3) := by decide +kernel
theorem dX0_takeOver_39 : decode cX0_takeOver 39 = .ok (.aload_n 2, 1) := by decide +kernel
theorem dX0_takeOver_40 : decode cX0_takeOver 40 = .ok (.getfield 60, 3) := by decide +kernel
theorem dX0_takeOver_43 : decode cX0_takeOver 43 = .ok (.invokestatic 205, 3) := by decide +kernel
theorem dX0_takeOver_46 : decode cX0_takeOver 46 = .ok (.invokestatic 205, 3) := by decide +kernel
theorem dX0_takeOver_49 : decode cX0_takeOver 49 = .ok (.invokevirtual 211, 3) := by decide +kernel
theorem dX0_takeOver_52 : decode cX0_takeOver 52 = .ok (.istore_n 3, 1) := by decide +kernel
theorem dX0_takeOver_53 : decode cX0_takeOver 53 = .ok (.aload_n 2, 1) := by decide +kernel
theorem dX0_takeOver_54 : decode cX0_takeOver 54 = .ok (.iload_n 3, 1) := by decide +kernel
theorem dX0_takeOver_55 : decode cX0_takeOver 55 = .ok (.invokevirtual 214, 3) := by decide +kernel
theorem dX0_takeOver_58 : decode cX0_takeOver 58 = .ok (.aload_n 0, 1) := by decide +kernel
theorem dX0_takeOver_59 : decode cX0_takeOver 59 = .ok (.iload_n 1, 1) := by decide +kernel
theorem dX0_takeOver_60 : decode cX0_takeOver 60 = .ok (.iload_n 3, 1) := by decide +kernel
theorem dX0_takeOver_61 : decode cX0_takeOver 61 = .ok (.invokevirtual 166, 3) := by decide +kernel
theorem dX0_takeOver_64 : decode cX0_takeOver 64 = .ok (.aload_n 0, 1) := by decide +kernel
theorem dX0_takeOver_65 : decode cX0_takeOver 65 = .ok (.getfield 91, 3) := by decide +kernel
theorem dX0_takeOver_68 : decode cX0_takeOver 68 = .ok (.iconst 4, 1) := by decide +kernel
theorem dX0_takeOver_69 : decode cX0_takeOver 69 = .ok (.iload_n 1, 1) := by decide +kernel
theorem dX0_takeOver_70 : decode cX0_takeOver 70 = .ok (.aload_n 0, 1) := by decide +kernel
theorem dX0_takeOver_71 : decode cX0_takeOver 71 = .ok (.getfield 95, 3) := by decide +kernel
theorem dX0_takeOver_74 : decode cX0_takeOver 74 = .ok (.invokevirtual 159, 3) := by decide +kernel
theorem dX0_takeOver_77 : decode cX0_takeOver 77 = .ok (.aload_n 0, 1) := by decide +kernel
theorem dX0_takeOver_78 : decode cX0_takeOver 78 = .ok (.getfield 91, 3) := by decide +kernel
theorem dX0_takeOver_81 : decode cX0_takeOver 81 = .ok (.getfield 104, 3) := by decide +kernel
theorem dX0_takeOver_84 : decode cX0_takeOver 84 = .ok (.iload_n 3, 1) := by decide +kernel
theorem dX0_takeOver_85 : decode cX0_takeOver 85 = .ok (.putfield 57, 3) := by decide +kernel
theorem dX0_takeOver_88 : decode cX0_takeOver 88 = .ok (.aload_n 0, 1) := by decide +kernel
theorem dX0_takeOver_89 : decode cX0_takeOver 89 = .ok (.getfield 91, 3) := by decide +kernel
theorem dX0_takeOver_92 : decode cX0_takeOver 92 = .ok (.invokevirtual 194, 3) := by decide +kernel
theorem dX0_takeOver_95 : decode cX0_takeOver 95 = .ok (.iload_n 3, 1) := by decide +kernel
theorem dX0_takeOver_96 : decode cX0_takeOver 96 = .ok (.ireturn, 1) := by decide +kernel
theorem dX0_nextOwn_0 : decode cX0_nextOwn 0 = .ok (.iload_n 1, 1) := by decide +kernel
theorem dX0_nextOwn_1 : decode cX0_nextOwn 1 = .ok (.iconst 1, 1) := by decide +kernel
theorem dX0_nextOwn_2 : decode cX0_nextOwn 2 = .ok (.iadd, 1) := by decide +kernel
theorem dX0_nextOwn_3 : decode cX0_nextOwn 3 = .ok (.istore_n 2, 1) := by decide +kernel
theorem dX0_nextOwn_4 : decode cX0_nextOwn 4 = .ok (.iload_n 2, 1) := by decide +kernel
theorem dX0_nextOwn_5 : decode cX0_nextOwn 5 = .ok (.aload_n 0, 1) := by decide +kernel
theorem dX0_nextOwn_6 : decode cX0_nextOwn 6 = .ok (.getfield 15, 3) := by decide +kernel
theorem dX0_nextOwn_9 : decode cX0_nextOwn 9 = .ok (.iload_n 2, 1) := by decide +kernel
theorem dX0_nextOwn_10 : decode cX0_nextOwn 10 = .ok (.isub, 1) := by decide +kernel
theorem dX0_nextOwn_11 : decode cX0_nextOwn 11 = .ok (.aload_n 0, 1) := by decide +kernel
theorem dX0_nextOwn_12 : decode cX0_nextOwn 12 = .ok (.getfield 108, 3) := by decide +kernel
theorem dX0_nextOwn_15 : decode cX0_nextOwn 15 = .ok (.getfield 218, 3) := by decide +kernel
theorem dX0_nextOwn_18 : decode cX0_nextOwn 18 = .ok (.invokestatic 221, 3) := by decide +kernel
theorem dX0_nextOwn_21 : decode cX0_nextOwn 21 = .ok (.iadd, 1) := by decide +kernel
theorem dX0_nextOwn_22 : decode cX0_nextOwn 22 = .ok (.ireturn, 1) := by decide +kernel
theorem dX0_bitOf_0 : decode cX0_bitOf 0 = .ok (.iconst 1, 1) := by decide +kernel
theorem dX0_bitOf_1 : decode cX0_bitOf 1 = .ok (.iload_n 1, 1) := by decide +kernel
theorem dX0_bitOf_2 : decode cX0_bitOf 2 = .ok (.aload_n 0, 1) := by decide +kernel
theorem dX0_bitOf_3 : decode cX0_bitOf 3 = .ok (.getfield 108, 3) := by decide +kernel
theorem dX0_bitOf_6 : decode cX0_bitOf 6 = .ok (.getfield 3, 3) := by decide +kernel
theorem dX0_bitOf_9 : decode cX0_bitOf 9 = .ok (.isub, 1) := by decide +kernel
theorem dX0_bitOf_10 : decode cX0_bitOf 10 = .ok (.ishl, 1) := by decide +kernel
theorem dX0_bitOf_11 : decode cX0_bitOf 11 = .ok (.ireturn, 1) := by decide +kernel
theorem dX0_forget_0 : decode cX0_forget 0 = .ok (.aload_n 0, 1) := by decide +kernel
theorem dX0_forget_1 : decode cX0_forget 1 = .ok (.getfield 28, 3) := by decide +kernel
theorem dX0_forget_4 : decode cX0_forget 4 = .ok (.astore_n 1, 1) := by decide +kernel
theorem dX0_forget_5 : decode cX0_forget 5 = .ok (.aload_n 1, 1) := by decide +kernel
theorem dX0_forget_6 : decode cX0_forget 6 = .ok (.arraylength, 1) := by decide +kernel
theorem dX0_forget_7 : decode cX0_forget 7 = .ok (.istore_n 2, 1) := by decide +kernel
theorem dX0_forget_8 : decode cX0_forget 8 = .ok (.iconst 0, 1) := by decide +kernel
theorem dX0_forget_9 : decode cX0_forget 9 = .ok (.istore_n 3, 1) := by decide +kernel
theorem dX0_forget_10 : decode cX0_forget 10 = .ok (.iload_n 3, 1) := by decide +kernel
theorem dX0_forget_11 : decode cX0_forget 11 = .ok (.iload_n 2, 1) := by decide +kernel
theorem dX0_forget_12 : decode cX0_forget 12 = .ok (.if_icmp .ge 19, 3) := by decide +kernel
theorem dX0_forget_15 : decode cX0_forget 15 = .ok (.aload_n 1, 1) := by decide +kernel
theorem dX0_forget_16 : decode cX0_forget 16 = .ok (.iload_n 3, 1) := by decide +kernel
theorem dX0_forget_17 : decode cX0_forget 17 = .ok (.aaload, 1) := by decide +kernel
theorem dX0_forget_18 : decode cX0_forget 18 = .ok (.astore 4, 2) := by decide +kernel
theorem dX0_forget_20 : decode cX0_forget 20 = .ok (.aload 4, 2) := by decide +kernel
theorem dX0_forget_22 : decode cX0_forget 22 = .ok (.invokevirtual 224, 3) := by decide +kernel
theorem dX0_forget_25 : decode cX0_forget 25 = .ok (.iinc 3 1, 3) := by decide +kernel
theorem dX0_forget_28 : decode cX0_forget 28 = .ok (.goto (-18), 3) := by decide +kernel
theorem dX0_forget_31 : decode cX0_forget 31 = .ok (.return_, 1) := by decide +kernel
theorem dX0_told_0 : decode cX0_told 0 = .ok (.iload_n 1, 1) := by decide +kernel
theorem dX0_told_1 : decode cX0_told 1 = .ok (.lookupswitch 37 #[(3, 27), (4, 32)], 27) := by decide +kernel
theorem dX0_told_28 : decode cX0_told 28 = .ok (.aload_n 0, 1) := by decide +kernel
theorem dX0_told_29 : decode cX0_told 29 = .ok (.invokevirtual 227, 3) := by decide +kernel
theorem dX0_told_32 : decode cX0_told 32 = .ok (.ireturn, 1) := by decide +kernel
theorem dX0_told_33 : decode cX0_told 33 = .ok (.aload_n 0, 1) := by decide +kernel
theorem dX0_told_34 : decode cX0_told 34 = .ok (.invokevirtual 230, 3) := by decide +kernel
theorem dX0_told_37 : decode cX0_told 37 = .ok (.ireturn, 1) := by decide +kernel
theorem dX0_told_38 : decode cX0_told 38 = .ok (.iconst (-1), 1) := by decide +kernel
theorem dX0_told_39 : decode cX0_told 39 = .ok (.ireturn, 1) := by decide +kernel
theorem dX0_unpromised_0 : decode cX0_unpromised 0 = .ok (.iconst 0, 1) := by decide +kernel
theorem dX0_unpromised_1 : decode cX0_unpromised 1 = .ok (.istore_n 1, 1) := by decide +kernel
theorem dX0_unpromised_2 : decode cX0_unpromised 2 = .ok (.aload_n 0, 1) := by decide +kernel
theorem dX0_unpromised_3 : decode cX0_unpromised 3 = .ok (.getfield 28, 3) := by decide +kernel
theorem dX0_unpromised_6 : decode cX0_unpromised 6 = .ok (.astore_n 2, 1) := by decide +kernel
theorem dX0_unpromised_7 : decode cX0_unpromised 7 = .ok (.aload_n 2, 1) := by decide +kernel
theorem dX0_unpromised_8 : decode cX0_unpromised 8 = .ok (.arraylength, 1) := by decide +kernel
theorem dX0_unpromised_9 : decode cX0_unpromised 9 = .ok (.istore_n 3, 1) := by decide +kernel
theorem dX0_unpromised_10 : decode cX0_unpromised 10 = .ok (.iconst 0, 1) := by decide +kernel
theorem dX0_unpromised_11 : decode cX0_unpromised 11 = .ok (.istore 4, 2) := by decide +kernel
theorem dX0_unpromised_13 : decode cX0_unpromised 13 = .ok (.iload 4, 2) := by decide +kernel
theorem dX0_unpromised_15 : decode cX0_unpromised 15 = .ok (.iload_n 3, 1) := by decide +kernel
theorem dX0_unpromised_16 : decode cX0_unpromised 16 = .ok (.if_icmp .ge 26, 3) := by decide +kernel
theorem dX0_unpromised_19 : decode cX0_unpromised 19 = .ok (.aload_n 2, 1) := by decide +kernel
theorem dX0_unpromised_20 : decode cX0_unpromised 20 = .ok (.iload 4, 2) := by decide +kernel
theorem dX0_unpromised_22 : decode cX0_unpromised 22 = .ok (.aaload, 1) := by decide +kernel
theorem dX0_unpromised_23 : decode cX0_unpromised 23 = .ok (.astore 5, 2) := by decide +kernel
theorem dX0_unpromised_25 : decode cX0_unpromised 25 = .ok (.aload 5, 2) := by decide +kernel
theorem dX0_unpromised_27 : decode cX0_unpromised 27 = .ok (.getfield 60, 3) := by decide +kernel
theorem dX0_unpromised_30 : decode cX0_unpromised 30 = .ok (.ifCond .ne 6, 3) := by decide +kernel
theorem dX0_unpromised_33 : decode cX0_unpromised 33 = .ok (.iinc 1 1, 3) := by decide +kernel
theorem dX0_unpromised_36 : decode cX0_unpromised 36 = .ok (.iinc 4 1, 3) := by decide +kernel
theorem dX0_unpromised_39 : decode cX0_unpromised 39 = .ok (.goto (-26), 3) := by decide +kernel
theorem dX0_unpromised_42 : decode cX0_unpromised 42 = .ok (.iload_n 1, 1) := by decide +kernel
theorem dX0_unpromised_43 : decode cX0_unpromised 43 = .ok (.ireturn, 1) := by decide +kernel
theorem dX0_ended_0 : decode cX0_ended 0 = .ok (.iconst 0, 1) := by decide +kernel
theorem dX0_ended_1 : decode cX0_ended 1 = .ok (.istore_n 1, 1) := by decide +kernel
theorem dX0_ended_2 : decode cX0_ended 2 = .ok (.aload_n 0, 1) := by decide +kernel
theorem dX0_ended_3 : decode cX0_ended 3 = .ok (.getfield 28, 3) := by decide +kernel
theorem dX0_ended_6 : decode cX0_ended 6 = .ok (.astore_n 2, 1) := by decide +kernel
theorem dX0_ended_7 : decode cX0_ended 7 = .ok (.aload_n 2, 1) := by decide +kernel
theorem dX0_ended_8 : decode cX0_ended 8 = .ok (.arraylength, 1) := by decide +kernel
theorem dX0_ended_9 : decode cX0_ended 9 = .ok (.istore_n 3, 1) := by decide +kernel
theorem dX0_ended_10 : decode cX0_ended 10 = .ok (.iconst 0, 1) := by decide +kernel
theorem dX0_ended_11 : decode cX0_ended 11 = .ok (.istore 4, 2) := by decide +kernel
theorem dX0_ended_13 : decode cX0_ended 13 = .ok (.iload 4, 2) := by decide +kernel
theorem dX0_ended_15 : decode cX0_ended 15 = .ok (.iload_n 3, 1) := by decide +kernel
theorem dX0_ended_16 : decode cX0_ended 16 = .ok (.if_icmp .ge 26, 3) := by decide +kernel
theorem dX0_ended_19 : decode cX0_ended 19 = .ok (.aload_n 2, 1) := by decide +kernel
theorem dX0_ended_20 : decode cX0_ended 20 = .ok (.iload 4, 2) := by decide +kernel
theorem dX0_ended_22 : decode cX0_ended 22 = .ok (.aaload, 1) := by decide +kernel
theorem dX0_ended_23 : decode cX0_ended 23 = .ok (.astore 5, 2) := by decide +kernel
theorem dX0_ended_25 : decode cX0_ended 25 = .ok (.aload 5, 2) := by decide +kernel
theorem dX0_ended_27 : decode cX0_ended 27 = .ok (.getfield 137, 3) := by decide +kernel
theorem dX0_ended_30 : decode cX0_ended 30 = .ok (.ifCond .eq 6, 3) := by decide +kernel
theorem dX0_ended_33 : decode cX0_ended 33 = .ok (.iinc 1 1, 3) := by decide +kernel
theorem dX0_ended_36 : decode cX0_ended 36 = .ok (.iinc 4 1, 3) := by decide +kernel
theorem dX0_ended_39 : decode cX0_ended 39 = .ok (.goto (-26), 3) := by decide +kernel
theorem dX0_ended_42 : decode cX0_ended 42 = .ok (.iload_n 1, 1) := by decide +kernel
theorem dX0_ended_43 : decode cX0_ended 43 = .ok (.ireturn, 1) := by decide +kernel
theorem dX1_init_0 : decode cX1_init 0 = .ok (.aload_n 0, 1) := by decide +kernel
theorem dX1_init_1 : decode cX1_init 1 = .ok (.invokespecial 3, 3) := by decide +kernel
theorem dX1_init_4 : decode cX1_init 4 = .ok (.aload_n 0, 1) := by decide +kernel
theorem dX1_init_5 : decode cX1_init 5 = .ok (.aload_n 1, 1) := by decide +kernel
theorem dX1_init_6 : decode cX1_init 6 = .ok (.putfield 9, 3) := by decide +kernel
theorem dX1_init_9 : decode cX1_init 9 = .ok (.aload_n 0, 1) := by decide +kernel
theorem dX1_init_10 : decode cX1_init 10 = .ok (.aload_n 1, 1) := by decide +kernel
theorem dX1_init_11 : decode cX1_init 11 = .ok (.getfield 15, 3) := by decide +kernel
theorem dX1_init_14 : decode cX1_init 14 = .ok (.newarray .long, 2) := by decide +kernel
theorem dX1_init_16 : decode cX1_init 16 = .ok (.putfield 21, 3) := by decide +kernel
theorem dX1_init_19 : decode cX1_init 19 = .ok (.aload_n 0, 1) := by decide +kernel
theorem dX1_init_20 : decode cX1_init 20 = .ok (.aload_n 1, 1) := by decide +kernel
theorem dX1_init_21 : decode cX1_init 21 = .ok (.getfield 25, 3) := by decide +kernel
theorem dX1_init_24 : decode cX1_init 24 = .ok (.aload_n 1, 1) := by decide +kernel
theorem dX1_init_25 : decode cX1_init 25 = .ok (.getfield 15, 3) := by decide +kernel
theorem dX1_init_28 : decode cX1_init 28 = .ok (.multianewarray 28 2, 4) := by decide +kernel
theorem dX1_init_32 : decode cX1_init 32 = .ok (.putfield 30, 3) := by decide +kernel
theorem dX1_init_35 : decode cX1_init 35 = .ok (.aload_n 0, 1) := by decide +kernel
theorem dX1_init_36 : decode cX1_init 36 = .ok (.aload_n 1, 1) := by decide +kernel
theorem dX1_init_37 : decode cX1_init 37 = .ok (.getfield 25, 3) := by decide +kernel
theorem dX1_init_40 : decode cX1_init 40 = .ok (.aload_n 1, 1) := by decide +kernel
theorem dX1_init_41 : decode cX1_init 41 = .ok (.getfield 15, 3) := by decide +kernel
theorem dX1_init_44 : decode cX1_init 44 = .ok (.multianewarray 33 2, 4) := by decide +kernel
theorem dX1_init_48 : decode cX1_init 48 = .ok (.putfield 35, 3) := by decide +kernel
theorem dX1_init_51 : decode cX1_init 51 = .ok (.return_, 1) := by decide +kernel
theorem dX1_canGrant_0 : decode cX1_canGrant 0 = .ok (.iconst 0, 1) := by decide +kernel
theorem dX1_canGrant_1 : decode cX1_canGrant 1 = .ok (.istore 4, 2) := by decide +kernel
theorem dX1_canGrant_3 : decode cX1_canGrant 3 = .ok (.iload 4, 2) := by decide +kernel
theorem dX1_canGrant_5 : decode cX1_canGrant 5 = .ok (.aload_n 0, 1) := by decide +kernel
theorem dX1_canGrant_6 : decode cX1_canGrant 6 = .ok (.getfield 30, 3) := by decide +kernel
theorem dX1_canGrant_9 : decode cX1_canGrant 9 = .ok (.arraylength, 1) := by decide +kernel
theorem dX1_canGrant_10 : decode cX1_canGrant 10 = .ok (.if_icmp .ge 45, 3) := by decide +kernel
theorem dX1_canGrant_13 : decode cX1_canGrant 13 = .ok (.aload_n 0, 1) := by decide +kernel
theorem dX1_canGrant_14 : decode cX1_canGrant 14 = .ok (.getfield 30, 3) := by decide +kernel
theorem dX1_canGrant_17 : decode cX1_canGrant 17 = .ok (.iload 4, 2) := by decide +kernel
theorem dX1_canGrant_19 : decode cX1_canGrant 19 = .ok (.aaload, 1) := by decide +kernel
theorem dX1_canGrant_20 : decode cX1_canGrant 20 = .ok (.iload_n 2, 1) := by decide +kernel
theorem dX1_canGrant_21 : decode cX1_canGrant 21 = .ok (.iaload, 1) := by decide +kernel
theorem dX1_canGrant_22 : decode cX1_canGrant 22 = .ok (.istore 5, 2) := by decide +kernel
theorem dX1_canGrant_24 : decode cX1_canGrant 24 = .ok (.iload 4, 2) := by decide +kernel
theorem dX1_canGrant_26 : decode cX1_canGrant 26 = .ok (.iload_n 1, 1) := by decide +kernel
theorem dX1_canGrant_27 : decode cX1_canGrant 27 = .ok (.if_icmp .eq 22, 3) := by decide +kernel
theorem dX1_canGrant_30 : decode cX1_canGrant 30 = .ok (.iload 5, 2) := by decide +kernel
theorem dX1_canGrant_32 : decode cX1_canGrant 32 = .ok (.iconst 2, 1) := by decide +kernel
theorem dX1_canGrant_33 : decode cX1_canGrant 33 = .ok (.if_icmp .eq 14, 3) := by decide +kernel
theorem dX1_canGrant_36 : decode cX1_canGrant 36 = .ok (.iload 5, 2) := by decide +kernel
theorem dX1_canGrant_38 : decode cX1_canGrant 38 = .ok (.iconst 1, 1) := by decide +kernel
theorem dX1_canGrant_39 : decode cX1_canGrant 39 = .ok (.if_icmp .ne 10, 3) := by decide +kernel
theorem dX1_canGrant_42 : decode cX1_canGrant 42 = .ok (.iload_n 3, 1) := by decide +kernel
theorem dX1_canGrant_43 : decode cX1_canGrant 43 = .ok (.iconst 2, 1) := by decide +kernel
theorem dX1_canGrant_44 : decode cX1_canGrant 44 = .ok (.if_icmp .ne 5, 3) := by decide +kernel
theorem dX1_canGrant_47 : decode cX1_canGrant 47 = .ok (.iconst 0, 1) := by decide +kernel
theorem dX1_canGrant_48 : decode cX1_canGrant 48 = .ok (.ireturn, 1) := by decide +kernel
theorem dX1_canGrant_49 : decode cX1_canGrant 49 = .ok (.iinc 4 1, 3) := by decide +kernel
theorem dX1_canGrant_52 : decode cX1_canGrant 52 = .ok (.goto (-49), 3) := by decide +kernel
theorem dX1_canGrant_55 : decode cX1_canGrant 55 = .ok (.iconst 1, 1) := by decide +kernel
theorem dX1_canGrant_56 : decode cX1_canGrant 56 = .ok (.ireturn, 1) := by decide +kernel
theorem dX1_grant_0 : decode cX1_grant 0 = .ok (.aload_n 0, 1) := by decide +kernel
theorem dX1_grant_1 : decode cX1_grant 1 = .ok (.getfield 30, 3) := by decide +kernel
theorem dX1_grant_4 : decode cX1_grant 4 = .ok (.iload_n 1, 1) := by decide +kernel
theorem dX1_grant_5 : decode cX1_grant 5 = .ok (.aaload, 1) := by decide +kernel
theorem dX1_grant_6 : decode cX1_grant 6 = .ok (.iload_n 2, 1) := by decide +kernel
theorem dX1_grant_7 : decode cX1_grant 7 = .ok (.iload_n 3, 1) := by decide +kernel
theorem dX1_grant_8 : decode cX1_grant 8 = .ok (.aload_n 0, 1) := by decide +kernel
theorem dX1_grant_9 : decode cX1_grant 9 = .ok (.getfield 30, 3) := by decide +kernel
theorem dX1_grant_12 : decode cX1_grant 12 = .ok (.iload_n 1, 1) := by decide +kernel
theorem dX1_grant_13 : decode cX1_grant 13 = .ok (.aaload, 1) := by decide +kernel
theorem dX1_grant_14 : decode cX1_grant 14 = .ok (.iload_n 2, 1) := by decide +kernel
theorem dX1_grant_15 : decode cX1_grant 15 = .ok (.iaload, 1) := by decide +kernel
theorem dX1_grant_16 : decode cX1_grant 16 = .ok (.invokestatic 38, 3) := by decide +kernel
theorem dX1_grant_19 : decode cX1_grant 19 = .ok (.iastore, 1) := by decide +kernel
theorem dX1_grant_20 : decode cX1_grant 20 = .ok (.return_, 1) := by decide +kernel
theorem dX1_renew_0 : decode cX1_renew 0 = .ok (.aload_n 0, 1) := by decide +kernel
theorem dX1_renew_1 : decode cX1_renew 1 = .ok (.getfield 35, 3) := by decide +kernel
theorem dX1_renew_4 : decode cX1_renew 4 = .ok (.iload_n 1, 1) := by decide +kernel
theorem dX1_renew_5 : decode cX1_renew 5 = .ok (.aaload, 1) := by decide +kernel
theorem dX1_renew_6 : decode cX1_renew 6 = .ok (.iload_n 2, 1) := by decide +kernel
theorem dX1_renew_7 : decode cX1_renew 7 = .ok (.lload_n 3, 1) := by decide +kernel
theorem dX1_renew_8 : decode cX1_renew 8 = .ok (.lastore, 1) := by decide +kernel
theorem dX1_renew_9 : decode cX1_renew 9 = .ok (.return_, 1) := by decide +kernel
theorem dX1_seenBy_0 : decode cX1_seenBy 0 = .ok (.aload_n 0, 1) := by decide +kernel
theorem dX1_seenBy_1 : decode cX1_seenBy 1 = .ok (.getfield 30, 3) := by decide +kernel
theorem dX1_seenBy_4 : decode cX1_seenBy 4 = .ok (.iload_n 1, 1) := by decide +kernel
theorem dX1_seenBy_5 : decode cX1_seenBy 5 = .ok (.aaload, 1) := by decide +kernel
theorem dX1_seenBy_6 : decode cX1_seenBy 6 = .ok (.iload_n 2, 1) := by decide +kernel
theorem dX1_seenBy_7 : decode cX1_seenBy 7 = .ok (.iaload, 1) := by decide +kernel
theorem dX1_seenBy_8 : decode cX1_seenBy 8 = .ok (.iconst 2, 1) := by decide +kernel
theorem dX1_seenBy_9 : decode cX1_seenBy 9 = .ok (.if_icmp .ne 14, 3) := by decide +kernel
theorem dX1_seenBy_12 : decode cX1_seenBy 12 = .ok (.aload_n 0, 1) := by decide +kernel
theorem dX1_seenBy_13 : decode cX1_seenBy 13 = .ok (.getfield 35, 3) := by decide +kernel
theorem dX1_seenBy_16 : decode cX1_seenBy 16 = .ok (.iload_n 1, 1) := by decide +kernel
theorem dX1_seenBy_17 : decode cX1_seenBy 17 = .ok (.aaload, 1) := by decide +kernel
theorem dX1_seenBy_18 : decode cX1_seenBy 18 = .ok (.iload_n 2, 1) := by decide +kernel
theorem dX1_seenBy_19 : decode cX1_seenBy 19 = .ok (.laload, 1) := by decide +kernel
theorem dX1_seenBy_20 : decode cX1_seenBy 20 = .ok (.goto 9, 3) := by decide +kernel
theorem dX1_seenBy_23 : decode cX1_seenBy 23 = .ok (.aload_n 0, 1) := by decide +kernel
theorem dX1_seenBy_24 : decode cX1_seenBy 24 = .ok (.getfield 21, 3) := by decide +kernel
theorem dX1_seenBy_27 : decode cX1_seenBy 27 = .ok (.iload_n 2, 1) := by decide +kernel
theorem dX1_seenBy_28 : decode cX1_seenBy 28 = .ok (.laload, 1) := by decide +kernel
theorem dX1_seenBy_29 : decode cX1_seenBy 29 = .ok (.lreturn, 1) := by decide +kernel
theorem dX1_install_0 : decode cX1_install 0 = .ok (.iconst 0, 1) := by decide +kernel
theorem dX1_install_1 : decode cX1_install 1 = .ok (.istore_n 3, 1) := by decide +kernel
theorem dX1_install_2 : decode cX1_install 2 = .ok (.iload_n 3, 1) := by decide +kernel
theorem dX1_install_3 : decode cX1_install 3 = .ok (.aload_n 0, 1) := by decide +kernel
theorem dX1_install_4 : decode cX1_install 4 = .ok (.getfield 21, 3) := by decide +kernel
theorem dX1_install_7 : decode cX1_install 7 = .ok (.arraylength, 1) := by decide +kernel
theorem dX1_install_8 : decode cX1_install 8 = .ok (.if_icmp .ge 33, 3) := by decide +kernel
theorem dX1_install_11 : decode cX1_install 11 = .ok (.aload_n 0, 1) := by decide +kernel
theorem dX1_install_12 : decode cX1_install 12 = .ok (.getfield 9, 3) := by decide +kernel
theorem dX1_install_15 : decode cX1_install 15 = .ok (.iload_n 3, 1) := by decide +kernel
theorem dX1_install_16 : decode cX1_install 16 = .ok (.invokevirtual 44, 3) := by decide +kernel
theorem dX1_install_19 : decode cX1_install 19 = .ok (.iload_n 2, 1) := by decide +kernel
theorem dX1_install_20 : decode cX1_install 20 = .ok (.if_icmp .ne 15, 3) := by decide +kernel
theorem dX1_install_23 : decode cX1_install 23 = .ok (.aload_n 0, 1) := by decide +kernel
theorem dX1_install_24 : decode cX1_install 24 = .ok (.getfield 21, 3) := by decide +kernel
theorem dX1_install_27 : decode cX1_install 27 = .ok (.iload_n 3, 1) := by decide +kernel
theorem dX1_install_28 : decode cX1_install 28 = .ok (.aload_n 0, 1) := by decide +kernel
theorem dX1_install_29 : decode cX1_install 29 = .ok (.iload_n 1, 1) := by decide +kernel
theorem dX1_install_30 : decode cX1_install 30 = .ok (.iload_n 3, 1) := by decide +kernel
theorem dX1_install_31 : decode cX1_install 31 = .ok (.invokevirtual 48, 3) := by decide +kernel
theorem dX1_install_34 : decode cX1_install 34 = .ok (.lastore, 1) := by decide +kernel
theorem dX1_install_35 : decode cX1_install 35 = .ok (.iinc 3 1, 3) := by decide +kernel
theorem dX1_install_38 : decode cX1_install 38 = .ok (.goto (-36), 3) := by decide +kernel
theorem dX1_install_41 : decode cX1_install 41 = .ok (.return_, 1) := by decide +kernel
theorem dX1_dropShared_0 : decode cX1_dropShared 0 = .ok (.iconst 0, 1) := by decide +kernel
theorem dX1_dropShared_1 : decode cX1_dropShared 1 = .ok (.istore_n 3, 1) := by decide +kernel
theorem dX1_dropShared_2 : decode cX1_dropShared 2 = .ok (.iload_n 3, 1) := by decide +kernel
theorem dX1_dropShared_3 : decode cX1_dropShared 3 = .ok (.aload_n 0, 1) := by decide +kernel
theorem dX1_dropShared_4 : decode cX1_dropShared 4 = .ok (.getfield 21, 3) := by decide +kernel
theorem dX1_dropShared_7 : decode cX1_dropShared 7 = .ok (.arraylength, 1) := by decide +kernel
theorem dX1_dropShared_8 : decode cX1_dropShared 8 = .ok (.if_icmp .ge 42, 3) := by decide +kernel
theorem dX1_dropShared_11 : decode cX1_dropShared 11 = .ok (.aload_n 0, 1) := by decide +kernel
theorem dX1_dropShared_12 : decode cX1_dropShared 12 = .ok (.getfield 9, 3) := by decide +kernel
theorem dX1_dropShared_15 : decode cX1_dropShared 15 = .ok (.iload_n 3, 1) := by decide +kernel
theorem dX1_dropShared_16 : decode cX1_dropShared 16 = .ok (.invokevirtual 44, 3) := by decide +kernel
theorem dX1_dropShared_19 : decode cX1_dropShared 19 = .ok (.iload_n 2, 1) := by decide +kernel
theorem dX1_dropShared_20 : decode cX1_dropShared 20 = .ok (.if_icmp .ne 24, 3) := by decide +kernel
theorem dX1_dropShared_23 : decode cX1_dropShared 23 = .ok (.aload_n 0, 1) := by decide +kernel
theorem dX1_dropShared_24 : decode cX1_dropShared 24 = .ok (.getfield 30, 3) := by decide +kernel
theorem dX1_dropShared_27 : decode cX1_dropShared 27 = .ok (.iload_n 1, 1) := by decide +kernel
theorem dX1_dropShared_28 : decode cX1_dropShared 28 = .ok (.aaload, 1) := by decide +kernel
theorem dX1_dropShared_29 : decode cX1_dropShared 29 = .ok (.iload_n 3, 1) := by decide +kernel
theorem dX1_dropShared_30 : decode cX1_dropShared 30 = .ok (.iaload, 1) := by decide +kernel
theorem dX1_dropShared_31 : decode cX1_dropShared 31 = .ok (.iconst 1, 1) := by decide +kernel
theorem dX1_dropShared_32 : decode cX1_dropShared 32 = .ok (.if_icmp .ne 12, 3) := by decide +kernel
theorem dX1_dropShared_35 : decode cX1_dropShared 35 = .ok (.aload_n 0, 1) := by decide +kernel
theorem dX1_dropShared_36 : decode cX1_dropShared 36 = .ok (.getfield 30, 3) := by decide +kernel
theorem dX1_dropShared_39 : decode cX1_dropShared 39 = .ok (.iload_n 1, 1) := by decide +kernel
theorem dX1_dropShared_40 : decode cX1_dropShared 40 = .ok (.aaload, 1) := by decide +kernel
theorem dX1_dropShared_41 : decode cX1_dropShared 41 = .ok (.iload_n 3, 1) := by decide +kernel
theorem dX1_dropShared_42 : decode cX1_dropShared 42 = .ok (.iconst 0, 1) := by decide +kernel
theorem dX1_dropShared_43 : decode cX1_dropShared 43 = .ok (.iastore, 1) := by decide +kernel
theorem dX1_dropShared_44 : decode cX1_dropShared 44 = .ok (.iinc 3 1, 3) := by decide +kernel
theorem dX1_dropShared_47 : decode cX1_dropShared 47 = .ok (.goto (-45), 3) := by decide +kernel
theorem dX1_dropShared_50 : decode cX1_dropShared 50 = .ok (.return_, 1) := by decide +kernel
theorem dX1_dropAll_0 : decode cX1_dropAll 0 = .ok (.iconst 0, 1) := by decide +kernel
theorem dX1_dropAll_1 : decode cX1_dropAll 1 = .ok (.istore_n 3, 1) := by decide +kernel
theorem dX1_dropAll_2 : decode cX1_dropAll 2 = .ok (.iload_n 3, 1) := by decide +kernel
theorem dX1_dropAll_3 : decode cX1_dropAll 3 = .ok (.aload_n 0, 1) := by decide +kernel
theorem dX1_dropAll_4 : decode cX1_dropAll 4 = .ok (.getfield 21, 3) := by decide +kernel
theorem dX1_dropAll_7 : decode cX1_dropAll 7 = .ok (.arraylength, 1) := by decide +kernel
theorem dX1_dropAll_8 : decode cX1_dropAll 8 = .ok (.if_icmp .ge 30, 3) := by decide +kernel
theorem dX1_dropAll_11 : decode cX1_dropAll 11 = .ok (.aload_n 0, 1) := by decide +kernel
theorem dX1_dropAll_12 : decode cX1_dropAll 12 = .ok (.getfield 9, 3) := by decide +kernel
theorem dX1_dropAll_15 : decode cX1_dropAll 15 = .ok (.iload_n 3, 1) := by decide +kernel
theorem dX1_dropAll_16 : decode cX1_dropAll 16 = .ok (.invokevirtual 44, 3) := by decide +kernel
theorem dX1_dropAll_19 : decode cX1_dropAll 19 = .ok (.iload_n 2, 1) := by decide +kernel
theorem dX1_dropAll_20 : decode cX1_dropAll 20 = .ok (.if_icmp .ne 12, 3) := by decide +kernel
theorem dX1_dropAll_23 : decode cX1_dropAll 23 = .ok (.aload_n 0, 1) := by decide +kernel
theorem dX1_dropAll_24 : decode cX1_dropAll 24 = .ok (.getfield 30, 3) := by decide +kernel
theorem dX1_dropAll_27 : decode cX1_dropAll 27 = .ok (.iload_n 1, 1) := by decide +kernel
theorem dX1_dropAll_28 : decode cX1_dropAll 28 = .ok (.aaload, 1) := by decide +kernel
theorem dX1_dropAll_29 : decode cX1_dropAll 29 = .ok (.iload_n 3, 1) := by decide +kernel
theorem dX1_dropAll_30 : decode cX1_dropAll 30 = .ok (.iconst 0, 1) := by decide +kernel
theorem dX1_dropAll_31 : decode cX1_dropAll 31 = .ok (.iastore, 1) := by decide +kernel
theorem dX1_dropAll_32 : decode cX1_dropAll 32 = .ok (.iinc 3 1, 3) := by decide +kernel
theorem dX1_dropAll_35 : decode cX1_dropAll 35 = .ok (.goto (-33), 3) := by decide +kernel
theorem dX1_dropAll_38 : decode cX1_dropAll 38 = .ok (.return_, 1) := by decide +kernel
theorem dX1_holders_0 : decode cX1_holders 0 = .ok (.iconst 0, 1) := by decide +kernel
theorem dX1_holders_1 : decode cX1_holders 1 = .ok (.istore_n 2, 1) := by decide +kernel
theorem dX1_holders_2 : decode cX1_holders 2 = .ok (.iconst 0, 1) := by decide +kernel
theorem dX1_holders_3 : decode cX1_holders 3 = .ok (.istore_n 3, 1) := by decide +kernel
theorem dX1_holders_4 : decode cX1_holders 4 = .ok (.iload_n 3, 1) := by decide +kernel
theorem dX1_holders_5 : decode cX1_holders 5 = .ok (.aload_n 0, 1) := by decide +kernel
theorem dX1_holders_6 : decode cX1_holders 6 = .ok (.getfield 30, 3) := by decide +kernel
theorem dX1_holders_9 : decode cX1_holders 9 = .ok (.arraylength, 1) := by decide +kernel
theorem dX1_holders_10 : decode cX1_holders 10 = .ok (.if_icmp .ge 23, 3) := by decide +kernel
theorem dX1_holders_13 : decode cX1_holders 13 = .ok (.aload_n 0, 1) := by decide +kernel
theorem dX1_holders_14 : decode cX1_holders 14 = .ok (.getfield 30, 3) := by decide +kernel
theorem dX1_holders_17 : decode cX1_holders 17 = .ok (.iload_n 3, 1) := by decide +kernel
theorem dX1_holders_18 : decode cX1_holders 18 = .ok (.aaload, 1) := by decide +kernel
theorem dX1_holders_19 : decode cX1_holders 19 = .ok (.iload_n 1, 1) := by decide +kernel
theorem dX1_holders_20 : decode cX1_holders 20 = .ok (.iaload, 1) := by decide +kernel
theorem dX1_holders_21 : decode cX1_holders 21 = .ok (.ifCond .eq 6, 3) := by decide +kernel
theorem dX1_holders_24 : decode cX1_holders 24 = .ok (.iinc 2 1, 3) := by decide +kernel
theorem dX1_holders_27 : decode cX1_holders 27 = .ok (.iinc 3 1, 3) := by decide +kernel
theorem dX1_holders_30 : decode cX1_holders 30 = .ok (.goto (-26), 3) := by decide +kernel
theorem dX1_holders_33 : decode cX1_holders 33 = .ok (.iload_n 2, 1) := by decide +kernel
theorem dX1_holders_34 : decode cX1_holders 34 = .ok (.ireturn, 1) := by decide +kernel
theorem dX1_leastHolder_0 : decode cX1_leastHolder 0 = .ok (.iconst 0, 1) := by decide +kernel
theorem dX1_leastHolder_1 : decode cX1_leastHolder 1 = .ok (.istore_n 2, 1) := by decide +kernel
theorem dX1_leastHolder_2 : decode cX1_leastHolder 2 = .ok (.iload_n 2, 1) := by decide +kernel
theorem dX1_leastHolder_3 : decode cX1_leastHolder 3 = .ok (.aload_n 0, 1) := by decide +kernel
theorem dX1_leastHolder_4 : decode cX1_leastHolder 4 = .ok (.getfield 30, 3) := by decide +kernel
theorem dX1_leastHolder_7 : decode cX1_leastHolder 7 = .ok (.arraylength, 1) := by decide +kernel
theorem dX1_leastHolder_8 : decode cX1_leastHolder 8 = .ok (.if_icmp .ge 22, 3) := by decide +kernel
theorem dX1_leastHolder_11 : decode cX1_leastHolder 11 = .ok (.aload_n 0, 1) := by decide +kernel
theorem dX1_leastHolder_12 : decode cX1_leastHolder 12 = .ok (.getfield 30, 3) := by decide +kernel
theorem dX1_leastHolder_15 : decode cX1_leastHolder 15 = .ok (.iload_n 2, 1) := by decide +kernel
theorem dX1_leastHolder_16 : decode cX1_leastHolder 16 = .ok (.aaload, 1) := by decide +kernel
theorem dX1_leastHolder_17 : decode cX1_leastHolder 17 = .ok (.iload_n 1, 1) := by decide +kernel
theorem dX1_leastHolder_18 : decode cX1_leastHolder 18 = .ok (.iaload, 1) := by decide +kernel
theorem dX1_leastHolder_19 : decode cX1_leastHolder 19 = .ok (.ifCond .eq 5, 3) := by decide +kernel
theorem dX1_leastHolder_22 : decode cX1_leastHolder 22 = .ok (.iload_n 2, 1) := by decide +kernel
theorem dX1_leastHolder_23 : decode cX1_leastHolder 23 = .ok (.ireturn, 1) := by decide +kernel
theorem dX1_leastHolder_24 : decode cX1_leastHolder 24 = .ok (.iinc 2 1, 3) := by decide +kernel
theorem dX1_leastHolder_27 : decode cX1_leastHolder 27 = .ok (.goto (-25), 3) := by decide +kernel
theorem dX1_leastHolder_30 : decode cX1_leastHolder 30 = .ok (.iconst (-1), 1) := by decide +kernel
theorem dX1_leastHolder_31 : decode cX1_leastHolder 31 = .ok (.ireturn, 1) := by decide +kernel
theorem dX1_isExclusive_0 : decode cX1_isExclusive 0 = .ok (.iconst 0, 1) := by decide +kernel
theorem dX1_isExclusive_1 : decode cX1_isExclusive 1 = .ok (.istore_n 2, 1) := by decide +kernel
theorem dX1_isExclusive_2 : decode cX1_isExclusive 2 = .ok (.iload_n 2, 1) := by decide +kernel
theorem dX1_isExclusive_3 : decode cX1_isExclusive 3 = .ok (.aload_n 0, 1) := by decide +kernel
theorem dX1_isExclusive_4 : decode cX1_isExclusive 4 = .ok (.getfield 30, 3) := by decide +kernel
theorem dX1_isExclusive_7 : decode cX1_isExclusive 7 = .ok (.arraylength, 1) := by decide +kernel
theorem dX1_isExclusive_8 : decode cX1_isExclusive 8 = .ok (.if_icmp .ge 23, 3) := by decide +kernel
theorem dX1_isExclusive_11 : decode cX1_isExclusive 11 = .ok (.aload_n 0, 1) := by decide +kernel
theorem dX1_isExclusive_12 : decode cX1_isExclusive 12 = .ok (.getfield 30, 3) := by decide +kernel
theorem dX1_isExclusive_15 : decode cX1_isExclusive 15 = .ok (.iload_n 2, 1) := by decide +kernel
theorem dX1_isExclusive_16 : decode cX1_isExclusive 16 = .ok (.aaload, 1) := by decide +kernel
theorem dX1_isExclusive_17 : decode cX1_isExclusive 17 = .ok (.iload_n 1, 1) := by decide +kernel
theorem dX1_isExclusive_18 : decode cX1_isExclusive 18 = .ok (.iaload, 1) := by decide +kernel
theorem dX1_isExclusive_19 : decode cX1_isExclusive 19 = .ok (.iconst 2, 1) := by decide +kernel
theorem dX1_isExclusive_20 : decode cX1_isExclusive 20 = .ok (.if_icmp .ne 5, 3) := by decide +kernel
theorem dX1_isExclusive_23 : decode cX1_isExclusive 23 = .ok (.iconst 1, 1) := by decide +kernel
theorem dX1_isExclusive_24 : decode cX1_isExclusive 24 = .ok (.ireturn, 1) := by decide +kernel
theorem dX1_isExclusive_25 : decode cX1_isExclusive 25 = .ok (.iinc 2 1, 3) := by decide +kernel
theorem dX1_isExclusive_28 : decode cX1_isExclusive 28 = .ok (.goto (-26), 3) := by decide +kernel
theorem dX1_isExclusive_31 : decode cX1_isExclusive 31 = .ok (.iconst 0, 1) := by decide +kernel
theorem dX1_isExclusive_32 : decode cX1_isExclusive 32 = .ok (.ireturn, 1) := by decide +kernel
theorem dX2_init_0 : decode cX2_init 0 = .ok (.aload_n 0, 1) := by decide +kernel
theorem dX2_init_1 : decode cX2_init 1 = .ok (.invokespecial 3, 3) := by decide +kernel
theorem dX2_init_4 : decode cX2_init 4 = .ok (.aload_n 0, 1) := by decide +kernel
theorem dX2_init_5 : decode cX2_init 5 = .ok (.iload_n 1, 1) := by decide +kernel
theorem dX2_init_6 : decode cX2_init 6 = .ok (.iconst 4, 1) := by decide +kernel
theorem dX2_init_7 : decode cX2_init 7 = .ok (.multianewarray 9 2, 4) := by decide +kernel
theorem dX2_init_11 : decode cX2_init 11 = .ok (.putfield 11, 3) := by decide +kernel
theorem dX2_init_14 : decode cX2_init 14 = .ok (.return_, 1) := by decide +kernel
theorem dX2_isFull_0 : decode cX2_isFull 0 = .ok (.aload_n 0, 1) := by decide +kernel
theorem dX2_isFull_1 : decode cX2_isFull 1 = .ok (.getfield 16, 3) := by decide +kernel
theorem dX2_isFull_4 : decode cX2_isFull 4 = .ok (.aload_n 0, 1) := by decide +kernel
theorem dX2_isFull_5 : decode cX2_isFull 5 = .ok (.getfield 11, 3) := by decide +kernel
theorem dX2_isFull_8 : decode cX2_isFull 8 = .ok (.arraylength, 1) := by decide +kernel
theorem dX2_isFull_9 : decode cX2_isFull 9 = .ok (.if_icmp .lt 7, 3) := by decide +kernel
theorem dX2_isFull_12 : decode cX2_isFull 12 = .ok (.iconst 1, 1) := by decide +kernel
theorem dX2_isFull_13 : decode cX2_isFull 13 = .ok (.goto 4, 3) := by decide +kernel
theorem dX2_isFull_16 : decode cX2_isFull 16 = .ok (.iconst 0, 1) := by decide +kernel
theorem dX2_isFull_17 : decode cX2_isFull 17 = .ok (.ireturn, 1) := by decide +kernel
theorem dX2_put_0 : decode cX2_put 0 = .ok (.aload_n 0, 1) := by decide +kernel
theorem dX2_put_1 : decode cX2_put 1 = .ok (.invokevirtual 20, 3) := by decide +kernel
theorem dX2_put_4 : decode cX2_put 4 = .ok (.ifCond .eq 4, 3) := by decide +kernel
theorem dX2_put_7 : decode cX2_put 7 = .ok (.return_, 1) := by decide +kernel
theorem dX2_put_8 : decode cX2_put 8 = .ok (.aload_n 0, 1) := by decide +kernel
theorem dX2_put_9 : decode cX2_put 9 = .ok (.getfield 11, 3) := by decide +kernel
theorem dX2_put_12 : decode cX2_put 12 = .ok (.aload_n 0, 1) := by decide +kernel
theorem dX2_put_13 : decode cX2_put 13 = .ok (.getfield 16, 3) := by decide +kernel
theorem dX2_put_16 : decode cX2_put 16 = .ok (.aaload, 1) := by decide +kernel
theorem dX2_put_17 : decode cX2_put 17 = .ok (.iconst 0, 1) := by decide +kernel
theorem dX2_put_18 : decode cX2_put 18 = .ok (.iload_n 1, 1) := by decide +kernel
theorem dX2_put_19 : decode cX2_put 19 = .ok (.iastore, 1) := by decide +kernel
theorem dX2_put_20 : decode cX2_put 20 = .ok (.aload_n 0, 1) := by decide +kernel
theorem dX2_put_21 : decode cX2_put 21 = .ok (.getfield 11, 3) := by decide +kernel
theorem dX2_put_24 : decode cX2_put 24 = .ok (.aload_n 0, 1) := by decide +kernel
theorem dX2_put_25 : decode cX2_put 25 = .ok (.getfield 16, 3) := by decide +kernel
theorem dX2_put_28 : decode cX2_put 28 = .ok (.aaload, 1) := by decide +kernel
theorem dX2_put_29 : decode cX2_put 29 = .ok (.iconst 1, 1) := by decide +kernel
theorem dX2_put_30 : decode cX2_put 30 = .ok (.iload_n 2, 1) := by decide +kernel
theorem dX2_put_31 : decode cX2_put 31 = .ok (.iastore, 1) := by decide +kernel
theorem dX2_put_32 : decode cX2_put 32 = .ok (.aload_n 0, 1) := by decide +kernel
theorem dX2_put_33 : decode cX2_put 33 = .ok (.getfield 11, 3) := by decide +kernel
theorem dX2_put_36 : decode cX2_put 36 = .ok (.aload_n 0, 1) := by decide +kernel
theorem dX2_put_37 : decode cX2_put 37 = .ok (.getfield 16, 3) := by decide +kernel
theorem dX2_put_40 : decode cX2_put 40 = .ok (.aaload, 1) := by decide +kernel
theorem dX2_put_41 : decode cX2_put 41 = .ok (.iconst 2, 1) := by decide +kernel
theorem dX2_put_42 : decode cX2_put 42 = .ok (.iload_n 3, 1) := by decide +kernel
theorem dX2_put_43 : decode cX2_put 43 = .ok (.iastore, 1) := by decide +kernel
theorem dX2_put_44 : decode cX2_put 44 = .ok (.aload_n 0, 1) := by decide +kernel
theorem dX2_put_45 : decode cX2_put 45 = .ok (.getfield 11, 3) := by decide +kernel
theorem dX2_put_48 : decode cX2_put 48 = .ok (.aload_n 0, 1) := by decide +kernel
theorem dX2_put_49 : decode cX2_put 49 = .ok (.getfield 16, 3) := by decide +kernel
theorem dX2_put_52 : decode cX2_put 52 = .ok (.aaload, 1) := by decide +kernel
theorem dX2_put_53 : decode cX2_put 53 = .ok (.iconst 3, 1) := by decide +kernel
theorem dX2_put_54 : decode cX2_put 54 = .ok (.iload 4, 2) := by decide +kernel
theorem dX2_put_56 : decode cX2_put 56 = .ok (.iastore, 1) := by decide +kernel
theorem dX2_put_57 : decode cX2_put 57 = .ok (.aload_n 0, 1) := by decide +kernel
theorem dX2_put_58 : decode cX2_put 58 = .ok (.dup, 1) := by decide +kernel
theorem dX2_put_59 : decode cX2_put 59 = .ok (.getfield 16, 3) := by decide +kernel
theorem dX2_put_62 : decode cX2_put 62 = .ok (.iconst 1, 1) := by decide +kernel
theorem dX2_put_63 : decode cX2_put 63 = .ok (.iadd, 1) := by decide +kernel
theorem dX2_put_64 : decode cX2_put 64 = .ok (.putfield 16, 3) := by decide +kernel
theorem dX2_put_67 : decode cX2_put 67 = .ok (.return_, 1) := by decide +kernel
theorem dX2_told_0 : decode cX2_told 0 = .ok (.iload_n 1, 1) := by decide +kernel
theorem dX2_told_1 : decode cX2_told 1 = .ok (.ifCond .lt 31, 3) := by decide +kernel
theorem dX2_told_4 : decode cX2_told 4 = .ok (.iload_n 1, 1) := by decide +kernel
theorem dX2_told_5 : decode cX2_told 5 = .ok (.aload_n 0, 1) := by decide +kernel
theorem dX2_told_6 : decode cX2_told 6 = .ok (.getfield 16, 3) := by decide +kernel
theorem dX2_told_9 : decode cX2_told 9 = .ok (.if_icmp .ge 23, 3) := by decide +kernel
theorem dX2_told_12 : decode cX2_told 12 = .ok (.iload_n 2, 1) := by decide +kernel
theorem dX2_told_13 : decode cX2_told 13 = .ok (.ifCond .lt 19, 3) := by decide +kernel
theorem dX2_told_16 : decode cX2_told 16 = .ok (.iload_n 2, 1) := by decide +kernel
theorem dX2_told_17 : decode cX2_told 17 = .ok (.iconst 4, 1) := by decide +kernel
theorem dX2_told_18 : decode cX2_told 18 = .ok (.if_icmp .ge 14, 3) := by decide +kernel
theorem dX2_told_21 : decode cX2_told 21 = .ok (.aload_n 0, 1) := by decide +kernel
theorem dX2_told_22 : decode cX2_told 22 = .ok (.getfield 11, 3) := by decide +kernel
theorem dX2_told_25 : decode cX2_told 25 = .ok (.iload_n 1, 1) := by decide +kernel
theorem dX2_told_26 : decode cX2_told 26 = .ok (.aaload, 1) := by decide +kernel
theorem dX2_told_27 : decode cX2_told 27 = .ok (.iload_n 2, 1) := by decide +kernel
theorem dX2_told_28 : decode cX2_told 28 = .ok (.iaload, 1) := by decide +kernel
theorem dX2_told_29 : decode cX2_told 29 = .ok (.goto 4, 3) := by decide +kernel
theorem dX2_told_32 : decode cX2_told 32 = .ok (.iconst (-1), 1) := by decide +kernel
theorem dX2_told_33 : decode cX2_told 33 = .ok (.ireturn, 1) := by decide +kernel
theorem dX3_init_0 : decode cX3_init 0 = .ok (.aload_n 0, 1) := by decide +kernel
theorem dX3_init_1 : decode cX3_init 1 = .ok (.invokespecial 3, 3) := by decide +kernel
theorem dX3_init_4 : decode cX3_init 4 = .ok (.aload_n 0, 1) := by decide +kernel
theorem dX3_init_5 : decode cX3_init 5 = .ok (.iload_n 1, 1) := by decide +kernel
theorem dX3_init_6 : decode cX3_init 6 = .ok (.newarray .int, 2) := by decide +kernel
theorem dX3_init_8 : decode cX3_init 8 = .ok (.putfield 9, 3) := by decide +kernel
theorem dX3_init_11 : decode cX3_init 11 = .ok (.aload_n 0, 1) := by decide +kernel
theorem dX3_init_12 : decode cX3_init 12 = .ok (.iload_n 1, 1) := by decide +kernel
theorem dX3_init_13 : decode cX3_init 13 = .ok (.newarray .int, 2) := by decide +kernel
theorem dX3_init_15 : decode cX3_init 15 = .ok (.putfield 15, 3) := by decide +kernel
theorem dX3_init_18 : decode cX3_init 18 = .ok (.return_, 1) := by decide +kernel
theorem dX3_copyFrom_0 : decode cX3_copyFrom 0 = .ok (.aload_n 0, 1) := by decide +kernel
theorem dX3_copyFrom_1 : decode cX3_copyFrom 1 = .ok (.aload_n 1, 1) := by decide +kernel
theorem dX3_copyFrom_2 : decode cX3_copyFrom 2 = .ok (.getfield 18, 3) := by decide +kernel
theorem dX3_copyFrom_5 : decode cX3_copyFrom 5 = .ok (.putfield 18, 3) := by decide +kernel
theorem dX3_copyFrom_8 : decode cX3_copyFrom 8 = .ok (.aload_n 0, 1) := by decide +kernel
theorem dX3_copyFrom_9 : decode cX3_copyFrom 9 = .ok (.iload_n 2, 1) := by decide +kernel
theorem dX3_copyFrom_10 : decode cX3_copyFrom 10 = .ok (.putfield 22, 3) := by decide +kernel
theorem dX3_copyFrom_13 : decode cX3_copyFrom 13 = .ok (.aload_n 0, 1) := by decide +kernel
theorem dX3_copyFrom_14 : decode cX3_copyFrom 14 = .ok (.aload_n 1, 1) := by decide +kernel
theorem dX3_copyFrom_15 : decode cX3_copyFrom 15 = .ok (.getfield 25, 3) := by decide +kernel
theorem dX3_copyFrom_18 : decode cX3_copyFrom 18 = .ok (.putfield 25, 3) := by decide +kernel
theorem dX3_copyFrom_21 : decode cX3_copyFrom 21 = .ok (.aload_n 0, 1) := by decide +kernel
theorem dX3_copyFrom_22 : decode cX3_copyFrom 22 = .ok (.aload_n 1, 1) := by decide +kernel
theorem dX3_copyFrom_23 : decode cX3_copyFrom 23 = .ok (.getfield 28, 3) := by decide +kernel
theorem dX3_copyFrom_26 : decode cX3_copyFrom 26 = .ok (.putfield 28, 3) := by decide +kernel
theorem dX3_copyFrom_29 : decode cX3_copyFrom 29 = .ok (.aload_n 0, 1) := by decide +kernel
theorem dX3_copyFrom_30 : decode cX3_copyFrom 30 = .ok (.aload_n 1, 1) := by decide +kernel
theorem dX3_copyFrom_31 : decode cX3_copyFrom 31 = .ok (.getfield 31, 3) := by decide +kernel
theorem dX3_copyFrom_34 : decode cX3_copyFrom 34 = .ok (.putfield 31, 3) := by decide +kernel
theorem dX3_copyFrom_37 : decode cX3_copyFrom 37 = .ok (.aload_n 0, 1) := by decide +kernel
theorem dX3_copyFrom_38 : decode cX3_copyFrom 38 = .ok (.aload_n 1, 1) := by decide +kernel
theorem dX3_copyFrom_39 : decode cX3_copyFrom 39 = .ok (.getfield 34, 3) := by decide +kernel
theorem dX3_copyFrom_42 : decode cX3_copyFrom 42 = .ok (.putfield 34, 3) := by decide +kernel
theorem dX3_copyFrom_45 : decode cX3_copyFrom 45 = .ok (.aload_n 0, 1) := by decide +kernel
theorem dX3_copyFrom_46 : decode cX3_copyFrom 46 = .ok (.aload_n 1, 1) := by decide +kernel
theorem dX3_copyFrom_47 : decode cX3_copyFrom 47 = .ok (.getfield 37, 3) := by decide +kernel
theorem dX3_copyFrom_50 : decode cX3_copyFrom 50 = .ok (.putfield 37, 3) := by decide +kernel
theorem dX3_copyFrom_53 : decode cX3_copyFrom 53 = .ok (.iconst 0, 1) := by decide +kernel
theorem dX3_copyFrom_54 : decode cX3_copyFrom 54 = .ok (.istore_n 3, 1) := by decide +kernel
theorem dX3_copyFrom_55 : decode cX3_copyFrom 55 = .ok (.iload_n 3, 1) := by decide +kernel
theorem dX3_copyFrom_56 : decode cX3_copyFrom 56 = .ok (.aload_n 0, 1) := by decide +kernel
theorem dX3_copyFrom_57 : decode cX3_copyFrom 57 = .ok (.getfield 9, 3) := by decide +kernel
theorem dX3_copyFrom_60 : decode cX3_copyFrom 60 = .ok (.arraylength, 1) := by decide +kernel
theorem dX3_copyFrom_61 : decode cX3_copyFrom 61 = .ok (.if_icmp .ge 33, 3) := by decide +kernel
theorem dX3_copyFrom_64 : decode cX3_copyFrom 64 = .ok (.aload_n 0, 1) := by decide +kernel
theorem dX3_copyFrom_65 : decode cX3_copyFrom 65 = .ok (.getfield 9, 3) := by decide +kernel
theorem dX3_copyFrom_68 : decode cX3_copyFrom 68 = .ok (.iload_n 3, 1) := by decide +kernel
theorem dX3_copyFrom_69 : decode cX3_copyFrom 69 = .ok (.aload_n 1, 1) := by decide +kernel
theorem dX3_copyFrom_70 : decode cX3_copyFrom 70 = .ok (.getfield 9, 3) := by decide +kernel
theorem dX3_copyFrom_73 : decode cX3_copyFrom 73 = .ok (.iload_n 3, 1) := by decide +kernel
theorem dX3_copyFrom_74 : decode cX3_copyFrom 74 = .ok (.iaload, 1) := by decide +kernel
theorem dX3_copyFrom_75 : decode cX3_copyFrom 75 = .ok (.iastore, 1) := by decide +kernel
theorem dX3_copyFrom_76 : decode cX3_copyFrom 76 = .ok (.aload_n 0, 1) := by decide +kernel
theorem dX3_copyFrom_77 : decode cX3_copyFrom 77 = .ok (.getfield 15, 3) := by decide +kernel
theorem dX3_copyFrom_80 : decode cX3_copyFrom 80 = .ok (.iload_n 3, 1) := by decide +kernel
theorem dX3_copyFrom_81 : decode cX3_copyFrom 81 = .ok (.aload_n 1, 1) := by decide +kernel
theorem dX3_copyFrom_82 : decode cX3_copyFrom 82 = .ok (.getfield 15, 3) := by decide +kernel
theorem dX3_copyFrom_85 : decode cX3_copyFrom 85 = .ok (.iload_n 3, 1) := by decide +kernel
theorem dX3_copyFrom_86 : decode cX3_copyFrom 86 = .ok (.iaload, 1) := by decide +kernel
theorem dX3_copyFrom_87 : decode cX3_copyFrom 87 = .ok (.iastore, 1) := by decide +kernel
theorem dX3_copyFrom_88 : decode cX3_copyFrom 88 = .ok (.iinc 3 1, 3) := by decide +kernel
theorem dX3_copyFrom_91 : decode cX3_copyFrom 91 = .ok (.goto (-36), 3) := by decide +kernel
theorem dX3_copyFrom_94 : decode cX3_copyFrom 94 = .ok (.return_, 1) := by decide +kernel
theorem dX3_tell_0 : decode cX3_tell 0 = .ok (.iconst 0, 1) := by decide +kernel
theorem dX3_tell_1 : decode cX3_tell 1 = .ok (.istore_n 3, 1) := by decide +kernel
theorem dX3_tell_2 : decode cX3_tell 2 = .ok (.iload_n 3, 1) := by decide +kernel
theorem dX3_tell_3 : decode cX3_tell 3 = .ok (.aload_n 0, 1) := by decide +kernel
theorem dX3_tell_4 : decode cX3_tell 4 = .ok (.getfield 9, 3) := by decide +kernel
theorem dX3_tell_7 : decode cX3_tell 7 = .ok (.arraylength, 1) := by decide +kernel
theorem dX3_tell_8 : decode cX3_tell 8 = .ok (.if_icmp .ge 27, 3) := by decide +kernel
theorem dX3_tell_11 : decode cX3_tell 11 = .ok (.aload_n 0, 1) := by decide +kernel
theorem dX3_tell_12 : decode cX3_tell 12 = .ok (.getfield 9, 3) := by decide +kernel
theorem dX3_tell_15 : decode cX3_tell 15 = .ok (.iload_n 3, 1) := by decide +kernel
theorem dX3_tell_16 : decode cX3_tell 16 = .ok (.aload_n 1, 1) := by decide +kernel
theorem dX3_tell_17 : decode cX3_tell 17 = .ok (.iload_n 3, 1) := by decide +kernel
theorem dX3_tell_18 : decode cX3_tell 18 = .ok (.iaload, 1) := by decide +kernel
theorem dX3_tell_19 : decode cX3_tell 19 = .ok (.iastore, 1) := by decide +kernel
theorem dX3_tell_20 : decode cX3_tell 20 = .ok (.aload_n 0, 1) := by decide +kernel
theorem dX3_tell_21 : decode cX3_tell 21 = .ok (.getfield 15, 3) := by decide +kernel
theorem dX3_tell_24 : decode cX3_tell 24 = .ok (.iload_n 3, 1) := by decide +kernel
theorem dX3_tell_25 : decode cX3_tell 25 = .ok (.aload_n 2, 1) := by decide +kernel
theorem dX3_tell_26 : decode cX3_tell 26 = .ok (.iload_n 3, 1) := by decide +kernel
theorem dX3_tell_27 : decode cX3_tell 27 = .ok (.iaload, 1) := by decide +kernel
theorem dX3_tell_28 : decode cX3_tell 28 = .ok (.iastore, 1) := by decide +kernel
theorem dX3_tell_29 : decode cX3_tell 29 = .ok (.iinc 3 1, 3) := by decide +kernel
theorem dX3_tell_32 : decode cX3_tell 32 = .ok (.goto (-30), 3) := by decide +kernel
theorem dX3_tell_35 : decode cX3_tell 35 = .ok (.return_, 1) := by decide +kernel
theorem dX3_told_0 : decode cX3_told 0 = .ok (.iload_n 1, 1) := by decide +kernel
theorem dX3_told_1 : decode cX3_told 1 = .ok (.tableswitch 78 0 6 #[43, 48, 53, 58, 63, 68, 73], 43) := by decide +kernel
theorem dX3_told_44 : decode cX3_told 44 = .ok (.aload_n 0, 1) := by decide +kernel
theorem dX3_told_45 : decode cX3_told 45 = .ok (.getfield 18, 3) := by decide +kernel
theorem dX3_told_48 : decode cX3_told 48 = .ok (.ireturn, 1) := by decide +kernel
theorem dX3_told_49 : decode cX3_told 49 = .ok (.aload_n 0, 1) := by decide +kernel
theorem dX3_told_50 : decode cX3_told 50 = .ok (.getfield 22, 3) := by decide +kernel
theorem dX3_told_53 : decode cX3_told 53 = .ok (.ireturn, 1) := by decide +kernel
theorem dX3_told_54 : decode cX3_told 54 = .ok (.aload_n 0, 1) := by decide +kernel
theorem dX3_told_55 : decode cX3_told 55 = .ok (.getfield 25, 3) := by decide +kernel
theorem dX3_told_58 : decode cX3_told 58 = .ok (.ireturn, 1) := by decide +kernel
theorem dX3_told_59 : decode cX3_told 59 = .ok (.aload_n 0, 1) := by decide +kernel
theorem dX3_told_60 : decode cX3_told 60 = .ok (.getfield 28, 3) := by decide +kernel
theorem dX3_told_63 : decode cX3_told 63 = .ok (.ireturn, 1) := by decide +kernel
theorem dX3_told_64 : decode cX3_told 64 = .ok (.aload_n 0, 1) := by decide +kernel
theorem dX3_told_65 : decode cX3_told 65 = .ok (.getfield 31, 3) := by decide +kernel
theorem dX3_told_68 : decode cX3_told 68 = .ok (.ireturn, 1) := by decide +kernel
theorem dX3_told_69 : decode cX3_told 69 = .ok (.aload_n 0, 1) := by decide +kernel
theorem dX3_told_70 : decode cX3_told 70 = .ok (.getfield 34, 3) := by decide +kernel
theorem dX3_told_73 : decode cX3_told 73 = .ok (.ireturn, 1) := by decide +kernel
theorem dX3_told_74 : decode cX3_told 74 = .ok (.aload_n 0, 1) := by decide +kernel
theorem dX3_told_75 : decode cX3_told 75 = .ok (.getfield 37, 3) := by decide +kernel
theorem dX3_told_78 : decode cX3_told 78 = .ok (.ireturn, 1) := by decide +kernel
theorem dX3_told_79 : decode cX3_told 79 = .ok (.iconst (-1), 1) := by decide +kernel
theorem dX3_told_80 : decode cX3_told 80 = .ok (.ireturn, 1) := by decide +kernel
theorem dX4_init_0 : decode cX4_init 0 = .ok (.aload_n 0, 1) := by decide +kernel
theorem dX4_init_1 : decode cX4_init 1 = .ok (.invokespecial 1, 3) := by decide +kernel
theorem dX4_init_4 : decode cX4_init 4 = .ok (.aload_n 0, 1) := by decide +kernel
theorem dX4_init_5 : decode cX4_init 5 = .ok (.iconst 1, 1) := by decide +kernel
theorem dX4_init_6 : decode cX4_init 6 = .ok (.putfield 7, 3) := by decide +kernel
theorem dX4_init_9 : decode cX4_init 9 = .ok (.aload_n 0, 1) := by decide +kernel
theorem dX4_init_10 : decode cX4_init 10 = .ok (.iload_n 1, 1) := by decide +kernel
theorem dX4_init_11 : decode cX4_init 11 = .ok (.putfield 13, 3) := by decide +kernel
theorem dX4_init_14 : decode cX4_init 14 = .ok (.aload_n 0, 1) := by decide +kernel
theorem dX4_init_15 : decode cX4_init 15 = .ok (.aload_n 2, 1) := by decide +kernel
theorem dX4_init_16 : decode cX4_init 16 = .ok (.putfield 17, 3) := by decide +kernel
theorem dX4_init_19 : decode cX4_init 19 = .ok (.aload_n 0, 1) := by decide +kernel
theorem dX4_init_20 : decode cX4_init 20 = .ok (.aload_n 3, 1) := by decide +kernel
theorem dX4_init_21 : decode cX4_init 21 = .ok (.putfield 21, 3) := by decide +kernel
theorem dX4_init_24 : decode cX4_init 24 = .ok (.aload_n 0, 1) := by decide +kernel
theorem dX4_init_25 : decode cX4_init 25 = .ok (.new 25, 3) := by decide +kernel
theorem dX4_init_28 : decode cX4_init 28 = .ok (.dup, 1) := by decide +kernel
theorem dX4_init_29 : decode cX4_init 29 = .ok (.aload_n 2, 1) := by decide +kernel
theorem dX4_init_30 : decode cX4_init 30 = .ok (.getfield 27, 3) := by decide +kernel
theorem dX4_init_33 : decode cX4_init 33 = .ok (.invokespecial 32, 3) := by decide +kernel
theorem dX4_init_36 : decode cX4_init 36 = .ok (.putfield 35, 3) := by decide +kernel
theorem dX4_init_39 : decode cX4_init 39 = .ok (.return_, 1) := by decide +kernel
theorem dX5_init_0 : decode cX5_init 0 = .ok (.aload_n 0, 1) := by decide +kernel
theorem dX5_init_1 : decode cX5_init 1 = .ok (.invokespecial 1, 3) := by decide +kernel
theorem dX5_init_4 : decode cX5_init 4 = .ok (.aload_n 0, 1) := by decide +kernel
theorem dX5_init_5 : decode cX5_init 5 = .ok (.aload_n 1, 1) := by decide +kernel
theorem dX5_init_6 : decode cX5_init 6 = .ok (.putfield 7, 3) := by decide +kernel
theorem dX5_init_9 : decode cX5_init 9 = .ok (.aload_n 0, 1) := by decide +kernel
theorem dX5_init_10 : decode cX5_init 10 = .ok (.aload_n 1, 1) := by decide +kernel
theorem dX5_init_11 : decode cX5_init 11 = .ok (.getfield 13, 3) := by decide +kernel
theorem dX5_init_14 : decode cX5_init 14 = .ok (.anewarray 19, 3) := by decide +kernel
theorem dX5_init_17 : decode cX5_init 17 = .ok (.putfield 21, 3) := by decide +kernel
theorem dX5_init_20 : decode cX5_init 20 = .ok (.iconst 0, 1) := by decide +kernel
theorem dX5_init_21 : decode cX5_init 21 = .ok (.istore_n 2, 1) := by decide +kernel
theorem dX5_init_22 : decode cX5_init 22 = .ok (.iload_n 2, 1) := by decide +kernel
theorem dX5_init_23 : decode cX5_init 23 = .ok (.aload_n 0, 1) := by decide +kernel
theorem dX5_init_24 : decode cX5_init 24 = .ok (.getfield 21, 3) := by decide +kernel
theorem dX5_init_27 : decode cX5_init 27 = .ok (.arraylength, 1) := by decide +kernel
theorem dX5_init_28 : decode cX5_init 28 = .ok (.if_icmp .ge 26, 3) := by decide +kernel
theorem dX5_init_31 : decode cX5_init 31 = .ok (.aload_n 0, 1) := by decide +kernel
theorem dX5_init_32 : decode cX5_init 32 = .ok (.getfield 21, 3) := by decide +kernel
theorem dX5_init_35 : decode cX5_init 35 = .ok (.iload_n 2, 1) := by decide +kernel
theorem dX5_init_36 : decode cX5_init 36 = .ok (.new 19, 3) := by decide +kernel
theorem dX5_init_39 : decode cX5_init 39 = .ok (.dup, 1) := by decide +kernel
theorem dX5_init_40 : decode cX5_init 40 = .ok (.aload_n 1, 1) := by decide +kernel
theorem dX5_init_41 : decode cX5_init 41 = .ok (.getfield 25, 3) := by decide +kernel
theorem dX5_init_44 : decode cX5_init 44 = .ok (.invokespecial 28, 3) := by decide +kernel
theorem dX5_init_47 : decode cX5_init 47 = .ok (.aastore, 1) := by decide +kernel
theorem dX5_init_48 : decode cX5_init 48 = .ok (.iinc 2 1, 3) := by decide +kernel
theorem dX5_init_51 : decode cX5_init 51 = .ok (.goto (-29), 3) := by decide +kernel
theorem dX5_init_54 : decode cX5_init 54 = .ok (.aload_n 0, 1) := by decide +kernel
theorem dX5_init_55 : decode cX5_init 55 = .ok (.new 19, 3) := by decide +kernel
theorem dX5_init_58 : decode cX5_init 58 = .ok (.dup, 1) := by decide +kernel
theorem dX5_init_59 : decode cX5_init 59 = .ok (.aload_n 1, 1) := by decide +kernel
theorem dX5_init_60 : decode cX5_init 60 = .ok (.getfield 25, 3) := by decide +kernel
theorem dX5_init_63 : decode cX5_init 63 = .ok (.invokespecial 28, 3) := by decide +kernel
theorem dX5_init_66 : decode cX5_init 66 = .ok (.putfield 31, 3) := by decide +kernel
theorem dX5_init_69 : decode cX5_init 69 = .ok (.aload_n 0, 1) := by decide +kernel
theorem dX5_init_70 : decode cX5_init 70 = .ok (.new 19, 3) := by decide +kernel
theorem dX5_init_73 : decode cX5_init 73 = .ok (.dup, 1) := by decide +kernel
theorem dX5_init_74 : decode cX5_init 74 = .ok (.aload_n 1, 1) := by decide +kernel
theorem dX5_init_75 : decode cX5_init 75 = .ok (.getfield 25, 3) := by decide +kernel
theorem dX5_init_78 : decode cX5_init 78 = .ok (.invokespecial 28, 3) := by decide +kernel
theorem dX5_init_81 : decode cX5_init 81 = .ok (.putfield 35, 3) := by decide +kernel
theorem dX5_init_84 : decode cX5_init 84 = .ok (.return_, 1) := by decide +kernel
theorem dX5_has_0 : decode cX5_has 0 = .ok (.iload_n 1, 1) := by decide +kernel
theorem dX5_has_1 : decode cX5_has 1 = .ok (.ifCond .lt 15, 3) := by decide +kernel
theorem dX5_has_4 : decode cX5_has 4 = .ok (.iload_n 1, 1) := by decide +kernel
theorem dX5_has_5 : decode cX5_has 5 = .ok (.aload_n 0, 1) := by decide +kernel
theorem dX5_has_6 : decode cX5_has 6 = .ok (.getfield 38, 3) := by decide +kernel
theorem dX5_has_9 : decode cX5_has 9 = .ok (.if_icmp .ge 7, 3) := by decide +kernel
theorem dX5_has_12 : decode cX5_has 12 = .ok (.iconst 1, 1) := by decide +kernel
theorem dX5_has_13 : decode cX5_has 13 = .ok (.goto 4, 3) := by decide +kernel
theorem dX5_has_16 : decode cX5_has 16 = .ok (.iconst 0, 1) := by decide +kernel
theorem dX5_has_17 : decode cX5_has 17 = .ok (.ireturn, 1) := by decide +kernel
theorem dX5_take_0 : decode cX5_take 0 = .ok (.aload_n 0, 1) := by decide +kernel
theorem dX5_take_1 : decode cX5_take 1 = .ok (.getfield 21, 3) := by decide +kernel
theorem dX5_take_4 : decode cX5_take 4 = .ok (.iload_n 1, 1) := by decide +kernel
theorem dX5_take_5 : decode cX5_take 5 = .ok (.aaload, 1) := by decide +kernel
theorem dX5_take_6 : decode cX5_take 6 = .ok (.astore_n 2, 1) := by decide +kernel
theorem dX5_take_7 : decode cX5_take 7 = .ok (.iload_n 1, 1) := by decide +kernel
theorem dX5_take_8 : decode cX5_take 8 = .ok (.iconst 1, 1) := by decide +kernel
theorem dX5_take_9 : decode cX5_take 9 = .ok (.iadd, 1) := by decide +kernel
theorem dX5_take_10 : decode cX5_take 10 = .ok (.istore_n 3, 1) := by decide +kernel
theorem dX5_take_11 : decode cX5_take 11 = .ok (.iload_n 3, 1) := by decide +kernel
theorem dX5_take_12 : decode cX5_take 12 = .ok (.aload_n 0, 1) := by decide +kernel
theorem dX5_take_13 : decode cX5_take 13 = .ok (.getfield 38, 3) := by decide +kernel
theorem dX5_take_16 : decode cX5_take 16 = .ok (.if_icmp .ge 23, 3) := by decide +kernel
theorem dX5_take_19 : decode cX5_take 19 = .ok (.aload_n 0, 1) := by decide +kernel
theorem dX5_take_20 : decode cX5_take 20 = .ok (.getfield 21, 3) := by decide +kernel
theorem dX5_take_23 : decode cX5_take 23 = .ok (.iload_n 3, 1) := by decide +kernel
theorem dX5_take_24 : decode cX5_take 24 = .ok (.iconst 1, 1) := by decide +kernel
theorem dX5_take_25 : decode cX5_take 25 = .ok (.isub, 1) := by decide +kernel
theorem dX5_take_26 : decode cX5_take 26 = .ok (.aload_n 0, 1) := by decide +kernel
theorem dX5_take_27 : decode cX5_take 27 = .ok (.getfield 21, 3) := by decide +kernel
theorem dX5_take_30 : decode cX5_take 30 = .ok (.iload_n 3, 1) := by decide +kernel
theorem dX5_take_31 : decode cX5_take 31 = .ok (.aaload, 1) := by decide +kernel
theorem dX5_take_32 : decode cX5_take 32 = .ok (.aastore, 1) := by decide +kernel
theorem dX5_take_33 : decode cX5_take 33 = .ok (.iinc 3 1, 3) := by decide +kernel
theorem dX5_take_36 : decode cX5_take 36 = .ok (.goto (-25), 3) := by decide +kernel
theorem dX5_take_39 : decode cX5_take 39 = .ok (.aload_n 0, 1) := by decide +kernel
theorem dX5_take_40 : decode cX5_take 40 = .ok (.dup, 1) := by decide +kernel
theorem dX5_take_41 : decode cX5_take 41 = .ok (.getfield 38, 3) := by decide +kernel
theorem dX5_take_44 : decode cX5_take 44 = .ok (.iconst 1, 1) := by decide +kernel
theorem dX5_take_45 : decode cX5_take 45 = .ok (.isub, 1) := by decide +kernel
theorem dX5_take_46 : decode cX5_take 46 = .ok (.putfield 38, 3) := by decide +kernel
theorem dX5_take_49 : decode cX5_take 49 = .ok (.aload_n 0, 1) := by decide +kernel
theorem dX5_take_50 : decode cX5_take 50 = .ok (.getfield 21, 3) := by decide +kernel
theorem dX5_take_53 : decode cX5_take 53 = .ok (.aload_n 0, 1) := by decide +kernel
theorem dX5_take_54 : decode cX5_take 54 = .ok (.getfield 38, 3) := by decide +kernel
theorem dX5_take_57 : decode cX5_take 57 = .ok (.aload_n 0, 1) := by decide +kernel
theorem dX5_take_58 : decode cX5_take 58 = .ok (.getfield 35, 3) := by decide +kernel
theorem dX5_take_61 : decode cX5_take 61 = .ok (.aastore, 1) := by decide +kernel
theorem dX5_take_62 : decode cX5_take 62 = .ok (.aload_n 0, 1) := by decide +kernel
theorem dX5_take_63 : decode cX5_take 63 = .ok (.aload_n 2, 1) := by decide +kernel
theorem dX5_take_64 : decode cX5_take 64 = .ok (.putfield 35, 3) := by decide +kernel
theorem dX5_take_67 : decode cX5_take 67 = .ok (.aload_n 2, 1) := by decide +kernel
theorem dX5_take_68 : decode cX5_take 68 = .ok (.areturn, 1) := by decide +kernel
theorem dX5_startDraft_0 : decode cX5_startDraft 0 = .ok (.aload_n 0, 1) := by decide +kernel
theorem dX5_startDraft_1 : decode cX5_startDraft 1 = .ok (.getfield 31, 3) := by decide +kernel
theorem dX5_startDraft_4 : decode cX5_startDraft 4 = .ok (.iload_n 1, 1) := by decide +kernel
theorem dX5_startDraft_5 : decode cX5_startDraft 5 = .ok (.putfield 41, 3) := by decide +kernel
theorem dX5_startDraft_8 : decode cX5_startDraft 8 = .ok (.aload_n 0, 1) := by decide +kernel
theorem dX5_startDraft_9 : decode cX5_startDraft 9 = .ok (.getfield 31, 3) := by decide +kernel
theorem dX5_startDraft_12 : decode cX5_startDraft 12 = .ok (.iload_n 2, 1) := by decide +kernel
theorem dX5_startDraft_13 : decode cX5_startDraft 13 = .ok (.putfield 44, 3) := by decide +kernel
theorem dX5_startDraft_16 : decode cX5_startDraft 16 = .ok (.aload_n 0, 1) := by decide +kernel
theorem dX5_startDraft_17 : decode cX5_startDraft 17 = .ok (.getfield 31, 3) := by decide +kernel
theorem dX5_startDraft_20 : decode cX5_startDraft 20 = .ok (.iload_n 3, 1) := by decide +kernel
theorem dX5_startDraft_21 : decode cX5_startDraft 21 = .ok (.putfield 47, 3) := by decide +kernel
theorem dX5_startDraft_24 : decode cX5_startDraft 24 = .ok (.aload_n 0, 1) := by decide +kernel
theorem dX5_startDraft_25 : decode cX5_startDraft 25 = .ok (.getfield 31, 3) := by decide +kernel
theorem dX5_startDraft_28 : decode cX5_startDraft 28 = .ok (.iconst 0, 1) := by decide +kernel
theorem dX5_startDraft_29 : decode cX5_startDraft 29 = .ok (.putfield 50, 3) := by decide +kernel
theorem dX5_startDraft_32 : decode cX5_startDraft 32 = .ok (.aload_n 0, 1) := by decide +kernel
theorem dX5_startDraft_33 : decode cX5_startDraft 33 = .ok (.getfield 31, 3) := by decide +kernel
theorem dX5_startDraft_36 : decode cX5_startDraft 36 = .ok (.iconst 0, 1) := by decide +kernel
theorem dX5_startDraft_37 : decode cX5_startDraft 37 = .ok (.putfield 53, 3) := by decide +kernel
theorem dX5_startDraft_40 : decode cX5_startDraft 40 = .ok (.aload_n 0, 1) := by decide +kernel
theorem dX5_startDraft_41 : decode cX5_startDraft 41 = .ok (.getfield 31, 3) := by decide +kernel
theorem dX5_startDraft_44 : decode cX5_startDraft 44 = .ok (.iconst 0, 1) := by decide +kernel
theorem dX5_startDraft_45 : decode cX5_startDraft 45 = .ok (.putfield 56, 3) := by decide +kernel
theorem dX5_startDraft_48 : decode cX5_startDraft 48 = .ok (.return_, 1) := by decide +kernel
theorem dX5_startDraftOfVote_0 : decode cX5_startDraftOfVote 0 = .ok (.aload_n 0, 1) := by decide +kernel
theorem dX5_startDraftOfVote_1 : decode cX5_startDraftOfVote 1 = .ok (.iload_n 1, 1) := by decide +kernel
theorem dX5_startDraftOfVote_2 : decode cX5_startDraftOfVote 2 = .ok (.iload_n 2, 1) := by decide +kernel
theorem dX5_startDraftOfVote_3 : decode cX5_startDraftOfVote 3 = .ok (.iload_n 3, 1) := by decide +kernel
theorem dX5_startDraftOfVote_4 : decode cX5_startDraftOfVote 4 = .ok (.invokevirtual 59, 3) := by decide +kernel
theorem dX5_startDraftOfVote_7 : decode cX5_startDraftOfVote 7 = .ok (.aload_n 0, 1) := by decide +kernel
theorem dX5_startDraftOfVote_8 : decode cX5_startDraftOfVote 8 = .ok (.getfield 31, 3) := by decide +kernel
theorem dX5_startDraftOfVote_11 : decode cX5_startDraftOfVote 11 = .ok (.iload 4, 2) := by decide +kernel
theorem dX5_startDraftOfVote_13 : decode cX5_startDraftOfVote 13 = .ok (.putfield 50, 3) := by decide +kernel
theorem dX5_startDraftOfVote_16 : decode cX5_startDraftOfVote 16 = .ok (.aload_n 0, 1) := by decide +kernel
theorem dX5_startDraftOfVote_17 : decode cX5_startDraftOfVote 17 = .ok (.getfield 31, 3) := by decide +kernel
theorem dX5_startDraftOfVote_20 : decode cX5_startDraftOfVote 20 = .ok (.iload 5, 2) := by decide +kernel
theorem dX5_startDraftOfVote_22 : decode cX5_startDraftOfVote 22 = .ok (.putfield 53, 3) := by decide +kernel
theorem dX5_startDraftOfVote_25 : decode cX5_startDraftOfVote 25 = .ok (.aload_n 0, 1) := by decide +kernel
theorem dX5_startDraftOfVote_26 : decode cX5_startDraftOfVote 26 = .ok (.getfield 31, 3) := by decide +kernel
theorem dX5_startDraftOfVote_29 : decode cX5_startDraftOfVote 29 = .ok (.iload 6, 2) := by decide +kernel
theorem dX5_startDraftOfVote_31 : decode cX5_startDraftOfVote 31 = .ok (.putfield 56, 3) := by decide +kernel
theorem dX5_startDraftOfVote_34 : decode cX5_startDraftOfVote 34 = .ok (.return_, 1) := by decide +kernel
theorem dX5_postDraftToAcceptors_0 : decode cX5_postDraftToAcceptors 0 = .ok (.iconst 0, 1) := by decide +kernel
theorem dX5_postDraftToAcceptors_1 : decode cX5_postDraftToAcceptors 1 = .ok (.istore_n 1, 1) := by decide +kernel
theorem dX5_postDraftToAcceptors_2 : decode cX5_postDraftToAcceptors 2 = .ok (.iload_n 1, 1) := by decide +kernel
theorem dX5_postDraftToAcceptors_3 : decode cX5_postDraftToAcceptors 3 = .ok (.aload_n 0, 1) := by decide +kernel
theorem dX5_postDraftToAcceptors_4 : decode cX5_postDraftToAcceptors 4 = .ok (.getfield 7, 3) := by decide +kernel
theorem dX5_postDraftToAcceptors_7 : decode cX5_postDraftToAcceptors 7 = .ok (.getfield 63, 3) := by decide +kernel
theorem dX5_postDraftToAcceptors_10 : decode cX5_postDraftToAcceptors 10 = .ok (.if_icmp .ge 27, 3) := by decide +kernel
theorem dX5_postDraftToAcceptors_13 : decode cX5_postDraftToAcceptors 13 = .ok (.aload_n 0, 1) := by decide +kernel
theorem dX5_postDraftToAcceptors_14 : decode cX5_postDraftToAcceptors 14 = .ok (.aload_n 0, 1) := by decide +kernel
theorem dX5_postDraftToAcceptors_15 : decode cX5_postDraftToAcceptors 15 = .ok (.getfield 31, 3) := by decide +kernel
theorem dX5_postDraftToAcceptors_18 : decode cX5_postDraftToAcceptors 18 = .ok (.aload_n 0, 1) := by decide +kernel
theorem dX5_postDraftToAcceptors_19 : decode cX5_postDraftToAcceptors 19 = .ok (.getfield 7, 3) := by decide +kernel
theorem dX5_postDraftToAcceptors_22 : decode cX5_postDraftToAcceptors 22 = .ok (.getfield 25, 3) := by decide +kernel
theorem dX5_postDraftToAcceptors_25 : decode cX5_postDraftToAcceptors 25 = .ok (.iload_n 1, 1) := by decide +kernel
theorem dX5_postDraftToAcceptors_26 : decode cX5_postDraftToAcceptors 26 = .ok (.iadd, 1) := by decide +kernel
theorem dX5_postDraftToAcceptors_27 : decode cX5_postDraftToAcceptors 27 = .ok (.invokevirtual 66, 3) := by decide +kernel
theorem dX5_postDraftToAcceptors_30 : decode cX5_postDraftToAcceptors 30 = .ok (.pop, 1) := by decide +kernel
theorem dX5_postDraftToAcceptors_31 : decode cX5_postDraftToAcceptors 31 = .ok (.iinc 1 1, 3) := by decide +kernel
theorem dX5_postDraftToAcceptors_34 : decode cX5_postDraftToAcceptors 34 = .ok (.goto (-32), 3) := by decide +kernel
theorem dX5_postDraftToAcceptors_37 : decode cX5_postDraftToAcceptors 37 = .ok (.return_, 1) := by decide +kernel
theorem dX5_post_0 : decode cX5_post 0 = .ok (.aload_n 0, 1) := by decide +kernel
theorem dX5_post_1 : decode cX5_post 1 = .ok (.dup, 1) := by decide +kernel
theorem dX5_post_2 : decode cX5_post 2 = .ok (.getfield 70, 3) := by decide +kernel
theorem dX5_post_5 : decode cX5_post 5 = .ok (.iconst 1, 1) := by decide +kernel
theorem dX5_post_6 : decode cX5_post 6 = .ok (.iadd, 1) := by decide +kernel
theorem dX5_post_7 : decode cX5_post 7 = .ok (.putfield 70, 3) := by decide +kernel
theorem dX5_post_10 : decode cX5_post 10 = .ok (.aload_n 0, 1) := by decide +kernel
theorem dX5_post_11 : decode cX5_post 11 = .ok (.getfield 38, 3) := by decide +kernel
theorem dX5_post_14 : decode cX5_post 14 = .ok (.aload_n 0, 1) := by decide +kernel
theorem dX5_post_15 : decode cX5_post 15 = .ok (.getfield 21, 3) := by decide +kernel
theorem dX5_post_18 : decode cX5_post 18 = .ok (.arraylength, 1) := by decide +kernel
theorem dX5_post_19 : decode cX5_post 19 = .ok (.if_icmp .lt 15, 3) := by decide +kernel
theorem dX5_post_22 : decode cX5_post 22 = .ok (.aload_n 0, 1) := by decide +kernel
theorem dX5_post_23 : decode cX5_post 23 = .ok (.dup, 1) := by decide +kernel
theorem dX5_post_24 : decode cX5_post 24 = .ok (.getfield 73, 3) := by decide +kernel
theorem dX5_post_27 : decode cX5_post 27 = .ok (.iconst 1, 1) := by decide +kernel
theorem dX5_post_28 : decode cX5_post 28 = .ok (.iadd, 1) := by decide +kernel
theorem dX5_post_29 : decode cX5_post 29 = .ok (.putfield 73, 3) := by decide +kernel
theorem dX5_post_32 : decode cX5_post 32 = .ok (.iconst 0, 1) := by decide +kernel
theorem dX5_post_33 : decode cX5_post 33 = .ok (.ireturn, 1) := by decide +kernel
theorem dX5_post_34 : decode cX5_post 34 = .ok (.aload_n 0, 1) := by decide +kernel
theorem dX5_post_35 : decode cX5_post 35 = .ok (.getfield 21, 3) := by decide +kernel
theorem dX5_post_38 : decode cX5_post 38 = .ok (.aload_n 0, 1) := by decide +kernel
theorem dX5_post_39 : decode cX5_post 39 = .ok (.getfield 38, 3) := by decide +kernel
theorem dX5_post_42 : decode cX5_post 42 = .ok (.aaload, 1) := by decide +kernel
theorem dX5_post_43 : decode cX5_post 43 = .ok (.aload_n 1, 1) := by decide +kernel
theorem dX5_post_44 : decode cX5_post 44 = .ok (.iload_n 2, 1) := by decide +kernel
theorem dX5_post_45 : decode cX5_post 45 = .ok (.invokevirtual 76, 3) := by decide +kernel
theorem dX5_post_48 : decode cX5_post 48 = .ok (.aload_n 0, 1) := by decide +kernel
theorem dX5_post_49 : decode cX5_post 49 = .ok (.dup, 1) := by decide +kernel
theorem dX5_post_50 : decode cX5_post 50 = .ok (.getfield 38, 3) := by decide +kernel
theorem dX5_post_53 : decode cX5_post 53 = .ok (.iconst 1, 1) := by decide +kernel
theorem dX5_post_54 : decode cX5_post 54 = .ok (.iadd, 1) := by decide +kernel
theorem dX5_post_55 : decode cX5_post 55 = .ok (.putfield 38, 3) := by decide +kernel
theorem dX5_post_58 : decode cX5_post 58 = .ok (.iconst 1, 1) := by decide +kernel
theorem dX5_post_59 : decode cX5_post 59 = .ok (.ireturn, 1) := by decide +kernel
theorem dX6_init_0 : decode cX6_init 0 = .ok (.aload_n 0, 1) := by decide +kernel
theorem dX6_init_1 : decode cX6_init 1 = .ok (.iload_n 1, 1) := by decide +kernel
theorem dX6_init_2 : decode cX6_init 2 = .ok (.aload_n 2, 1) := by decide +kernel
theorem dX6_init_3 : decode cX6_init 3 = .ok (.aload 4, 2) := by decide +kernel
theorem dX6_init_5 : decode cX6_init 5 = .ok (.invokespecial 3, 3) := by decide +kernel
theorem dX6_init_8 : decode cX6_init 8 = .ok (.aload_n 0, 1) := by decide +kernel
theorem dX6_init_9 : decode cX6_init 9 = .ok (.aload_n 3, 1) := by decide +kernel
theorem dX6_init_10 : decode cX6_init 10 = .ok (.putfield 9, 3) := by decide +kernel
theorem dX6_init_13 : decode cX6_init 13 = .ok (.aload_n 0, 1) := by decide +kernel
theorem dX6_init_14 : decode cX6_init 14 = .ok (.aload_n 2, 1) := by decide +kernel
theorem dX6_init_15 : decode cX6_init 15 = .ok (.getfield 15, 3) := by decide +kernel
theorem dX6_init_18 : decode cX6_init 18 = .ok (.newarray .boolean, 2) := by decide +kernel
theorem dX6_init_20 : decode cX6_init 20 = .ok (.putfield 21, 3) := by decide +kernel
theorem dX6_init_23 : decode cX6_init 23 = .ok (.aload_n 0, 1) := by decide +kernel
theorem dX6_init_24 : decode cX6_init 24 = .ok (.aload_n 2, 1) := by decide +kernel
theorem dX6_init_25 : decode cX6_init 25 = .ok (.getfield 15, 3) := by decide +kernel
theorem dX6_init_28 : decode cX6_init 28 = .ok (.newarray .int, 2) := by decide +kernel
theorem dX6_init_30 : decode cX6_init 30 = .ok (.putfield 25, 3) := by decide +kernel
theorem dX6_init_33 : decode cX6_init 33 = .ok (.aload_n 0, 1) := by decide +kernel
theorem dX6_init_34 : decode cX6_init 34 = .ok (.aload_n 2, 1) := by decide +kernel
theorem dX6_init_35 : decode cX6_init 35 = .ok (.getfield 15, 3) := by decide +kernel
theorem dX6_init_38 : decode cX6_init 38 = .ok (.newarray .int, 2) := by decide +kernel
theorem dX6_init_40 : decode cX6_init 40 = .ok (.putfield 29, 3) := by decide +kernel
theorem dX6_init_43 : decode cX6_init 43 = .ok (.return_, 1) := by decide +kernel
theorem dX6_hear_0 : decode cX6_hear 0 = .ok (.aload_n 1, 1) := by decide +kernel
theorem dX6_hear_1 : decode cX6_hear 1 = .ok (.getfield 32, 3) := by decide +kernel
theorem dX6_hear_4 : decode cX6_hear 4 = .ok (.lookupswitch 50 #[(1, 28), (6, 37)], 28) := by decide +kernel
theorem dX6_hear_32 : decode cX6_hear 32 = .ok (.aload_n 0, 1) := by decide +kernel
theorem dX6_hear_33 : decode cX6_hear 33 = .ok (.aload_n 1, 1) := by decide +kernel
theorem dX6_hear_34 : decode cX6_hear 34 = .ok (.getfield 37, 3) := by decide +kernel
theorem dX6_hear_37 : decode cX6_hear 37 = .ok (.invokevirtual 40, 3) := by decide +kernel
theorem dX6_hear_40 : decode cX6_hear 40 = .ok (.ireturn, 1) := by decide +kernel
theorem dX6_hear_41 : decode cX6_hear 41 = .ok (.aload_n 0, 1) := by decide +kernel
theorem dX6_hear_42 : decode cX6_hear 42 = .ok (.aload_n 1, 1) := by decide +kernel
theorem dX6_hear_43 : decode cX6_hear 43 = .ok (.getfield 37, 3) := by decide +kernel
theorem dX6_hear_46 : decode cX6_hear 46 = .ok (.aload_n 1, 1) := by decide +kernel
theorem dX6_hear_47 : decode cX6_hear 47 = .ok (.getfield 44, 3) := by decide +kernel
theorem dX6_hear_50 : decode cX6_hear 50 = .ok (.invokevirtual 47, 3) := by decide +kernel
theorem dX6_hear_53 : decode cX6_hear 53 = .ok (.ireturn, 1) := by decide +kernel
theorem dX6_hear_54 : decode cX6_hear 54 = .ok (.iconst 1, 1) := by decide +kernel
theorem dX6_hear_55 : decode cX6_hear 55 = .ok (.ireturn, 1) := by decide +kernel
theorem dX6_hearPrepare_0 : decode cX6_hearPrepare 0 = .ok (.aload_n 0, 1) := by decide +kernel
theorem dX6_hearPrepare_1 : decode cX6_hearPrepare 1 = .ok (.getfield 29, 3) := by decide +kernel
theorem dX6_hearPrepare_4 : decode cX6_hearPrepare 4 = .ok (.iload_n 1, 1) := by decide +kernel
theorem dX6_hearPrepare_5 : decode cX6_hearPrepare 5 = .ok (.iaload, 1) := by decide +kernel
theorem dX6_hearPrepare_6 : decode cX6_hearPrepare 6 = .ok (.ifCond .eq 5, 3) := by decide +kernel
theorem dX6_hearPrepare_9 : decode cX6_hearPrepare 9 = .ok (.iconst 1, 1) := by decide +kernel
theorem dX6_hearPrepare_10 : decode cX6_hearPrepare 10 = .ok (.ireturn, 1) := by decide +kernel
theorem dX6_hearPrepare_11 : decode cX6_hearPrepare 11 = .ok (.aload_n 0, 1) := by decide +kernel
theorem dX6_hearPrepare_12 : decode cX6_hearPrepare 12 = .ok (.getfield 25, 3) := by decide +kernel
theorem dX6_hearPrepare_15 : decode cX6_hearPrepare 15 = .ok (.iload_n 1, 1) := by decide +kernel
theorem dX6_hearPrepare_16 : decode cX6_hearPrepare 16 = .ok (.iaload, 1) := by decide +kernel
theorem dX6_hearPrepare_17 : decode cX6_hearPrepare 17 = .ok (.ifCond .ne 20, 3) := by decide +kernel
theorem dX6_hearPrepare_20 : decode cX6_hearPrepare 20 = .ok (.aload_n 0, 1) := by decide +kernel
theorem dX6_hearPrepare_21 : decode cX6_hearPrepare 21 = .ok (.getfield 51, 3) := by decide +kernel
theorem dX6_hearPrepare_24 : decode cX6_hearPrepare 24 = .ok (.invokevirtual 55, 3) := by decide +kernel
theorem dX6_hearPrepare_27 : decode cX6_hearPrepare 27 = .ok (.ifCond .eq 5, 3) := by decide +kernel
theorem dX6_hearPrepare_30 : decode cX6_hearPrepare 30 = .ok (.iconst 0, 1) := by decide +kernel
theorem dX6_hearPrepare_31 : decode cX6_hearPrepare 31 = .ok (.ireturn, 1) := by decide +kernel
theorem dX6_hearPrepare_32 : decode cX6_hearPrepare 32 = .ok (.aload_n 0, 1) := by decide +kernel
theorem dX6_hearPrepare_33 : decode cX6_hearPrepare 33 = .ok (.iload_n 1, 1) := by decide +kernel
theorem dX6_hearPrepare_34 : decode cX6_hearPrepare 34 = .ok (.invokevirtual 61, 3) := by decide +kernel
theorem dX6_hearPrepare_37 : decode cX6_hearPrepare 37 = .ok (.aload_n 0, 1) := by decide +kernel
theorem dX6_hearPrepare_38 : decode cX6_hearPrepare 38 = .ok (.getfield 64, 3) := by decide +kernel
theorem dX6_hearPrepare_41 : decode cX6_hearPrepare 41 = .ok (.iconst 2, 1) := by decide +kernel
theorem dX6_hearPrepare_42 : decode cX6_hearPrepare 42 = .ok (.iload_n 1, 1) := by decide +kernel
theorem dX6_hearPrepare_43 : decode cX6_hearPrepare 43 = .ok (.aload_n 0, 1) := by decide +kernel
theorem dX6_hearPrepare_44 : decode cX6_hearPrepare 44 = .ok (.getfield 68, 3) := by decide +kernel
theorem dX6_hearPrepare_47 : decode cX6_hearPrepare 47 = .ok (.iconst 0, 1) := by decide +kernel
theorem dX6_hearPrepare_48 : decode cX6_hearPrepare 48 = .ok (.aload_n 0, 1) := by decide +kernel
theorem dX6_hearPrepare_49 : decode cX6_hearPrepare 49 = .ok (.getfield 68, 3) := by decide +kernel
theorem dX6_hearPrepare_52 : decode cX6_hearPrepare 52 = .ok (.aload_n 0, 1) := by decide +kernel
theorem dX6_hearPrepare_53 : decode cX6_hearPrepare 53 = .ok (.getfield 25, 3) := by decide +kernel
theorem dX6_hearPrepare_56 : decode cX6_hearPrepare 56 = .ok (.iload_n 1, 1) := by decide +kernel
theorem dX6_hearPrepare_57 : decode cX6_hearPrepare 57 = .ok (.iaload, 1) := by decide +kernel
theorem dX6_hearPrepare_58 : decode cX6_hearPrepare 58 = .ok (.invokevirtual 71, 3) := by decide +kernel
theorem dX6_hearPrepare_61 : decode cX6_hearPrepare 61 = .ok (.aload_n 0, 1) := by decide +kernel
theorem dX6_hearPrepare_62 : decode cX6_hearPrepare 62 = .ok (.getfield 64, 3) := by decide +kernel
theorem dX6_hearPrepare_65 : decode cX6_hearPrepare 65 = .ok (.invokevirtual 77, 3) := by decide +kernel
theorem dX6_hearPrepare_68 : decode cX6_hearPrepare 68 = .ok (.iconst 1, 1) := by decide +kernel
theorem dX6_hearPrepare_69 : decode cX6_hearPrepare 69 = .ok (.ireturn, 1) := by decide +kernel
theorem dX6_vote_0 : decode cX6_vote 0 = .ok (.aload_n 0, 1) := by decide +kernel
theorem dX6_vote_1 : decode cX6_vote 1 = .ok (.getfield 25, 3) := by decide +kernel
theorem dX6_vote_4 : decode cX6_vote 4 = .ok (.iload_n 1, 1) := by decide +kernel
theorem dX6_vote_5 : decode cX6_vote 5 = .ok (.aload_n 0, 1) := by decide +kernel
theorem dX6_vote_6 : decode cX6_vote 6 = .ok (.getfield 21, 3) := by decide +kernel
theorem dX6_vote_9 : decode cX6_vote 9 = .ok (.iload_n 1, 1) := by decide +kernel
theorem dX6_vote_10 : decode cX6_vote 10 = .ok (.baload, 1) := by decide +kernel
theorem dX6_vote_11 : decode cX6_vote 11 = .ok (.ifCond .eq 7, 3) := by decide +kernel
theorem dX6_vote_14 : decode cX6_vote 14 = .ok (.iconst 1, 1) := by decide +kernel
theorem dX6_vote_15 : decode cX6_vote 15 = .ok (.goto 4, 3) := by decide +kernel
theorem dX6_vote_18 : decode cX6_vote 18 = .ok (.iconst 2, 1) := by decide +kernel
theorem dX6_vote_19 : decode cX6_vote 19 = .ok (.iastore, 1) := by decide +kernel
theorem dX6_vote_20 : decode cX6_vote 20 = .ok (.aload_n 0, 1) := by decide +kernel
theorem dX6_vote_21 : decode cX6_vote 21 = .ok (.getfield 51, 3) := by decide +kernel
theorem dX6_vote_24 : decode cX6_vote 24 = .ok (.iconst 1, 1) := by decide +kernel
theorem dX6_vote_25 : decode cX6_vote 25 = .ok (.iload_n 1, 1) := by decide +kernel
theorem dX6_vote_26 : decode cX6_vote 26 = .ok (.aload_n 0, 1) := by decide +kernel
theorem dX6_vote_27 : decode cX6_vote 27 = .ok (.getfield 25, 3) := by decide +kernel
theorem dX6_vote_30 : decode cX6_vote 30 = .ok (.iload_n 1, 1) := by decide +kernel
theorem dX6_vote_31 : decode cX6_vote 31 = .ok (.iaload, 1) := by decide +kernel
theorem dX6_vote_32 : decode cX6_vote 32 = .ok (.iconst 0, 1) := by decide +kernel
theorem dX6_vote_33 : decode cX6_vote 33 = .ok (.invokevirtual 81, 3) := by decide +kernel
theorem dX6_vote_36 : decode cX6_vote 36 = .ok (.aload_n 0, 1) := by decide +kernel
theorem dX6_vote_37 : decode cX6_vote 37 = .ok (.getfield 21, 3) := by decide +kernel
theorem dX6_vote_40 : decode cX6_vote 40 = .ok (.iload_n 1, 1) := by decide +kernel
theorem dX6_vote_41 : decode cX6_vote 41 = .ok (.baload, 1) := by decide +kernel
theorem dX6_vote_42 : decode cX6_vote 42 = .ok (.ifCond .eq 15, 3) := by decide +kernel
theorem dX6_vote_45 : decode cX6_vote 45 = .ok (.aload_n 0, 1) := by decide +kernel
theorem dX6_vote_46 : decode cX6_vote 46 = .ok (.getfield 9, 3) := by decide +kernel
theorem dX6_vote_49 : decode cX6_vote 49 = .ok (.iload_n 1, 1) := by decide +kernel
theorem dX6_vote_50 : decode cX6_vote 50 = .ok (.aload_n 0, 1) := by decide +kernel
theorem dX6_vote_51 : decode cX6_vote 51 = .ok (.getfield 68, 3) := by decide +kernel
theorem dX6_vote_54 : decode cX6_vote 54 = .ok (.invokevirtual 85, 3) := by decide +kernel
theorem dX6_vote_57 : decode cX6_vote 57 = .ok (.return_, 1) := by decide +kernel
theorem dX6_hearEnd_0 : decode cX6_hearEnd 0 = .ok (.aload_n 0, 1) := by decide +kernel
theorem dX6_hearEnd_1 : decode cX6_hearEnd 1 = .ok (.getfield 29, 3) := by decide +kernel
theorem dX6_hearEnd_4 : decode cX6_hearEnd 4 = .ok (.iload_n 1, 1) := by decide +kernel
theorem dX6_hearEnd_5 : decode cX6_hearEnd 5 = .ok (.iaload, 1) := by decide +kernel
theorem dX6_hearEnd_6 : decode cX6_hearEnd 6 = .ok (.ifCond .eq 5, 3) := by decide +kernel
theorem dX6_hearEnd_9 : decode cX6_hearEnd 9 = .ok (.iconst 1, 1) := by decide +kernel
theorem dX6_hearEnd_10 : decode cX6_hearEnd 10 = .ok (.ireturn, 1) := by decide +kernel
theorem dX6_hearEnd_11 : decode cX6_hearEnd 11 = .ok (.aload_n 0, 1) := by decide +kernel
theorem dX6_hearEnd_12 : decode cX6_hearEnd 12 = .ok (.getfield 51, 3) := by decide +kernel
theorem dX6_hearEnd_15 : decode cX6_hearEnd 15 = .ok (.invokevirtual 55, 3) := by decide +kernel
theorem dX6_hearEnd_18 : decode cX6_hearEnd 18 = .ok (.ifCond .eq 5, 3) := by decide +kernel
theorem dX6_hearEnd_21 : decode cX6_hearEnd 21 = .ok (.iconst 0, 1) := by decide +kernel
theorem dX6_hearEnd_22 : decode cX6_hearEnd 22 = .ok (.ireturn, 1) := by decide +kernel
theorem dX6_hearEnd_23 : decode cX6_hearEnd 23 = .ok (.aload_n 0, 1) := by decide +kernel
theorem dX6_hearEnd_24 : decode cX6_hearEnd 24 = .ok (.getfield 29, 3) := by decide +kernel
theorem dX6_hearEnd_27 : decode cX6_hearEnd 27 = .ok (.iload_n 1, 1) := by decide +kernel
theorem dX6_hearEnd_28 : decode cX6_hearEnd 28 = .ok (.iload_n 2, 1) := by decide +kernel
theorem dX6_hearEnd_29 : decode cX6_hearEnd 29 = .ok (.iastore, 1) := by decide +kernel
theorem dX6_hearEnd_30 : decode cX6_hearEnd 30 = .ok (.aload_n 0, 1) := by decide +kernel
theorem dX6_hearEnd_31 : decode cX6_hearEnd 31 = .ok (.getfield 51, 3) := by decide +kernel
theorem dX6_hearEnd_34 : decode cX6_hearEnd 34 = .ok (.iconst 2, 1) := by decide +kernel
theorem dX6_hearEnd_35 : decode cX6_hearEnd 35 = .ok (.iload_n 1, 1) := by decide +kernel
theorem dX6_hearEnd_36 : decode cX6_hearEnd 36 = .ok (.iload_n 2, 1) := by decide +kernel
theorem dX6_hearEnd_37 : decode cX6_hearEnd 37 = .ok (.iconst 0, 1) := by decide +kernel
theorem dX6_hearEnd_38 : decode cX6_hearEnd 38 = .ok (.invokevirtual 81, 3) := by decide +kernel
theorem dX6_hearEnd_41 : decode cX6_hearEnd 41 = .ok (.iload_n 2, 1) := by decide +kernel
theorem dX6_hearEnd_42 : decode cX6_hearEnd 42 = .ok (.iconst 3, 1) := by decide +kernel
theorem dX6_hearEnd_43 : decode cX6_hearEnd 43 = .ok (.if_icmp .ne 24, 3) := by decide +kernel
theorem dX6_hearEnd_46 : decode cX6_hearEnd 46 = .ok (.aload_n 0, 1) := by decide +kernel
theorem dX6_hearEnd_47 : decode cX6_hearEnd 47 = .ok (.getfield 21, 3) := by decide +kernel
theorem dX6_hearEnd_50 : decode cX6_hearEnd 50 = .ok (.iload_n 1, 1) := by decide +kernel
theorem dX6_hearEnd_51 : decode cX6_hearEnd 51 = .ok (.baload, 1) := by decide +kernel
theorem dX6_hearEnd_52 : decode cX6_hearEnd 52 = .ok (.ifCond .eq 15, 3) := by decide +kernel
theorem dX6_hearEnd_55 : decode cX6_hearEnd 55 = .ok (.aload_n 0, 1) := by decide +kernel
theorem dX6_hearEnd_56 : decode cX6_hearEnd 56 = .ok (.getfield 9, 3) := by decide +kernel
theorem dX6_hearEnd_59 : decode cX6_hearEnd 59 = .ok (.iload_n 1, 1) := by decide +kernel
theorem dX6_hearEnd_60 : decode cX6_hearEnd 60 = .ok (.aload_n 0, 1) := by decide +kernel
theorem dX6_hearEnd_61 : decode cX6_hearEnd 61 = .ok (.getfield 68, 3) := by decide +kernel
theorem dX6_hearEnd_64 : decode cX6_hearEnd 64 = .ok (.invokevirtual 91, 3) := by decide +kernel
theorem dX6_hearEnd_67 : decode cX6_hearEnd 67 = .ok (.aload_n 0, 1) := by decide +kernel
theorem dX6_hearEnd_68 : decode cX6_hearEnd 68 = .ok (.iload_n 1, 1) := by decide +kernel
theorem dX6_hearEnd_69 : decode cX6_hearEnd 69 = .ok (.invokevirtual 94, 3) := by decide +kernel
theorem dX6_hearEnd_72 : decode cX6_hearEnd 72 = .ok (.iconst 1, 1) := by decide +kernel
theorem dX6_hearEnd_73 : decode cX6_hearEnd 73 = .ok (.ireturn, 1) := by decide +kernel
theorem dX6_endSession_0 : decode cX6_endSession 0 = .ok (.aload_n 0, 1) := by decide +kernel
theorem dX6_endSession_1 : decode cX6_endSession 1 = .ok (.getfield 21, 3) := by decide +kernel
theorem dX6_endSession_4 : decode cX6_endSession 4 = .ok (.iload_n 1, 1) := by decide +kernel
theorem dX6_endSession_5 : decode cX6_endSession 5 = .ok (.baload, 1) := by decide +kernel
theorem dX6_endSession_6 : decode cX6_endSession 6 = .ok (.ifCond .eq 22, 3) := by decide +kernel
theorem dX6_endSession_9 : decode cX6_endSession 9 = .ok (.aload_n 0, 1) := by decide +kernel
theorem dX6_endSession_10 : decode cX6_endSession 10 = .ok (.getfield 21, 3) := by decide +kernel
theorem dX6_endSession_13 : decode cX6_endSession 13 = .ok (.iload_n 1, 1) := by decide +kernel
theorem dX6_endSession_14 : decode cX6_endSession 14 = .ok (.iconst 0, 1) := by decide +kernel
theorem dX6_endSession_15 : decode cX6_endSession 15 = .ok (.bastore, 1) := by decide +kernel
theorem dX6_endSession_16 : decode cX6_endSession 16 = .ok (.aload_n 0, 1) := by decide +kernel
theorem dX6_endSession_17 : decode cX6_endSession 17 = .ok (.getfield 9, 3) := by decide +kernel
theorem dX6_endSession_20 : decode cX6_endSession 20 = .ok (.iload_n 1, 1) := by decide +kernel
theorem dX6_endSession_21 : decode cX6_endSession 21 = .ok (.aload_n 0, 1) := by decide +kernel
theorem dX6_endSession_22 : decode cX6_endSession 22 = .ok (.getfield 68, 3) := by decide +kernel
theorem dX6_endSession_25 : decode cX6_endSession 25 = .ok (.invokevirtual 97, 3) := by decide +kernel
theorem dX6_endSession_28 : decode cX6_endSession 28 = .ok (.return_, 1) := by decide +kernel
theorem dX6_forget_0 : decode cX6_forget 0 = .ok (.iconst 0, 1) := by decide +kernel
theorem dX6_forget_1 : decode cX6_forget 1 = .ok (.istore_n 1, 1) := by decide +kernel
theorem dX6_forget_2 : decode cX6_forget 2 = .ok (.iload_n 1, 1) := by decide +kernel
theorem dX6_forget_3 : decode cX6_forget 3 = .ok (.aload_n 0, 1) := by decide +kernel
theorem dX6_forget_4 : decode cX6_forget 4 = .ok (.getfield 21, 3) := by decide +kernel
theorem dX6_forget_7 : decode cX6_forget 7 = .ok (.arraylength, 1) := by decide +kernel
theorem dX6_forget_8 : decode cX6_forget 8 = .ok (.if_icmp .ge 43, 3) := by decide +kernel
theorem dX6_forget_11 : decode cX6_forget 11 = .ok (.aload_n 0, 1) := by decide +kernel
theorem dX6_forget_12 : decode cX6_forget 12 = .ok (.getfield 25, 3) := by decide +kernel
theorem dX6_forget_15 : decode cX6_forget 15 = .ok (.iload_n 1, 1) := by decide +kernel
theorem dX6_forget_16 : decode cX6_forget 16 = .ok (.iaload, 1) := by decide +kernel
theorem dX6_forget_17 : decode cX6_forget 17 = .ok (.iconst 1, 1) := by decide +kernel
theorem dX6_forget_18 : decode cX6_forget 18 = .ok (.if_icmp .ne 16, 3) := by decide +kernel
theorem dX6_forget_21 : decode cX6_forget 21 = .ok (.aload_n 0, 1) := by decide +kernel
theorem dX6_forget_22 : decode cX6_forget 22 = .ok (.getfield 29, 3) := by decide +kernel
theorem dX6_forget_25 : decode cX6_forget 25 = .ok (.iload_n 1, 1) := by decide +kernel
theorem dX6_forget_26 : decode cX6_forget 26 = .ok (.iaload, 1) := by decide +kernel
theorem dX6_forget_27 : decode cX6_forget 27 = .ok (.ifCond .ne 7, 3) := by decide +kernel
theorem dX6_forget_30 : decode cX6_forget 30 = .ok (.iconst 1, 1) := by decide +kernel
theorem dX6_forget_31 : decode cX6_forget 31 = .ok (.goto 4, 3) := by decide +kernel
theorem dX6_forget_34 : decode cX6_forget 34 = .ok (.iconst 0, 1) := by decide +kernel
theorem dX6_forget_35 : decode cX6_forget 35 = .ok (.istore_n 2, 1) := by decide +kernel
theorem dX6_forget_36 : decode cX6_forget 36 = .ok (.iload_n 2, 1) := by decide +kernel
theorem dX6_forget_37 : decode cX6_forget 37 = .ok (.ifCond .ne 8, 3) := by decide +kernel
theorem dX6_forget_40 : decode cX6_forget 40 = .ok (.aload_n 0, 1) := by decide +kernel
theorem dX6_forget_41 : decode cX6_forget 41 = .ok (.iload_n 1, 1) := by decide +kernel
theorem dX6_forget_42 : decode cX6_forget 42 = .ok (.invokevirtual 94, 3) := by decide +kernel
theorem dX6_forget_45 : decode cX6_forget 45 = .ok (.iinc 1 1, 3) := by decide +kernel
theorem dX6_forget_48 : decode cX6_forget 48 = .ok (.goto (-46), 3) := by decide +kernel
theorem dX6_forget_51 : decode cX6_forget 51 = .ok (.return_, 1) := by decide +kernel
theorem dX6_told_0 : decode cX6_told 0 = .ok (.iload_n 1, 1) := by decide +kernel
theorem dX6_told_1 : decode cX6_told 1 = .ok (.iconst 2, 1) := by decide +kernel
theorem dX6_told_2 : decode cX6_told 2 = .ok (.if_icmp .ne 10, 3) := by decide +kernel
theorem dX6_told_5 : decode cX6_told 5 = .ok (.aload_n 0, 1) := by decide +kernel
theorem dX6_told_6 : decode cX6_told 6 = .ok (.invokevirtual 100, 3) := by decide +kernel
theorem dX6_told_9 : decode cX6_told 9 = .ok (.goto 4, 3) := by decide +kernel
theorem dX6_told_12 : decode cX6_told 12 = .ok (.iconst (-1), 1) := by decide +kernel
theorem dX6_told_13 : decode cX6_told 13 = .ok (.ireturn, 1) := by decide +kernel
theorem dX6_openSessions_0 : decode cX6_openSessions 0 = .ok (.iconst 0, 1) := by decide +kernel
theorem dX6_openSessions_1 : decode cX6_openSessions 1 = .ok (.istore_n 1, 1) := by decide +kernel
theorem dX6_openSessions_2 : decode cX6_openSessions 2 = .ok (.aload_n 0, 1) := by decide +kernel
theorem dX6_openSessions_3 : decode cX6_openSessions 3 = .ok (.getfield 21, 3) := by decide +kernel
theorem dX6_openSessions_6 : decode cX6_openSessions 6 = .ok (.astore_n 2, 1) := by decide +kernel
theorem dX6_openSessions_7 : decode cX6_openSessions 7 = .ok (.aload_n 2, 1) := by decide +kernel
theorem dX6_openSessions_8 : decode cX6_openSessions 8 = .ok (.arraylength, 1) := by decide +kernel
theorem dX6_openSessions_9 : decode cX6_openSessions 9 = .ok (.istore_n 3, 1) := by decide +kernel
theorem dX6_openSessions_10 : decode cX6_openSessions 10 = .ok (.iconst 0, 1) := by decide +kernel
theorem dX6_openSessions_11 : decode cX6_openSessions 11 = .ok (.istore 4, 2) := by decide +kernel
theorem dX6_openSessions_13 : decode cX6_openSessions 13 = .ok (.iload 4, 2) := by decide +kernel
theorem dX6_openSessions_15 : decode cX6_openSessions 15 = .ok (.iload_n 3, 1) := by decide +kernel
theorem dX6_openSessions_16 : decode cX6_openSessions 16 = .ok (.if_icmp .ge 23, 3) := by decide +kernel
theorem dX6_openSessions_19 : decode cX6_openSessions 19 = .ok (.aload_n 2, 1) := by decide +kernel
theorem dX6_openSessions_20 : decode cX6_openSessions 20 = .ok (.iload 4, 2) := by decide +kernel
theorem dX6_openSessions_22 : decode cX6_openSessions 22 = .ok (.baload, 1) := by decide +kernel
theorem dX6_openSessions_23 : decode cX6_openSessions 23 = .ok (.istore 5, 2) := by decide +kernel
theorem dX6_openSessions_25 : decode cX6_openSessions 25 = .ok (.iload 5, 2) := by decide +kernel
theorem dX6_openSessions_27 : decode cX6_openSessions 27 = .ok (.ifCond .eq 6, 3) := by decide +kernel
theorem dX6_openSessions_30 : decode cX6_openSessions 30 = .ok (.iinc 1 1, 3) := by decide +kernel
theorem dX6_openSessions_33 : decode cX6_openSessions 33 = .ok (.iinc 4 1, 3) := by decide +kernel
theorem dX6_openSessions_36 : decode cX6_openSessions 36 = .ok (.goto (-23), 3) := by decide +kernel
theorem dX6_openSessions_39 : decode cX6_openSessions 39 = .ok (.iload_n 1, 1) := by decide +kernel
theorem dX6_openSessions_40 : decode cX6_openSessions 40 = .ok (.ireturn, 1) := by decide +kernel
theorem dX7_init_0 : decode cX7_init 0 = .ok (.aload_n 0, 1) := by decide +kernel
theorem dX7_init_1 : decode cX7_init 1 = .ok (.invokespecial 1, 3) := by decide +kernel
theorem dX7_init_4 : decode cX7_init 4 = .ok (.aload_n 0, 1) := by decide +kernel
theorem dX7_init_5 : decode cX7_init 5 = .ok (.iload_n 1, 1) := by decide +kernel
theorem dX7_init_6 : decode cX7_init 6 = .ok (.iconst 4, 1) := by decide +kernel
theorem dX7_init_7 : decode cX7_init 7 = .ok (.invokestatic 7, 3) := by decide +kernel
theorem dX7_init_10 : decode cX7_init 10 = .ok (.putfield 13, 3) := by decide +kernel
theorem dX7_init_13 : decode cX7_init 13 = .ok (.aload_n 0, 1) := by decide +kernel
theorem dX7_init_14 : decode cX7_init 14 = .ok (.iload_n 2, 1) := by decide +kernel
theorem dX7_init_15 : decode cX7_init 15 = .ok (.invokestatic 17, 3) := by decide +kernel
theorem dX7_init_18 : decode cX7_init 18 = .ok (.putfield 21, 3) := by decide +kernel
theorem dX7_init_21 : decode cX7_init 21 = .ok (.aload_n 0, 1) := by decide +kernel
theorem dX7_init_22 : decode cX7_init 22 = .ok (.iload_n 3, 1) := by decide +kernel
theorem dX7_init_23 : decode cX7_init 23 = .ok (.bipush 16, 2) := by decide +kernel
theorem dX7_init_25 : decode cX7_init 25 = .ok (.invokestatic 7, 3) := by decide +kernel
theorem dX7_init_28 : decode cX7_init 28 = .ok (.putfield 24, 3) := by decide +kernel
theorem dX7_init_31 : decode cX7_init 31 = .ok (.aload_n 0, 1) := by decide +kernel
theorem dX7_init_32 : decode cX7_init 32 = .ok (.iload 4, 2) := by decide +kernel
theorem dX7_init_34 : decode cX7_init 34 = .ok (.bipush 32, 2) := by decide +kernel
theorem dX7_init_36 : decode cX7_init 36 = .ok (.invokestatic 7, 3) := by decide +kernel
theorem dX7_init_39 : decode cX7_init 39 = .ok (.putfield 27, 3) := by decide +kernel
theorem dX7_init_42 : decode cX7_init 42 = .ok (.aload_n 0, 1) := by decide +kernel
theorem dX7_init_43 : decode cX7_init 43 = .ok (.iload 5, 2) := by decide +kernel
theorem dX7_init_45 : decode cX7_init 45 = .ok (.sipush 200, 3) := by decide +kernel
theorem dX7_init_48 : decode cX7_init 48 = .ok (.invokestatic 7, 3) := by decide +kernel
theorem dX7_init_51 : decode cX7_init 51 = .ok (.putfield 30, 3) := by decide +kernel
theorem dX7_init_54 : decode cX7_init 54 = .ok (.aload_n 0, 1) := by decide +kernel
theorem dX7_init_55 : decode cX7_init 55 = .ok (.iload 6, 2) := by decide +kernel
theorem dX7_init_57 : decode cX7_init 57 = .ok (.sipush 200, 3) := by decide +kernel
theorem dX7_init_60 : decode cX7_init 60 = .ok (.invokestatic 7, 3) := by decide +kernel
theorem dX7_init_63 : decode cX7_init 63 = .ok (.putfield 33, 3) := by decide +kernel
theorem dX7_init_66 : decode cX7_init 66 = .ok (.return_, 1) := by decide +kernel
theorem dX7_nearest_0 : decode cX7_nearest 0 = .ok (.iconst 1, 1) := by decide +kernel
theorem dX7_nearest_1 : decode cX7_nearest 1 = .ok (.iload_n 1, 1) := by decide +kernel
theorem dX7_nearest_2 : decode cX7_nearest 2 = .ok (.iload_n 0, 1) := by decide +kernel
theorem dX7_nearest_3 : decode cX7_nearest 3 = .ok (.invokestatic 36, 3) := by decide +kernel
theorem dX7_nearest_6 : decode cX7_nearest 6 = .ok (.invokestatic 41, 3) := by decide +kernel
theorem dX7_nearest_9 : decode cX7_nearest 9 = .ok (.ireturn, 1) := by decide +kernel
theorem dX7_nearestOdd_0 : decode cX7_nearestOdd 0 = .ok (.iload_n 0, 1) := by decide +kernel
theorem dX7_nearestOdd_1 : decode cX7_nearestOdd 1 = .ok (.iconst 2, 1) := by decide +kernel
theorem dX7_nearestOdd_2 : decode cX7_nearestOdd 2 = .ok (.if_icmp .gt 5, 3) := by decide +kernel
theorem dX7_nearestOdd_5 : decode cX7_nearestOdd 5 = .ok (.iconst 1, 1) := by decide +kernel
theorem dX7_nearestOdd_6 : decode cX7_nearestOdd 6 = .ok (.ireturn, 1) := by decide +kernel
theorem dX7_nearestOdd_7 : decode cX7_nearestOdd 7 = .ok (.iload_n 0, 1) := by decide +kernel
theorem dX7_nearestOdd_8 : decode cX7_nearestOdd 8 = .ok (.iconst 4, 1) := by decide +kernel
theorem dX7_nearestOdd_9 : decode cX7_nearestOdd 9 = .ok (.if_icmp .gt 7, 3) := by decide +kernel
theorem dX7_nearestOdd_12 : decode cX7_nearestOdd 12 = .ok (.iconst 3, 1) := by decide +kernel
theorem dX7_nearestOdd_13 : decode cX7_nearestOdd 13 = .ok (.goto 4, 3) := by decide +kernel
theorem dX7_nearestOdd_16 : decode cX7_nearestOdd 16 = .ok (.iconst 5, 1) := by decide +kernel
theorem dX7_nearestOdd_17 : decode cX7_nearestOdd 17 = .ok (.ireturn, 1) := by decide +kernel
theorem dX7_client_0 : decode cX7_client 0 = .ok (.aload_n 0, 1) := by decide +kernel
theorem dX7_client_1 : decode cX7_client 1 = .ok (.getfield 13, 3) := by decide +kernel
theorem dX7_client_4 : decode cX7_client 4 = .ok (.aload_n 0, 1) := by decide +kernel
theorem dX7_client_5 : decode cX7_client 5 = .ok (.getfield 21, 3) := by decide +kernel
theorem dX7_client_8 : decode cX7_client 8 = .ok (.iadd, 1) := by decide +kernel
theorem dX7_client_9 : decode cX7_client 9 = .ok (.ireturn, 1) := by decide +kernel
theorem dX7_shardOf_0 : decode cX7_shardOf 0 = .ok (.iload_n 1, 1) := by decide +kernel
theorem dX7_shardOf_1 : decode cX7_shardOf 1 = .ok (.aload_n 0, 1) := by decide +kernel
theorem dX7_shardOf_2 : decode cX7_shardOf 2 = .ok (.getfield 13, 3) := by decide +kernel
theorem dX7_shardOf_5 : decode cX7_shardOf 5 = .ok (.irem, 1) := by decide +kernel
theorem dX7_shardOf_6 : decode cX7_shardOf 6 = .ok (.ireturn, 1) := by decide +kernel
theorem dX7_acceptorOf_0 : decode cX7_acceptorOf 0 = .ok (.aload_n 0, 1) := by decide +kernel
theorem dX7_acceptorOf_1 : decode cX7_acceptorOf 1 = .ok (.getfield 13, 3) := by decide +kernel
theorem dX7_acceptorOf_4 : decode cX7_acceptorOf 4 = .ok (.iload_n 1, 1) := by decide +kernel
theorem dX7_acceptorOf_5 : decode cX7_acceptorOf 5 = .ok (.aload_n 0, 1) := by decide +kernel
theorem dX7_acceptorOf_6 : decode cX7_acceptorOf 6 = .ok (.getfield 21, 3) := by decide +kernel
theorem dX7_acceptorOf_9 : decode cX7_acceptorOf 9 = .ok (.irem, 1) := by decide +kernel
theorem dX7_acceptorOf_10 : decode cX7_acceptorOf 10 = .ok (.iadd, 1) := by decide +kernel
theorem dX7_acceptorOf_11 : decode cX7_acceptorOf 11 = .ok (.ireturn, 1) := by decide +kernel
theorem dX7_isMajority_0 : decode cX7_isMajority 0 = .ok (.iload_n 1, 1) := by decide +kernel
theorem dX7_isMajority_1 : decode cX7_isMajority 1 = .ok (.invokestatic 44, 3) := by decide +kernel
theorem dX7_isMajority_4 : decode cX7_isMajority 4 = .ok (.aload_n 0, 1) := by decide +kernel
theorem dX7_isMajority_5 : decode cX7_isMajority 5 = .ok (.getfield 21, 3) := by decide +kernel
theorem dX7_isMajority_8 : decode cX7_isMajority 8 = .ok (.iconst 2, 1) := by decide +kernel
theorem dX7_isMajority_9 : decode cX7_isMajority 9 = .ok (.idiv, 1) := by decide +kernel
theorem dX7_isMajority_10 : decode cX7_isMajority 10 = .ok (.if_icmp .le 7, 3) := by decide +kernel
theorem dX7_isMajority_13 : decode cX7_isMajority 13 = .ok (.iconst 1, 1) := by decide +kernel
theorem dX7_isMajority_14 : decode cX7_isMajority 14 = .ok (.goto 4, 3) := by decide +kernel
theorem dX7_isMajority_17 : decode cX7_isMajority 17 = .ok (.iconst 0, 1) := by decide +kernel
theorem dX7_isMajority_18 : decode cX7_isMajority 18 = .ok (.ireturn, 1) := by decide +kernel
theorem dX8_init_0 : decode cX8_init 0 = .ok (.aload_n 0, 1) := by decide +kernel
theorem dX8_init_1 : decode cX8_init 1 = .ok (.invokespecial 3, 3) := by decide +kernel
theorem dX8_init_4 : decode cX8_init 4 = .ok (.aload_n 0, 1) := by decide +kernel
theorem dX8_init_5 : decode cX8_init 5 = .ok (.aload_n 1, 1) := by decide +kernel
theorem dX8_init_6 : decode cX8_init 6 = .ok (.getfield 9, 3) := by decide +kernel
theorem dX8_init_9 : decode cX8_init 9 = .ok (.newarray .int, 2) := by decide +kernel
theorem dX8_init_11 : decode cX8_init 11 = .ok (.putfield 15, 3) := by decide +kernel
theorem dX8_init_14 : decode cX8_init 14 = .ok (.aload_n 0, 1) := by decide +kernel
theorem dX8_init_15 : decode cX8_init 15 = .ok (.aload_n 1, 1) := by decide +kernel
theorem dX8_init_16 : decode cX8_init 16 = .ok (.getfield 9, 3) := by decide +kernel
theorem dX8_init_19 : decode cX8_init 19 = .ok (.newarray .int, 2) := by decide +kernel
theorem dX8_init_21 : decode cX8_init 21 = .ok (.putfield 21, 3) := by decide +kernel
theorem dX8_init_24 : decode cX8_init 24 = .ok (.return_, 1) := by decide +kernel
theorem dX8_touch_0 : decode cX8_touch 0 = .ok (.aload_n 0, 1) := by decide +kernel
theorem dX8_touch_1 : decode cX8_touch 1 = .ok (.getfield 21, 3) := by decide +kernel
theorem dX8_touch_4 : decode cX8_touch 4 = .ok (.iload_n 1, 1) := by decide +kernel
theorem dX8_touch_5 : decode cX8_touch 5 = .ok (.dup2, 1) := by decide +kernel
theorem dX8_touch_6 : decode cX8_touch 6 = .ok (.iaload, 1) := by decide +kernel
theorem dX8_touch_7 : decode cX8_touch 7 = .ok (.iconst 1, 1) := by decide +kernel
theorem dX8_touch_8 : decode cX8_touch 8 = .ok (.iload_n 2, 1) := by decide +kernel
theorem dX8_touch_9 : decode cX8_touch 9 = .ok (.ishl, 1) := by decide +kernel
theorem dX8_touch_10 : decode cX8_touch 10 = .ok (.ior, 1) := by decide +kernel
theorem dX8_touch_11 : decode cX8_touch 11 = .ok (.iastore, 1) := by decide +kernel
theorem dX8_touch_12 : decode cX8_touch 12 = .ok (.return_, 1) := by decide +kernel
theorem dX8_touches_0 : decode cX8_touches 0 = .ok (.aload_n 0, 1) := by decide +kernel
theorem dX8_touches_1 : decode cX8_touches 1 = .ok (.getfield 21, 3) := by decide +kernel
theorem dX8_touches_4 : decode cX8_touches 4 = .ok (.iload_n 1, 1) := by decide +kernel
theorem dX8_touches_5 : decode cX8_touches 5 = .ok (.iaload, 1) := by decide +kernel
theorem dX8_touches_6 : decode cX8_touches 6 = .ok (.iconst 1, 1) := by decide +kernel
theorem dX8_touches_7 : decode cX8_touches 7 = .ok (.iload_n 2, 1) := by decide +kernel
theorem dX8_touches_8 : decode cX8_touches 8 = .ok (.ishl, 1) := by decide +kernel
theorem dX8_touches_9 : decode cX8_touches 9 = .ok (.iand, 1) := by decide +kernel
theorem dX8_touches_10 : decode cX8_touches 10 = .ok (.ifCond .eq 7, 3) := by decide +kernel
theorem dX8_touches_13 : decode cX8_touches 13 = .ok (.iconst 1, 1) := by decide +kernel
theorem dX8_touches_14 : decode cX8_touches 14 = .ok (.goto 4, 3) := by decide +kernel
theorem dX8_touches_17 : decode cX8_touches 17 = .ok (.iconst 0, 1) := by decide +kernel
theorem dX8_touches_18 : decode cX8_touches 18 = .ok (.ireturn, 1) := by decide +kernel
theorem dX8_touchesNone_0 : decode cX8_touchesNone 0 = .ok (.aload_n 0, 1) := by decide +kernel
theorem dX8_touchesNone_1 : decode cX8_touchesNone 1 = .ok (.getfield 21, 3) := by decide +kernel
theorem dX8_touchesNone_4 : decode cX8_touchesNone 4 = .ok (.iload_n 1, 1) := by decide +kernel
theorem dX8_touchesNone_5 : decode cX8_touchesNone 5 = .ok (.iaload, 1) := by decide +kernel
theorem dX8_touchesNone_6 : decode cX8_touchesNone 6 = .ok (.ifCond .ne 7, 3) := by decide +kernel
theorem dX8_touchesNone_9 : decode cX8_touchesNone 9 = .ok (.iconst 1, 1) := by decide +kernel
theorem dX8_touchesNone_10 : decode cX8_touchesNone 10 = .ok (.goto 4, 3) := by decide +kernel
theorem dX8_touchesNone_13 : decode cX8_touchesNone 13 = .ok (.iconst 0, 1) := by decide +kernel
theorem dX8_touchesNone_14 : decode cX8_touchesNone 14 = .ok (.ireturn, 1) := by decide +kernel
theorem dX8_hearEnd_0 : decode cX8_hearEnd 0 = .ok (.aload_n 0, 1) := by decide +kernel
theorem dX8_hearEnd_1 : decode cX8_hearEnd 1 = .ok (.getfield 15, 3) := by decide +kernel
theorem dX8_hearEnd_4 : decode cX8_hearEnd 4 = .ok (.iload_n 1, 1) := by decide +kernel
theorem dX8_hearEnd_5 : decode cX8_hearEnd 5 = .ok (.iaload, 1) := by decide +kernel
theorem dX8_hearEnd_6 : decode cX8_hearEnd 6 = .ok (.iconst 2, 1) := by decide +kernel
theorem dX8_hearEnd_7 : decode cX8_hearEnd 7 = .ok (.if_icmp .ne 10, 3) := by decide +kernel
theorem dX8_hearEnd_10 : decode cX8_hearEnd 10 = .ok (.aload_n 0, 1) := by decide +kernel
theorem dX8_hearEnd_11 : decode cX8_hearEnd 11 = .ok (.getfield 15, 3) := by decide +kernel
theorem dX8_hearEnd_14 : decode cX8_hearEnd 14 = .ok (.iload_n 1, 1) := by decide +kernel
theorem dX8_hearEnd_15 : decode cX8_hearEnd 15 = .ok (.iload_n 2, 1) := by decide +kernel
theorem dX8_hearEnd_16 : decode cX8_hearEnd 16 = .ok (.iastore, 1) := by decide +kernel
theorem dX8_hearEnd_17 : decode cX8_hearEnd 17 = .ok (.return_, 1) := by decide +kernel
theorem dX8_in_0 : decode cX8_in 0 = .ok (.iconst 0, 1) := by decide +kernel
theorem dX8_in_1 : decode cX8_in 1 = .ok (.istore_n 2, 1) := by decide +kernel
theorem dX8_in_2 : decode cX8_in 2 = .ok (.aload_n 0, 1) := by decide +kernel
theorem dX8_in_3 : decode cX8_in 3 = .ok (.getfield 15, 3) := by decide +kernel
theorem dX8_in_6 : decode cX8_in 6 = .ok (.astore_n 3, 1) := by decide +kernel
theorem dX8_in_7 : decode cX8_in 7 = .ok (.aload_n 3, 1) := by decide +kernel
theorem dX8_in_8 : decode cX8_in 8 = .ok (.arraylength, 1) := by decide +kernel
theorem dX8_in_9 : decode cX8_in 9 = .ok (.istore 4, 2) := by decide +kernel
theorem dX8_in_11 : decode cX8_in 11 = .ok (.iconst 0, 1) := by decide +kernel
theorem dX8_in_12 : decode cX8_in 12 = .ok (.istore 5, 2) := by decide +kernel
theorem dX8_in_14 : decode cX8_in 14 = .ok (.iload 5, 2) := by decide +kernel
theorem dX8_in_16 : decode cX8_in 16 = .ok (.iload 4, 2) := by decide +kernel
theorem dX8_in_18 : decode cX8_in 18 = .ok (.if_icmp .ge 24, 3) := by decide +kernel
theorem dX8_in_21 : decode cX8_in 21 = .ok (.aload_n 3, 1) := by decide +kernel
theorem dX8_in_22 : decode cX8_in 22 = .ok (.iload 5, 2) := by decide +kernel
theorem dX8_in_24 : decode cX8_in 24 = .ok (.iaload, 1) := by decide +kernel
theorem dX8_in_25 : decode cX8_in 25 = .ok (.istore 6, 2) := by decide +kernel
theorem dX8_in_27 : decode cX8_in 27 = .ok (.iload 6, 2) := by decide +kernel
theorem dX8_in_29 : decode cX8_in 29 = .ok (.iload_n 1, 1) := by decide +kernel
theorem dX8_in_30 : decode cX8_in 30 = .ok (.if_icmp .ne 6, 3) := by decide +kernel
theorem dX8_in_33 : decode cX8_in 33 = .ok (.iinc 2 1, 3) := by decide +kernel
theorem dX8_in_36 : decode cX8_in 36 = .ok (.iinc 5 1, 3) := by decide +kernel
theorem dX8_in_39 : decode cX8_in 39 = .ok (.goto (-25), 3) := by decide +kernel
theorem dX8_in_42 : decode cX8_in 42 = .ok (.iload_n 2, 1) := by decide +kernel
theorem dX8_in_43 : decode cX8_in 43 = .ok (.ireturn, 1) := by decide +kernel
theorem dX9_init_0 : decode cX9_init 0 = .ok (.aload_n 0, 1) := by decide +kernel
theorem dX9_init_1 : decode cX9_init 1 = .ok (.invokespecial 3, 3) := by decide +kernel
theorem dX9_init_4 : decode cX9_init 4 = .ok (.aload_n 0, 1) := by decide +kernel
theorem dX9_init_5 : decode cX9_init 5 = .ok (.iload_n 1, 1) := by decide +kernel
theorem dX9_init_6 : decode cX9_init 6 = .ok (.putfield 9, 3) := by decide +kernel
theorem dX9_init_9 : decode cX9_init 9 = .ok (.aload_n 0, 1) := by decide +kernel
theorem dX9_init_10 : decode cX9_init 10 = .ok (.iload_n 1, 1) := by decide +kernel
theorem dX9_init_11 : decode cX9_init 11 = .ok (.putfield 15, 3) := by decide +kernel
theorem dX9_init_14 : decode cX9_init 14 = .ok (.aload_n 0, 1) := by decide +kernel
theorem dX9_init_15 : decode cX9_init 15 = .ok (.iload_n 2, 1) := by decide +kernel
theorem dX9_init_16 : decode cX9_init 16 = .ok (.newarray .int, 2) := by decide +kernel
theorem dX9_init_18 : decode cX9_init 18 = .ok (.putfield 18, 3) := by decide +kernel
theorem dX9_init_21 : decode cX9_init 21 = .ok (.aload_n 0, 1) := by decide +kernel
theorem dX9_init_22 : decode cX9_init 22 = .ok (.iload_n 2, 1) := by decide +kernel
theorem dX9_init_23 : decode cX9_init 23 = .ok (.newarray .int, 2) := by decide +kernel
theorem dX9_init_25 : decode cX9_init 25 = .ok (.putfield 22, 3) := by decide +kernel
theorem dX9_init_28 : decode cX9_init 28 = .ok (.aload_n 0, 1) := by decide +kernel
theorem dX9_init_29 : decode cX9_init 29 = .ok (.iload_n 2, 1) := by decide +kernel
theorem dX9_init_30 : decode cX9_init 30 = .ok (.newarray .int, 2) := by decide +kernel
theorem dX9_init_32 : decode cX9_init 32 = .ok (.putfield 25, 3) := by decide +kernel
theorem dX9_init_35 : decode cX9_init 35 = .ok (.aload_n 0, 1) := by decide +kernel
theorem dX9_init_36 : decode cX9_init 36 = .ok (.iload_n 2, 1) := by decide +kernel
theorem dX9_init_37 : decode cX9_init 37 = .ok (.newarray .int, 2) := by decide +kernel
theorem dX9_init_39 : decode cX9_init 39 = .ok (.putfield 28, 3) := by decide +kernel
theorem dX9_init_42 : decode cX9_init 42 = .ok (.aload_n 0, 1) := by decide +kernel
theorem dX9_init_43 : decode cX9_init 43 = .ok (.iload_n 2, 1) := by decide +kernel
theorem dX9_init_44 : decode cX9_init 44 = .ok (.newarray .int, 2) := by decide +kernel
theorem dX9_init_46 : decode cX9_init 46 = .ok (.putfield 31, 3) := by decide +kernel
theorem dX9_init_49 : decode cX9_init 49 = .ok (.aload_n 0, 1) := by decide +kernel
theorem dX9_init_50 : decode cX9_init 50 = .ok (.iload_n 2, 1) := by decide +kernel
theorem dX9_init_51 : decode cX9_init 51 = .ok (.newarray .int, 2) := by decide +kernel
theorem dX9_init_53 : decode cX9_init 53 = .ok (.putfield 34, 3) := by decide +kernel
theorem dX9_init_56 : decode cX9_init 56 = .ok (.aload_n 0, 1) := by decide +kernel
theorem dX9_init_57 : decode cX9_init 57 = .ok (.getfield 18, 3) := by decide +kernel
theorem dX9_init_60 : decode cX9_init 60 = .ok (.iconst (-1), 1) := by decide +kernel
theorem dX9_init_61 : decode cX9_init 61 = .ok (.invokestatic 37, 3) := by decide +kernel
theorem dX9_init_64 : decode cX9_init 64 = .ok (.aload_n 0, 1) := by decide +kernel
theorem dX9_init_65 : decode cX9_init 65 = .ok (.getfield 25, 3) := by decide +kernel
theorem dX9_init_68 : decode cX9_init 68 = .ok (.iconst (-1), 1) := by decide +kernel
theorem dX9_init_69 : decode cX9_init 69 = .ok (.invokestatic 37, 3) := by decide +kernel
theorem dX9_init_72 : decode cX9_init 72 = .ok (.return_, 1) := by decide +kernel
theorem dX9_lead_0 : decode cX9_lead 0 = .ok (.aload_n 0, 1) := by decide +kernel
theorem dX9_lead_1 : decode cX9_lead 1 = .ok (.iload_n 1, 1) := by decide +kernel
theorem dX9_lead_2 : decode cX9_lead 2 = .ok (.putfield 15, 3) := by decide +kernel
theorem dX9_lead_5 : decode cX9_lead 5 = .ok (.aload_n 0, 1) := by decide +kernel
theorem dX9_lead_6 : decode cX9_lead 6 = .ok (.iconst 0, 1) := by decide +kernel
theorem dX9_lead_7 : decode cX9_lead 7 = .ok (.putfield 43, 3) := by decide +kernel
theorem dX9_lead_10 : decode cX9_lead 10 = .ok (.aload_n 0, 1) := by decide +kernel
theorem dX9_lead_11 : decode cX9_lead 11 = .ok (.getfield 25, 3) := by decide +kernel
theorem dX9_lead_14 : decode cX9_lead 14 = .ok (.iconst (-1), 1) := by decide +kernel
theorem dX9_lead_15 : decode cX9_lead 15 = .ok (.invokestatic 37, 3) := by decide +kernel
theorem dX9_lead_18 : decode cX9_lead 18 = .ok (.aload_n 0, 1) := by decide +kernel
theorem dX9_lead_19 : decode cX9_lead 19 = .ok (.getfield 28, 3) := by decide +kernel
theorem dX9_lead_22 : decode cX9_lead 22 = .ok (.iconst 0, 1) := by decide +kernel
theorem dX9_lead_23 : decode cX9_lead 23 = .ok (.invokestatic 37, 3) := by decide +kernel
theorem dX9_lead_26 : decode cX9_lead 26 = .ok (.aload_n 0, 1) := by decide +kernel
theorem dX9_lead_27 : decode cX9_lead 27 = .ok (.getfield 31, 3) := by decide +kernel
theorem dX9_lead_30 : decode cX9_lead 30 = .ok (.iconst 0, 1) := by decide +kernel
theorem dX9_lead_31 : decode cX9_lead 31 = .ok (.invokestatic 37, 3) := by decide +kernel
theorem dX9_lead_34 : decode cX9_lead 34 = .ok (.aload_n 0, 1) := by decide +kernel
theorem dX9_lead_35 : decode cX9_lead 35 = .ok (.getfield 34, 3) := by decide +kernel
theorem dX9_lead_38 : decode cX9_lead 38 = .ok (.iconst 0, 1) := by decide +kernel
theorem dX9_lead_39 : decode cX9_lead 39 = .ok (.invokestatic 37, 3) := by decide +kernel
theorem dX9_lead_42 : decode cX9_lead 42 = .ok (.return_, 1) := by decide +kernel
theorem dX9_forget_0 : decode cX9_forget 0 = .ok (.aload_n 0, 1) := by decide +kernel
theorem dX9_forget_1 : decode cX9_forget 1 = .ok (.iconst 0, 1) := by decide +kernel
theorem dX9_forget_2 : decode cX9_forget 2 = .ok (.putfield 46, 3) := by decide +kernel
theorem dX9_forget_5 : decode cX9_forget 5 = .ok (.aload_n 0, 1) := by decide +kernel
theorem dX9_forget_6 : decode cX9_forget 6 = .ok (.aload_n 0, 1) := by decide +kernel
theorem dX9_forget_7 : decode cX9_forget 7 = .ok (.getfield 9, 3) := by decide +kernel
theorem dX9_forget_10 : decode cX9_forget 10 = .ok (.invokevirtual 49, 3) := by decide +kernel
theorem dX9_forget_13 : decode cX9_forget 13 = .ok (.return_, 1) := by decide +kernel
theorem dX9_hasAccepted_0 : decode cX9_hasAccepted 0 = .ok (.aload_n 0, 1) := by decide +kernel
theorem dX9_hasAccepted_1 : decode cX9_hasAccepted 1 = .ok (.getfield 18, 3) := by decide +kernel
theorem dX9_hasAccepted_4 : decode cX9_hasAccepted 4 = .ok (.iload_n 2, 1) := by decide +kernel
theorem dX9_hasAccepted_5 : decode cX9_hasAccepted 5 = .ok (.iaload, 1) := by decide +kernel
theorem dX9_hasAccepted_6 : decode cX9_hasAccepted 6 = .ok (.iload_n 1, 1) := by decide +kernel
theorem dX9_hasAccepted_7 : decode cX9_hasAccepted 7 = .ok (.if_icmp .ne 17, 3) := by decide +kernel
theorem dX9_hasAccepted_10 : decode cX9_hasAccepted 10 = .ok (.aload_n 0, 1) := by decide +kernel
theorem dX9_hasAccepted_11 : decode cX9_hasAccepted 11 = .ok (.getfield 22, 3) := by decide +kernel
theorem dX9_hasAccepted_14 : decode cX9_hasAccepted 14 = .ok (.iload_n 2, 1) := by decide +kernel
theorem dX9_hasAccepted_15 : decode cX9_hasAccepted 15 = .ok (.iaload, 1) := by decide +kernel
theorem dX9_hasAccepted_16 : decode cX9_hasAccepted 16 = .ok (.iload_n 3, 1) := by decide +kernel
theorem dX9_hasAccepted_17 : decode cX9_hasAccepted 17 = .ok (.if_icmp .ne 7, 3) := by decide +kernel
theorem dX9_hasAccepted_20 : decode cX9_hasAccepted 20 = .ok (.iconst 1, 1) := by decide +kernel
theorem dX9_hasAccepted_21 : decode cX9_hasAccepted 21 = .ok (.goto 4, 3) := by decide +kernel
theorem dX9_hasAccepted_24 : decode cX9_hasAccepted 24 = .ok (.iconst 0, 1) := by decide +kernel
theorem dX9_hasAccepted_25 : decode cX9_hasAccepted 25 = .ok (.ireturn, 1) := by decide +kernel
theorem dX9_take_0 : decode cX9_take 0 = .ok (.aload_n 0, 1) := by decide +kernel
theorem dX9_take_1 : decode cX9_take 1 = .ok (.iload_n 1, 1) := by decide +kernel
theorem dX9_take_2 : decode cX9_take 2 = .ok (.putfield 53, 3) := by decide +kernel
theorem dX9_take_5 : decode cX9_take 5 = .ok (.aload_n 0, 1) := by decide +kernel
theorem dX9_take_6 : decode cX9_take 6 = .ok (.getfield 18, 3) := by decide +kernel
theorem dX9_take_9 : decode cX9_take 9 = .ok (.iload_n 2, 1) := by decide +kernel
theorem dX9_take_10 : decode cX9_take 10 = .ok (.iload_n 1, 1) := by decide +kernel
theorem dX9_take_11 : decode cX9_take 11 = .ok (.iastore, 1) := by decide +kernel
theorem dX9_take_12 : decode cX9_take 12 = .ok (.aload_n 0, 1) := by decide +kernel
theorem dX9_take_13 : decode cX9_take 13 = .ok (.getfield 22, 3) := by decide +kernel
theorem dX9_take_16 : decode cX9_take 16 = .ok (.iload_n 2, 1) := by decide +kernel
theorem dX9_take_17 : decode cX9_take 17 = .ok (.iload_n 3, 1) := by decide +kernel
theorem dX9_take_18 : decode cX9_take 18 = .ok (.iastore, 1) := by decide +kernel
theorem dX9_take_19 : decode cX9_take 19 = .ok (.return_, 1) := by decide +kernel
theorem dX9_listensFor_0 : decode cX9_listensFor 0 = .ok (.aload_n 0, 1) := by decide +kernel
theorem dX9_listensFor_1 : decode cX9_listensFor 1 = .ok (.getfield 15, 3) := by decide +kernel
theorem dX9_listensFor_4 : decode cX9_listensFor 4 = .ok (.iload_n 1, 1) := by decide +kernel
theorem dX9_listensFor_5 : decode cX9_listensFor 5 = .ok (.if_icmp .ne 14, 3) := by decide +kernel
theorem dX9_listensFor_8 : decode cX9_listensFor 8 = .ok (.aload_n 0, 1) := by decide +kernel
theorem dX9_listensFor_9 : decode cX9_listensFor 9 = .ok (.getfield 46, 3) := by decide +kernel
theorem dX9_listensFor_12 : decode cX9_listensFor 12 = .ok (.ifCond .ne 7, 3) := by decide +kernel
theorem dX9_listensFor_15 : decode cX9_listensFor 15 = .ok (.iconst 1, 1) := by decide +kernel
theorem dX9_listensFor_16 : decode cX9_listensFor 16 = .ok (.goto 4, 3) := by decide +kernel
theorem dX9_listensFor_19 : decode cX9_listensFor 19 = .ok (.iconst 0, 1) := by decide +kernel
theorem dX9_listensFor_20 : decode cX9_listensFor 20 = .ok (.ireturn, 1) := by decide +kernel
theorem dX9_countVoter_0 : decode cX9_countVoter 0 = .ok (.aload_n 0, 1) := by decide +kernel
theorem dX9_countVoter_1 : decode cX9_countVoter 1 = .ok (.getfield 31, 3) := by decide +kernel
theorem dX9_countVoter_4 : decode cX9_countVoter 4 = .ok (.iload_n 1, 1) := by decide +kernel
theorem dX9_countVoter_5 : decode cX9_countVoter 5 = .ok (.iaload, 1) := by decide +kernel
theorem dX9_countVoter_6 : decode cX9_countVoter 6 = .ok (.aload_n 0, 1) := by decide +kernel
theorem dX9_countVoter_7 : decode cX9_countVoter 7 = .ok (.getfield 34, 3) := by decide +kernel
theorem dX9_countVoter_10 : decode cX9_countVoter 10 = .ok (.iload_n 1, 1) := by decide +kernel
theorem dX9_countVoter_11 : decode cX9_countVoter 11 = .ok (.iaload, 1) := by decide +kernel
theorem dX9_countVoter_12 : decode cX9_countVoter 12 = .ok (.ior, 1) := by decide +kernel
theorem dX9_countVoter_13 : decode cX9_countVoter 13 = .ok (.iload_n 3, 1) := by decide +kernel
theorem dX9_countVoter_14 : decode cX9_countVoter 14 = .ok (.iand, 1) := by decide +kernel
theorem dX9_countVoter_15 : decode cX9_countVoter 15 = .ok (.ifCond .eq 4, 3) := by decide +kernel
theorem dX9_countVoter_18 : decode cX9_countVoter 18 = .ok (.return_, 1) := by decide +kernel
theorem dX9_countVoter_19 : decode cX9_countVoter 19 = .ok (.iload_n 2, 1) := by decide +kernel
theorem dX9_countVoter_20 : decode cX9_countVoter 20 = .ok (.iconst 1, 1) := by decide +kernel
theorem dX9_countVoter_21 : decode cX9_countVoter 21 = .ok (.if_icmp .ne 16, 3) := by decide +kernel
theorem dX9_countVoter_24 : decode cX9_countVoter 24 = .ok (.aload_n 0, 1) := by decide +kernel
theorem dX9_countVoter_25 : decode cX9_countVoter 25 = .ok (.getfield 31, 3) := by decide +kernel
theorem dX9_countVoter_28 : decode cX9_countVoter 28 = .ok (.iload_n 1, 1) := by decide +kernel
theorem dX9_countVoter_29 : decode cX9_countVoter 29 = .ok (.dup2, 1) := by decide +kernel
theorem dX9_countVoter_30 : decode cX9_countVoter 30 = .ok (.iaload, 1) := by decide +kernel
theorem dX9_countVoter_31 : decode cX9_countVoter 31 = .ok (.iload_n 3, 1) := by decide +kernel
theorem dX9_countVoter_32 : decode cX9_countVoter 32 = .ok (.ior, 1) := by decide +kernel
theorem dX9_countVoter_33 : decode cX9_countVoter 33 = .ok (.iastore, 1) := by decide +kernel
theorem dX9_countVoter_34 : decode cX9_countVoter 34 = .ok (.goto 13, 3) := by decide +kernel
theorem dX9_countVoter_37 : decode cX9_countVoter 37 = .ok (.aload_n 0, 1) := by decide +kernel
theorem dX9_countVoter_38 : decode cX9_countVoter 38 = .ok (.getfield 34, 3) := by decide +kernel
theorem dX9_countVoter_41 : decode cX9_countVoter 41 = .ok (.iload_n 1, 1) := by decide +kernel
theorem dX9_countVoter_42 : decode cX9_countVoter 42 = .ok (.dup2, 1) := by decide +kernel
theorem dX9_countVoter_43 : decode cX9_countVoter 43 = .ok (.iaload, 1) := by decide +kernel
theorem dX9_countVoter_44 : decode cX9_countVoter 44 = .ok (.iload_n 3, 1) := by decide +kernel
theorem dX9_countVoter_45 : decode cX9_countVoter 45 = .ok (.ior, 1) := by decide +kernel
theorem dX9_countVoter_46 : decode cX9_countVoter 46 = .ok (.iastore, 1) := by decide +kernel
theorem dX9_countVoter_47 : decode cX9_countVoter 47 = .ok (.return_, 1) := by decide +kernel
theorem dX9_keepGreatest_0 : decode cX9_keepGreatest 0 = .ok (.iconst 0, 1) := by decide +kernel
theorem dX9_keepGreatest_1 : decode cX9_keepGreatest 1 = .ok (.istore_n 3, 1) := by decide +kernel
theorem dX9_keepGreatest_2 : decode cX9_keepGreatest 2 = .ok (.iload_n 3, 1) := by decide +kernel
theorem dX9_keepGreatest_3 : decode cX9_keepGreatest 3 = .ok (.aload_n 0, 1) := by decide +kernel
theorem dX9_keepGreatest_4 : decode cX9_keepGreatest 4 = .ok (.getfield 25, 3) := by decide +kernel
theorem dX9_keepGreatest_7 : decode cX9_keepGreatest 7 = .ok (.arraylength, 1) := by decide +kernel
theorem dX9_keepGreatest_8 : decode cX9_keepGreatest 8 = .ok (.if_icmp .ge 39, 3) := by decide +kernel
theorem dX9_keepGreatest_11 : decode cX9_keepGreatest 11 = .ok (.aload_n 1, 1) := by decide +kernel
theorem dX9_keepGreatest_12 : decode cX9_keepGreatest 12 = .ok (.iload_n 3, 1) := by decide +kernel
theorem dX9_keepGreatest_13 : decode cX9_keepGreatest 13 = .ok (.iaload, 1) := by decide +kernel
theorem dX9_keepGreatest_14 : decode cX9_keepGreatest 14 = .ok (.aload_n 0, 1) := by decide +kernel
theorem dX9_keepGreatest_15 : decode cX9_keepGreatest 15 = .ok (.getfield 25, 3) := by decide +kernel
theorem dX9_keepGreatest_18 : decode cX9_keepGreatest 18 = .ok (.iload_n 3, 1) := by decide +kernel
theorem dX9_keepGreatest_19 : decode cX9_keepGreatest 19 = .ok (.iaload, 1) := by decide +kernel
theorem dX9_keepGreatest_20 : decode cX9_keepGreatest 20 = .ok (.if_icmp .le 21, 3) := by decide +kernel
theorem dX9_keepGreatest_23 : decode cX9_keepGreatest 23 = .ok (.aload_n 0, 1) := by decide +kernel
theorem dX9_keepGreatest_24 : decode cX9_keepGreatest 24 = .ok (.getfield 25, 3) := by decide +kernel
theorem dX9_keepGreatest_27 : decode cX9_keepGreatest 27 = .ok (.iload_n 3, 1) := by decide +kernel
theorem dX9_keepGreatest_28 : decode cX9_keepGreatest 28 = .ok (.aload_n 1, 1) := by decide +kernel
theorem dX9_keepGreatest_29 : decode cX9_keepGreatest 29 = .ok (.iload_n 3, 1) := by decide +kernel
theorem dX9_keepGreatest_30 : decode cX9_keepGreatest 30 = .ok (.iaload, 1) := by decide +kernel
theorem dX9_keepGreatest_31 : decode cX9_keepGreatest 31 = .ok (.iastore, 1) := by decide +kernel
theorem dX9_keepGreatest_32 : decode cX9_keepGreatest 32 = .ok (.aload_n 0, 1) := by decide +kernel
theorem dX9_keepGreatest_33 : decode cX9_keepGreatest 33 = .ok (.getfield 28, 3) := by decide +kernel
theorem dX9_keepGreatest_36 : decode cX9_keepGreatest 36 = .ok (.iload_n 3, 1) := by decide +kernel
theorem dX9_keepGreatest_37 : decode cX9_keepGreatest 37 = .ok (.aload_n 2, 1) := by decide +kernel
theorem dX9_keepGreatest_38 : decode cX9_keepGreatest 38 = .ok (.iload_n 3, 1) := by decide +kernel
theorem dX9_keepGreatest_39 : decode cX9_keepGreatest 39 = .ok (.iaload, 1) := by decide +kernel
theorem dX9_keepGreatest_40 : decode cX9_keepGreatest 40 = .ok (.iastore, 1) := by decide +kernel
theorem dX9_keepGreatest_41 : decode cX9_keepGreatest 41 = .ok (.iinc 3 1, 3) := by decide +kernel
theorem dX9_keepGreatest_44 : decode cX9_keepGreatest 44 = .ok (.goto (-42), 3) := by decide +kernel
theorem dX9_keepGreatest_47 : decode cX9_keepGreatest 47 = .ok (.return_, 1) := by decide +kernel
theorem dX9_keptOrNo_0 : decode cX9_keptOrNo 0 = .ok (.aload_n 0, 1) := by decide +kernel
theorem dX9_keptOrNo_1 : decode cX9_keptOrNo 1 = .ok (.getfield 28, 3) := by decide +kernel
theorem dX9_keptOrNo_4 : decode cX9_keptOrNo 4 = .ok (.iload_n 1, 1) := by decide +kernel
theorem dX9_keptOrNo_5 : decode cX9_keptOrNo 5 = .ok (.iaload, 1) := by decide +kernel
theorem dX9_keptOrNo_6 : decode cX9_keptOrNo 6 = .ok (.ifCond .ne 7, 3) := by decide +kernel
theorem dX9_keptOrNo_9 : decode cX9_keptOrNo 9 = .ok (.iconst 2, 1) := by decide +kernel
theorem dX9_keptOrNo_10 : decode cX9_keptOrNo 10 = .ok (.goto 9, 3) := by decide +kernel
theorem dX9_keptOrNo_13 : decode cX9_keptOrNo 13 = .ok (.aload_n 0, 1) := by decide +kernel
theorem dX9_keptOrNo_14 : decode cX9_keptOrNo 14 = .ok (.getfield 28, 3) := by decide +kernel
theorem dX9_keptOrNo_17 : decode cX9_keptOrNo 17 = .ok (.iload_n 1, 1) := by decide +kernel
theorem dX9_keptOrNo_18 : decode cX9_keptOrNo 18 = .ok (.iaload, 1) := by decide +kernel
theorem dX9_keptOrNo_19 : decode cX9_keptOrNo 19 = .ok (.ireturn, 1) := by decide +kernel
theorem dX9_toldOfBallot_0 : decode cX9_toldOfBallot 0 = .ok (.iload_n 1, 1) := by decide +kernel
theorem dX9_toldOfBallot_1 : decode cX9_toldOfBallot 1 = .ok (.tableswitch 54 0 3 #[31, 36, 41, 46], 31) := by decide +kernel
theorem dX9_toldOfBallot_32 : decode cX9_toldOfBallot 32 = .ok (.aload_n 0, 1) := by decide +kernel
theorem dX9_toldOfBallot_33 : decode cX9_toldOfBallot 33 = .ok (.getfield 53, 3) := by decide +kernel
theorem dX9_toldOfBallot_36 : decode cX9_toldOfBallot 36 = .ok (.ireturn, 1) := by decide +kernel
theorem dX9_toldOfBallot_37 : decode cX9_toldOfBallot 37 = .ok (.aload_n 0, 1) := by decide +kernel
theorem dX9_toldOfBallot_38 : decode cX9_toldOfBallot 38 = .ok (.getfield 15, 3) := by decide +kernel
theorem dX9_toldOfBallot_41 : decode cX9_toldOfBallot 41 = .ok (.ireturn, 1) := by decide +kernel
theorem dX9_toldOfBallot_42 : decode cX9_toldOfBallot 42 = .ok (.aload_n 0, 1) := by decide +kernel
theorem dX9_toldOfBallot_43 : decode cX9_toldOfBallot 43 = .ok (.getfield 46, 3) := by decide +kernel
theorem dX9_toldOfBallot_46 : decode cX9_toldOfBallot 46 = .ok (.ireturn, 1) := by decide +kernel
theorem dX9_toldOfBallot_47 : decode cX9_toldOfBallot 47 = .ok (.aload_n 0, 1) := by decide +kernel
theorem dX9_toldOfBallot_48 : decode cX9_toldOfBallot 48 = .ok (.getfield 43, 3) := by decide +kernel
theorem dX9_toldOfBallot_51 : decode cX9_toldOfBallot 51 = .ok (.invokestatic 56, 3) := by decide +kernel
theorem dX9_toldOfBallot_54 : decode cX9_toldOfBallot 54 = .ok (.ireturn, 1) := by decide +kernel
theorem dX9_toldOfBallot_55 : decode cX9_toldOfBallot 55 = .ok (.iconst (-1), 1) := by decide +kernel
theorem dX9_toldOfBallot_56 : decode cX9_toldOfBallot 56 = .ok (.ireturn, 1) := by decide +kernel
theorem dX9_toldOfShard_0 : decode cX9_toldOfShard 0 = .ok (.iload_n 2, 1) := by decide +kernel
theorem dX9_toldOfShard_1 : decode cX9_toldOfShard 1 = .ok (.tableswitch 58 0 2 #[27, 34, 41], 27) := by decide +kernel
theorem dX9_toldOfShard_28 : decode cX9_toldOfShard 28 = .ok (.aload_n 0, 1) := by decide +kernel
theorem dX9_toldOfShard_29 : decode cX9_toldOfShard 29 = .ok (.getfield 18, 3) := by decide +kernel
theorem dX9_toldOfShard_32 : decode cX9_toldOfShard 32 = .ok (.iload_n 1, 1) := by decide +kernel
theorem dX9_toldOfShard_33 : decode cX9_toldOfShard 33 = .ok (.iaload, 1) := by decide +kernel
theorem dX9_toldOfShard_34 : decode cX9_toldOfShard 34 = .ok (.ireturn, 1) := by decide +kernel
theorem dX9_toldOfShard_35 : decode cX9_toldOfShard 35 = .ok (.aload_n 0, 1) := by decide +kernel
theorem dX9_toldOfShard_36 : decode cX9_toldOfShard 36 = .ok (.getfield 22, 3) := by decide +kernel
theorem dX9_toldOfShard_39 : decode cX9_toldOfShard 39 = .ok (.iload_n 1, 1) := by decide +kernel
theorem dX9_toldOfShard_40 : decode cX9_toldOfShard 40 = .ok (.iaload, 1) := by decide +kernel
theorem dX9_toldOfShard_41 : decode cX9_toldOfShard 41 = .ok (.ireturn, 1) := by decide +kernel
theorem dX9_toldOfShard_42 : decode cX9_toldOfShard 42 = .ok (.aload_n 0, 1) := by decide +kernel
theorem dX9_toldOfShard_43 : decode cX9_toldOfShard 43 = .ok (.getfield 31, 3) := by decide +kernel
theorem dX9_toldOfShard_46 : decode cX9_toldOfShard 46 = .ok (.iload_n 1, 1) := by decide +kernel
theorem dX9_toldOfShard_47 : decode cX9_toldOfShard 47 = .ok (.iaload, 1) := by decide +kernel
theorem dX9_toldOfShard_48 : decode cX9_toldOfShard 48 = .ok (.aload_n 0, 1) := by decide +kernel
theorem dX9_toldOfShard_49 : decode cX9_toldOfShard 49 = .ok (.getfield 34, 3) := by decide +kernel
theorem dX9_toldOfShard_52 : decode cX9_toldOfShard 52 = .ok (.iload_n 1, 1) := by decide +kernel
theorem dX9_toldOfShard_53 : decode cX9_toldOfShard 53 = .ok (.iaload, 1) := by decide +kernel
theorem dX9_toldOfShard_54 : decode cX9_toldOfShard 54 = .ok (.ior, 1) := by decide +kernel
theorem dX9_toldOfShard_55 : decode cX9_toldOfShard 55 = .ok (.invokestatic 56, 3) := by decide +kernel
theorem dX9_toldOfShard_58 : decode cX9_toldOfShard 58 = .ok (.ireturn, 1) := by decide +kernel
theorem dX9_toldOfShard_59 : decode cX9_toldOfShard 59 = .ok (.iconst (-1), 1) := by decide +kernel
theorem dX9_toldOfShard_60 : decode cX9_toldOfShard 60 = .ok (.ireturn, 1) := by decide +kernel
theorem dX10_init_0 : decode cX10_init 0 = .ok (.aload_n 0, 1) := by decide +kernel
theorem dX10_init_1 : decode cX10_init 1 = .ok (.invokespecial 1, 3) := by decide +kernel
theorem dX10_init_4 : decode cX10_init 4 = .ok (.aload_n 0, 1) := by decide +kernel
theorem dX10_init_5 : decode cX10_init 5 = .ok (.new 7, 3) := by decide +kernel
theorem dX10_init_8 : decode cX10_init 8 = .ok (.dup, 1) := by decide +kernel
theorem dX10_init_9 : decode cX10_init 9 = .ok (.iload_n 1, 1) := by decide +kernel
theorem dX10_init_10 : decode cX10_init 10 = .ok (.iload_n 2, 1) := by decide +kernel
theorem dX10_init_11 : decode cX10_init 11 = .ok (.iload_n 3, 1) := by decide +kernel
theorem dX10_init_12 : decode cX10_init 12 = .ok (.iload 4, 2) := by decide +kernel
theorem dX10_init_14 : decode cX10_init 14 = .ok (.iload 5, 2) := by decide +kernel
theorem dX10_init_16 : decode cX10_init 16 = .ok (.iload 6, 2) := by decide +kernel
theorem dX10_init_18 : decode cX10_init 18 = .ok (.invokespecial 9, 3) := by decide +kernel
theorem dX10_init_21 : decode cX10_init 21 = .ok (.putfield 12, 3) := by decide +kernel
theorem dX10_init_24 : decode cX10_init 24 = .ok (.aload_n 0, 1) := by decide +kernel
theorem dX10_init_25 : decode cX10_init 25 = .ok (.new 18, 3) := by decide +kernel
theorem dX10_init_28 : decode cX10_init 28 = .ok (.dup, 1) := by decide +kernel
theorem dX10_init_29 : decode cX10_init 29 = .ok (.aload_n 0, 1) := by decide +kernel
theorem dX10_init_30 : decode cX10_init 30 = .ok (.getfield 12, 3) := by decide +kernel
theorem dX10_init_33 : decode cX10_init 33 = .ok (.invokespecial 20, 3) := by decide +kernel
theorem dX10_init_36 : decode cX10_init 36 = .ok (.putfield 23, 3) := by decide +kernel
theorem dX10_init_39 : decode cX10_init 39 = .ok (.aload_n 0, 1) := by decide +kernel
theorem dX10_init_40 : decode cX10_init 40 = .ok (.new 27, 3) := by decide +kernel
theorem dX10_init_43 : decode cX10_init 43 = .ok (.dup, 1) := by decide +kernel
theorem dX10_init_44 : decode cX10_init 44 = .ok (.aload_n 0, 1) := by decide +kernel
theorem dX10_init_45 : decode cX10_init 45 = .ok (.getfield 12, 3) := by decide +kernel
theorem dX10_init_48 : decode cX10_init 48 = .ok (.invokespecial 29, 3) := by decide +kernel
theorem dX10_init_51 : decode cX10_init 51 = .ok (.putfield 30, 3) := by decide +kernel
theorem dX10_init_54 : decode cX10_init 54 = .ok (.aload_n 0, 1) := by decide +kernel
theorem dX10_init_55 : decode cX10_init 55 = .ok (.new 34, 3) := by decide +kernel
theorem dX10_init_58 : decode cX10_init 58 = .ok (.dup, 1) := by decide +kernel
theorem dX10_init_59 : decode cX10_init 59 = .ok (.aload_n 0, 1) := by decide +kernel
theorem dX10_init_60 : decode cX10_init 60 = .ok (.getfield 12, 3) := by decide +kernel
theorem dX10_init_63 : decode cX10_init 63 = .ok (.invokespecial 36, 3) := by decide +kernel
theorem dX10_init_66 : decode cX10_init 66 = .ok (.putfield 37, 3) := by decide +kernel
theorem dX10_init_69 : decode cX10_init 69 = .ok (.aload_n 0, 1) := by decide +kernel
theorem dX10_init_70 : decode cX10_init 70 = .ok (.aload_n 0, 1) := by decide +kernel
theorem dX10_init_71 : decode cX10_init 71 = .ok (.getfield 12, 3) := by decide +kernel
theorem dX10_init_74 : decode cX10_init 74 = .ok (.getfield 41, 3) := by decide +kernel
theorem dX10_init_77 : decode cX10_init 77 = .ok (.anewarray 45, 3) := by decide +kernel
theorem dX10_init_80 : decode cX10_init 80 = .ok (.putfield 47, 3) := by decide +kernel
theorem dX10_init_83 : decode cX10_init 83 = .ok (.iconst 0, 1) := by decide +kernel
theorem dX10_init_84 : decode cX10_init 84 = .ok (.istore 7, 2) := by decide +kernel
theorem dX10_init_86 : decode cX10_init 86 = .ok (.iload 7, 2) := by decide +kernel
theorem dX10_init_88 : decode cX10_init 88 = .ok (.aload_n 0, 1) := by decide +kernel
theorem dX10_init_89 : decode cX10_init 89 = .ok (.getfield 47, 3) := by decide +kernel
theorem dX10_init_92 : decode cX10_init 92 = .ok (.arraylength, 1) := by decide +kernel
theorem dX10_init_93 : decode cX10_init 93 = .ok (.if_icmp .ge 37, 3) := by decide +kernel
theorem dX10_init_96 : decode cX10_init 96 = .ok (.aload_n 0, 1) := by decide +kernel
theorem dX10_init_97 : decode cX10_init 97 = .ok (.getfield 47, 3) := by decide +kernel
theorem dX10_init_100 : decode cX10_init 100 = .ok (.iload 7, 2) := by decide +kernel
theorem dX10_init_102 : decode cX10_init 102 = .ok (.new 45, 3) := by decide +kernel
theorem dX10_init_105 : decode cX10_init 105 = .ok (.dup, 1) := by decide +kernel
theorem dX10_init_106 : decode cX10_init 106 = .ok (.iload 7, 2) := by decide +kernel
theorem dX10_init_108 : decode cX10_init 108 = .ok (.aload_n 0, 1) := by decide +kernel
theorem dX10_init_109 : decode cX10_init 109 = .ok (.getfield 12, 3) := by decide +kernel
theorem dX10_init_112 : decode cX10_init 112 = .ok (.aload_n 0, 1) := by decide +kernel
theorem dX10_init_113 : decode cX10_init 113 = .ok (.getfield 30, 3) := by decide +kernel
theorem dX10_init_116 : decode cX10_init 116 = .ok (.aload_n 0, 1) := by decide +kernel
theorem dX10_init_117 : decode cX10_init 117 = .ok (.getfield 37, 3) := by decide +kernel
theorem dX10_init_120 : decode cX10_init 120 = .ok (.invokespecial 51, 3) := by decide +kernel
theorem dX10_init_123 : decode cX10_init 123 = .ok (.aastore, 1) := by decide +kernel
theorem dX10_init_124 : decode cX10_init 124 = .ok (.iinc 7 1, 3) := by decide +kernel
theorem dX10_init_127 : decode cX10_init 127 = .ok (.goto (-41), 3) := by decide +kernel
theorem dX10_init_130 : decode cX10_init 130 = .ok (.aload_n 0, 1) := by decide +kernel
theorem dX10_init_131 : decode cX10_init 131 = .ok (.aload_n 0, 1) := by decide +kernel
theorem dX10_init_132 : decode cX10_init 132 = .ok (.getfield 12, 3) := by decide +kernel
theorem dX10_init_135 : decode cX10_init 135 = .ok (.getfield 54, 3) := by decide +kernel
theorem dX10_init_138 : decode cX10_init 138 = .ok (.anewarray 57, 3) := by decide +kernel
theorem dX10_init_141 : decode cX10_init 141 = .ok (.putfield 59, 3) := by decide +kernel
theorem dX10_init_144 : decode cX10_init 144 = .ok (.iconst 0, 1) := by decide +kernel
theorem dX10_init_145 : decode cX10_init 145 = .ok (.istore 7, 2) := by decide +kernel
theorem dX10_init_147 : decode cX10_init 147 = .ok (.iload 7, 2) := by decide +kernel
theorem dX10_init_149 : decode cX10_init 149 = .ok (.aload_n 0, 1) := by decide +kernel
theorem dX10_init_150 : decode cX10_init 150 = .ok (.getfield 59, 3) := by decide +kernel
theorem dX10_init_153 : decode cX10_init 153 = .ok (.arraylength, 1) := by decide +kernel
theorem dX10_init_154 : decode cX10_init 154 = .ok (.if_icmp .ge 37, 3) := by decide +kernel
theorem dX10_init_157 : decode cX10_init 157 = .ok (.aload_n 0, 1) := by decide +kernel
theorem dX10_init_158 : decode cX10_init 158 = .ok (.getfield 59, 3) := by decide +kernel
theorem dX10_init_161 : decode cX10_init 161 = .ok (.iload 7, 2) := by decide +kernel
theorem dX10_init_163 : decode cX10_init 163 = .ok (.new 57, 3) := by decide +kernel
theorem dX10_init_166 : decode cX10_init 166 = .ok (.dup, 1) := by decide +kernel
theorem dX10_init_167 : decode cX10_init 167 = .ok (.iload 7, 2) := by decide +kernel
theorem dX10_init_169 : decode cX10_init 169 = .ok (.aload_n 0, 1) := by decide +kernel
theorem dX10_init_170 : decode cX10_init 170 = .ok (.getfield 12, 3) := by decide +kernel
theorem dX10_init_173 : decode cX10_init 173 = .ok (.aload_n 0, 1) := by decide +kernel
theorem dX10_init_174 : decode cX10_init 174 = .ok (.getfield 23, 3) := by decide +kernel
theorem dX10_init_177 : decode cX10_init 177 = .ok (.aload_n 0, 1) := by decide +kernel
theorem dX10_init_178 : decode cX10_init 178 = .ok (.getfield 37, 3) := by decide +kernel
theorem dX10_init_181 : decode cX10_init 181 = .ok (.invokespecial 63, 3) := by decide +kernel
theorem dX10_init_184 : decode cX10_init 184 = .ok (.aastore, 1) := by decide +kernel
theorem dX10_init_185 : decode cX10_init 185 = .ok (.iinc 7 1, 3) := by decide +kernel
theorem dX10_init_188 : decode cX10_init 188 = .ok (.goto (-41), 3) := by decide +kernel
theorem dX10_init_191 : decode cX10_init 191 = .ok (.return_, 1) := by decide +kernel
theorem dX10_begin_0 : decode cX10_begin 0 = .ok (.aload_n 0, 1) := by decide +kernel
theorem dX10_begin_1 : decode cX10_begin 1 = .ok (.iload_n 1, 1) := by decide +kernel
theorem dX10_begin_2 : decode cX10_begin 2 = .ok (.invokevirtual 66, 3) := by decide +kernel
theorem dX10_begin_5 : decode cX10_begin 5 = .ok (.ifCond .ne 5, 3) := by decide +kernel
theorem dX10_begin_8 : decode cX10_begin 8 = .ok (.iconst (-1), 1) := by decide +kernel
theorem dX10_begin_9 : decode cX10_begin 9 = .ok (.ireturn, 1) := by decide +kernel
theorem dX10_begin_10 : decode cX10_begin 10 = .ok (.aload_n 0, 1) := by decide +kernel
theorem dX10_begin_11 : decode cX10_begin 11 = .ok (.getfield 23, 3) := by decide +kernel
theorem dX10_begin_14 : decode cX10_begin 14 = .ok (.getfield 70, 3) := by decide +kernel
theorem dX10_begin_17 : decode cX10_begin 17 = .ok (.iload_n 1, 1) := by decide +kernel
theorem dX10_begin_18 : decode cX10_begin 18 = .ok (.iaload, 1) := by decide +kernel
theorem dX10_begin_19 : decode cX10_begin 19 = .ok (.ifCond .eq 5, 3) := by decide +kernel
theorem dX10_begin_22 : decode cX10_begin 22 = .ok (.iconst 0, 1) := by decide +kernel
theorem dX10_begin_23 : decode cX10_begin 23 = .ok (.ireturn, 1) := by decide +kernel
theorem dX10_begin_24 : decode cX10_begin 24 = .ok (.aload_n 0, 1) := by decide +kernel
theorem dX10_begin_25 : decode cX10_begin 25 = .ok (.getfield 23, 3) := by decide +kernel
theorem dX10_begin_28 : decode cX10_begin 28 = .ok (.getfield 70, 3) := by decide +kernel
theorem dX10_begin_31 : decode cX10_begin 31 = .ok (.iload_n 1, 1) := by decide +kernel
theorem dX10_begin_32 : decode cX10_begin 32 = .ok (.iconst 1, 1) := by decide +kernel
theorem dX10_begin_33 : decode cX10_begin 33 = .ok (.iastore, 1) := by decide +kernel
theorem dX10_begin_34 : decode cX10_begin 34 = .ok (.iconst 1, 1) := by decide +kernel
theorem dX10_begin_35 : decode cX10_begin 35 = .ok (.ireturn, 1) := by decide +kernel
theorem dX10_read_0 : decode cX10_read 0 = .ok (.aload_n 0, 1) := by decide +kernel
theorem dX10_read_1 : decode cX10_read 1 = .ok (.aload_n 0, 1) := by decide +kernel
theorem dX10_read_2 : decode cX10_read 2 = .ok (.iload_n 1, 1) := by decide +kernel
theorem dX10_read_3 : decode cX10_read 3 = .ok (.iload_n 2, 1) := by decide +kernel
theorem dX10_read_4 : decode cX10_read 4 = .ok (.iconst 1, 1) := by decide +kernel
theorem dX10_read_5 : decode cX10_read 5 = .ok (.invokevirtual 74, 3) := by decide +kernel
theorem dX10_read_8 : decode cX10_read 8 = .ok (.putfield 78, 3) := by decide +kernel
theorem dX10_read_11 : decode cX10_read 11 = .ok (.aload_n 0, 1) := by decide +kernel
theorem dX10_read_12 : decode cX10_read 12 = .ok (.getfield 78, 3) := by decide +kernel
theorem dX10_read_15 : decode cX10_read 15 = .ok (.iconst 1, 1) := by decide +kernel
theorem dX10_read_16 : decode cX10_read 16 = .ok (.if_icmp .ne 15, 3) := by decide +kernel
theorem dX10_read_19 : decode cX10_read 19 = .ok (.aload_n 0, 1) := by decide +kernel
theorem dX10_read_20 : decode cX10_read 20 = .ok (.getfield 30, 3) := by decide +kernel
theorem dX10_read_23 : decode cX10_read 23 = .ok (.iload_n 1, 1) := by decide +kernel
theorem dX10_read_24 : decode cX10_read 24 = .ok (.iload_n 2, 1) := by decide +kernel
theorem dX10_read_25 : decode cX10_read 25 = .ok (.invokevirtual 81, 3) := by decide +kernel
theorem dX10_read_28 : decode cX10_read 28 = .ok (.goto 4, 3) := by decide +kernel
theorem dX10_read_31 : decode cX10_read 31 = .ok (.lconst 0, 1) := by decide +kernel
theorem dX10_read_32 : decode cX10_read 32 = .ok (.lreturn, 1) := by decide +kernel
theorem dX10_readStatus_0 : decode cX10_readStatus 0 = .ok (.aload_n 0, 1) := by decide +kernel
theorem dX10_readStatus_1 : decode cX10_readStatus 1 = .ok (.getfield 78, 3) := by decide +kernel
theorem dX10_readStatus_4 : decode cX10_readStatus 4 = .ok (.ireturn, 1) := by decide +kernel
theorem dX10_write_0 : decode cX10_write 0 = .ok (.aload_n 0, 1) := by decide +kernel
theorem dX10_write_1 : decode cX10_write 1 = .ok (.iload_n 1, 1) := by decide +kernel
theorem dX10_write_2 : decode cX10_write 2 = .ok (.iload_n 2, 1) := by decide +kernel
theorem dX10_write_3 : decode cX10_write 3 = .ok (.iconst 2, 1) := by decide +kernel
theorem dX10_write_4 : decode cX10_write 4 = .ok (.invokevirtual 74, 3) := by decide +kernel
theorem dX10_write_7 : decode cX10_write 7 = .ok (.istore 5, 2) := by decide +kernel
theorem dX10_write_9 : decode cX10_write 9 = .ok (.iload 5, 2) := by decide +kernel
end
section
theorem dX10_write_11 : decode cX10_write 11 = .ok (.iconst 1, 1) := by decide +kernel
theorem dX10_write_12 : decode cX10_write 12 = .ok (.if_icmp .ne 13, 3) := by decide +kernel
theorem dX10_write_15 : decode cX10_write 15 = .ok (.aload_n 0, 1) := by decide +kernel
theorem dX10_write_16 : decode cX10_write 16 = .ok (.getfield 30, 3) := by decide +kernel
theorem dX10_write_19 : decode cX10_write 19 = .ok (.iload_n 1, 1) := by decide +kernel
theorem dX10_write_20 : decode cX10_write 20 = .ok (.iload_n 2, 1) := by decide +kernel
theorem dX10_write_21 : decode cX10_write 21 = .ok (.lload_n 3, 1) := by decide +kernel
theorem dX10_write_22 : decode cX10_write 22 = .ok (.invokevirtual 85, 3) := by decide +kernel
theorem dX10_write_25 : decode cX10_write 25 = .ok (.iload 5, 2) := by decide +kernel
theorem dX10_write_27 : decode cX10_write 27 = .ok (.ireturn, 1) := by decide +kernel
theorem dX10_requestCommit_0 : decode cX10_requestCommit 0 = .ok (.aload_n 0, 1) := by decide +kernel
theorem dX10_requestCommit_1 : decode cX10_requestCommit 1 = .ok (.iload_n 1, 1) := by decide +kernel
theorem dX10_requestCommit_2 : decode cX10_requestCommit 2 = .ok (.invokevirtual 66, 3) := by decide +kernel
theorem dX10_requestCommit_5 : decode cX10_requestCommit 5 = .ok (.ifCond .ne 5, 3) := by decide +kernel
theorem dX10_requestCommit_8 : decode cX10_requestCommit 8 = .ok (.iconst (-1), 1) := by decide +kernel
theorem dX10_requestCommit_9 : decode cX10_requestCommit 9 = .ok (.ireturn, 1) := by decide +kernel
theorem dX10_requestCommit_10 : decode cX10_requestCommit 10 = .ok (.aload_n 0, 1) := by decide +kernel
theorem dX10_requestCommit_11 : decode cX10_requestCommit 11 = .ok (.getfield 23, 3) := by decide +kernel
theorem dX10_requestCommit_14 : decode cX10_requestCommit 14 = .ok (.getfield 70, 3) := by decide +kernel
theorem dX10_requestCommit_17 : decode cX10_requestCommit 17 = .ok (.iload_n 1, 1) := by decide +kernel
theorem dX10_requestCommit_18 : decode cX10_requestCommit 18 = .ok (.iaload, 1) := by decide +kernel
theorem dX10_requestCommit_19 : decode cX10_requestCommit 19 = .ok (.iconst 1, 1) := by decide +kernel
theorem dX10_requestCommit_20 : decode cX10_requestCommit 20 = .ok (.if_icmp .eq 5, 3) := by decide +kernel
theorem dX10_requestCommit_23 : decode cX10_requestCommit 23 = .ok (.iconst 0, 1) := by decide +kernel
theorem dX10_requestCommit_24 : decode cX10_requestCommit 24 = .ok (.ireturn, 1) := by decide +kernel
theorem dX10_requestCommit_25 : decode cX10_requestCommit 25 = .ok (.aload_n 0, 1) := by decide +kernel
theorem dX10_requestCommit_26 : decode cX10_requestCommit 26 = .ok (.getfield 23, 3) := by decide +kernel
theorem dX10_requestCommit_29 : decode cX10_requestCommit 29 = .ok (.getfield 70, 3) := by decide +kernel
theorem dX10_requestCommit_32 : decode cX10_requestCommit 32 = .ok (.iload_n 1, 1) := by decide +kernel
theorem dX10_requestCommit_33 : decode cX10_requestCommit 33 = .ok (.aload_n 0, 1) := by decide +kernel
theorem dX10_requestCommit_34 : decode cX10_requestCommit 34 = .ok (.getfield 23, 3) := by decide +kernel
theorem dX10_requestCommit_37 : decode cX10_requestCommit 37 = .ok (.iload_n 1, 1) := by decide +kernel
theorem dX10_requestCommit_38 : decode cX10_requestCommit 38 = .ok (.invokevirtual 89, 3) := by decide +kernel
theorem dX10_requestCommit_41 : decode cX10_requestCommit 41 = .ok (.ifCond .eq 7, 3) := by decide +kernel
theorem dX10_requestCommit_44 : decode cX10_requestCommit 44 = .ok (.iconst 3, 1) := by decide +kernel
theorem dX10_requestCommit_45 : decode cX10_requestCommit 45 = .ok (.goto 4, 3) := by decide +kernel
theorem dX10_requestCommit_48 : decode cX10_requestCommit 48 = .ok (.iconst 2, 1) := by decide +kernel
theorem dX10_requestCommit_49 : decode cX10_requestCommit 49 = .ok (.iastore, 1) := by decide +kernel
theorem dX10_requestCommit_50 : decode cX10_requestCommit 50 = .ok (.aload_n 0, 1) := by decide +kernel
theorem dX10_requestCommit_51 : decode cX10_requestCommit 51 = .ok (.getfield 37, 3) := by decide +kernel
theorem dX10_requestCommit_54 : decode cX10_requestCommit 54 = .ok (.iconst 1, 1) := by decide +kernel
theorem dX10_requestCommit_55 : decode cX10_requestCommit 55 = .ok (.iload_n 1, 1) := by decide +kernel
theorem dX10_requestCommit_56 : decode cX10_requestCommit 56 = .ok (.aload_n 0, 1) := by decide +kernel
theorem dX10_requestCommit_57 : decode cX10_requestCommit 57 = .ok (.getfield 12, 3) := by decide +kernel
theorem dX10_requestCommit_60 : decode cX10_requestCommit 60 = .ok (.invokevirtual 92, 3) := by decide +kernel
theorem dX10_requestCommit_63 : decode cX10_requestCommit 63 = .ok (.invokevirtual 96, 3) := by decide +kernel
theorem dX10_requestCommit_66 : decode cX10_requestCommit 66 = .ok (.iconst 0, 1) := by decide +kernel
theorem dX10_requestCommit_67 : decode cX10_requestCommit 67 = .ok (.istore_n 2, 1) := by decide +kernel
theorem dX10_requestCommit_68 : decode cX10_requestCommit 68 = .ok (.iconst 0, 1) := by decide +kernel
theorem dX10_requestCommit_69 : decode cX10_requestCommit 69 = .ok (.istore_n 3, 1) := by decide +kernel
theorem dX10_requestCommit_70 : decode cX10_requestCommit 70 = .ok (.iload_n 3, 1) := by decide +kernel
theorem dX10_requestCommit_71 : decode cX10_requestCommit 71 = .ok (.aload_n 0, 1) := by decide +kernel
theorem dX10_requestCommit_72 : decode cX10_requestCommit 72 = .ok (.getfield 12, 3) := by decide +kernel
theorem dX10_requestCommit_75 : decode cX10_requestCommit 75 = .ok (.getfield 41, 3) := by decide +kernel
theorem dX10_requestCommit_78 : decode cX10_requestCommit 78 = .ok (.if_icmp .ge 40, 3) := by decide +kernel
theorem dX10_requestCommit_81 : decode cX10_requestCommit 81 = .ok (.aload_n 0, 1) := by decide +kernel
theorem dX10_requestCommit_82 : decode cX10_requestCommit 82 = .ok (.getfield 23, 3) := by decide +kernel
theorem dX10_requestCommit_85 : decode cX10_requestCommit 85 = .ok (.iload_n 1, 1) := by decide +kernel
theorem dX10_requestCommit_86 : decode cX10_requestCommit 86 = .ok (.iload_n 3, 1) := by decide +kernel
theorem dX10_requestCommit_87 : decode cX10_requestCommit 87 = .ok (.invokevirtual 100, 3) := by decide +kernel
theorem dX10_requestCommit_90 : decode cX10_requestCommit 90 = .ok (.ifCond .eq 22, 3) := by decide +kernel
theorem dX10_requestCommit_93 : decode cX10_requestCommit 93 = .ok (.aload_n 0, 1) := by decide +kernel
theorem dX10_requestCommit_94 : decode cX10_requestCommit 94 = .ok (.getfield 37, 3) := by decide +kernel
theorem dX10_requestCommit_97 : decode cX10_requestCommit 97 = .ok (.aload_n 0, 1) := by decide +kernel
theorem dX10_requestCommit_98 : decode cX10_requestCommit 98 = .ok (.getfield 37, 3) := by decide +kernel
theorem dX10_requestCommit_101 : decode cX10_requestCommit 101 = .ok (.getfield 104, 3) := by decide +kernel
theorem dX10_requestCommit_104 : decode cX10_requestCommit 104 = .ok (.iload_n 3, 1) := by decide +kernel
theorem dX10_requestCommit_105 : decode cX10_requestCommit 105 = .ok (.invokevirtual 108, 3) := by decide +kernel
theorem dX10_requestCommit_108 : decode cX10_requestCommit 108 = .ok (.pop, 1) := by decide +kernel
theorem dX10_requestCommit_109 : decode cX10_requestCommit 109 = .ok (.iinc 2 1, 3) := by decide +kernel
theorem dX10_requestCommit_112 : decode cX10_requestCommit 112 = .ok (.iinc 3 1, 3) := by decide +kernel
theorem dX10_requestCommit_115 : decode cX10_requestCommit 115 = .ok (.goto (-45), 3) := by decide +kernel
theorem dX10_requestCommit_118 : decode cX10_requestCommit 118 = .ok (.iload_n 2, 1) := by decide +kernel
theorem dX10_requestCommit_119 : decode cX10_requestCommit 119 = .ok (.ireturn, 1) := by decide +kernel
theorem dX10_abort_0 : decode cX10_abort 0 = .ok (.aload_n 0, 1) := by decide +kernel
theorem dX10_abort_1 : decode cX10_abort 1 = .ok (.iload_n 1, 1) := by decide +kernel
theorem dX10_abort_2 : decode cX10_abort 2 = .ok (.invokevirtual 66, 3) := by decide +kernel
theorem dX10_abort_5 : decode cX10_abort 5 = .ok (.ifCond .ne 5, 3) := by decide +kernel
theorem dX10_abort_8 : decode cX10_abort 8 = .ok (.iconst (-1), 1) := by decide +kernel
theorem dX10_abort_9 : decode cX10_abort 9 = .ok (.ireturn, 1) := by decide +kernel
theorem dX10_abort_10 : decode cX10_abort 10 = .ok (.aload_n 0, 1) := by decide +kernel
theorem dX10_abort_11 : decode cX10_abort 11 = .ok (.getfield 23, 3) := by decide +kernel
theorem dX10_abort_14 : decode cX10_abort 14 = .ok (.getfield 70, 3) := by decide +kernel
theorem dX10_abort_17 : decode cX10_abort 17 = .ok (.iload_n 1, 1) := by decide +kernel
theorem dX10_abort_18 : decode cX10_abort 18 = .ok (.iaload, 1) := by decide +kernel
theorem dX10_abort_19 : decode cX10_abort 19 = .ok (.iconst 1, 1) := by decide +kernel
theorem dX10_abort_20 : decode cX10_abort 20 = .ok (.if_icmp .eq 5, 3) := by decide +kernel
theorem dX10_abort_23 : decode cX10_abort 23 = .ok (.iconst 0, 1) := by decide +kernel
theorem dX10_abort_24 : decode cX10_abort 24 = .ok (.ireturn, 1) := by decide +kernel
theorem dX10_abort_25 : decode cX10_abort 25 = .ok (.aload_n 0, 1) := by decide +kernel
theorem dX10_abort_26 : decode cX10_abort 26 = .ok (.getfield 23, 3) := by decide +kernel
theorem dX10_abort_29 : decode cX10_abort 29 = .ok (.getfield 70, 3) := by decide +kernel
theorem dX10_abort_32 : decode cX10_abort 32 = .ok (.iload_n 1, 1) := by decide +kernel
theorem dX10_abort_33 : decode cX10_abort 33 = .ok (.iconst 4, 1) := by decide +kernel
theorem dX10_abort_34 : decode cX10_abort 34 = .ok (.iastore, 1) := by decide +kernel
theorem dX10_abort_35 : decode cX10_abort 35 = .ok (.aload_n 0, 1) := by decide +kernel
theorem dX10_abort_36 : decode cX10_abort 36 = .ok (.getfield 47, 3) := by decide +kernel
theorem dX10_abort_39 : decode cX10_abort 39 = .ok (.astore_n 2, 1) := by decide +kernel
theorem dX10_abort_40 : decode cX10_abort 40 = .ok (.aload_n 2, 1) := by decide +kernel
theorem dX10_abort_41 : decode cX10_abort 41 = .ok (.arraylength, 1) := by decide +kernel
theorem dX10_abort_42 : decode cX10_abort 42 = .ok (.istore_n 3, 1) := by decide +kernel
theorem dX10_abort_43 : decode cX10_abort 43 = .ok (.iconst 0, 1) := by decide +kernel
theorem dX10_abort_44 : decode cX10_abort 44 = .ok (.istore 4, 2) := by decide +kernel
theorem dX10_abort_46 : decode cX10_abort 46 = .ok (.iload 4, 2) := by decide +kernel
theorem dX10_abort_48 : decode cX10_abort 48 = .ok (.iload_n 3, 1) := by decide +kernel
theorem dX10_abort_49 : decode cX10_abort 49 = .ok (.if_icmp .ge 29, 3) := by decide +kernel
theorem dX10_abort_52 : decode cX10_abort 52 = .ok (.aload_n 2, 1) := by decide +kernel
theorem dX10_abort_53 : decode cX10_abort 53 = .ok (.iload 4, 2) := by decide +kernel
theorem dX10_abort_55 : decode cX10_abort 55 = .ok (.aaload, 1) := by decide +kernel
theorem dX10_abort_56 : decode cX10_abort 56 = .ok (.astore 5, 2) := by decide +kernel
theorem dX10_abort_58 : decode cX10_abort 58 = .ok (.aload 5, 2) := by decide +kernel
theorem dX10_abort_60 : decode cX10_abort 60 = .ok (.getfield 112, 3) := by decide +kernel
theorem dX10_abort_63 : decode cX10_abort 63 = .ok (.ifCond .eq 9, 3) := by decide +kernel
theorem dX10_abort_66 : decode cX10_abort 66 = .ok (.aload 5, 2) := by decide +kernel
theorem dX10_abort_68 : decode cX10_abort 68 = .ok (.iload_n 1, 1) := by decide +kernel
theorem dX10_abort_69 : decode cX10_abort 69 = .ok (.invokevirtual 116, 3) := by decide +kernel
theorem dX10_abort_72 : decode cX10_abort 72 = .ok (.iinc 4 1, 3) := by decide +kernel
theorem dX10_abort_75 : decode cX10_abort 75 = .ok (.goto (-29), 3) := by decide +kernel
theorem dX10_abort_78 : decode cX10_abort 78 = .ok (.iconst 1, 1) := by decide +kernel
theorem dX10_abort_79 : decode cX10_abort 79 = .ok (.ireturn, 1) := by decide +kernel
theorem dX10_outcome_0 : decode cX10_outcome 0 = .ok (.aload_n 0, 1) := by decide +kernel
theorem dX10_outcome_1 : decode cX10_outcome 1 = .ok (.iload_n 1, 1) := by decide +kernel
theorem dX10_outcome_2 : decode cX10_outcome 2 = .ok (.invokevirtual 66, 3) := by decide +kernel
theorem dX10_outcome_5 : decode cX10_outcome 5 = .ok (.ifCond .eq 15, 3) := by decide +kernel
theorem dX10_outcome_8 : decode cX10_outcome 8 = .ok (.aload_n 0, 1) := by decide +kernel
theorem dX10_outcome_9 : decode cX10_outcome 9 = .ok (.getfield 23, 3) := by decide +kernel
theorem dX10_outcome_12 : decode cX10_outcome 12 = .ok (.getfield 70, 3) := by decide +kernel
theorem dX10_outcome_15 : decode cX10_outcome 15 = .ok (.iload_n 1, 1) := by decide +kernel
theorem dX10_outcome_16 : decode cX10_outcome 16 = .ok (.iaload, 1) := by decide +kernel
theorem dX10_outcome_17 : decode cX10_outcome 17 = .ok (.goto 4, 3) := by decide +kernel
theorem dX10_outcome_20 : decode cX10_outcome 20 = .ok (.iconst (-1), 1) := by decide +kernel
theorem dX10_outcome_21 : decode cX10_outcome 21 = .ok (.ireturn, 1) := by decide +kernel
theorem dX10_committedValue_0 : decode cX10_committedValue 0 = .ok (.aload_n 0, 1) := by decide +kernel
theorem dX10_committedValue_1 : decode cX10_committedValue 1 = .ok (.iload_n 1, 1) := by decide +kernel
theorem dX10_committedValue_2 : decode cX10_committedValue 2 = .ok (.invokevirtual 120, 3) := by decide +kernel
theorem dX10_committedValue_5 : decode cX10_committedValue 5 = .ok (.ifCond .eq 15, 3) := by decide +kernel
theorem dX10_committedValue_8 : decode cX10_committedValue 8 = .ok (.aload_n 0, 1) := by decide +kernel
theorem dX10_committedValue_9 : decode cX10_committedValue 9 = .ok (.getfield 30, 3) := by decide +kernel
theorem dX10_committedValue_12 : decode cX10_committedValue 12 = .ok (.getfield 123, 3) := by decide +kernel
theorem dX10_committedValue_15 : decode cX10_committedValue 15 = .ok (.iload_n 1, 1) := by decide +kernel
theorem dX10_committedValue_16 : decode cX10_committedValue 16 = .ok (.laload, 1) := by decide +kernel
theorem dX10_committedValue_17 : decode cX10_committedValue 17 = .ok (.goto 4, 3) := by decide +kernel
theorem dX10_committedValue_20 : decode cX10_committedValue 20 = .ok (.lconst 0, 1) := by decide +kernel
theorem dX10_committedValue_21 : decode cX10_committedValue 21 = .ok (.lreturn, 1) := by decide +kernel
theorem dX10_deliver_0 : decode cX10_deliver 0 = .ok (.aload_n 0, 1) := by decide +kernel
theorem dX10_deliver_1 : decode cX10_deliver 1 = .ok (.getfield 37, 3) := by decide +kernel
theorem dX10_deliver_4 : decode cX10_deliver 4 = .ok (.iload_n 1, 1) := by decide +kernel
theorem dX10_deliver_5 : decode cX10_deliver 5 = .ok (.invokevirtual 127, 3) := by decide +kernel
theorem dX10_deliver_8 : decode cX10_deliver 8 = .ok (.ifCond .eq 11, 3) := by decide +kernel
theorem dX10_deliver_11 : decode cX10_deliver 11 = .ok (.aload_n 0, 1) := by decide +kernel
theorem dX10_deliver_12 : decode cX10_deliver 12 = .ok (.iload_n 1, 1) := by decide +kernel
theorem dX10_deliver_13 : decode cX10_deliver 13 = .ok (.invokevirtual 130, 3) := by decide +kernel
theorem dX10_deliver_16 : decode cX10_deliver 16 = .ok (.goto 4, 3) := by decide +kernel
theorem dX10_deliver_19 : decode cX10_deliver 19 = .ok (.iconst (-1), 1) := by decide +kernel
theorem dX10_deliver_20 : decode cX10_deliver 20 = .ok (.ireturn, 1) := by decide +kernel
theorem dX10_drop_0 : decode cX10_drop 0 = .ok (.aload_n 0, 1) := by decide +kernel
theorem dX10_drop_1 : decode cX10_drop 1 = .ok (.getfield 37, 3) := by decide +kernel
theorem dX10_drop_4 : decode cX10_drop 4 = .ok (.iload_n 1, 1) := by decide +kernel
theorem dX10_drop_5 : decode cX10_drop 5 = .ok (.invokevirtual 127, 3) := by decide +kernel
theorem dX10_drop_8 : decode cX10_drop 8 = .ok (.ifCond .eq 17, 3) := by decide +kernel
theorem dX10_drop_11 : decode cX10_drop 11 = .ok (.aload_n 0, 1) := by decide +kernel
theorem dX10_drop_12 : decode cX10_drop 12 = .ok (.getfield 37, 3) := by decide +kernel
theorem dX10_drop_15 : decode cX10_drop 15 = .ok (.iload_n 1, 1) := by decide +kernel
theorem dX10_drop_16 : decode cX10_drop 16 = .ok (.invokevirtual 134, 3) := by decide +kernel
theorem dX10_drop_19 : decode cX10_drop 19 = .ok (.getfield 138, 3) := by decide +kernel
theorem dX10_drop_22 : decode cX10_drop 22 = .ok (.goto 4, 3) := by decide +kernel
theorem dX10_drop_25 : decode cX10_drop 25 = .ok (.iconst (-1), 1) := by decide +kernel
theorem dX10_drop_26 : decode cX10_drop 26 = .ok (.ireturn, 1) := by decide +kernel
theorem dX10_twice_0 : decode cX10_twice 0 = .ok (.aload_n 0, 1) := by decide +kernel
theorem dX10_twice_1 : decode cX10_twice 1 = .ok (.getfield 37, 3) := by decide +kernel
theorem dX10_twice_4 : decode cX10_twice 4 = .ok (.iload_n 1, 1) := by decide +kernel
theorem dX10_twice_5 : decode cX10_twice 5 = .ok (.invokevirtual 127, 3) := by decide +kernel
theorem dX10_twice_8 : decode cX10_twice 8 = .ok (.ifCond .ne 5, 3) := by decide +kernel
theorem dX10_twice_11 : decode cX10_twice 11 = .ok (.iconst (-1), 1) := by decide +kernel
theorem dX10_twice_12 : decode cX10_twice 12 = .ok (.ireturn, 1) := by decide +kernel
theorem dX10_twice_13 : decode cX10_twice 13 = .ok (.aload_n 0, 1) := by decide +kernel
theorem dX10_twice_14 : decode cX10_twice 14 = .ok (.getfield 37, 3) := by decide +kernel
theorem dX10_twice_17 : decode cX10_twice 17 = .ok (.getfield 143, 3) := by decide +kernel
theorem dX10_twice_20 : decode cX10_twice 20 = .ok (.iload_n 1, 1) := by decide +kernel
theorem dX10_twice_21 : decode cX10_twice 21 = .ok (.aaload, 1) := by decide +kernel
theorem dX10_twice_22 : decode cX10_twice 22 = .ok (.astore_n 2, 1) := by decide +kernel
theorem dX10_twice_23 : decode cX10_twice 23 = .ok (.aload_n 0, 1) := by decide +kernel
theorem dX10_twice_24 : decode cX10_twice 24 = .ok (.getfield 37, 3) := by decide +kernel
theorem dX10_twice_27 : decode cX10_twice 27 = .ok (.aload_n 2, 1) := by decide +kernel
theorem dX10_twice_28 : decode cX10_twice 28 = .ok (.aload_n 2, 1) := by decide +kernel
theorem dX10_twice_29 : decode cX10_twice 29 = .ok (.getfield 147, 3) := by decide +kernel
theorem dX10_twice_32 : decode cX10_twice 32 = .ok (.invokevirtual 108, 3) := by decide +kernel
theorem dX10_twice_35 : decode cX10_twice 35 = .ok (.ifCond .eq 13, 3) := by decide +kernel
theorem dX10_twice_38 : decode cX10_twice 38 = .ok (.aload_n 0, 1) := by decide +kernel
theorem dX10_twice_39 : decode cX10_twice 39 = .ok (.getfield 37, 3) := by decide +kernel
theorem dX10_twice_42 : decode cX10_twice 42 = .ok (.getfield 150, 3) := by decide +kernel
theorem dX10_twice_45 : decode cX10_twice 45 = .ok (.goto 4, 3) := by decide +kernel
theorem dX10_twice_48 : decode cX10_twice 48 = .ok (.iconst 0, 1) := by decide +kernel
theorem dX10_twice_49 : decode cX10_twice 49 = .ok (.ireturn, 1) := by decide +kernel
theorem dX10_timeout_0 : decode cX10_timeout 0 = .ok (.aload_n 0, 1) := by decide +kernel
theorem dX10_timeout_1 : decode cX10_timeout 1 = .ok (.iload_n 1, 1) := by decide +kernel
theorem dX10_timeout_2 : decode cX10_timeout 2 = .ok (.invokevirtual 153, 3) := by decide +kernel
theorem dX10_timeout_5 : decode cX10_timeout 5 = .ok (.astore_n 3, 1) := by decide +kernel
theorem dX10_timeout_6 : decode cX10_timeout 6 = .ok (.aload_n 3, 1) := by decide +kernel
theorem dX10_timeout_7 : decode cX10_timeout 7 = .ok (.ifnull 11, 3) := by decide +kernel
theorem dX10_timeout_10 : decode cX10_timeout 10 = .ok (.aload_n 0, 1) := by decide +kernel
theorem dX10_timeout_11 : decode cX10_timeout 11 = .ok (.iload_n 2, 1) := by decide +kernel
theorem dX10_timeout_12 : decode cX10_timeout 12 = .ok (.invokevirtual 66, 3) := by decide +kernel
theorem dX10_timeout_15 : decode cX10_timeout 15 = .ok (.ifCond .ne 5, 3) := by decide +kernel
theorem dX10_timeout_18 : decode cX10_timeout 18 = .ok (.iconst (-1), 1) := by decide +kernel
theorem dX10_timeout_19 : decode cX10_timeout 19 = .ok (.ireturn, 1) := by decide +kernel
theorem dX10_timeout_20 : decode cX10_timeout 20 = .ok (.aload_n 0, 1) := by decide +kernel
theorem dX10_timeout_21 : decode cX10_timeout 21 = .ok (.getfield 23, 3) := by decide +kernel
theorem dX10_timeout_24 : decode cX10_timeout 24 = .ok (.getfield 70, 3) := by decide +kernel
theorem dX10_timeout_27 : decode cX10_timeout 27 = .ok (.iload_n 2, 1) := by decide +kernel
theorem dX10_timeout_28 : decode cX10_timeout 28 = .ok (.iaload, 1) := by decide +kernel
theorem dX10_timeout_29 : decode cX10_timeout 29 = .ok (.istore 4, 2) := by decide +kernel
theorem dX10_timeout_31 : decode cX10_timeout 31 = .ok (.iload 4, 2) := by decide +kernel
theorem dX10_timeout_33 : decode cX10_timeout 33 = .ok (.ifCond .eq 20, 3) := by decide +kernel
theorem dX10_timeout_36 : decode cX10_timeout 36 = .ok (.iload 4, 2) := by decide +kernel
theorem dX10_timeout_38 : decode cX10_timeout 38 = .ok (.iconst 1, 1) := by decide +kernel
theorem dX10_timeout_39 : decode cX10_timeout 39 = .ok (.if_icmp .eq 14, 3) := by decide +kernel
theorem dX10_timeout_42 : decode cX10_timeout 42 = .ok (.aload_n 0, 1) := by decide +kernel
theorem dX10_timeout_43 : decode cX10_timeout 43 = .ok (.getfield 23, 3) := by decide +kernel
theorem dX10_timeout_46 : decode cX10_timeout 46 = .ok (.iload_n 2, 1) := by decide +kernel
theorem dX10_timeout_47 : decode cX10_timeout 47 = .ok (.invokevirtual 89, 3) := by decide +kernel
theorem dX10_timeout_50 : decode cX10_timeout 50 = .ok (.ifCond .eq 5, 3) := by decide +kernel
theorem dX10_timeout_53 : decode cX10_timeout 53 = .ok (.iconst 0, 1) := by decide +kernel
theorem dX10_timeout_54 : decode cX10_timeout 54 = .ok (.ireturn, 1) := by decide +kernel
theorem dX10_timeout_55 : decode cX10_timeout 55 = .ok (.aload_n 3, 1) := by decide +kernel
theorem dX10_timeout_56 : decode cX10_timeout 56 = .ok (.iload_n 2, 1) := by decide +kernel
theorem dX10_timeout_57 : decode cX10_timeout 57 = .ok (.invokevirtual 157, 3) := by decide +kernel
theorem dX10_timeout_60 : decode cX10_timeout 60 = .ok (.ireturn, 1) := by decide +kernel
theorem dX10_crash_0 : decode cX10_crash 0 = .ok (.aload_n 0, 1) := by decide +kernel
theorem dX10_crash_1 : decode cX10_crash 1 = .ok (.iload_n 1, 1) := by decide +kernel
theorem dX10_crash_2 : decode cX10_crash 2 = .ok (.invokevirtual 160, 3) := by decide +kernel
theorem dX10_crash_5 : decode cX10_crash 5 = .ok (.astore_n 2, 1) := by decide +kernel
theorem dX10_crash_6 : decode cX10_crash 6 = .ok (.aload_n 2, 1) := by decide +kernel
theorem dX10_crash_7 : decode cX10_crash 7 = .ok (.ifnonnull 5, 3) := by decide +kernel
theorem dX10_crash_10 : decode cX10_crash 10 = .ok (.iconst (-1), 1) := by decide +kernel
theorem dX10_crash_11 : decode cX10_crash 11 = .ok (.ireturn, 1) := by decide +kernel
theorem dX10_crash_12 : decode cX10_crash 12 = .ok (.aload_n 2, 1) := by decide +kernel
theorem dX10_crash_13 : decode cX10_crash 13 = .ok (.getfield 164, 3) := by decide +kernel
theorem dX10_crash_16 : decode cX10_crash 16 = .ok (.ifCond .ne 5, 3) := by decide +kernel
theorem dX10_crash_19 : decode cX10_crash 19 = .ok (.iconst 0, 1) := by decide +kernel
theorem dX10_crash_20 : decode cX10_crash 20 = .ok (.ireturn, 1) := by decide +kernel
theorem dX10_crash_21 : decode cX10_crash 21 = .ok (.aload_n 2, 1) := by decide +kernel
theorem dX10_crash_22 : decode cX10_crash 22 = .ok (.iconst 0, 1) := by decide +kernel
theorem dX10_crash_23 : decode cX10_crash 23 = .ok (.putfield 164, 3) := by decide +kernel
theorem dX10_crash_26 : decode cX10_crash 26 = .ok (.aload_n 2, 1) := by decide +kernel
theorem dX10_crash_27 : decode cX10_crash 27 = .ok (.invokevirtual 167, 3) := by decide +kernel
theorem dX10_crash_30 : decode cX10_crash 30 = .ok (.iconst 1, 1) := by decide +kernel
theorem dX10_crash_31 : decode cX10_crash 31 = .ok (.ireturn, 1) := by decide +kernel
theorem dX10_restart_0 : decode cX10_restart 0 = .ok (.aload_n 0, 1) := by decide +kernel
theorem dX10_restart_1 : decode cX10_restart 1 = .ok (.iload_n 1, 1) := by decide +kernel
theorem dX10_restart_2 : decode cX10_restart 2 = .ok (.invokevirtual 160, 3) := by decide +kernel
theorem dX10_restart_5 : decode cX10_restart 5 = .ok (.astore_n 2, 1) := by decide +kernel
theorem dX10_restart_6 : decode cX10_restart 6 = .ok (.aload_n 2, 1) := by decide +kernel
theorem dX10_restart_7 : decode cX10_restart 7 = .ok (.ifnonnull 5, 3) := by decide +kernel
theorem dX10_restart_10 : decode cX10_restart 10 = .ok (.iconst (-1), 1) := by decide +kernel
theorem dX10_restart_11 : decode cX10_restart 11 = .ok (.ireturn, 1) := by decide +kernel
theorem dX10_restart_12 : decode cX10_restart 12 = .ok (.aload_n 2, 1) := by decide +kernel
theorem dX10_restart_13 : decode cX10_restart 13 = .ok (.getfield 164, 3) := by decide +kernel
theorem dX10_restart_16 : decode cX10_restart 16 = .ok (.ifCond .eq 5, 3) := by decide +kernel
theorem dX10_restart_19 : decode cX10_restart 19 = .ok (.iconst 0, 1) := by decide +kernel
theorem dX10_restart_20 : decode cX10_restart 20 = .ok (.ireturn, 1) := by decide +kernel
theorem dX10_restart_21 : decode cX10_restart 21 = .ok (.aload_n 2, 1) := by decide +kernel
theorem dX10_restart_22 : decode cX10_restart 22 = .ok (.iconst 1, 1) := by decide +kernel
theorem dX10_restart_23 : decode cX10_restart 23 = .ok (.putfield 164, 3) := by decide +kernel
theorem dX10_restart_26 : decode cX10_restart 26 = .ok (.iconst 1, 1) := by decide +kernel
theorem dX10_restart_27 : decode cX10_restart 27 = .ok (.ireturn, 1) := by decide +kernel
theorem dX10_pending_0 : decode cX10_pending 0 = .ok (.aload_n 0, 1) := by decide +kernel
theorem dX10_pending_1 : decode cX10_pending 1 = .ok (.getfield 37, 3) := by decide +kernel
theorem dX10_pending_4 : decode cX10_pending 4 = .ok (.getfield 150, 3) := by decide +kernel
theorem dX10_pending_7 : decode cX10_pending 7 = .ok (.ireturn, 1) := by decide +kernel
theorem dX10_play_0 : decode cX10_play 0 = .ok (.iload_n 3, 1) := by decide +kernel
theorem dX10_play_1 : decode cX10_play 1 = .ok (.ifCond .lt 10, 3) := by decide +kernel
theorem dX10_play_4 : decode cX10_play 4 = .ok (.iload_n 3, 1) := by decide +kernel
theorem dX10_play_5 : decode cX10_play 5 = .ok (.sipush 400, 3) := by decide +kernel
theorem dX10_play_8 : decode cX10_play 8 = .ok (.if_icmp .le 5, 3) := by decide +kernel
theorem dX10_play_11 : decode cX10_play 11 = .ok (.iconst (-1), 1) := by decide +kernel
theorem dX10_play_12 : decode cX10_play 12 = .ok (.ireturn, 1) := by decide +kernel
theorem dX10_play_13 : decode cX10_play 13 = .ok (.lload_n 1, 1) := by decide +kernel
theorem dX10_play_14 : decode cX10_play 14 = .ok (.lstore 4, 2) := by decide +kernel
theorem dX10_play_16 : decode cX10_play 16 = .ok (.iconst 0, 1) := by decide +kernel
theorem dX10_play_17 : decode cX10_play 17 = .ok (.istore 6, 2) := by decide +kernel
theorem dX10_play_19 : decode cX10_play 19 = .ok (.iload 6, 2) := by decide +kernel
theorem dX10_play_21 : decode cX10_play 21 = .ok (.iload_n 3, 1) := by decide +kernel
theorem dX10_play_22 : decode cX10_play 22 = .ok (.if_icmp .ge 57, 3) := by decide +kernel
theorem dX10_play_25 : decode cX10_play 25 = .ok (.aload_n 0, 1) := by decide +kernel
theorem dX10_play_26 : decode cX10_play 26 = .ok (.getfield 37, 3) := by decide +kernel
theorem dX10_play_29 : decode cX10_play 29 = .ok (.getfield 150, 3) := by decide +kernel
theorem dX10_play_32 : decode cX10_play 32 = .ok (.ifCond .le 47, 3) := by decide +kernel
theorem dX10_play_35 : decode cX10_play 35 = .ok (.lload 4, 2) := by decide +kernel
theorem dX10_play_37 : decode cX10_play 37 = .ok (.ldc2_w 170, 3) := by decide +kernel
theorem dX10_play_40 : decode cX10_play 40 = .ok (.lmul, 1) := by decide +kernel
theorem dX10_play_41 : decode cX10_play 41 = .ok (.ldc2_w 172, 3) := by decide +kernel
theorem dX10_play_44 : decode cX10_play 44 = .ok (.ladd, 1) := by decide +kernel
theorem dX10_play_45 : decode cX10_play 45 = .ok (.lstore 4, 2) := by decide +kernel
theorem dX10_play_47 : decode cX10_play 47 = .ok (.lload 4, 2) := by decide +kernel
theorem dX10_play_49 : decode cX10_play 49 = .ok (.bipush 32, 2) := by decide +kernel
theorem dX10_play_51 : decode cX10_play 51 = .ok (.lushr, 1) := by decide +kernel
theorem dX10_play_52 : decode cX10_play 52 = .ok (.l2i, 1) := by decide +kernel
theorem dX10_play_53 : decode cX10_play 53 = .ok (.ldc 174, 2) := by decide +kernel
theorem dX10_play_55 : decode cX10_play 55 = .ok (.iand, 1) := by decide +kernel
theorem dX10_play_56 : decode cX10_play 56 = .ok (.istore 7, 2) := by decide +kernel
theorem dX10_play_58 : decode cX10_play 58 = .ok (.aload_n 0, 1) := by decide +kernel
theorem dX10_play_59 : decode cX10_play 59 = .ok (.iload 7, 2) := by decide +kernel
theorem dX10_play_61 : decode cX10_play 61 = .ok (.aload_n 0, 1) := by decide +kernel
theorem dX10_play_62 : decode cX10_play 62 = .ok (.getfield 37, 3) := by decide +kernel
theorem dX10_play_65 : decode cX10_play 65 = .ok (.getfield 150, 3) := by decide +kernel
theorem dX10_play_68 : decode cX10_play 68 = .ok (.irem, 1) := by decide +kernel
theorem dX10_play_69 : decode cX10_play 69 = .ok (.invokevirtual 130, 3) := by decide +kernel
theorem dX10_play_72 : decode cX10_play 72 = .ok (.pop, 1) := by decide +kernel
theorem dX10_play_73 : decode cX10_play 73 = .ok (.iinc 6 1, 3) := by decide +kernel
theorem dX10_play_76 : decode cX10_play 76 = .ok (.goto (-57), 3) := by decide +kernel
theorem dX10_play_79 : decode cX10_play 79 = .ok (.iload 6, 2) := by decide +kernel
theorem dX10_play_81 : decode cX10_play 81 = .ok (.ireturn, 1) := by decide +kernel
theorem dX10_message_0 : decode cX10_message 0 = .ok (.aload_n 0, 1) := by decide +kernel
theorem dX10_message_1 : decode cX10_message 1 = .ok (.getfield 37, 3) := by decide +kernel
theorem dX10_message_4 : decode cX10_message 4 = .ok (.iload_n 1, 1) := by decide +kernel
theorem dX10_message_5 : decode cX10_message 5 = .ok (.invokevirtual 127, 3) := by decide +kernel
theorem dX10_message_8 : decode cX10_message 8 = .ok (.ifCond .eq 19, 3) := by decide +kernel
theorem dX10_message_11 : decode cX10_message 11 = .ok (.aload_n 0, 1) := by decide +kernel
theorem dX10_message_12 : decode cX10_message 12 = .ok (.getfield 37, 3) := by decide +kernel
theorem dX10_message_15 : decode cX10_message 15 = .ok (.getfield 143, 3) := by decide +kernel
theorem dX10_message_18 : decode cX10_message 18 = .ok (.iload_n 1, 1) := by decide +kernel
theorem dX10_message_19 : decode cX10_message 19 = .ok (.aaload, 1) := by decide +kernel
theorem dX10_message_20 : decode cX10_message 20 = .ok (.iload_n 2, 1) := by decide +kernel
theorem dX10_message_21 : decode cX10_message 21 = .ok (.invokevirtual 175, 3) := by decide +kernel
theorem dX10_message_24 : decode cX10_message 24 = .ok (.goto 4, 3) := by decide +kernel
theorem dX10_message_27 : decode cX10_message 27 = .ok (.iconst (-1), 1) := by decide +kernel
theorem dX10_message_28 : decode cX10_message 28 = .ok (.ireturn, 1) := by decide +kernel
theorem dX10_lock_0 : decode cX10_lock 0 = .ok (.aload_n 0, 1) := by decide +kernel
theorem dX10_lock_1 : decode cX10_lock 1 = .ok (.iload_n 1, 1) := by decide +kernel
theorem dX10_lock_2 : decode cX10_lock 2 = .ok (.invokevirtual 120, 3) := by decide +kernel
theorem dX10_lock_5 : decode cX10_lock 5 = .ok (.ifCond .ne 5, 3) := by decide +kernel
theorem dX10_lock_8 : decode cX10_lock 8 = .ok (.iconst (-1), 1) := by decide +kernel
theorem dX10_lock_9 : decode cX10_lock 9 = .ok (.ireturn, 1) := by decide +kernel
theorem dX10_lock_10 : decode cX10_lock 10 = .ok (.iload_n 2, 1) := by decide +kernel
theorem dX10_lock_11 : decode cX10_lock 11 = .ok (.tableswitch 60 0 2 #[25, 34, 43], 25) := by decide +kernel
theorem dX10_lock_36 : decode cX10_lock 36 = .ok (.aload_n 0, 1) := by decide +kernel
theorem dX10_lock_37 : decode cX10_lock 37 = .ok (.getfield 30, 3) := by decide +kernel
theorem dX10_lock_40 : decode cX10_lock 40 = .ok (.iload_n 1, 1) := by decide +kernel
theorem dX10_lock_41 : decode cX10_lock 41 = .ok (.invokevirtual 178, 3) := by decide +kernel
theorem dX10_lock_44 : decode cX10_lock 44 = .ok (.ireturn, 1) := by decide +kernel
theorem dX10_lock_45 : decode cX10_lock 45 = .ok (.aload_n 0, 1) := by decide +kernel
theorem dX10_lock_46 : decode cX10_lock 46 = .ok (.getfield 30, 3) := by decide +kernel
theorem dX10_lock_49 : decode cX10_lock 49 = .ok (.iload_n 1, 1) := by decide +kernel
theorem dX10_lock_50 : decode cX10_lock 50 = .ok (.invokevirtual 181, 3) := by decide +kernel
theorem dX10_lock_53 : decode cX10_lock 53 = .ok (.ireturn, 1) := by decide +kernel
theorem dX10_lock_54 : decode cX10_lock 54 = .ok (.aload_n 0, 1) := by decide +kernel
theorem dX10_lock_55 : decode cX10_lock 55 = .ok (.getfield 30, 3) := by decide +kernel
theorem dX10_lock_58 : decode cX10_lock 58 = .ok (.iload_n 1, 1) := by decide +kernel
theorem dX10_lock_59 : decode cX10_lock 59 = .ok (.invokevirtual 184, 3) := by decide +kernel
theorem dX10_lock_62 : decode cX10_lock 62 = .ok (.ifCond .eq 7, 3) := by decide +kernel
theorem dX10_lock_65 : decode cX10_lock 65 = .ok (.iconst 1, 1) := by decide +kernel
theorem dX10_lock_66 : decode cX10_lock 66 = .ok (.goto 4, 3) := by decide +kernel
theorem dX10_lock_69 : decode cX10_lock 69 = .ok (.iconst 0, 1) := by decide +kernel
theorem dX10_lock_70 : decode cX10_lock 70 = .ok (.ireturn, 1) := by decide +kernel
theorem dX10_lock_71 : decode cX10_lock 71 = .ok (.iconst (-1), 1) := by decide +kernel
theorem dX10_lock_72 : decode cX10_lock 72 = .ok (.ireturn, 1) := by decide +kernel
theorem dX10_node_0 : decode cX10_node 0 = .ok (.aload_n 0, 1) := by decide +kernel
theorem dX10_node_1 : decode cX10_node 1 = .ok (.iload_n 1, 1) := by decide +kernel
theorem dX10_node_2 : decode cX10_node 2 = .ok (.invokevirtual 160, 3) := by decide +kernel
theorem dX10_node_5 : decode cX10_node 5 = .ok (.astore_n 3, 1) := by decide +kernel
theorem dX10_node_6 : decode cX10_node 6 = .ok (.aload_n 3, 1) := by decide +kernel
theorem dX10_node_7 : decode cX10_node 7 = .ok (.ifnonnull 5, 3) := by decide +kernel
theorem dX10_node_10 : decode cX10_node 10 = .ok (.iconst (-1), 1) := by decide +kernel
theorem dX10_node_11 : decode cX10_node 11 = .ok (.ireturn, 1) := by decide +kernel
theorem dX10_node_12 : decode cX10_node 12 = .ok (.iload_n 2, 1) := by decide +kernel
theorem dX10_node_13 : decode cX10_node 13 = .ok (.lookupswitch 48 #[(0, 27), (1, 40)], 27) := by decide +kernel
theorem dX10_node_40 : decode cX10_node 40 = .ok (.aload_n 3, 1) := by decide +kernel
theorem dX10_node_41 : decode cX10_node 41 = .ok (.getfield 164, 3) := by decide +kernel
theorem dX10_node_44 : decode cX10_node 44 = .ok (.ifCond .eq 7, 3) := by decide +kernel
theorem dX10_node_47 : decode cX10_node 47 = .ok (.iconst 1, 1) := by decide +kernel
theorem dX10_node_48 : decode cX10_node 48 = .ok (.goto 4, 3) := by decide +kernel
theorem dX10_node_51 : decode cX10_node 51 = .ok (.iconst 0, 1) := by decide +kernel
theorem dX10_node_52 : decode cX10_node 52 = .ok (.ireturn, 1) := by decide +kernel
theorem dX10_node_53 : decode cX10_node 53 = .ok (.aload_n 3, 1) := by decide +kernel
theorem dX10_node_54 : decode cX10_node 54 = .ok (.getfield 187, 3) := by decide +kernel
theorem dX10_node_57 : decode cX10_node 57 = .ok (.getfield 191, 3) := by decide +kernel
theorem dX10_node_60 : decode cX10_node 60 = .ok (.ireturn, 1) := by decide +kernel
theorem dX10_node_61 : decode cX10_node 61 = .ok (.aload_n 3, 1) := by decide +kernel
theorem dX10_node_62 : decode cX10_node 62 = .ok (.iload_n 2, 1) := by decide +kernel
theorem dX10_node_63 : decode cX10_node 63 = .ok (.invokevirtual 196, 3) := by decide +kernel
theorem dX10_node_66 : decode cX10_node 66 = .ok (.ireturn, 1) := by decide +kernel
theorem dX10_entry_0 : decode cX10_entry 0 = .ok (.aload_n 0, 1) := by decide +kernel
theorem dX10_entry_1 : decode cX10_entry 1 = .ok (.iload_n 1, 1) := by decide +kernel
theorem dX10_entry_2 : decode cX10_entry 2 = .ok (.invokevirtual 160, 3) := by decide +kernel
theorem dX10_entry_5 : decode cX10_entry 5 = .ok (.astore 4, 2) := by decide +kernel
theorem dX10_entry_7 : decode cX10_entry 7 = .ok (.aload 4, 2) := by decide +kernel
theorem dX10_entry_9 : decode cX10_entry 9 = .ok (.ifnonnull 7, 3) := by decide +kernel
theorem dX10_entry_12 : decode cX10_entry 12 = .ok (.iconst (-1), 1) := by decide +kernel
theorem dX10_entry_13 : decode cX10_entry 13 = .ok (.goto 13, 3) := by decide +kernel
theorem dX10_entry_16 : decode cX10_entry 16 = .ok (.aload 4, 2) := by decide +kernel
theorem dX10_entry_18 : decode cX10_entry 18 = .ok (.getfield 187, 3) := by decide +kernel
theorem dX10_entry_21 : decode cX10_entry 21 = .ok (.iload_n 2, 1) := by decide +kernel
theorem dX10_entry_22 : decode cX10_entry 22 = .ok (.iload_n 3, 1) := by decide +kernel
theorem dX10_entry_23 : decode cX10_entry 23 = .ok (.invokevirtual 197, 3) := by decide +kernel
theorem dX10_entry_26 : decode cX10_entry 26 = .ok (.ireturn, 1) := by decide +kernel
theorem dX10_ballot_0 : decode cX10_ballot 0 = .ok (.aload_n 0, 1) := by decide +kernel
theorem dX10_ballot_1 : decode cX10_ballot 1 = .ok (.iload_n 1, 1) := by decide +kernel
theorem dX10_ballot_2 : decode cX10_ballot 2 = .ok (.invokevirtual 153, 3) := by decide +kernel
theorem dX10_ballot_5 : decode cX10_ballot 5 = .ok (.astore 4, 2) := by decide +kernel
theorem dX10_ballot_7 : decode cX10_ballot 7 = .ok (.aload 4, 2) := by decide +kernel
theorem dX10_ballot_9 : decode cX10_ballot 9 = .ok (.ifnull 11, 3) := by decide +kernel
theorem dX10_ballot_12 : decode cX10_ballot 12 = .ok (.aload_n 0, 1) := by decide +kernel
theorem dX10_ballot_13 : decode cX10_ballot 13 = .ok (.iload_n 2, 1) := by decide +kernel
theorem dX10_ballot_14 : decode cX10_ballot 14 = .ok (.invokevirtual 66, 3) := by decide +kernel
theorem dX10_ballot_17 : decode cX10_ballot 17 = .ok (.ifCond .ne 5, 3) := by decide +kernel
theorem dX10_ballot_20 : decode cX10_ballot 20 = .ok (.iconst (-1), 1) := by decide +kernel
theorem dX10_ballot_21 : decode cX10_ballot 21 = .ok (.ireturn, 1) := by decide +kernel
theorem dX10_ballot_22 : decode cX10_ballot 22 = .ok (.aload 4, 2) := by decide +kernel
theorem dX10_ballot_24 : decode cX10_ballot 24 = .ok (.getfield 200, 3) := by decide +kernel
theorem dX10_ballot_27 : decode cX10_ballot 27 = .ok (.iload_n 2, 1) := by decide +kernel
theorem dX10_ballot_28 : decode cX10_ballot 28 = .ok (.aaload, 1) := by decide +kernel
theorem dX10_ballot_29 : decode cX10_ballot 29 = .ok (.iload_n 3, 1) := by decide +kernel
theorem dX10_ballot_30 : decode cX10_ballot 30 = .ok (.invokevirtual 204, 3) := by decide +kernel
theorem dX10_ballot_33 : decode cX10_ballot 33 = .ok (.ireturn, 1) := by decide +kernel
theorem dX10_accepted_0 : decode cX10_accepted 0 = .ok (.aload_n 0, 1) := by decide +kernel
theorem dX10_accepted_1 : decode cX10_accepted 1 = .ok (.iload_n 1, 1) := by decide +kernel
theorem dX10_accepted_2 : decode cX10_accepted 2 = .ok (.invokevirtual 153, 3) := by decide +kernel
theorem dX10_accepted_5 : decode cX10_accepted 5 = .ok (.astore 5, 2) := by decide +kernel
theorem dX10_accepted_7 : decode cX10_accepted 7 = .ok (.aload 5, 2) := by decide +kernel
theorem dX10_accepted_9 : decode cX10_accepted 9 = .ok (.ifnull 26, 3) := by decide +kernel
theorem dX10_accepted_12 : decode cX10_accepted 12 = .ok (.aload_n 0, 1) := by decide +kernel
theorem dX10_accepted_13 : decode cX10_accepted 13 = .ok (.iload_n 2, 1) := by decide +kernel
theorem dX10_accepted_14 : decode cX10_accepted 14 = .ok (.invokevirtual 66, 3) := by decide +kernel
theorem dX10_accepted_17 : decode cX10_accepted 17 = .ok (.ifCond .eq 18, 3) := by decide +kernel
theorem dX10_accepted_20 : decode cX10_accepted 20 = .ok (.iload_n 3, 1) := by decide +kernel
theorem dX10_accepted_21 : decode cX10_accepted 21 = .ok (.ifCond .lt 14, 3) := by decide +kernel
theorem dX10_accepted_24 : decode cX10_accepted 24 = .ok (.iload_n 3, 1) := by decide +kernel
theorem dX10_accepted_25 : decode cX10_accepted 25 = .ok (.aload_n 0, 1) := by decide +kernel
theorem dX10_accepted_26 : decode cX10_accepted 26 = .ok (.getfield 12, 3) := by decide +kernel
theorem dX10_accepted_29 : decode cX10_accepted 29 = .ok (.getfield 41, 3) := by decide +kernel
theorem dX10_accepted_32 : decode cX10_accepted 32 = .ok (.if_icmp .lt 5, 3) := by decide +kernel
theorem dX10_accepted_35 : decode cX10_accepted 35 = .ok (.iconst (-1), 1) := by decide +kernel
theorem dX10_accepted_36 : decode cX10_accepted 36 = .ok (.ireturn, 1) := by decide +kernel
theorem dX10_accepted_37 : decode cX10_accepted 37 = .ok (.aload 5, 2) := by decide +kernel
theorem dX10_accepted_39 : decode cX10_accepted 39 = .ok (.getfield 200, 3) := by decide +kernel
theorem dX10_accepted_42 : decode cX10_accepted 42 = .ok (.iload_n 2, 1) := by decide +kernel
theorem dX10_accepted_43 : decode cX10_accepted 43 = .ok (.aaload, 1) := by decide +kernel
theorem dX10_accepted_44 : decode cX10_accepted 44 = .ok (.iload_n 3, 1) := by decide +kernel
theorem dX10_accepted_45 : decode cX10_accepted 45 = .ok (.iload 4, 2) := by decide +kernel
theorem dX10_accepted_47 : decode cX10_accepted 47 = .ok (.invokevirtual 209, 3) := by decide +kernel
theorem dX10_accepted_50 : decode cX10_accepted 50 = .ok (.ireturn, 1) := by decide +kernel
theorem dX10_count_0 : decode cX10_count 0 = .ok (.iload_n 1, 1) := by decide +kernel
theorem dX10_count_1 : decode cX10_count 1 = .ok (.tableswitch 122 0 8 #[51, 59, 67, 72, 81, 90, 98, 106, 114], 51) := by decide +kernel
theorem dX10_count_52 : decode cX10_count 52 = .ok (.aload_n 0, 1) := by decide +kernel
theorem dX10_count_53 : decode cX10_count 53 = .ok (.getfield 37, 3) := by decide +kernel
theorem dX10_count_56 : decode cX10_count 56 = .ok (.getfield 212, 3) := by decide +kernel
theorem dX10_count_59 : decode cX10_count 59 = .ok (.ireturn, 1) := by decide +kernel
theorem dX10_count_60 : decode cX10_count 60 = .ok (.aload_n 0, 1) := by decide +kernel
theorem dX10_count_61 : decode cX10_count 61 = .ok (.getfield 37, 3) := by decide +kernel
theorem dX10_count_64 : decode cX10_count 64 = .ok (.getfield 215, 3) := by decide +kernel
theorem dX10_count_67 : decode cX10_count 67 = .ok (.ireturn, 1) := by decide +kernel
theorem dX10_count_68 : decode cX10_count 68 = .ok (.aload_n 0, 1) := by decide +kernel
theorem dX10_count_69 : decode cX10_count 69 = .ok (.getfield 218, 3) := by decide +kernel
theorem dX10_count_72 : decode cX10_count 72 = .ok (.ireturn, 1) := by decide +kernel
theorem dX10_count_73 : decode cX10_count 73 = .ok (.aload_n 0, 1) := by decide +kernel
theorem dX10_count_74 : decode cX10_count 74 = .ok (.getfield 23, 3) := by decide +kernel
theorem dX10_count_77 : decode cX10_count 77 = .ok (.iconst 3, 1) := by decide +kernel
theorem dX10_count_78 : decode cX10_count 78 = .ok (.invokevirtual 221, 3) := by decide +kernel
theorem dX10_count_81 : decode cX10_count 81 = .ok (.ireturn, 1) := by decide +kernel
theorem dX10_count_82 : decode cX10_count 82 = .ok (.aload_n 0, 1) := by decide +kernel
theorem dX10_count_83 : decode cX10_count 83 = .ok (.getfield 23, 3) := by decide +kernel
theorem dX10_count_86 : decode cX10_count 86 = .ok (.iconst 4, 1) := by decide +kernel
theorem dX10_count_87 : decode cX10_count 87 = .ok (.invokevirtual 221, 3) := by decide +kernel
theorem dX10_count_90 : decode cX10_count 90 = .ok (.ireturn, 1) := by decide +kernel
theorem dX10_count_91 : decode cX10_count 91 = .ok (.aload_n 0, 1) := by decide +kernel
theorem dX10_count_92 : decode cX10_count 92 = .ok (.getfield 12, 3) := by decide +kernel
theorem dX10_count_95 : decode cX10_count 95 = .ok (.getfield 41, 3) := by decide +kernel
theorem dX10_count_98 : decode cX10_count 98 = .ok (.ireturn, 1) := by decide +kernel
theorem dX10_count_99 : decode cX10_count 99 = .ok (.aload_n 0, 1) := by decide +kernel
theorem dX10_count_100 : decode cX10_count 100 = .ok (.getfield 12, 3) := by decide +kernel
theorem dX10_count_103 : decode cX10_count 103 = .ok (.getfield 54, 3) := by decide +kernel
theorem dX10_count_106 : decode cX10_count 106 = .ok (.ireturn, 1) := by decide +kernel
theorem dX10_count_107 : decode cX10_count 107 = .ok (.aload_n 0, 1) := by decide +kernel
theorem dX10_count_108 : decode cX10_count 108 = .ok (.getfield 12, 3) := by decide +kernel
theorem dX10_count_111 : decode cX10_count 111 = .ok (.getfield 224, 3) := by decide +kernel
theorem dX10_count_114 : decode cX10_count 114 = .ok (.ireturn, 1) := by decide +kernel
theorem dX10_count_115 : decode cX10_count 115 = .ok (.aload_n 0, 1) := by decide +kernel
theorem dX10_count_116 : decode cX10_count 116 = .ok (.getfield 12, 3) := by decide +kernel
theorem dX10_count_119 : decode cX10_count 119 = .ok (.getfield 226, 3) := by decide +kernel
theorem dX10_count_122 : decode cX10_count 122 = .ok (.ireturn, 1) := by decide +kernel
theorem dX10_count_123 : decode cX10_count 123 = .ok (.iconst (-1), 1) := by decide +kernel
theorem dX10_count_124 : decode cX10_count 124 = .ok (.ireturn, 1) := by decide +kernel
theorem dX10_isTxn_0 : decode cX10_isTxn 0 = .ok (.iload_n 1, 1) := by decide +kernel
theorem dX10_isTxn_1 : decode cX10_isTxn 1 = .ok (.ifCond .lt 18, 3) := by decide +kernel
theorem dX10_isTxn_4 : decode cX10_isTxn 4 = .ok (.iload_n 1, 1) := by decide +kernel
theorem dX10_isTxn_5 : decode cX10_isTxn 5 = .ok (.aload_n 0, 1) := by decide +kernel
theorem dX10_isTxn_6 : decode cX10_isTxn 6 = .ok (.getfield 12, 3) := by decide +kernel
theorem dX10_isTxn_9 : decode cX10_isTxn 9 = .ok (.getfield 224, 3) := by decide +kernel
theorem dX10_isTxn_12 : decode cX10_isTxn 12 = .ok (.if_icmp .ge 7, 3) := by decide +kernel
theorem dX10_isTxn_15 : decode cX10_isTxn 15 = .ok (.iconst 1, 1) := by decide +kernel
theorem dX10_isTxn_16 : decode cX10_isTxn 16 = .ok (.goto 4, 3) := by decide +kernel
theorem dX10_isTxn_19 : decode cX10_isTxn 19 = .ok (.iconst 0, 1) := by decide +kernel
theorem dX10_isTxn_20 : decode cX10_isTxn 20 = .ok (.ireturn, 1) := by decide +kernel
theorem dX10_isKey_0 : decode cX10_isKey 0 = .ok (.iload_n 1, 1) := by decide +kernel
theorem dX10_isKey_1 : decode cX10_isKey 1 = .ok (.ifCond .lt 18, 3) := by decide +kernel
theorem dX10_isKey_4 : decode cX10_isKey 4 = .ok (.iload_n 1, 1) := by decide +kernel
theorem dX10_isKey_5 : decode cX10_isKey 5 = .ok (.aload_n 0, 1) := by decide +kernel
theorem dX10_isKey_6 : decode cX10_isKey 6 = .ok (.getfield 12, 3) := by decide +kernel
theorem dX10_isKey_9 : decode cX10_isKey 9 = .ok (.getfield 226, 3) := by decide +kernel
theorem dX10_isKey_12 : decode cX10_isKey 12 = .ok (.if_icmp .ge 7, 3) := by decide +kernel
theorem dX10_isKey_15 : decode cX10_isKey 15 = .ok (.iconst 1, 1) := by decide +kernel
theorem dX10_isKey_16 : decode cX10_isKey 16 = .ok (.goto 4, 3) := by decide +kernel
theorem dX10_isKey_19 : decode cX10_isKey 19 = .ok (.iconst 0, 1) := by decide +kernel
theorem dX10_isKey_20 : decode cX10_isKey 20 = .ok (.ireturn, 1) := by decide +kernel
theorem dX10_acceptorAt_0 : decode cX10_acceptorAt 0 = .ok (.iload_n 1, 1) := by decide +kernel
theorem dX10_acceptorAt_1 : decode cX10_acceptorAt 1 = .ok (.aload_n 0, 1) := by decide +kernel
theorem dX10_acceptorAt_2 : decode cX10_acceptorAt 2 = .ok (.getfield 12, 3) := by decide +kernel
theorem dX10_acceptorAt_5 : decode cX10_acceptorAt 5 = .ok (.getfield 41, 3) := by decide +kernel
theorem dX10_acceptorAt_8 : decode cX10_acceptorAt 8 = .ok (.if_icmp .lt 31, 3) := by decide +kernel
theorem dX10_acceptorAt_11 : decode cX10_acceptorAt 11 = .ok (.iload_n 1, 1) := by decide +kernel
theorem dX10_acceptorAt_12 : decode cX10_acceptorAt 12 = .ok (.aload_n 0, 1) := by decide +kernel
theorem dX10_acceptorAt_13 : decode cX10_acceptorAt 13 = .ok (.getfield 12, 3) := by decide +kernel
theorem dX10_acceptorAt_16 : decode cX10_acceptorAt 16 = .ok (.invokevirtual 92, 3) := by decide +kernel
theorem dX10_acceptorAt_19 : decode cX10_acceptorAt 19 = .ok (.if_icmp .ge 20, 3) := by decide +kernel
theorem dX10_acceptorAt_22 : decode cX10_acceptorAt 22 = .ok (.aload_n 0, 1) := by decide +kernel
theorem dX10_acceptorAt_23 : decode cX10_acceptorAt 23 = .ok (.getfield 59, 3) := by decide +kernel
theorem dX10_acceptorAt_26 : decode cX10_acceptorAt 26 = .ok (.iload_n 1, 1) := by decide +kernel
theorem dX10_acceptorAt_27 : decode cX10_acceptorAt 27 = .ok (.aload_n 0, 1) := by decide +kernel
theorem dX10_acceptorAt_28 : decode cX10_acceptorAt 28 = .ok (.getfield 12, 3) := by decide +kernel
theorem dX10_acceptorAt_31 : decode cX10_acceptorAt 31 = .ok (.getfield 41, 3) := by decide +kernel
theorem dX10_acceptorAt_34 : decode cX10_acceptorAt 34 = .ok (.isub, 1) := by decide +kernel
theorem dX10_acceptorAt_35 : decode cX10_acceptorAt 35 = .ok (.aaload, 1) := by decide +kernel
theorem dX10_acceptorAt_36 : decode cX10_acceptorAt 36 = .ok (.goto 4, 3) := by decide +kernel
theorem dX10_acceptorAt_39 : decode cX10_acceptorAt 39 = .ok (.aconst_null, 1) := by decide +kernel
theorem dX10_acceptorAt_40 : decode cX10_acceptorAt 40 = .ok (.areturn, 1) := by decide +kernel
theorem dX10_nodeAt_0 : decode cX10_nodeAt 0 = .ok (.iload_n 1, 1) := by decide +kernel
theorem dX10_nodeAt_1 : decode cX10_nodeAt 1 = .ok (.ifCond .lt 21, 3) := by decide +kernel
theorem dX10_nodeAt_4 : decode cX10_nodeAt 4 = .ok (.iload_n 1, 1) := by decide +kernel
theorem dX10_nodeAt_5 : decode cX10_nodeAt 5 = .ok (.aload_n 0, 1) := by decide +kernel
theorem dX10_nodeAt_6 : decode cX10_nodeAt 6 = .ok (.getfield 12, 3) := by decide +kernel
theorem dX10_nodeAt_9 : decode cX10_nodeAt 9 = .ok (.getfield 41, 3) := by decide +kernel
theorem dX10_nodeAt_12 : decode cX10_nodeAt 12 = .ok (.if_icmp .ge 10, 3) := by decide +kernel
theorem dX10_nodeAt_15 : decode cX10_nodeAt 15 = .ok (.aload_n 0, 1) := by decide +kernel
theorem dX10_nodeAt_16 : decode cX10_nodeAt 16 = .ok (.getfield 47, 3) := by decide +kernel
theorem dX10_nodeAt_19 : decode cX10_nodeAt 19 = .ok (.iload_n 1, 1) := by decide +kernel
theorem dX10_nodeAt_20 : decode cX10_nodeAt 20 = .ok (.aaload, 1) := by decide +kernel
theorem dX10_nodeAt_21 : decode cX10_nodeAt 21 = .ok (.areturn, 1) := by decide +kernel
theorem dX10_nodeAt_22 : decode cX10_nodeAt 22 = .ok (.aload_n 0, 1) := by decide +kernel
theorem dX10_nodeAt_23 : decode cX10_nodeAt 23 = .ok (.iload_n 1, 1) := by decide +kernel
theorem dX10_nodeAt_24 : decode cX10_nodeAt 24 = .ok (.invokevirtual 153, 3) := by decide +kernel
theorem dX10_nodeAt_27 : decode cX10_nodeAt 27 = .ok (.areturn, 1) := by decide +kernel
theorem dX10_access_0 : decode cX10_access 0 = .ok (.aload_n 0, 1) := by decide +kernel
theorem dX10_access_1 : decode cX10_access 1 = .ok (.iload_n 1, 1) := by decide +kernel
theorem dX10_access_2 : decode cX10_access 2 = .ok (.invokevirtual 66, 3) := by decide +kernel
theorem dX10_access_5 : decode cX10_access 5 = .ok (.ifCond .eq 11, 3) := by decide +kernel
theorem dX10_access_8 : decode cX10_access 8 = .ok (.aload_n 0, 1) := by decide +kernel
theorem dX10_access_9 : decode cX10_access 9 = .ok (.iload_n 2, 1) := by decide +kernel
theorem dX10_access_10 : decode cX10_access 10 = .ok (.invokevirtual 120, 3) := by decide +kernel
theorem dX10_access_13 : decode cX10_access 13 = .ok (.ifCond .ne 5, 3) := by decide +kernel
theorem dX10_access_16 : decode cX10_access 16 = .ok (.iconst (-1), 1) := by decide +kernel
theorem dX10_access_17 : decode cX10_access 17 = .ok (.ireturn, 1) := by decide +kernel
theorem dX10_access_18 : decode cX10_access 18 = .ok (.aload_n 0, 1) := by decide +kernel
theorem dX10_access_19 : decode cX10_access 19 = .ok (.getfield 23, 3) := by decide +kernel
theorem dX10_access_22 : decode cX10_access 22 = .ok (.getfield 70, 3) := by decide +kernel
theorem dX10_access_25 : decode cX10_access 25 = .ok (.iload_n 1, 1) := by decide +kernel
theorem dX10_access_26 : decode cX10_access 26 = .ok (.iaload, 1) := by decide +kernel
theorem dX10_access_27 : decode cX10_access 27 = .ok (.iconst 1, 1) := by decide +kernel
theorem dX10_access_28 : decode cX10_access 28 = .ok (.if_icmp .eq 5, 3) := by decide +kernel
theorem dX10_access_31 : decode cX10_access 31 = .ok (.iconst 0, 1) := by decide +kernel
theorem dX10_access_32 : decode cX10_access 32 = .ok (.ireturn, 1) := by decide +kernel
theorem dX10_access_33 : decode cX10_access 33 = .ok (.aload_n 0, 1) := by decide +kernel
theorem dX10_access_34 : decode cX10_access 34 = .ok (.getfield 47, 3) := by decide +kernel
theorem dX10_access_37 : decode cX10_access 37 = .ok (.aload_n 0, 1) := by decide +kernel
theorem dX10_access_38 : decode cX10_access 38 = .ok (.getfield 12, 3) := by decide +kernel
theorem dX10_access_41 : decode cX10_access 41 = .ok (.iload_n 2, 1) := by decide +kernel
theorem dX10_access_42 : decode cX10_access 42 = .ok (.invokevirtual 228, 3) := by decide +kernel
theorem dX10_access_45 : decode cX10_access 45 = .ok (.aaload, 1) := by decide +kernel
theorem dX10_access_46 : decode cX10_access 46 = .ok (.astore 4, 2) := by decide +kernel
theorem dX10_access_48 : decode cX10_access 48 = .ok (.aload 4, 2) := by decide +kernel
theorem dX10_access_50 : decode cX10_access 50 = .ok (.getfield 112, 3) := by decide +kernel
theorem dX10_access_53 : decode cX10_access 53 = .ok (.ifCond .ne 5, 3) := by decide +kernel
theorem dX10_access_56 : decode cX10_access 56 = .ok (.iconst 3, 1) := by decide +kernel
theorem dX10_access_57 : decode cX10_access 57 = .ok (.ireturn, 1) := by decide +kernel
theorem dX10_access_58 : decode cX10_access 58 = .ok (.aload_n 0, 1) := by decide +kernel
theorem dX10_access_59 : decode cX10_access 59 = .ok (.getfield 23, 3) := by decide +kernel
theorem dX10_access_62 : decode cX10_access 62 = .ok (.iload_n 1, 1) := by decide +kernel
theorem dX10_access_63 : decode cX10_access 63 = .ok (.aload 4, 2) := by decide +kernel
theorem dX10_access_65 : decode cX10_access 65 = .ok (.getfield 231, 3) := by decide +kernel
theorem dX10_access_68 : decode cX10_access 68 = .ok (.invokevirtual 100, 3) := by decide +kernel
theorem dX10_access_71 : decode cX10_access 71 = .ok (.ifCond .eq 15, 3) := by decide +kernel
theorem dX10_access_74 : decode cX10_access 74 = .ok (.aload 4, 2) := by decide +kernel
theorem dX10_access_76 : decode cX10_access 76 = .ok (.getfield 234, 3) := by decide +kernel
theorem dX10_access_79 : decode cX10_access 79 = .ok (.iload_n 1, 1) := by decide +kernel
theorem dX10_access_80 : decode cX10_access 80 = .ok (.baload, 1) := by decide +kernel
theorem dX10_access_81 : decode cX10_access 81 = .ok (.ifCond .ne 5, 3) := by decide +kernel
theorem dX10_access_84 : decode cX10_access 84 = .ok (.iconst 4, 1) := by decide +kernel
theorem dX10_access_85 : decode cX10_access 85 = .ok (.ireturn, 1) := by decide +kernel
theorem dX10_access_86 : decode cX10_access 86 = .ok (.aload_n 0, 1) := by decide +kernel
theorem dX10_access_87 : decode cX10_access 87 = .ok (.getfield 30, 3) := by decide +kernel
theorem dX10_access_90 : decode cX10_access 90 = .ok (.iload_n 1, 1) := by decide +kernel
theorem dX10_access_91 : decode cX10_access 91 = .ok (.iload_n 2, 1) := by decide +kernel
theorem dX10_access_92 : decode cX10_access 92 = .ok (.iload_n 3, 1) := by decide +kernel
theorem dX10_access_93 : decode cX10_access 93 = .ok (.invokevirtual 238, 3) := by decide +kernel
theorem dX10_access_96 : decode cX10_access 96 = .ok (.ifCond .ne 5, 3) := by decide +kernel
theorem dX10_access_99 : decode cX10_access 99 = .ok (.iconst 2, 1) := by decide +kernel
theorem dX10_access_100 : decode cX10_access 100 = .ok (.ireturn, 1) := by decide +kernel
theorem dX10_access_101 : decode cX10_access 101 = .ok (.aload_n 0, 1) := by decide +kernel
theorem dX10_access_102 : decode cX10_access 102 = .ok (.getfield 30, 3) := by decide +kernel
theorem dX10_access_105 : decode cX10_access 105 = .ok (.iload_n 1, 1) := by decide +kernel
theorem dX10_access_106 : decode cX10_access 106 = .ok (.iload_n 2, 1) := by decide +kernel
theorem dX10_access_107 : decode cX10_access 107 = .ok (.iload_n 3, 1) := by decide +kernel
theorem dX10_access_108 : decode cX10_access 108 = .ok (.invokevirtual 242, 3) := by decide +kernel
theorem dX10_access_111 : decode cX10_access 111 = .ok (.aload 4, 2) := by decide +kernel
theorem dX10_access_113 : decode cX10_access 113 = .ok (.getfield 234, 3) := by decide +kernel
theorem dX10_access_116 : decode cX10_access 116 = .ok (.iload_n 1, 1) := by decide +kernel
theorem dX10_access_117 : decode cX10_access 117 = .ok (.iconst 1, 1) := by decide +kernel
theorem dX10_access_118 : decode cX10_access 118 = .ok (.bastore, 1) := by decide +kernel
theorem dX10_access_119 : decode cX10_access 119 = .ok (.aload_n 0, 1) := by decide +kernel
theorem dX10_access_120 : decode cX10_access 120 = .ok (.getfield 23, 3) := by decide +kernel
theorem dX10_access_123 : decode cX10_access 123 = .ok (.iload_n 1, 1) := by decide +kernel
theorem dX10_access_124 : decode cX10_access 124 = .ok (.aload 4, 2) := by decide +kernel
theorem dX10_access_126 : decode cX10_access 126 = .ok (.getfield 231, 3) := by decide +kernel
theorem dX10_access_129 : decode cX10_access 129 = .ok (.invokevirtual 245, 3) := by decide +kernel
theorem dX10_access_132 : decode cX10_access 132 = .ok (.iconst 1, 1) := by decide +kernel
theorem dX10_access_133 : decode cX10_access 133 = .ok (.ireturn, 1) := by decide +kernel
theorem dX10_handOver_0 : decode cX10_handOver 0 = .ok (.aload_n 0, 1) := by decide +kernel
theorem dX10_handOver_1 : decode cX10_handOver 1 = .ok (.getfield 37, 3) := by decide +kernel
theorem dX10_handOver_4 : decode cX10_handOver 4 = .ok (.iload_n 1, 1) := by decide +kernel
theorem dX10_handOver_5 : decode cX10_handOver 5 = .ok (.invokevirtual 134, 3) := by decide +kernel
theorem dX10_handOver_8 : decode cX10_handOver 8 = .ok (.astore_n 2, 1) := by decide +kernel
theorem dX10_handOver_9 : decode cX10_handOver 9 = .ok (.aload_n 0, 1) := by decide +kernel
theorem dX10_handOver_10 : decode cX10_handOver 10 = .ok (.dup, 1) := by decide +kernel
theorem dX10_handOver_11 : decode cX10_handOver 11 = .ok (.getfield 218, 3) := by decide +kernel
theorem dX10_handOver_14 : decode cX10_handOver 14 = .ok (.iconst 1, 1) := by decide +kernel
theorem dX10_handOver_15 : decode cX10_handOver 15 = .ok (.iadd, 1) := by decide +kernel
theorem dX10_handOver_16 : decode cX10_handOver 16 = .ok (.putfield 218, 3) := by decide +kernel
theorem dX10_handOver_19 : decode cX10_handOver 19 = .ok (.aload_n 2, 1) := by decide +kernel
theorem dX10_handOver_20 : decode cX10_handOver 20 = .ok (.getfield 147, 3) := by decide +kernel
theorem dX10_handOver_23 : decode cX10_handOver 23 = .ok (.aload_n 0, 1) := by decide +kernel
theorem dX10_handOver_24 : decode cX10_handOver 24 = .ok (.getfield 12, 3) := by decide +kernel
theorem dX10_handOver_27 : decode cX10_handOver 27 = .ok (.invokevirtual 92, 3) := by decide +kernel
theorem dX10_handOver_30 : decode cX10_handOver 30 = .ok (.if_icmp .ne 23, 3) := by decide +kernel
theorem dX10_handOver_33 : decode cX10_handOver 33 = .ok (.aload_n 0, 1) := by decide +kernel
theorem dX10_handOver_34 : decode cX10_handOver 34 = .ok (.getfield 23, 3) := by decide +kernel
theorem dX10_handOver_37 : decode cX10_handOver 37 = .ok (.aload_n 2, 1) := by decide +kernel
theorem dX10_handOver_38 : decode cX10_handOver 38 = .ok (.getfield 249, 3) := by decide +kernel
theorem dX10_handOver_41 : decode cX10_handOver 41 = .ok (.aload_n 2, 1) := by decide +kernel
theorem dX10_handOver_42 : decode cX10_handOver 42 = .ok (.getfield 252, 3) := by decide +kernel
theorem dX10_handOver_45 : decode cX10_handOver 45 = .ok (.invokevirtual 255, 3) := by decide +kernel
theorem dX10_handOver_48 : decode cX10_handOver 48 = .ok (.aload_n 2, 1) := by decide +kernel
theorem dX10_handOver_49 : decode cX10_handOver 49 = .ok (.getfield 138, 3) := by decide +kernel
theorem dX10_handOver_52 : decode cX10_handOver 52 = .ok (.ireturn, 1) := by decide +kernel
theorem dX10_handOver_53 : decode cX10_handOver 53 = .ok (.aload_n 0, 1) := by decide +kernel
theorem dX10_handOver_54 : decode cX10_handOver 54 = .ok (.aload_n 2, 1) := by decide +kernel
theorem dX10_handOver_55 : decode cX10_handOver 55 = .ok (.getfield 147, 3) := by decide +kernel
theorem dX10_handOver_58 : decode cX10_handOver 58 = .ok (.invokevirtual 160, 3) := by decide +kernel
theorem dX10_handOver_61 : decode cX10_handOver 61 = .ok (.astore_n 3, 1) := by decide +kernel
theorem dX10_handOver_62 : decode cX10_handOver 62 = .ok (.aload_n 3, 1) := by decide +kernel
theorem dX10_handOver_63 : decode cX10_handOver 63 = .ok (.ifnull 10, 3) := by decide +kernel
theorem dX10_handOver_66 : decode cX10_handOver 66 = .ok (.aload_n 3, 1) := by decide +kernel
theorem dX10_handOver_67 : decode cX10_handOver 67 = .ok (.getfield 164, 3) := by decide +kernel
theorem dX10_handOver_70 : decode cX10_handOver 70 = .ok (.ifCond .ne 6, 3) := by decide +kernel
theorem dX10_handOver_73 : decode cX10_handOver 73 = .ok (.bipush 9, 2) := by decide +kernel
theorem dX10_handOver_75 : decode cX10_handOver 75 = .ok (.ireturn, 1) := by decide +kernel
theorem dX10_handOver_76 : decode cX10_handOver 76 = .ok (.aload_n 3, 1) := by decide +kernel
theorem dX10_handOver_77 : decode cX10_handOver 77 = .ok (.aload_n 2, 1) := by decide +kernel
theorem dX10_handOver_78 : decode cX10_handOver 78 = .ok (.invokevirtual 258, 3) := by decide +kernel
theorem dX10_handOver_81 : decode cX10_handOver 81 = .ok (.ifCond .eq 10, 3) := by decide +kernel
theorem dX10_handOver_84 : decode cX10_handOver 84 = .ok (.aload_n 2, 1) := by decide +kernel
theorem dX10_handOver_85 : decode cX10_handOver 85 = .ok (.getfield 138, 3) := by decide +kernel
theorem dX10_handOver_88 : decode cX10_handOver 88 = .ok (.goto 5, 3) := by decide +kernel
theorem dX10_handOver_91 : decode cX10_handOver 91 = .ok (.bipush 10, 2) := by decide +kernel
theorem dX10_handOver_93 : decode cX10_handOver 93 = .ok (.ireturn, 1) := by decide +kernel
theorem dX11_init_0 : decode cX11_init 0 = .ok (.aload_n 0, 1) := by decide +kernel
theorem dX11_init_1 : decode cX11_init 1 = .ok (.invokespecial 1, 3) := by decide +kernel
theorem dX11_init_4 : decode cX11_init 4 = .ok (.aload_n 0, 1) := by decide +kernel
theorem dX11_init_5 : decode cX11_init 5 = .ok (.bipush 9, 2) := by decide +kernel
theorem dX11_init_7 : decode cX11_init 7 = .ok (.newarray .boolean, 2) := by decide +kernel
theorem dX11_init_9 : decode cX11_init 9 = .ok (.putfield 7, 3) := by decide +kernel
theorem dX11_init_12 : decode cX11_init 12 = .ok (.aload_n 0, 1) := by decide +kernel
theorem dX11_init_13 : decode cX11_init 13 = .ok (.bipush 9, 2) := by decide +kernel
theorem dX11_init_15 : decode cX11_init 15 = .ok (.newarray .int, 2) := by decide +kernel
theorem dX11_init_17 : decode cX11_init 17 = .ok (.putfield 13, 3) := by decide +kernel
theorem dX11_init_20 : decode cX11_init 20 = .ok (.aload_n 0, 1) := by decide +kernel
theorem dX11_init_21 : decode cX11_init 21 = .ok (.sipush 7200, 3) := by decide +kernel
theorem dX11_init_24 : decode cX11_init 24 = .ok (.newarray .int, 2) := by decide +kernel
theorem dX11_init_26 : decode cX11_init 26 = .ok (.putfield 17, 3) := by decide +kernel
theorem dX11_init_29 : decode cX11_init 29 = .ok (.aload_n 0, 1) := by decide +kernel
theorem dX11_init_30 : decode cX11_init 30 = .ok (.bipush 32, 2) := by decide +kernel
theorem dX11_init_32 : decode cX11_init 32 = .ok (.newarray .long, 2) := by decide +kernel
theorem dX11_init_34 : decode cX11_init 34 = .ok (.putfield 20, 3) := by decide +kernel
theorem dX11_init_37 : decode cX11_init 37 = .ok (.aload_n 0, 1) := by decide +kernel
theorem dX11_init_38 : decode cX11_init 38 = .ok (.bipush 32, 2) := by decide +kernel
theorem dX11_init_40 : decode cX11_init 40 = .ok (.newarray .int, 2) := by decide +kernel
theorem dX11_init_42 : decode cX11_init 42 = .ok (.putfield 24, 3) := by decide +kernel
theorem dX11_init_45 : decode cX11_init 45 = .ok (.aload_n 0, 1) := by decide +kernel
theorem dX11_init_46 : decode cX11_init 46 = .ok (.bipush 32, 2) := by decide +kernel
theorem dX11_init_48 : decode cX11_init 48 = .ok (.newarray .int, 2) := by decide +kernel
theorem dX11_init_50 : decode cX11_init 50 = .ok (.putfield 27, 3) := by decide +kernel
theorem dX11_init_53 : decode cX11_init 53 = .ok (.aload_n 0, 1) := by decide +kernel
theorem dX11_init_54 : decode cX11_init 54 = .ok (.bipush 16, 2) := by decide +kernel
theorem dX11_init_56 : decode cX11_init 56 = .ok (.newarray .int, 2) := by decide +kernel
theorem dX11_init_58 : decode cX11_init 58 = .ok (.putfield 30, 3) := by decide +kernel
theorem dX11_init_61 : decode cX11_init 61 = .ok (.aload_n 0, 1) := by decide +kernel
theorem dX11_init_62 : decode cX11_init 62 = .ok (.bipush 16, 2) := by decide +kernel
theorem dX11_init_64 : decode cX11_init 64 = .ok (.newarray .int, 2) := by decide +kernel
theorem dX11_init_66 : decode cX11_init 66 = .ok (.putfield 33, 3) := by decide +kernel
theorem dX11_init_69 : decode cX11_init 69 = .ok (.aload_n 0, 1) := by decide +kernel
theorem dX11_init_70 : decode cX11_init 70 = .ok (.sipush 512, 3) := by decide +kernel
theorem dX11_init_73 : decode cX11_init 73 = .ok (.newarray .boolean, 2) := by decide +kernel
theorem dX11_init_75 : decode cX11_init 75 = .ok (.putfield 36, 3) := by decide +kernel
theorem dX11_init_78 : decode cX11_init 78 = .ok (.aload_n 0, 1) := by decide +kernel
theorem dX11_init_79 : decode cX11_init 79 = .ok (.sipush 512, 3) := by decide +kernel
theorem dX11_init_82 : decode cX11_init 82 = .ok (.newarray .long, 2) := by decide +kernel
theorem dX11_init_84 : decode cX11_init 84 = .ok (.putfield 39, 3) := by decide +kernel
theorem dX11_init_87 : decode cX11_init 87 = .ok (.aload_n 0, 1) := by decide +kernel
theorem dX11_init_88 : decode cX11_init 88 = .ok (.bipush 64, 2) := by decide +kernel
theorem dX11_init_90 : decode cX11_init 90 = .ok (.newarray .boolean, 2) := by decide +kernel
theorem dX11_init_92 : decode cX11_init 92 = .ok (.putfield 42, 3) := by decide +kernel
theorem dX11_init_95 : decode cX11_init 95 = .ok (.aload_n 0, 1) := by decide +kernel
theorem dX11_init_96 : decode cX11_init 96 = .ok (.bipush 64, 2) := by decide +kernel
theorem dX11_init_98 : decode cX11_init 98 = .ok (.newarray .int, 2) := by decide +kernel
theorem dX11_init_100 : decode cX11_init 100 = .ok (.putfield 45, 3) := by decide +kernel
theorem dX11_init_103 : decode cX11_init 103 = .ok (.aload_n 0, 1) := by decide +kernel
theorem dX11_init_104 : decode cX11_init 104 = .ok (.bipush 64, 2) := by decide +kernel
theorem dX11_init_106 : decode cX11_init 106 = .ok (.newarray .int, 2) := by decide +kernel
theorem dX11_init_108 : decode cX11_init 108 = .ok (.putfield 48, 3) := by decide +kernel
theorem dX11_init_111 : decode cX11_init 111 = .ok (.aload_n 0, 1) := by decide +kernel
theorem dX11_init_112 : decode cX11_init 112 = .ok (.bipush 80, 2) := by decide +kernel
theorem dX11_init_114 : decode cX11_init 114 = .ok (.newarray .int, 2) := by decide +kernel
theorem dX11_init_116 : decode cX11_init 116 = .ok (.putfield 51, 3) := by decide +kernel
theorem dX11_init_119 : decode cX11_init 119 = .ok (.aload_n 0, 1) := by decide +kernel
theorem dX11_init_120 : decode cX11_init 120 = .ok (.bipush 80, 2) := by decide +kernel
theorem dX11_init_122 : decode cX11_init 122 = .ok (.newarray .int, 2) := by decide +kernel
theorem dX11_init_124 : decode cX11_init 124 = .ok (.putfield 54, 3) := by decide +kernel
theorem dX11_init_127 : decode cX11_init 127 = .ok (.aload_n 0, 1) := by decide +kernel
theorem dX11_init_128 : decode cX11_init 128 = .ok (.bipush 80, 2) := by decide +kernel
theorem dX11_init_130 : decode cX11_init 130 = .ok (.newarray .int, 2) := by decide +kernel
theorem dX11_init_132 : decode cX11_init 132 = .ok (.putfield 57, 3) := by decide +kernel
theorem dX11_init_135 : decode cX11_init 135 = .ok (.aload_n 0, 1) := by decide +kernel
theorem dX11_init_136 : decode cX11_init 136 = .ok (.bipush 80, 2) := by decide +kernel
theorem dX11_init_138 : decode cX11_init 138 = .ok (.newarray .int, 2) := by decide +kernel
theorem dX11_init_140 : decode cX11_init 140 = .ok (.putfield 60, 3) := by decide +kernel
theorem dX11_init_143 : decode cX11_init 143 = .ok (.aload_n 0, 1) := by decide +kernel
theorem dX11_init_144 : decode cX11_init 144 = .ok (.sipush 320, 3) := by decide +kernel
theorem dX11_init_147 : decode cX11_init 147 = .ok (.newarray .int, 2) := by decide +kernel
theorem dX11_init_149 : decode cX11_init 149 = .ok (.putfield 63, 3) := by decide +kernel
theorem dX11_init_152 : decode cX11_init 152 = .ok (.aload_n 0, 1) := by decide +kernel
theorem dX11_init_153 : decode cX11_init 153 = .ok (.sipush 320, 3) := by decide +kernel
theorem dX11_init_156 : decode cX11_init 156 = .ok (.newarray .int, 2) := by decide +kernel
theorem dX11_init_158 : decode cX11_init 158 = .ok (.putfield 66, 3) := by decide +kernel
theorem dX11_init_161 : decode cX11_init 161 = .ok (.aload_n 0, 1) := by decide +kernel
theorem dX11_init_162 : decode cX11_init 162 = .ok (.sipush 320, 3) := by decide +kernel
theorem dX11_init_165 : decode cX11_init 165 = .ok (.newarray .int, 2) := by decide +kernel
theorem dX11_init_167 : decode cX11_init 167 = .ok (.putfield 69, 3) := by decide +kernel
theorem dX11_init_170 : decode cX11_init 170 = .ok (.aload_n 0, 1) := by decide +kernel
theorem dX11_init_171 : decode cX11_init 171 = .ok (.sipush 320, 3) := by decide +kernel
theorem dX11_init_174 : decode cX11_init 174 = .ok (.newarray .int, 2) := by decide +kernel
theorem dX11_init_176 : decode cX11_init 176 = .ok (.putfield 72, 3) := by decide +kernel
theorem dX11_init_179 : decode cX11_init 179 = .ok (.aload_n 0, 1) := by decide +kernel
theorem dX11_init_180 : decode cX11_init 180 = .ok (.sipush 320, 3) := by decide +kernel
theorem dX11_init_183 : decode cX11_init 183 = .ok (.newarray .int, 2) := by decide +kernel
theorem dX11_init_185 : decode cX11_init 185 = .ok (.putfield 75, 3) := by decide +kernel
theorem dX11_init_188 : decode cX11_init 188 = .ok (.aload_n 0, 1) := by decide +kernel
theorem dX11_init_189 : decode cX11_init 189 = .ok (.sipush 320, 3) := by decide +kernel
theorem dX11_init_192 : decode cX11_init 192 = .ok (.newarray .int, 2) := by decide +kernel
theorem dX11_init_194 : decode cX11_init 194 = .ok (.putfield 78, 3) := by decide +kernel
theorem dX11_init_197 : decode cX11_init 197 = .ok (.aload_n 0, 1) := by decide +kernel
theorem dX11_init_198 : decode cX11_init 198 = .ok (.sipush 1400, 3) := by decide +kernel
theorem dX11_init_201 : decode cX11_init 201 = .ok (.newarray .int, 2) := by decide +kernel
theorem dX11_init_203 : decode cX11_init 203 = .ok (.putfield 81, 3) := by decide +kernel
theorem dX11_init_206 : decode cX11_init 206 = .ok (.aload_n 0, 1) := by decide +kernel
theorem dX11_init_207 : decode cX11_init 207 = .ok (.sipush 1600, 3) := by decide +kernel
theorem dX11_init_210 : decode cX11_init 210 = .ok (.newarray .int, 2) := by decide +kernel
theorem dX11_init_212 : decode cX11_init 212 = .ok (.putfield 84, 3) := by decide +kernel
theorem dX11_init_215 : decode cX11_init 215 = .ok (.aload_n 0, 1) := by decide +kernel
theorem dX11_init_216 : decode cX11_init 216 = .ok (.bipush 7, 2) := by decide +kernel
theorem dX11_init_218 : decode cX11_init 218 = .ok (.newarray .int, 2) := by decide +kernel
theorem dX11_init_220 : decode cX11_init 220 = .ok (.putfield 87, 3) := by decide +kernel
theorem dX11_init_223 : decode cX11_init 223 = .ok (.aload_n 0, 1) := by decide +kernel
theorem dX11_init_224 : decode cX11_init 224 = .ok (.bipush 8, 2) := by decide +kernel
theorem dX11_init_226 : decode cX11_init 226 = .ok (.newarray .int, 2) := by decide +kernel
theorem dX11_init_228 : decode cX11_init 228 = .ok (.putfield 90, 3) := by decide +kernel
theorem dX11_init_231 : decode cX11_init 231 = .ok (.aload_n 0, 1) := by decide +kernel
theorem dX11_init_232 : decode cX11_init 232 = .ok (.iload_n 1, 1) := by decide +kernel
theorem dX11_init_233 : decode cX11_init 233 = .ok (.iconst 1, 1) := by decide +kernel
theorem dX11_init_234 : decode cX11_init 234 = .ok (.iconst 4, 1) := by decide +kernel
theorem dX11_init_235 : decode cX11_init 235 = .ok (.invokestatic 93, 3) := by decide +kernel
theorem dX11_init_238 : decode cX11_init 238 = .ok (.putfield 97, 3) := by decide +kernel
theorem dX11_init_241 : decode cX11_init 241 = .ok (.aload_n 0, 1) := by decide +kernel
theorem dX11_init_242 : decode cX11_init 242 = .ok (.iload_n 2, 1) := by decide +kernel
theorem dX11_init_243 : decode cX11_init 243 = .ok (.iconst 3, 1) := by decide +kernel
theorem dX11_init_244 : decode cX11_init 244 = .ok (.if_icmp .ge 7, 3) := by decide +kernel
theorem dX11_init_247 : decode cX11_init 247 = .ok (.iconst 1, 1) := by decide +kernel
theorem dX11_init_248 : decode cX11_init 248 = .ok (.goto 13, 3) := by decide +kernel
theorem dX11_init_251 : decode cX11_init 251 = .ok (.iload_n 2, 1) := by decide +kernel
theorem dX11_init_252 : decode cX11_init 252 = .ok (.iconst 5, 1) := by decide +kernel
theorem dX11_init_253 : decode cX11_init 253 = .ok (.if_icmp .ge 7, 3) := by decide +kernel
theorem dX11_init_256 : decode cX11_init 256 = .ok (.iconst 3, 1) := by decide +kernel
theorem dX11_init_257 : decode cX11_init 257 = .ok (.goto 4, 3) := by decide +kernel
theorem dX11_init_260 : decode cX11_init 260 = .ok (.iconst 5, 1) := by decide +kernel
theorem dX11_init_261 : decode cX11_init 261 = .ok (.putfield 101, 3) := by decide +kernel
theorem dX11_init_264 : decode cX11_init 264 = .ok (.aload_n 0, 1) := by decide +kernel
theorem dX11_init_265 : decode cX11_init 265 = .ok (.iload_n 3, 1) := by decide +kernel
theorem dX11_init_266 : decode cX11_init 266 = .ok (.iconst 1, 1) := by decide +kernel
theorem dX11_init_267 : decode cX11_init 267 = .ok (.bipush 16, 2) := by decide +kernel
theorem dX11_init_269 : decode cX11_init 269 = .ok (.invokestatic 93, 3) := by decide +kernel
theorem dX11_init_272 : decode cX11_init 272 = .ok (.putfield 104, 3) := by decide +kernel
theorem dX11_init_275 : decode cX11_init 275 = .ok (.aload_n 0, 1) := by decide +kernel
theorem dX11_init_276 : decode cX11_init 276 = .ok (.iload 4, 2) := by decide +kernel
theorem dX11_init_278 : decode cX11_init 278 = .ok (.iconst 1, 1) := by decide +kernel
theorem dX11_init_279 : decode cX11_init 279 = .ok (.bipush 32, 2) := by decide +kernel
theorem dX11_init_281 : decode cX11_init 281 = .ok (.invokestatic 93, 3) := by decide +kernel
theorem dX11_init_284 : decode cX11_init 284 = .ok (.putfield 107, 3) := by decide +kernel
theorem dX11_init_287 : decode cX11_init 287 = .ok (.aload_n 0, 1) := by decide +kernel
theorem dX11_init_288 : decode cX11_init 288 = .ok (.iload 5, 2) := by decide +kernel
theorem dX11_init_290 : decode cX11_init 290 = .ok (.iconst 1, 1) := by decide +kernel
theorem dX11_init_291 : decode cX11_init 291 = .ok (.sipush 200, 3) := by decide +kernel
theorem dX11_init_294 : decode cX11_init 294 = .ok (.invokestatic 93, 3) := by decide +kernel
theorem dX11_init_297 : decode cX11_init 297 = .ok (.putfield 110, 3) := by decide +kernel
theorem dX11_init_300 : decode cX11_init 300 = .ok (.aload_n 0, 1) := by decide +kernel
theorem dX11_init_301 : decode cX11_init 301 = .ok (.iload 6, 2) := by decide +kernel
theorem dX11_init_303 : decode cX11_init 303 = .ok (.iconst 1, 1) := by decide +kernel
theorem dX11_init_304 : decode cX11_init 304 = .ok (.sipush 200, 3) := by decide +kernel
theorem dX11_init_307 : decode cX11_init 307 = .ok (.invokestatic 93, 3) := by decide +kernel
theorem dX11_init_310 : decode cX11_init 310 = .ok (.putfield 113, 3) := by decide +kernel
theorem dX11_init_313 : decode cX11_init 313 = .ok (.iconst 0, 1) := by decide +kernel
theorem dX11_init_314 : decode cX11_init 314 = .ok (.istore 7, 2) := by decide +kernel
theorem dX11_init_316 : decode cX11_init 316 = .ok (.iload 7, 2) := by decide +kernel
theorem dX11_init_318 : decode cX11_init 318 = .ok (.bipush 9, 2) := by decide +kernel
theorem dX11_init_320 : decode cX11_init 320 = .ok (.if_icmp .ge 17, 3) := by decide +kernel
theorem dX11_init_323 : decode cX11_init 323 = .ok (.aload_n 0, 1) := by decide +kernel
theorem dX11_init_324 : decode cX11_init 324 = .ok (.getfield 7, 3) := by decide +kernel
theorem dX11_init_327 : decode cX11_init 327 = .ok (.iload 7, 2) := by decide +kernel
theorem dX11_init_329 : decode cX11_init 329 = .ok (.iconst 1, 1) := by decide +kernel
theorem dX11_init_330 : decode cX11_init 330 = .ok (.bastore, 1) := by decide +kernel
theorem dX11_init_331 : decode cX11_init 331 = .ok (.iinc 7 1, 3) := by decide +kernel
theorem dX11_init_334 : decode cX11_init 334 = .ok (.goto (-18), 3) := by decide +kernel
theorem dX11_init_337 : decode cX11_init 337 = .ok (.iconst 0, 1) := by decide +kernel
theorem dX11_init_338 : decode cX11_init 338 = .ok (.istore 7, 2) := by decide +kernel
theorem dX11_init_340 : decode cX11_init 340 = .ok (.iload 7, 2) := by decide +kernel
theorem dX11_init_342 : decode cX11_init 342 = .ok (.bipush 32, 2) := by decide +kernel
theorem dX11_init_344 : decode cX11_init 344 = .ok (.if_icmp .ge 17, 3) := by decide +kernel
theorem dX11_init_347 : decode cX11_init 347 = .ok (.aload_n 0, 1) := by decide +kernel
theorem dX11_init_348 : decode cX11_init 348 = .ok (.getfield 27, 3) := by decide +kernel
theorem dX11_init_351 : decode cX11_init 351 = .ok (.iload 7, 2) := by decide +kernel
theorem dX11_init_353 : decode cX11_init 353 = .ok (.iconst (-1), 1) := by decide +kernel
theorem dX11_init_354 : decode cX11_init 354 = .ok (.iastore, 1) := by decide +kernel
theorem dX11_init_355 : decode cX11_init 355 = .ok (.iinc 7 1, 3) := by decide +kernel
theorem dX11_init_358 : decode cX11_init 358 = .ok (.goto (-18), 3) := by decide +kernel
theorem dX11_init_361 : decode cX11_init 361 = .ok (.iconst 0, 1) := by decide +kernel
theorem dX11_init_362 : decode cX11_init 362 = .ok (.istore 7, 2) := by decide +kernel
theorem dX11_init_364 : decode cX11_init 364 = .ok (.iload 7, 2) := by decide +kernel
theorem dX11_init_366 : decode cX11_init 366 = .ok (.sipush 320, 3) := by decide +kernel
theorem dX11_init_369 : decode cX11_init 369 = .ok (.if_icmp .ge 17, 3) := by decide +kernel
theorem dX11_init_372 : decode cX11_init 372 = .ok (.aload_n 0, 1) := by decide +kernel
theorem dX11_init_373 : decode cX11_init 373 = .ok (.getfield 63, 3) := by decide +kernel
theorem dX11_init_376 : decode cX11_init 376 = .ok (.iload 7, 2) := by decide +kernel
theorem dX11_init_378 : decode cX11_init 378 = .ok (.iconst (-1), 1) := by decide +kernel
theorem dX11_init_379 : decode cX11_init 379 = .ok (.iastore, 1) := by decide +kernel
theorem dX11_init_380 : decode cX11_init 380 = .ok (.iinc 7 1, 3) := by decide +kernel
theorem dX11_init_383 : decode cX11_init 383 = .ok (.goto (-19), 3) := by decide +kernel
theorem dX11_init_386 : decode cX11_init 386 = .ok (.iconst 0, 1) := by decide +kernel
theorem dX11_init_387 : decode cX11_init 387 = .ok (.istore 7, 2) := by decide +kernel
theorem dX11_init_389 : decode cX11_init 389 = .ok (.iload 7, 2) := by decide +kernel
theorem dX11_init_391 : decode cX11_init 391 = .ok (.iconst 5, 1) := by decide +kernel
theorem dX11_init_392 : decode cX11_init 392 = .ok (.if_icmp .ge 15, 3) := by decide +kernel
theorem dX11_init_395 : decode cX11_init 395 = .ok (.aload_n 0, 1) := by decide +kernel
theorem dX11_init_396 : decode cX11_init 396 = .ok (.iload 7, 2) := by decide +kernel
theorem dX11_init_398 : decode cX11_init 398 = .ok (.invokevirtual 116, 3) := by decide +kernel
theorem dX11_init_401 : decode cX11_init 401 = .ok (.iinc 7 1, 3) := by decide +kernel
theorem dX11_init_404 : decode cX11_init 404 = .ok (.goto (-15), 3) := by decide +kernel
theorem dX11_init_407 : decode cX11_init 407 = .ok (.return_, 1) := by decide +kernel
theorem dX11_near_0 : decode cX11_near 0 = .ok (.iload_n 0, 1) := by decide +kernel
theorem dX11_near_1 : decode cX11_near 1 = .ok (.iload_n 1, 1) := by decide +kernel
theorem dX11_near_2 : decode cX11_near 2 = .ok (.if_icmp .ge 7, 3) := by decide +kernel
theorem dX11_near_5 : decode cX11_near 5 = .ok (.iload_n 1, 1) := by decide +kernel
theorem dX11_near_6 : decode cX11_near 6 = .ok (.goto 13, 3) := by decide +kernel
theorem dX11_near_9 : decode cX11_near 9 = .ok (.iload_n 0, 1) := by decide +kernel
theorem dX11_near_10 : decode cX11_near 10 = .ok (.iload_n 2, 1) := by decide +kernel
theorem dX11_near_11 : decode cX11_near 11 = .ok (.if_icmp .le 7, 3) := by decide +kernel
theorem dX11_near_14 : decode cX11_near 14 = .ok (.iload_n 2, 1) := by decide +kernel
theorem dX11_near_15 : decode cX11_near 15 = .ok (.goto 4, 3) := by decide +kernel
theorem dX11_near_18 : decode cX11_near 18 = .ok (.iload_n 0, 1) := by decide +kernel
theorem dX11_near_19 : decode cX11_near 19 = .ok (.ireturn, 1) := by decide +kernel
theorem dX11_in_0 : decode cX11_in 0 = .ok (.iload_n 0, 1) := by decide +kernel
theorem dX11_in_1 : decode cX11_in 1 = .ok (.iload_n 1, 1) := by decide +kernel
theorem dX11_in_2 : decode cX11_in 2 = .ok (.if_icmp .lt 12, 3) := by decide +kernel
theorem dX11_in_5 : decode cX11_in 5 = .ok (.iload_n 0, 1) := by decide +kernel
theorem dX11_in_6 : decode cX11_in 6 = .ok (.iload_n 2, 1) := by decide +kernel
theorem dX11_in_7 : decode cX11_in 7 = .ok (.if_icmp .gt 7, 3) := by decide +kernel
theorem dX11_in_10 : decode cX11_in 10 = .ok (.iconst 1, 1) := by decide +kernel
theorem dX11_in_11 : decode cX11_in 11 = .ok (.goto 4, 3) := by decide +kernel
theorem dX11_in_14 : decode cX11_in 14 = .ok (.iconst 0, 1) := by decide +kernel
theorem dX11_in_15 : decode cX11_in 15 = .ok (.ireturn, 1) := by decide +kernel
theorem dX11_isTxn_0 : decode cX11_isTxn 0 = .ok (.iload_n 1, 1) := by decide +kernel
theorem dX11_isTxn_1 : decode cX11_isTxn 1 = .ok (.iconst 0, 1) := by decide +kernel
theorem dX11_isTxn_2 : decode cX11_isTxn 2 = .ok (.aload_n 0, 1) := by decide +kernel
theorem dX11_isTxn_3 : decode cX11_isTxn 3 = .ok (.getfield 104, 3) := by decide +kernel
theorem dX11_isTxn_6 : decode cX11_isTxn 6 = .ok (.iconst 1, 1) := by decide +kernel
theorem dX11_isTxn_7 : decode cX11_isTxn 7 = .ok (.isub, 1) := by decide +kernel
theorem dX11_isTxn_8 : decode cX11_isTxn 8 = .ok (.invokestatic 120, 3) := by decide +kernel
theorem dX11_isTxn_11 : decode cX11_isTxn 11 = .ok (.ireturn, 1) := by decide +kernel
theorem dX11_isKey_0 : decode cX11_isKey 0 = .ok (.iload_n 1, 1) := by decide +kernel
theorem dX11_isKey_1 : decode cX11_isKey 1 = .ok (.iconst 0, 1) := by decide +kernel
theorem dX11_isKey_2 : decode cX11_isKey 2 = .ok (.aload_n 0, 1) := by decide +kernel
theorem dX11_isKey_3 : decode cX11_isKey 3 = .ok (.getfield 107, 3) := by decide +kernel
theorem dX11_isKey_6 : decode cX11_isKey 6 = .ok (.iconst 1, 1) := by decide +kernel
theorem dX11_isKey_7 : decode cX11_isKey 7 = .ok (.isub, 1) := by decide +kernel
theorem dX11_isKey_8 : decode cX11_isKey 8 = .ok (.invokestatic 120, 3) := by decide +kernel
theorem dX11_isKey_11 : decode cX11_isKey 11 = .ok (.ireturn, 1) := by decide +kernel
theorem dX11_isNode_0 : decode cX11_isNode 0 = .ok (.iload_n 1, 1) := by decide +kernel
theorem dX11_isNode_1 : decode cX11_isNode 1 = .ok (.iconst 0, 1) := by decide +kernel
theorem dX11_isNode_2 : decode cX11_isNode 2 = .ok (.aload_n 0, 1) := by decide +kernel
theorem dX11_isNode_3 : decode cX11_isNode 3 = .ok (.getfield 97, 3) := by decide +kernel
theorem dX11_isNode_6 : decode cX11_isNode 6 = .ok (.aload_n 0, 1) := by decide +kernel
theorem dX11_isNode_7 : decode cX11_isNode 7 = .ok (.getfield 101, 3) := by decide +kernel
theorem dX11_isNode_10 : decode cX11_isNode 10 = .ok (.iadd, 1) := by decide +kernel
theorem dX11_isNode_11 : decode cX11_isNode 11 = .ok (.iconst 1, 1) := by decide +kernel
theorem dX11_isNode_12 : decode cX11_isNode 12 = .ok (.isub, 1) := by decide +kernel
theorem dX11_isNode_13 : decode cX11_isNode 13 = .ok (.invokestatic 120, 3) := by decide +kernel
theorem dX11_isNode_16 : decode cX11_isNode 16 = .ok (.ireturn, 1) := by decide +kernel
theorem dX11_isAcceptor_0 : decode cX11_isAcceptor 0 = .ok (.iload_n 1, 1) := by decide +kernel
theorem dX11_isAcceptor_1 : decode cX11_isAcceptor 1 = .ok (.aload_n 0, 1) := by decide +kernel
theorem dX11_isAcceptor_2 : decode cX11_isAcceptor 2 = .ok (.getfield 97, 3) := by decide +kernel
theorem dX11_isAcceptor_5 : decode cX11_isAcceptor 5 = .ok (.aload_n 0, 1) := by decide +kernel
theorem dX11_isAcceptor_6 : decode cX11_isAcceptor 6 = .ok (.getfield 97, 3) := by decide +kernel
theorem dX11_isAcceptor_9 : decode cX11_isAcceptor 9 = .ok (.aload_n 0, 1) := by decide +kernel
theorem dX11_isAcceptor_10 : decode cX11_isAcceptor 10 = .ok (.getfield 101, 3) := by decide +kernel
theorem dX11_isAcceptor_13 : decode cX11_isAcceptor 13 = .ok (.iadd, 1) := by decide +kernel
theorem dX11_isAcceptor_14 : decode cX11_isAcceptor 14 = .ok (.iconst 1, 1) := by decide +kernel
theorem dX11_isAcceptor_15 : decode cX11_isAcceptor 15 = .ok (.isub, 1) := by decide +kernel
theorem dX11_isAcceptor_16 : decode cX11_isAcceptor 16 = .ok (.invokestatic 120, 3) := by decide +kernel
theorem dX11_isAcceptor_19 : decode cX11_isAcceptor 19 = .ok (.ireturn, 1) := by decide +kernel
theorem dX11_touches_0 : decode cX11_touches 0 = .ok (.aload_n 0, 1) := by decide +kernel
theorem dX11_touches_1 : decode cX11_touches 1 = .ok (.getfield 33, 3) := by decide +kernel
theorem dX11_touches_4 : decode cX11_touches 4 = .ok (.iload_n 1, 1) := by decide +kernel
theorem dX11_touches_5 : decode cX11_touches 5 = .ok (.iaload, 1) := by decide +kernel
theorem dX11_touches_6 : decode cX11_touches 6 = .ok (.iload_n 2, 1) := by decide +kernel
theorem dX11_touches_7 : decode cX11_touches 7 = .ok (.ishr, 1) := by decide +kernel
theorem dX11_touches_8 : decode cX11_touches 8 = .ok (.iconst 1, 1) := by decide +kernel
theorem dX11_touches_9 : decode cX11_touches 9 = .ok (.iand, 1) := by decide +kernel
theorem dX11_touches_10 : decode cX11_touches 10 = .ok (.iconst 1, 1) := by decide +kernel
theorem dX11_touches_11 : decode cX11_touches 11 = .ok (.if_icmp .ne 7, 3) := by decide +kernel
theorem dX11_touches_14 : decode cX11_touches 14 = .ok (.iconst 1, 1) := by decide +kernel
theorem dX11_touches_15 : decode cX11_touches 15 = .ok (.goto 4, 3) := by decide +kernel
theorem dX11_touches_18 : decode cX11_touches 18 = .ok (.iconst 0, 1) := by decide +kernel
theorem dX11_touches_19 : decode cX11_touches 19 = .ok (.ireturn, 1) := by decide +kernel
theorem dX11_bits_0 : decode cX11_bits 0 = .ok (.iconst 0, 1) := by decide +kernel
theorem dX11_bits_1 : decode cX11_bits 1 = .ok (.istore_n 1, 1) := by decide +kernel
theorem dX11_bits_2 : decode cX11_bits 2 = .ok (.iconst 0, 1) := by decide +kernel
theorem dX11_bits_3 : decode cX11_bits 3 = .ok (.istore_n 2, 1) := by decide +kernel
theorem dX11_bits_4 : decode cX11_bits 4 = .ok (.iload_n 2, 1) := by decide +kernel
theorem dX11_bits_5 : decode cX11_bits 5 = .ok (.bipush 16, 2) := by decide +kernel
theorem dX11_bits_7 : decode cX11_bits 7 = .ok (.if_icmp .ge 17, 3) := by decide +kernel
theorem dX11_bits_10 : decode cX11_bits 10 = .ok (.iload_n 1, 1) := by decide +kernel
theorem dX11_bits_11 : decode cX11_bits 11 = .ok (.iload_n 0, 1) := by decide +kernel
theorem dX11_bits_12 : decode cX11_bits 12 = .ok (.iload_n 2, 1) := by decide +kernel
theorem dX11_bits_13 : decode cX11_bits 13 = .ok (.ishr, 1) := by decide +kernel
theorem dX11_bits_14 : decode cX11_bits 14 = .ok (.iconst 1, 1) := by decide +kernel
theorem dX11_bits_15 : decode cX11_bits 15 = .ok (.iand, 1) := by decide +kernel
theorem dX11_bits_16 : decode cX11_bits 16 = .ok (.iadd, 1) := by decide +kernel
theorem dX11_bits_17 : decode cX11_bits 17 = .ok (.istore_n 1, 1) := by decide +kernel
theorem dX11_bits_18 : decode cX11_bits 18 = .ok (.iinc 2 1, 3) := by decide +kernel
theorem dX11_bits_21 : decode cX11_bits 21 = .ok (.goto (-17), 3) := by decide +kernel
theorem dX11_bits_24 : decode cX11_bits 24 = .ok (.iload_n 1, 1) := by decide +kernel
theorem dX11_bits_25 : decode cX11_bits 25 = .ok (.ireturn, 1) := by decide +kernel
theorem dX11_isMajority_0 : decode cX11_isMajority 0 = .ok (.iconst 2, 1) := by decide +kernel
theorem dX11_isMajority_1 : decode cX11_isMajority 1 = .ok (.iload_n 1, 1) := by decide +kernel
theorem dX11_isMajority_2 : decode cX11_isMajority 2 = .ok (.invokestatic 124, 3) := by decide +kernel
theorem dX11_isMajority_5 : decode cX11_isMajority 5 = .ok (.imul, 1) := by decide +kernel
theorem dX11_isMajority_6 : decode cX11_isMajority 6 = .ok (.aload_n 0, 1) := by decide +kernel
theorem dX11_isMajority_7 : decode cX11_isMajority 7 = .ok (.getfield 101, 3) := by decide +kernel
theorem dX11_isMajority_10 : decode cX11_isMajority 10 = .ok (.if_icmp .le 7, 3) := by decide +kernel
theorem dX11_isMajority_13 : decode cX11_isMajority 13 = .ok (.iconst 1, 1) := by decide +kernel
theorem dX11_isMajority_14 : decode cX11_isMajority 14 = .ok (.goto 4, 3) := by decide +kernel
theorem dX11_isMajority_17 : decode cX11_isMajority 17 = .ok (.iconst 0, 1) := by decide +kernel
theorem dX11_isMajority_18 : decode cX11_isMajority 18 = .ok (.ireturn, 1) := by decide +kernel
theorem dX11_endSession_0 : decode cX11_endSession 0 = .ok (.aload_n 0, 1) := by decide +kernel
theorem dX11_endSession_1 : decode cX11_endSession 1 = .ok (.getfield 42, 3) := by decide +kernel
theorem dX11_endSession_4 : decode cX11_endSession 4 = .ok (.bipush 16, 2) := by decide +kernel
theorem dX11_endSession_6 : decode cX11_endSession 6 = .ok (.iload_n 1, 1) := by decide +kernel
theorem dX11_endSession_7 : decode cX11_endSession 7 = .ok (.imul, 1) := by decide +kernel
theorem dX11_endSession_8 : decode cX11_endSession 8 = .ok (.iload_n 2, 1) := by decide +kernel
theorem dX11_endSession_9 : decode cX11_endSession 9 = .ok (.iadd, 1) := by decide +kernel
theorem dX11_endSession_10 : decode cX11_endSession 10 = .ok (.iconst 0, 1) := by decide +kernel
theorem dX11_endSession_11 : decode cX11_endSession 11 = .ok (.bastore, 1) := by decide +kernel
theorem dX11_endSession_12 : decode cX11_endSession 12 = .ok (.iload_n 1, 1) := by decide +kernel
theorem dX11_endSession_13 : decode cX11_endSession 13 = .ok (.istore_n 3, 1) := by decide +kernel
theorem dX11_endSession_14 : decode cX11_endSession 14 = .ok (.iload_n 3, 1) := by decide +kernel
theorem dX11_endSession_15 : decode cX11_endSession 15 = .ok (.aload_n 0, 1) := by decide +kernel
theorem dX11_endSession_16 : decode cX11_endSession 16 = .ok (.getfield 107, 3) := by decide +kernel
theorem dX11_endSession_19 : decode cX11_endSession 19 = .ok (.if_icmp .ge 65, 3) := by decide +kernel
theorem dX11_endSession_22 : decode cX11_endSession 22 = .ok (.aload_n 0, 1) := by decide +kernel
theorem dX11_endSession_23 : decode cX11_endSession 23 = .ok (.getfield 24, 3) := by decide +kernel
theorem dX11_endSession_26 : decode cX11_endSession 26 = .ok (.iload_n 3, 1) := by decide +kernel
theorem dX11_endSession_27 : decode cX11_endSession 27 = .ok (.dup2, 1) := by decide +kernel
theorem dX11_endSession_28 : decode cX11_endSession 28 = .ok (.iaload, 1) := by decide +kernel
theorem dX11_endSession_29 : decode cX11_endSession 29 = .ok (.iconst 1, 1) := by decide +kernel
theorem dX11_endSession_30 : decode cX11_endSession 30 = .ok (.iload_n 2, 1) := by decide +kernel
theorem dX11_endSession_31 : decode cX11_endSession 31 = .ok (.ishl, 1) := by decide +kernel
theorem dX11_endSession_32 : decode cX11_endSession 32 = .ok (.iconst (-1), 1) := by decide +kernel
theorem dX11_endSession_33 : decode cX11_endSession 33 = .ok (.ixor, 1) := by decide +kernel
theorem dX11_endSession_34 : decode cX11_endSession 34 = .ok (.iand, 1) := by decide +kernel
theorem dX11_endSession_35 : decode cX11_endSession 35 = .ok (.iastore, 1) := by decide +kernel
theorem dX11_endSession_36 : decode cX11_endSession 36 = .ok (.aload_n 0, 1) := by decide +kernel
theorem dX11_endSession_37 : decode cX11_endSession 37 = .ok (.getfield 27, 3) := by decide +kernel
theorem dX11_endSession_40 : decode cX11_endSession 40 = .ok (.iload_n 3, 1) := by decide +kernel
theorem dX11_endSession_41 : decode cX11_endSession 41 = .ok (.aload_n 0, 1) := by decide +kernel
theorem dX11_endSession_42 : decode cX11_endSession 42 = .ok (.getfield 27, 3) := by decide +kernel
theorem dX11_endSession_45 : decode cX11_endSession 45 = .ok (.iload_n 3, 1) := by decide +kernel
theorem dX11_endSession_46 : decode cX11_endSession 46 = .ok (.iaload, 1) := by decide +kernel
theorem dX11_endSession_47 : decode cX11_endSession 47 = .ok (.iload_n 2, 1) := by decide +kernel
theorem dX11_endSession_48 : decode cX11_endSession 48 = .ok (.if_icmp .ne 7, 3) := by decide +kernel
theorem dX11_endSession_51 : decode cX11_endSession 51 = .ok (.iconst (-1), 1) := by decide +kernel
theorem dX11_endSession_52 : decode cX11_endSession 52 = .ok (.goto 9, 3) := by decide +kernel
theorem dX11_endSession_55 : decode cX11_endSession 55 = .ok (.aload_n 0, 1) := by decide +kernel
theorem dX11_endSession_56 : decode cX11_endSession 56 = .ok (.getfield 27, 3) := by decide +kernel
theorem dX11_endSession_59 : decode cX11_endSession 59 = .ok (.iload_n 3, 1) := by decide +kernel
theorem dX11_endSession_60 : decode cX11_endSession 60 = .ok (.iaload, 1) := by decide +kernel
theorem dX11_endSession_61 : decode cX11_endSession 61 = .ok (.iastore, 1) := by decide +kernel
theorem dX11_endSession_62 : decode cX11_endSession 62 = .ok (.aload_n 0, 1) := by decide +kernel
theorem dX11_endSession_63 : decode cX11_endSession 63 = .ok (.getfield 36, 3) := by decide +kernel
theorem dX11_endSession_66 : decode cX11_endSession 66 = .ok (.bipush 32, 2) := by decide +kernel
theorem dX11_endSession_68 : decode cX11_endSession 68 = .ok (.iload_n 2, 1) := by decide +kernel
theorem dX11_endSession_69 : decode cX11_endSession 69 = .ok (.imul, 1) := by decide +kernel
theorem dX11_endSession_70 : decode cX11_endSession 70 = .ok (.iload_n 3, 1) := by decide +kernel
theorem dX11_endSession_71 : decode cX11_endSession 71 = .ok (.iadd, 1) := by decide +kernel
theorem dX11_endSession_72 : decode cX11_endSession 72 = .ok (.iconst 0, 1) := by decide +kernel
theorem dX11_endSession_73 : decode cX11_endSession 73 = .ok (.bastore, 1) := by decide +kernel
theorem dX11_endSession_74 : decode cX11_endSession 74 = .ok (.iload_n 3, 1) := by decide +kernel
theorem dX11_endSession_75 : decode cX11_endSession 75 = .ok (.aload_n 0, 1) := by decide +kernel
theorem dX11_endSession_76 : decode cX11_endSession 76 = .ok (.getfield 97, 3) := by decide +kernel
theorem dX11_endSession_79 : decode cX11_endSession 79 = .ok (.iadd, 1) := by decide +kernel
theorem dX11_endSession_80 : decode cX11_endSession 80 = .ok (.istore_n 3, 1) := by decide +kernel
theorem dX11_endSession_81 : decode cX11_endSession 81 = .ok (.goto (-67), 3) := by decide +kernel
theorem dX11_endSession_84 : decode cX11_endSession 84 = .ok (.return_, 1) := by decide +kernel
theorem dX11_locks_0 : decode cX11_locks 0 = .ok (.iload_n 2, 1) := by decide +kernel
theorem dX11_locks_1 : decode cX11_locks 1 = .ok (.aload_n 0, 1) := by decide +kernel
theorem dX11_locks_2 : decode cX11_locks 2 = .ok (.getfield 97, 3) := by decide +kernel
theorem dX11_locks_5 : decode cX11_locks 5 = .ok (.irem, 1) := by decide +kernel
theorem dX11_locks_6 : decode cX11_locks 6 = .ok (.istore 4, 2) := by decide +kernel
theorem dX11_locks_8 : decode cX11_locks 8 = .ok (.aload_n 0, 1) := by decide +kernel
theorem dX11_locks_9 : decode cX11_locks 9 = .ok (.getfield 30, 3) := by decide +kernel
theorem dX11_locks_12 : decode cX11_locks 12 = .ok (.iload_n 1, 1) := by decide +kernel
theorem dX11_locks_13 : decode cX11_locks 13 = .ok (.iaload, 1) := by decide +kernel
theorem dX11_locks_14 : decode cX11_locks 14 = .ok (.iconst 1, 1) := by decide +kernel
theorem dX11_locks_15 : decode cX11_locks 15 = .ok (.if_icmp .eq 5, 3) := by decide +kernel
theorem dX11_locks_18 : decode cX11_locks 18 = .ok (.iconst 0, 1) := by decide +kernel
theorem dX11_locks_19 : decode cX11_locks 19 = .ok (.ireturn, 1) := by decide +kernel
theorem dX11_locks_20 : decode cX11_locks 20 = .ok (.aload_n 0, 1) := by decide +kernel
theorem dX11_locks_21 : decode cX11_locks 21 = .ok (.getfield 7, 3) := by decide +kernel
theorem dX11_locks_24 : decode cX11_locks 24 = .ok (.iload 4, 2) := by decide +kernel
theorem dX11_locks_26 : decode cX11_locks 26 = .ok (.baload, 1) := by decide +kernel
theorem dX11_locks_27 : decode cX11_locks 27 = .ok (.ifCond .ne 5, 3) := by decide +kernel
theorem dX11_locks_30 : decode cX11_locks 30 = .ok (.iconst 3, 1) := by decide +kernel
theorem dX11_locks_31 : decode cX11_locks 31 = .ok (.ireturn, 1) := by decide +kernel
theorem dX11_locks_32 : decode cX11_locks 32 = .ok (.aload_n 0, 1) := by decide +kernel
theorem dX11_locks_33 : decode cX11_locks 33 = .ok (.iload_n 1, 1) := by decide +kernel
theorem dX11_locks_34 : decode cX11_locks 34 = .ok (.iload 4, 2) := by decide +kernel
theorem dX11_locks_36 : decode cX11_locks 36 = .ok (.invokevirtual 128, 3) := by decide +kernel
theorem dX11_locks_39 : decode cX11_locks 39 = .ok (.ifCond .eq 20, 3) := by decide +kernel
theorem dX11_locks_42 : decode cX11_locks 42 = .ok (.aload_n 0, 1) := by decide +kernel
theorem dX11_locks_43 : decode cX11_locks 43 = .ok (.getfield 42, 3) := by decide +kernel
theorem dX11_locks_46 : decode cX11_locks 46 = .ok (.bipush 16, 2) := by decide +kernel
theorem dX11_locks_48 : decode cX11_locks 48 = .ok (.iload 4, 2) := by decide +kernel
theorem dX11_locks_50 : decode cX11_locks 50 = .ok (.imul, 1) := by decide +kernel
theorem dX11_locks_51 : decode cX11_locks 51 = .ok (.iload_n 1, 1) := by decide +kernel
theorem dX11_locks_52 : decode cX11_locks 52 = .ok (.iadd, 1) := by decide +kernel
theorem dX11_locks_53 : decode cX11_locks 53 = .ok (.baload, 1) := by decide +kernel
theorem dX11_locks_54 : decode cX11_locks 54 = .ok (.ifCond .ne 5, 3) := by decide +kernel
theorem dX11_locks_57 : decode cX11_locks 57 = .ok (.iconst 4, 1) := by decide +kernel
theorem dX11_locks_58 : decode cX11_locks 58 = .ok (.ireturn, 1) := by decide +kernel
theorem dX11_locks_59 : decode cX11_locks 59 = .ok (.iload_n 3, 1) := by decide +kernel
theorem dX11_locks_60 : decode cX11_locks 60 = .ok (.ifCond .eq 26, 3) := by decide +kernel
theorem dX11_locks_63 : decode cX11_locks 63 = .ok (.aload_n 0, 1) := by decide +kernel
theorem dX11_locks_64 : decode cX11_locks 64 = .ok (.getfield 24, 3) := by decide +kernel
theorem dX11_locks_67 : decode cX11_locks 67 = .ok (.iload_n 2, 1) := by decide +kernel
theorem dX11_locks_68 : decode cX11_locks 68 = .ok (.iaload, 1) := by decide +kernel
theorem dX11_locks_69 : decode cX11_locks 69 = .ok (.iconst 1, 1) := by decide +kernel
theorem dX11_locks_70 : decode cX11_locks 70 = .ok (.iload_n 1, 1) := by decide +kernel
theorem dX11_locks_71 : decode cX11_locks 71 = .ok (.ishl, 1) := by decide +kernel
theorem dX11_locks_72 : decode cX11_locks 72 = .ok (.iconst (-1), 1) := by decide +kernel
theorem dX11_locks_73 : decode cX11_locks 73 = .ok (.ixor, 1) := by decide +kernel
theorem dX11_locks_74 : decode cX11_locks 74 = .ok (.iand, 1) := by decide +kernel
theorem dX11_locks_75 : decode cX11_locks 75 = .ok (.ifCond .eq 7, 3) := by decide +kernel
theorem dX11_locks_78 : decode cX11_locks 78 = .ok (.iconst 1, 1) := by decide +kernel
theorem dX11_locks_79 : decode cX11_locks 79 = .ok (.goto 31, 3) := by decide +kernel
theorem dX11_locks_82 : decode cX11_locks 82 = .ok (.iconst 0, 1) := by decide +kernel
theorem dX11_locks_83 : decode cX11_locks 83 = .ok (.goto 27, 3) := by decide +kernel
theorem dX11_locks_86 : decode cX11_locks 86 = .ok (.aload_n 0, 1) := by decide +kernel
theorem dX11_locks_87 : decode cX11_locks 87 = .ok (.getfield 27, 3) := by decide +kernel
theorem dX11_locks_90 : decode cX11_locks 90 = .ok (.iload_n 2, 1) := by decide +kernel
theorem dX11_locks_91 : decode cX11_locks 91 = .ok (.iaload, 1) := by decide +kernel
theorem dX11_locks_92 : decode cX11_locks 92 = .ok (.ifCond .lt 17, 3) := by decide +kernel
theorem dX11_locks_95 : decode cX11_locks 95 = .ok (.aload_n 0, 1) := by decide +kernel
theorem dX11_locks_96 : decode cX11_locks 96 = .ok (.getfield 27, 3) := by decide +kernel
theorem dX11_locks_99 : decode cX11_locks 99 = .ok (.iload_n 2, 1) := by decide +kernel
theorem dX11_locks_100 : decode cX11_locks 100 = .ok (.iaload, 1) := by decide +kernel
theorem dX11_locks_101 : decode cX11_locks 101 = .ok (.iload_n 1, 1) := by decide +kernel
theorem dX11_locks_102 : decode cX11_locks 102 = .ok (.if_icmp .eq 7, 3) := by decide +kernel
theorem dX11_locks_105 : decode cX11_locks 105 = .ok (.iconst 1, 1) := by decide +kernel
theorem dX11_locks_106 : decode cX11_locks 106 = .ok (.goto 4, 3) := by decide +kernel
theorem dX11_locks_109 : decode cX11_locks 109 = .ok (.iconst 0, 1) := by decide +kernel
theorem dX11_locks_110 : decode cX11_locks 110 = .ok (.istore 5, 2) := by decide +kernel
theorem dX11_locks_112 : decode cX11_locks 112 = .ok (.iload 5, 2) := by decide +kernel
theorem dX11_locks_114 : decode cX11_locks 114 = .ok (.ifCond .eq 5, 3) := by decide +kernel
theorem dX11_locks_117 : decode cX11_locks 117 = .ok (.iconst 2, 1) := by decide +kernel
theorem dX11_locks_118 : decode cX11_locks 118 = .ok (.ireturn, 1) := by decide +kernel
theorem dX11_locks_119 : decode cX11_locks 119 = .ok (.aload_n 0, 1) := by decide +kernel
theorem dX11_locks_120 : decode cX11_locks 120 = .ok (.getfield 42, 3) := by decide +kernel
theorem dX11_locks_123 : decode cX11_locks 123 = .ok (.bipush 16, 2) := by decide +kernel
theorem dX11_locks_125 : decode cX11_locks 125 = .ok (.iload 4, 2) := by decide +kernel
theorem dX11_locks_127 : decode cX11_locks 127 = .ok (.imul, 1) := by decide +kernel
theorem dX11_locks_128 : decode cX11_locks 128 = .ok (.iload_n 1, 1) := by decide +kernel
theorem dX11_locks_129 : decode cX11_locks 129 = .ok (.iadd, 1) := by decide +kernel
theorem dX11_locks_130 : decode cX11_locks 130 = .ok (.iconst 1, 1) := by decide +kernel
theorem dX11_locks_131 : decode cX11_locks 131 = .ok (.bastore, 1) := by decide +kernel
theorem dX11_locks_132 : decode cX11_locks 132 = .ok (.aload_n 0, 1) := by decide +kernel
theorem dX11_locks_133 : decode cX11_locks 133 = .ok (.getfield 33, 3) := by decide +kernel
theorem dX11_locks_136 : decode cX11_locks 136 = .ok (.iload_n 1, 1) := by decide +kernel
theorem dX11_locks_137 : decode cX11_locks 137 = .ok (.dup2, 1) := by decide +kernel
theorem dX11_locks_138 : decode cX11_locks 138 = .ok (.iaload, 1) := by decide +kernel
theorem dX11_locks_139 : decode cX11_locks 139 = .ok (.iconst 1, 1) := by decide +kernel
theorem dX11_locks_140 : decode cX11_locks 140 = .ok (.iload 4, 2) := by decide +kernel
theorem dX11_locks_142 : decode cX11_locks 142 = .ok (.ishl, 1) := by decide +kernel
theorem dX11_locks_143 : decode cX11_locks 143 = .ok (.ior, 1) := by decide +kernel
theorem dX11_locks_144 : decode cX11_locks 144 = .ok (.iastore, 1) := by decide +kernel
theorem dX11_locks_145 : decode cX11_locks 145 = .ok (.aload_n 0, 1) := by decide +kernel
theorem dX11_locks_146 : decode cX11_locks 146 = .ok (.getfield 24, 3) := by decide +kernel
theorem dX11_locks_149 : decode cX11_locks 149 = .ok (.iload_n 2, 1) := by decide +kernel
theorem dX11_locks_150 : decode cX11_locks 150 = .ok (.dup2, 1) := by decide +kernel
theorem dX11_locks_151 : decode cX11_locks 151 = .ok (.iaload, 1) := by decide +kernel
theorem dX11_locks_152 : decode cX11_locks 152 = .ok (.iconst 1, 1) := by decide +kernel
theorem dX11_locks_153 : decode cX11_locks 153 = .ok (.iload_n 1, 1) := by decide +kernel
theorem dX11_locks_154 : decode cX11_locks 154 = .ok (.ishl, 1) := by decide +kernel
theorem dX11_locks_155 : decode cX11_locks 155 = .ok (.ior, 1) := by decide +kernel
theorem dX11_locks_156 : decode cX11_locks 156 = .ok (.iastore, 1) := by decide +kernel
theorem dX11_locks_157 : decode cX11_locks 157 = .ok (.aload_n 0, 1) := by decide +kernel
theorem dX11_locks_158 : decode cX11_locks 158 = .ok (.getfield 27, 3) := by decide +kernel
theorem dX11_locks_161 : decode cX11_locks 161 = .ok (.iload_n 2, 1) := by decide +kernel
theorem dX11_locks_162 : decode cX11_locks 162 = .ok (.iload_n 3, 1) := by decide +kernel
theorem dX11_locks_163 : decode cX11_locks 163 = .ok (.ifCond .eq 7, 3) := by decide +kernel
theorem dX11_locks_166 : decode cX11_locks 166 = .ok (.iload_n 1, 1) := by decide +kernel
theorem dX11_locks_167 : decode cX11_locks 167 = .ok (.goto 9, 3) := by decide +kernel
theorem dX11_locks_170 : decode cX11_locks 170 = .ok (.aload_n 0, 1) := by decide +kernel
theorem dX11_locks_171 : decode cX11_locks 171 = .ok (.getfield 27, 3) := by decide +kernel
theorem dX11_locks_174 : decode cX11_locks 174 = .ok (.iload_n 2, 1) := by decide +kernel
theorem dX11_locks_175 : decode cX11_locks 175 = .ok (.iaload, 1) := by decide +kernel
theorem dX11_locks_176 : decode cX11_locks 176 = .ok (.iastore, 1) := by decide +kernel
theorem dX11_locks_177 : decode cX11_locks 177 = .ok (.iconst 1, 1) := by decide +kernel
theorem dX11_locks_178 : decode cX11_locks 178 = .ok (.ireturn, 1) := by decide +kernel
theorem dX11_begin_0 : decode cX11_begin 0 = .ok (.aload_n 0, 1) := by decide +kernel
theorem dX11_begin_1 : decode cX11_begin 1 = .ok (.iload_n 1, 1) := by decide +kernel
theorem dX11_begin_2 : decode cX11_begin 2 = .ok (.invokevirtual 132, 3) := by decide +kernel
theorem dX11_begin_5 : decode cX11_begin 5 = .ok (.ifCond .ne 5, 3) := by decide +kernel
theorem dX11_begin_8 : decode cX11_begin 8 = .ok (.iconst (-1), 1) := by decide +kernel
theorem dX11_begin_9 : decode cX11_begin 9 = .ok (.ireturn, 1) := by decide +kernel
theorem dX11_begin_10 : decode cX11_begin 10 = .ok (.aload_n 0, 1) := by decide +kernel
theorem dX11_begin_11 : decode cX11_begin 11 = .ok (.getfield 30, 3) := by decide +kernel
theorem dX11_begin_14 : decode cX11_begin 14 = .ok (.iload_n 1, 1) := by decide +kernel
theorem dX11_begin_15 : decode cX11_begin 15 = .ok (.iaload, 1) := by decide +kernel
theorem dX11_begin_16 : decode cX11_begin 16 = .ok (.ifCond .eq 5, 3) := by decide +kernel
theorem dX11_begin_19 : decode cX11_begin 19 = .ok (.iconst 0, 1) := by decide +kernel
theorem dX11_begin_20 : decode cX11_begin 20 = .ok (.ireturn, 1) := by decide +kernel
theorem dX11_begin_21 : decode cX11_begin 21 = .ok (.aload_n 0, 1) := by decide +kernel
theorem dX11_begin_22 : decode cX11_begin 22 = .ok (.getfield 30, 3) := by decide +kernel
theorem dX11_begin_25 : decode cX11_begin 25 = .ok (.iload_n 1, 1) := by decide +kernel
theorem dX11_begin_26 : decode cX11_begin 26 = .ok (.iconst 1, 1) := by decide +kernel
theorem dX11_begin_27 : decode cX11_begin 27 = .ok (.iastore, 1) := by decide +kernel
theorem dX11_begin_28 : decode cX11_begin 28 = .ok (.iconst 1, 1) := by decide +kernel
theorem dX11_begin_29 : decode cX11_begin 29 = .ok (.ireturn, 1) := by decide +kernel
theorem dX11_read_0 : decode cX11_read 0 = .ok (.aload_n 0, 1) := by decide +kernel
theorem dX11_read_1 : decode cX11_read 1 = .ok (.iload_n 1, 1) := by decide +kernel
theorem dX11_read_2 : decode cX11_read 2 = .ok (.invokevirtual 132, 3) := by decide +kernel
theorem dX11_read_5 : decode cX11_read 5 = .ok (.ifCond .eq 11, 3) := by decide +kernel
theorem dX11_read_8 : decode cX11_read 8 = .ok (.aload_n 0, 1) := by decide +kernel
theorem dX11_read_9 : decode cX11_read 9 = .ok (.iload_n 2, 1) := by decide +kernel
theorem dX11_read_10 : decode cX11_read 10 = .ok (.invokevirtual 136, 3) := by decide +kernel
theorem dX11_read_13 : decode cX11_read 13 = .ok (.ifCond .ne 10, 3) := by decide +kernel
theorem dX11_read_16 : decode cX11_read 16 = .ok (.aload_n 0, 1) := by decide +kernel
theorem dX11_read_17 : decode cX11_read 17 = .ok (.iconst (-1), 1) := by decide +kernel
theorem dX11_read_18 : decode cX11_read 18 = .ok (.putfield 139, 3) := by decide +kernel
theorem dX11_read_21 : decode cX11_read 21 = .ok (.lconst 0, 1) := by decide +kernel
theorem dX11_read_22 : decode cX11_read 22 = .ok (.lreturn, 1) := by decide +kernel
theorem dX11_read_23 : decode cX11_read 23 = .ok (.aload_n 0, 1) := by decide +kernel
theorem dX11_read_24 : decode cX11_read 24 = .ok (.aload_n 0, 1) := by decide +kernel
theorem dX11_read_25 : decode cX11_read 25 = .ok (.iload_n 1, 1) := by decide +kernel
theorem dX11_read_26 : decode cX11_read 26 = .ok (.iload_n 2, 1) := by decide +kernel
theorem dX11_read_27 : decode cX11_read 27 = .ok (.iconst 0, 1) := by decide +kernel
theorem dX11_read_28 : decode cX11_read 28 = .ok (.invokevirtual 142, 3) := by decide +kernel
theorem dX11_read_31 : decode cX11_read 31 = .ok (.putfield 139, 3) := by decide +kernel
theorem dX11_read_34 : decode cX11_read 34 = .ok (.aload_n 0, 1) := by decide +kernel
theorem dX11_read_35 : decode cX11_read 35 = .ok (.getfield 139, 3) := by decide +kernel
theorem dX11_read_38 : decode cX11_read 38 = .ok (.iconst 1, 1) := by decide +kernel
theorem dX11_read_39 : decode cX11_read 39 = .ok (.if_icmp .eq 5, 3) := by decide +kernel
theorem dX11_read_42 : decode cX11_read 42 = .ok (.lconst 0, 1) := by decide +kernel
theorem dX11_read_43 : decode cX11_read 43 = .ok (.lreturn, 1) := by decide +kernel
theorem dX11_read_44 : decode cX11_read 44 = .ok (.aload_n 0, 1) := by decide +kernel
theorem dX11_read_45 : decode cX11_read 45 = .ok (.getfield 36, 3) := by decide +kernel
theorem dX11_read_48 : decode cX11_read 48 = .ok (.bipush 32, 2) := by decide +kernel
theorem dX11_read_50 : decode cX11_read 50 = .ok (.iload_n 1, 1) := by decide +kernel
theorem dX11_read_51 : decode cX11_read 51 = .ok (.imul, 1) := by decide +kernel
theorem dX11_read_52 : decode cX11_read 52 = .ok (.iload_n 2, 1) := by decide +kernel
theorem dX11_read_53 : decode cX11_read 53 = .ok (.iadd, 1) := by decide +kernel
theorem dX11_read_54 : decode cX11_read 54 = .ok (.baload, 1) := by decide +kernel
theorem dX11_read_55 : decode cX11_read 55 = .ok (.ifCond .eq 17, 3) := by decide +kernel
theorem dX11_read_58 : decode cX11_read 58 = .ok (.aload_n 0, 1) := by decide +kernel
theorem dX11_read_59 : decode cX11_read 59 = .ok (.getfield 39, 3) := by decide +kernel
theorem dX11_read_62 : decode cX11_read 62 = .ok (.bipush 32, 2) := by decide +kernel
theorem dX11_read_64 : decode cX11_read 64 = .ok (.iload_n 1, 1) := by decide +kernel
theorem dX11_read_65 : decode cX11_read 65 = .ok (.imul, 1) := by decide +kernel
theorem dX11_read_66 : decode cX11_read 66 = .ok (.iload_n 2, 1) := by decide +kernel
theorem dX11_read_67 : decode cX11_read 67 = .ok (.iadd, 1) := by decide +kernel
theorem dX11_read_68 : decode cX11_read 68 = .ok (.laload, 1) := by decide +kernel
theorem dX11_read_69 : decode cX11_read 69 = .ok (.goto 9, 3) := by decide +kernel
theorem dX11_read_72 : decode cX11_read 72 = .ok (.aload_n 0, 1) := by decide +kernel
theorem dX11_read_73 : decode cX11_read 73 = .ok (.getfield 20, 3) := by decide +kernel
theorem dX11_read_76 : decode cX11_read 76 = .ok (.iload_n 2, 1) := by decide +kernel
theorem dX11_read_77 : decode cX11_read 77 = .ok (.laload, 1) := by decide +kernel
theorem dX11_read_78 : decode cX11_read 78 = .ok (.lreturn, 1) := by decide +kernel
theorem dX11_readStatus_0 : decode cX11_readStatus 0 = .ok (.aload_n 0, 1) := by decide +kernel
theorem dX11_readStatus_1 : decode cX11_readStatus 1 = .ok (.getfield 139, 3) := by decide +kernel
theorem dX11_readStatus_4 : decode cX11_readStatus 4 = .ok (.ireturn, 1) := by decide +kernel
theorem dX11_write_0 : decode cX11_write 0 = .ok (.aload_n 0, 1) := by decide +kernel
theorem dX11_write_1 : decode cX11_write 1 = .ok (.iload_n 1, 1) := by decide +kernel
theorem dX11_write_2 : decode cX11_write 2 = .ok (.invokevirtual 132, 3) := by decide +kernel
theorem dX11_write_5 : decode cX11_write 5 = .ok (.ifCond .eq 11, 3) := by decide +kernel
theorem dX11_write_8 : decode cX11_write 8 = .ok (.aload_n 0, 1) := by decide +kernel
theorem dX11_write_9 : decode cX11_write 9 = .ok (.iload_n 2, 1) := by decide +kernel
theorem dX11_write_10 : decode cX11_write 10 = .ok (.invokevirtual 136, 3) := by decide +kernel
theorem dX11_write_13 : decode cX11_write 13 = .ok (.ifCond .ne 5, 3) := by decide +kernel
theorem dX11_write_16 : decode cX11_write 16 = .ok (.iconst (-1), 1) := by decide +kernel
theorem dX11_write_17 : decode cX11_write 17 = .ok (.ireturn, 1) := by decide +kernel
theorem dX11_write_18 : decode cX11_write 18 = .ok (.aload_n 0, 1) := by decide +kernel
theorem dX11_write_19 : decode cX11_write 19 = .ok (.iload_n 1, 1) := by decide +kernel
theorem dX11_write_20 : decode cX11_write 20 = .ok (.iload_n 2, 1) := by decide +kernel
theorem dX11_write_21 : decode cX11_write 21 = .ok (.iconst 1, 1) := by decide +kernel
theorem dX11_write_22 : decode cX11_write 22 = .ok (.invokevirtual 142, 3) := by decide +kernel
theorem dX11_write_25 : decode cX11_write 25 = .ok (.istore 5, 2) := by decide +kernel
theorem dX11_write_27 : decode cX11_write 27 = .ok (.iload 5, 2) := by decide +kernel
theorem dX11_write_29 : decode cX11_write 29 = .ok (.iconst 1, 1) := by decide +kernel
theorem dX11_write_30 : decode cX11_write 30 = .ok (.if_icmp .ne 27, 3) := by decide +kernel
theorem dX11_write_33 : decode cX11_write 33 = .ok (.aload_n 0, 1) := by decide +kernel
theorem dX11_write_34 : decode cX11_write 34 = .ok (.getfield 36, 3) := by decide +kernel
theorem dX11_write_37 : decode cX11_write 37 = .ok (.bipush 32, 2) := by decide +kernel
theorem dX11_write_39 : decode cX11_write 39 = .ok (.iload_n 1, 1) := by decide +kernel
theorem dX11_write_40 : decode cX11_write 40 = .ok (.imul, 1) := by decide +kernel
theorem dX11_write_41 : decode cX11_write 41 = .ok (.iload_n 2, 1) := by decide +kernel
theorem dX11_write_42 : decode cX11_write 42 = .ok (.iadd, 1) := by decide +kernel
theorem dX11_write_43 : decode cX11_write 43 = .ok (.iconst 1, 1) := by decide +kernel
theorem dX11_write_44 : decode cX11_write 44 = .ok (.bastore, 1) := by decide +kernel
theorem dX11_write_45 : decode cX11_write 45 = .ok (.aload_n 0, 1) := by decide +kernel
theorem dX11_write_46 : decode cX11_write 46 = .ok (.getfield 39, 3) := by decide +kernel
theorem dX11_write_49 : decode cX11_write 49 = .ok (.bipush 32, 2) := by decide +kernel
theorem dX11_write_51 : decode cX11_write 51 = .ok (.iload_n 1, 1) := by decide +kernel
theorem dX11_write_52 : decode cX11_write 52 = .ok (.imul, 1) := by decide +kernel
theorem dX11_write_53 : decode cX11_write 53 = .ok (.iload_n 2, 1) := by decide +kernel
theorem dX11_write_54 : decode cX11_write 54 = .ok (.iadd, 1) := by decide +kernel
theorem dX11_write_55 : decode cX11_write 55 = .ok (.lload_n 3, 1) := by decide +kernel
theorem dX11_write_56 : decode cX11_write 56 = .ok (.lastore, 1) := by decide +kernel
theorem dX11_write_57 : decode cX11_write 57 = .ok (.iload 5, 2) := by decide +kernel
theorem dX11_write_59 : decode cX11_write 59 = .ok (.ireturn, 1) := by decide +kernel
theorem dX11_requestCommit_0 : decode cX11_requestCommit 0 = .ok (.aload_n 0, 1) := by decide +kernel
theorem dX11_requestCommit_1 : decode cX11_requestCommit 1 = .ok (.iload_n 1, 1) := by decide +kernel
theorem dX11_requestCommit_2 : decode cX11_requestCommit 2 = .ok (.invokevirtual 132, 3) := by decide +kernel
theorem dX11_requestCommit_5 : decode cX11_requestCommit 5 = .ok (.ifCond .ne 5, 3) := by decide +kernel
theorem dX11_requestCommit_8 : decode cX11_requestCommit 8 = .ok (.iconst (-1), 1) := by decide +kernel
theorem dX11_requestCommit_9 : decode cX11_requestCommit 9 = .ok (.ireturn, 1) := by decide +kernel
theorem dX11_requestCommit_10 : decode cX11_requestCommit 10 = .ok (.aload_n 0, 1) := by decide +kernel
theorem dX11_requestCommit_11 : decode cX11_requestCommit 11 = .ok (.getfield 30, 3) := by decide +kernel
theorem dX11_requestCommit_14 : decode cX11_requestCommit 14 = .ok (.iload_n 1, 1) := by decide +kernel
theorem dX11_requestCommit_15 : decode cX11_requestCommit 15 = .ok (.iaload, 1) := by decide +kernel
theorem dX11_requestCommit_16 : decode cX11_requestCommit 16 = .ok (.iconst 1, 1) := by decide +kernel
theorem dX11_requestCommit_17 : decode cX11_requestCommit 17 = .ok (.if_icmp .eq 5, 3) := by decide +kernel
theorem dX11_requestCommit_20 : decode cX11_requestCommit 20 = .ok (.iconst 0, 1) := by decide +kernel
theorem dX11_requestCommit_21 : decode cX11_requestCommit 21 = .ok (.ireturn, 1) := by decide +kernel
theorem dX11_requestCommit_22 : decode cX11_requestCommit 22 = .ok (.aload_n 0, 1) := by decide +kernel
theorem dX11_requestCommit_23 : decode cX11_requestCommit 23 = .ok (.getfield 30, 3) := by decide +kernel
theorem dX11_requestCommit_26 : decode cX11_requestCommit 26 = .ok (.iload_n 1, 1) := by decide +kernel
theorem dX11_requestCommit_27 : decode cX11_requestCommit 27 = .ok (.aload_n 0, 1) := by decide +kernel
theorem dX11_requestCommit_28 : decode cX11_requestCommit 28 = .ok (.getfield 33, 3) := by decide +kernel
theorem dX11_requestCommit_31 : decode cX11_requestCommit 31 = .ok (.iload_n 1, 1) := by decide +kernel
theorem dX11_requestCommit_32 : decode cX11_requestCommit 32 = .ok (.iaload, 1) := by decide +kernel
theorem dX11_requestCommit_33 : decode cX11_requestCommit 33 = .ok (.ifCond .ne 7, 3) := by decide +kernel
theorem dX11_requestCommit_36 : decode cX11_requestCommit 36 = .ok (.iconst 3, 1) := by decide +kernel
theorem dX11_requestCommit_37 : decode cX11_requestCommit 37 = .ok (.goto 4, 3) := by decide +kernel
theorem dX11_requestCommit_40 : decode cX11_requestCommit 40 = .ok (.iconst 2, 1) := by decide +kernel
theorem dX11_requestCommit_41 : decode cX11_requestCommit 41 = .ok (.iastore, 1) := by decide +kernel
theorem dX11_requestCommit_42 : decode cX11_requestCommit 42 = .ok (.iconst 0, 1) := by decide +kernel
theorem dX11_requestCommit_43 : decode cX11_requestCommit 43 = .ok (.istore_n 2, 1) := by decide +kernel
theorem dX11_requestCommit_44 : decode cX11_requestCommit 44 = .ok (.iconst 0, 1) := by decide +kernel
theorem dX11_requestCommit_45 : decode cX11_requestCommit 45 = .ok (.istore_n 3, 1) := by decide +kernel
theorem dX11_requestCommit_46 : decode cX11_requestCommit 46 = .ok (.iload_n 3, 1) := by decide +kernel
theorem dX11_requestCommit_47 : decode cX11_requestCommit 47 = .ok (.aload_n 0, 1) := by decide +kernel
theorem dX11_requestCommit_48 : decode cX11_requestCommit 48 = .ok (.getfield 97, 3) := by decide +kernel
theorem dX11_requestCommit_51 : decode cX11_requestCommit 51 = .ok (.if_icmp .ge 41, 3) := by decide +kernel
theorem dX11_requestCommit_54 : decode cX11_requestCommit 54 = .ok (.aload_n 0, 1) := by decide +kernel
theorem dX11_requestCommit_55 : decode cX11_requestCommit 55 = .ok (.iload_n 1, 1) := by decide +kernel
theorem dX11_requestCommit_56 : decode cX11_requestCommit 56 = .ok (.iload_n 3, 1) := by decide +kernel
theorem dX11_requestCommit_57 : decode cX11_requestCommit 57 = .ok (.invokevirtual 128, 3) := by decide +kernel
theorem dX11_requestCommit_60 : decode cX11_requestCommit 60 = .ok (.ifCond .eq 26, 3) := by decide +kernel
theorem dX11_requestCommit_63 : decode cX11_requestCommit 63 = .ok (.aload_n 0, 1) := by decide +kernel
theorem dX11_requestCommit_64 : decode cX11_requestCommit 64 = .ok (.iconst 1, 1) := by decide +kernel
theorem dX11_requestCommit_65 : decode cX11_requestCommit 65 = .ok (.iload_n 3, 1) := by decide +kernel
theorem dX11_requestCommit_66 : decode cX11_requestCommit 66 = .ok (.iload_n 1, 1) := by decide +kernel
theorem dX11_requestCommit_67 : decode cX11_requestCommit 67 = .ok (.iconst 0, 1) := by decide +kernel
theorem dX11_requestCommit_68 : decode cX11_requestCommit 68 = .ok (.iconst 0, 1) := by decide +kernel
theorem dX11_requestCommit_69 : decode cX11_requestCommit 69 = .ok (.iconst 0, 1) := by decide +kernel
theorem dX11_requestCommit_70 : decode cX11_requestCommit 70 = .ok (.aload_n 0, 1) := by decide +kernel
theorem dX11_requestCommit_71 : decode cX11_requestCommit 71 = .ok (.getfield 97, 3) := by decide +kernel
theorem dX11_requestCommit_74 : decode cX11_requestCommit 74 = .ok (.aload_n 0, 1) := by decide +kernel
theorem dX11_requestCommit_75 : decode cX11_requestCommit 75 = .ok (.getfield 101, 3) := by decide +kernel
theorem dX11_requestCommit_78 : decode cX11_requestCommit 78 = .ok (.iadd, 1) := by decide +kernel
theorem dX11_requestCommit_79 : decode cX11_requestCommit 79 = .ok (.invokevirtual 146, 3) := by decide +kernel
theorem dX11_requestCommit_82 : decode cX11_requestCommit 82 = .ok (.pop, 1) := by decide +kernel
theorem dX11_requestCommit_83 : decode cX11_requestCommit 83 = .ok (.iinc 2 1, 3) := by decide +kernel
theorem dX11_requestCommit_86 : decode cX11_requestCommit 86 = .ok (.iinc 3 1, 3) := by decide +kernel
theorem dX11_requestCommit_89 : decode cX11_requestCommit 89 = .ok (.goto (-43), 3) := by decide +kernel
theorem dX11_requestCommit_92 : decode cX11_requestCommit 92 = .ok (.iload_n 2, 1) := by decide +kernel
theorem dX11_requestCommit_93 : decode cX11_requestCommit 93 = .ok (.ireturn, 1) := by decide +kernel
theorem dX11_abort_0 : decode cX11_abort 0 = .ok (.aload_n 0, 1) := by decide +kernel
theorem dX11_abort_1 : decode cX11_abort 1 = .ok (.iload_n 1, 1) := by decide +kernel
theorem dX11_abort_2 : decode cX11_abort 2 = .ok (.invokevirtual 132, 3) := by decide +kernel
theorem dX11_abort_5 : decode cX11_abort 5 = .ok (.ifCond .ne 5, 3) := by decide +kernel
theorem dX11_abort_8 : decode cX11_abort 8 = .ok (.iconst (-1), 1) := by decide +kernel
theorem dX11_abort_9 : decode cX11_abort 9 = .ok (.ireturn, 1) := by decide +kernel
theorem dX11_abort_10 : decode cX11_abort 10 = .ok (.aload_n 0, 1) := by decide +kernel
theorem dX11_abort_11 : decode cX11_abort 11 = .ok (.getfield 30, 3) := by decide +kernel
theorem dX11_abort_14 : decode cX11_abort 14 = .ok (.iload_n 1, 1) := by decide +kernel
theorem dX11_abort_15 : decode cX11_abort 15 = .ok (.iaload, 1) := by decide +kernel
theorem dX11_abort_16 : decode cX11_abort 16 = .ok (.iconst 1, 1) := by decide +kernel
theorem dX11_abort_17 : decode cX11_abort 17 = .ok (.if_icmp .eq 5, 3) := by decide +kernel
theorem dX11_abort_20 : decode cX11_abort 20 = .ok (.iconst 0, 1) := by decide +kernel
theorem dX11_abort_21 : decode cX11_abort 21 = .ok (.ireturn, 1) := by decide +kernel
theorem dX11_abort_22 : decode cX11_abort 22 = .ok (.aload_n 0, 1) := by decide +kernel
theorem dX11_abort_23 : decode cX11_abort 23 = .ok (.getfield 30, 3) := by decide +kernel
theorem dX11_abort_26 : decode cX11_abort 26 = .ok (.iload_n 1, 1) := by decide +kernel
theorem dX11_abort_27 : decode cX11_abort 27 = .ok (.iconst 4, 1) := by decide +kernel
theorem dX11_abort_28 : decode cX11_abort 28 = .ok (.iastore, 1) := by decide +kernel
theorem dX11_abort_29 : decode cX11_abort 29 = .ok (.iconst 0, 1) := by decide +kernel
theorem dX11_abort_30 : decode cX11_abort 30 = .ok (.istore_n 2, 1) := by decide +kernel
theorem dX11_abort_31 : decode cX11_abort 31 = .ok (.iload_n 2, 1) := by decide +kernel
theorem dX11_abort_32 : decode cX11_abort 32 = .ok (.aload_n 0, 1) := by decide +kernel
theorem dX11_abort_33 : decode cX11_abort 33 = .ok (.getfield 97, 3) := by decide +kernel
theorem dX11_abort_36 : decode cX11_abort 36 = .ok (.if_icmp .ge 38, 3) := by decide +kernel
theorem dX11_abort_39 : decode cX11_abort 39 = .ok (.aload_n 0, 1) := by decide +kernel
theorem dX11_abort_40 : decode cX11_abort 40 = .ok (.getfield 7, 3) := by decide +kernel
theorem dX11_abort_43 : decode cX11_abort 43 = .ok (.iload_n 2, 1) := by decide +kernel
theorem dX11_abort_44 : decode cX11_abort 44 = .ok (.baload, 1) := by decide +kernel
theorem dX11_abort_45 : decode cX11_abort 45 = .ok (.ifCond .eq 23, 3) := by decide +kernel
theorem dX11_abort_48 : decode cX11_abort 48 = .ok (.aload_n 0, 1) := by decide +kernel
theorem dX11_abort_49 : decode cX11_abort 49 = .ok (.getfield 42, 3) := by decide +kernel
theorem dX11_abort_52 : decode cX11_abort 52 = .ok (.bipush 16, 2) := by decide +kernel
theorem dX11_abort_54 : decode cX11_abort 54 = .ok (.iload_n 2, 1) := by decide +kernel
theorem dX11_abort_55 : decode cX11_abort 55 = .ok (.imul, 1) := by decide +kernel
theorem dX11_abort_56 : decode cX11_abort 56 = .ok (.iload_n 1, 1) := by decide +kernel
theorem dX11_abort_57 : decode cX11_abort 57 = .ok (.iadd, 1) := by decide +kernel
theorem dX11_abort_58 : decode cX11_abort 58 = .ok (.baload, 1) := by decide +kernel
theorem dX11_abort_59 : decode cX11_abort 59 = .ok (.ifCond .eq 9, 3) := by decide +kernel
theorem dX11_abort_62 : decode cX11_abort 62 = .ok (.aload_n 0, 1) := by decide +kernel
theorem dX11_abort_63 : decode cX11_abort 63 = .ok (.iload_n 2, 1) := by decide +kernel
theorem dX11_abort_64 : decode cX11_abort 64 = .ok (.iload_n 1, 1) := by decide +kernel
theorem dX11_abort_65 : decode cX11_abort 65 = .ok (.invokevirtual 150, 3) := by decide +kernel
theorem dX11_abort_68 : decode cX11_abort 68 = .ok (.iinc 2 1, 3) := by decide +kernel
theorem dX11_abort_71 : decode cX11_abort 71 = .ok (.goto (-40), 3) := by decide +kernel
theorem dX11_abort_74 : decode cX11_abort 74 = .ok (.iconst 1, 1) := by decide +kernel
theorem dX11_abort_75 : decode cX11_abort 75 = .ok (.ireturn, 1) := by decide +kernel
theorem dX11_outcome_0 : decode cX11_outcome 0 = .ok (.aload_n 0, 1) := by decide +kernel
theorem dX11_outcome_1 : decode cX11_outcome 1 = .ok (.iload_n 1, 1) := by decide +kernel
theorem dX11_outcome_2 : decode cX11_outcome 2 = .ok (.invokevirtual 132, 3) := by decide +kernel
theorem dX11_outcome_5 : decode cX11_outcome 5 = .ok (.ifCond .eq 12, 3) := by decide +kernel
theorem dX11_outcome_8 : decode cX11_outcome 8 = .ok (.aload_n 0, 1) := by decide +kernel
theorem dX11_outcome_9 : decode cX11_outcome 9 = .ok (.getfield 30, 3) := by decide +kernel
theorem dX11_outcome_12 : decode cX11_outcome 12 = .ok (.iload_n 1, 1) := by decide +kernel
theorem dX11_outcome_13 : decode cX11_outcome 13 = .ok (.iaload, 1) := by decide +kernel
theorem dX11_outcome_14 : decode cX11_outcome 14 = .ok (.goto 4, 3) := by decide +kernel
theorem dX11_outcome_17 : decode cX11_outcome 17 = .ok (.iconst (-1), 1) := by decide +kernel
theorem dX11_outcome_18 : decode cX11_outcome 18 = .ok (.ireturn, 1) := by decide +kernel
theorem dX11_committedValue_0 : decode cX11_committedValue 0 = .ok (.aload_n 0, 1) := by decide +kernel
theorem dX11_committedValue_1 : decode cX11_committedValue 1 = .ok (.iload_n 1, 1) := by decide +kernel
theorem dX11_committedValue_2 : decode cX11_committedValue 2 = .ok (.invokevirtual 136, 3) := by decide +kernel
theorem dX11_committedValue_5 : decode cX11_committedValue 5 = .ok (.ifCond .eq 12, 3) := by decide +kernel
theorem dX11_committedValue_8 : decode cX11_committedValue 8 = .ok (.aload_n 0, 1) := by decide +kernel
theorem dX11_committedValue_9 : decode cX11_committedValue 9 = .ok (.getfield 20, 3) := by decide +kernel
theorem dX11_committedValue_12 : decode cX11_committedValue 12 = .ok (.iload_n 1, 1) := by decide +kernel
theorem dX11_committedValue_13 : decode cX11_committedValue 13 = .ok (.laload, 1) := by decide +kernel
theorem dX11_committedValue_14 : decode cX11_committedValue 14 = .ok (.goto 4, 3) := by decide +kernel
theorem dX11_committedValue_17 : decode cX11_committedValue 17 = .ok (.lconst 0, 1) := by decide +kernel
theorem dX11_committedValue_18 : decode cX11_committedValue 18 = .ok (.lreturn, 1) := by decide +kernel
theorem dX11_post_0 : decode cX11_post 0 = .ok (.aload_n 0, 1) := by decide +kernel
theorem dX11_post_1 : decode cX11_post 1 = .ok (.dup, 1) := by decide +kernel
theorem dX11_post_2 : decode cX11_post 2 = .ok (.getfield 154, 3) := by decide +kernel
theorem dX11_post_5 : decode cX11_post 5 = .ok (.iconst 1, 1) := by decide +kernel
theorem dX11_post_6 : decode cX11_post 6 = .ok (.iadd, 1) := by decide +kernel
theorem dX11_post_7 : decode cX11_post 7 = .ok (.putfield 154, 3) := by decide +kernel
theorem dX11_post_10 : decode cX11_post 10 = .ok (.aload_n 0, 1) := by decide +kernel
theorem dX11_post_11 : decode cX11_post 11 = .ok (.getfield 157, 3) := by decide +kernel
theorem dX11_post_14 : decode cX11_post 14 = .ok (.aload_n 0, 1) := by decide +kernel
theorem dX11_post_15 : decode cX11_post 15 = .ok (.getfield 110, 3) := by decide +kernel
theorem dX11_post_18 : decode cX11_post 18 = .ok (.if_icmp .ne 15, 3) := by decide +kernel
theorem dX11_post_21 : decode cX11_post 21 = .ok (.aload_n 0, 1) := by decide +kernel
theorem dX11_post_22 : decode cX11_post 22 = .ok (.dup, 1) := by decide +kernel
theorem dX11_post_23 : decode cX11_post 23 = .ok (.getfield 160, 3) := by decide +kernel
theorem dX11_post_26 : decode cX11_post 26 = .ok (.iconst 1, 1) := by decide +kernel
theorem dX11_post_27 : decode cX11_post 27 = .ok (.iadd, 1) := by decide +kernel
theorem dX11_post_28 : decode cX11_post 28 = .ok (.putfield 160, 3) := by decide +kernel
theorem dX11_post_31 : decode cX11_post 31 = .ok (.iconst (-1), 1) := by decide +kernel
theorem dX11_post_32 : decode cX11_post 32 = .ok (.ireturn, 1) := by decide +kernel
theorem dX11_post_33 : decode cX11_post 33 = .ok (.bipush 7, 2) := by decide +kernel
theorem dX11_post_35 : decode cX11_post 35 = .ok (.aload_n 0, 1) := by decide +kernel
theorem dX11_post_36 : decode cX11_post 36 = .ok (.getfield 157, 3) := by decide +kernel
theorem dX11_post_39 : decode cX11_post 39 = .ok (.imul, 1) := by decide +kernel
theorem dX11_post_40 : decode cX11_post 40 = .ok (.istore 8, 2) := by decide +kernel
theorem dX11_post_42 : decode cX11_post 42 = .ok (.aload_n 0, 1) := by decide +kernel
theorem dX11_post_43 : decode cX11_post 43 = .ok (.getfield 81, 3) := by decide +kernel
theorem dX11_post_46 : decode cX11_post 46 = .ok (.iload 8, 2) := by decide +kernel
theorem dX11_post_48 : decode cX11_post 48 = .ok (.iload_n 1, 1) := by decide +kernel
theorem dX11_post_49 : decode cX11_post 49 = .ok (.iastore, 1) := by decide +kernel
theorem dX11_post_50 : decode cX11_post 50 = .ok (.aload_n 0, 1) := by decide +kernel
theorem dX11_post_51 : decode cX11_post 51 = .ok (.getfield 81, 3) := by decide +kernel
theorem dX11_post_54 : decode cX11_post 54 = .ok (.iload 8, 2) := by decide +kernel
theorem dX11_post_56 : decode cX11_post 56 = .ok (.iconst 1, 1) := by decide +kernel
theorem dX11_post_57 : decode cX11_post 57 = .ok (.iadd, 1) := by decide +kernel
theorem dX11_post_58 : decode cX11_post 58 = .ok (.iload_n 2, 1) := by decide +kernel
theorem dX11_post_59 : decode cX11_post 59 = .ok (.iastore, 1) := by decide +kernel
theorem dX11_post_60 : decode cX11_post 60 = .ok (.aload_n 0, 1) := by decide +kernel
theorem dX11_post_61 : decode cX11_post 61 = .ok (.getfield 81, 3) := by decide +kernel
theorem dX11_post_64 : decode cX11_post 64 = .ok (.iload 8, 2) := by decide +kernel
theorem dX11_post_66 : decode cX11_post 66 = .ok (.iconst 2, 1) := by decide +kernel
theorem dX11_post_67 : decode cX11_post 67 = .ok (.iadd, 1) := by decide +kernel
theorem dX11_post_68 : decode cX11_post 68 = .ok (.iload_n 3, 1) := by decide +kernel
theorem dX11_post_69 : decode cX11_post 69 = .ok (.iastore, 1) := by decide +kernel
theorem dX11_post_70 : decode cX11_post 70 = .ok (.aload_n 0, 1) := by decide +kernel
theorem dX11_post_71 : decode cX11_post 71 = .ok (.getfield 81, 3) := by decide +kernel
theorem dX11_post_74 : decode cX11_post 74 = .ok (.iload 8, 2) := by decide +kernel
theorem dX11_post_76 : decode cX11_post 76 = .ok (.iconst 3, 1) := by decide +kernel
theorem dX11_post_77 : decode cX11_post 77 = .ok (.iadd, 1) := by decide +kernel
theorem dX11_post_78 : decode cX11_post 78 = .ok (.iload 4, 2) := by decide +kernel
theorem dX11_post_80 : decode cX11_post 80 = .ok (.iastore, 1) := by decide +kernel
theorem dX11_post_81 : decode cX11_post 81 = .ok (.aload_n 0, 1) := by decide +kernel
theorem dX11_post_82 : decode cX11_post 82 = .ok (.getfield 81, 3) := by decide +kernel
theorem dX11_post_85 : decode cX11_post 85 = .ok (.iload 8, 2) := by decide +kernel
theorem dX11_post_87 : decode cX11_post 87 = .ok (.iconst 4, 1) := by decide +kernel
theorem dX11_post_88 : decode cX11_post 88 = .ok (.iadd, 1) := by decide +kernel
theorem dX11_post_89 : decode cX11_post 89 = .ok (.iload 5, 2) := by decide +kernel
theorem dX11_post_91 : decode cX11_post 91 = .ok (.iastore, 1) := by decide +kernel
theorem dX11_post_92 : decode cX11_post 92 = .ok (.aload_n 0, 1) := by decide +kernel
theorem dX11_post_93 : decode cX11_post 93 = .ok (.getfield 81, 3) := by decide +kernel
theorem dX11_post_96 : decode cX11_post 96 = .ok (.iload 8, 2) := by decide +kernel
theorem dX11_post_98 : decode cX11_post 98 = .ok (.iconst 5, 1) := by decide +kernel
theorem dX11_post_99 : decode cX11_post 99 = .ok (.iadd, 1) := by decide +kernel
theorem dX11_post_100 : decode cX11_post 100 = .ok (.iload 6, 2) := by decide +kernel
theorem dX11_post_102 : decode cX11_post 102 = .ok (.iastore, 1) := by decide +kernel
theorem dX11_post_103 : decode cX11_post 103 = .ok (.aload_n 0, 1) := by decide +kernel
theorem dX11_post_104 : decode cX11_post 104 = .ok (.getfield 81, 3) := by decide +kernel
theorem dX11_post_107 : decode cX11_post 107 = .ok (.iload 8, 2) := by decide +kernel
theorem dX11_post_109 : decode cX11_post 109 = .ok (.bipush 6, 2) := by decide +kernel
theorem dX11_post_111 : decode cX11_post 111 = .ok (.iadd, 1) := by decide +kernel
theorem dX11_post_112 : decode cX11_post 112 = .ok (.iload 7, 2) := by decide +kernel
theorem dX11_post_114 : decode cX11_post 114 = .ok (.iastore, 1) := by decide +kernel
theorem dX11_post_115 : decode cX11_post 115 = .ok (.aload_n 0, 1) := by decide +kernel
theorem dX11_post_116 : decode cX11_post 116 = .ok (.dup, 1) := by decide +kernel
theorem dX11_post_117 : decode cX11_post 117 = .ok (.getfield 157, 3) := by decide +kernel
theorem dX11_post_120 : decode cX11_post 120 = .ok (.iconst 1, 1) := by decide +kernel
theorem dX11_post_121 : decode cX11_post 121 = .ok (.iadd, 1) := by decide +kernel
theorem dX11_post_122 : decode cX11_post 122 = .ok (.putfield 157, 3) := by decide +kernel
theorem dX11_post_125 : decode cX11_post 125 = .ok (.aload_n 0, 1) := by decide +kernel
theorem dX11_post_126 : decode cX11_post 126 = .ok (.getfield 157, 3) := by decide +kernel
theorem dX11_post_129 : decode cX11_post 129 = .ok (.iconst 1, 1) := by decide +kernel
theorem dX11_post_130 : decode cX11_post 130 = .ok (.isub, 1) := by decide +kernel
theorem dX11_post_131 : decode cX11_post 131 = .ok (.ireturn, 1) := by decide +kernel
theorem dX11_postAll_0 : decode cX11_postAll 0 = .ok (.iconst 0, 1) := by decide +kernel
theorem dX11_postAll_1 : decode cX11_postAll 1 = .ok (.istore 7, 2) := by decide +kernel
theorem dX11_postAll_3 : decode cX11_postAll 3 = .ok (.iload 7, 2) := by decide +kernel
theorem dX11_postAll_5 : decode cX11_postAll 5 = .ok (.aload_n 0, 1) := by decide +kernel
theorem dX11_postAll_6 : decode cX11_postAll 6 = .ok (.getfield 101, 3) := by decide +kernel
theorem dX11_postAll_9 : decode cX11_postAll 9 = .ok (.if_icmp .ge 31, 3) := by decide +kernel
theorem dX11_postAll_12 : decode cX11_postAll 12 = .ok (.aload_n 0, 1) := by decide +kernel
theorem dX11_postAll_13 : decode cX11_postAll 13 = .ok (.iload_n 1, 1) := by decide +kernel
theorem dX11_postAll_14 : decode cX11_postAll 14 = .ok (.aload_n 0, 1) := by decide +kernel
theorem dX11_postAll_15 : decode cX11_postAll 15 = .ok (.getfield 97, 3) := by decide +kernel
theorem dX11_postAll_18 : decode cX11_postAll 18 = .ok (.iload 7, 2) := by decide +kernel
theorem dX11_postAll_20 : decode cX11_postAll 20 = .ok (.iadd, 1) := by decide +kernel
theorem dX11_postAll_21 : decode cX11_postAll 21 = .ok (.iload_n 2, 1) := by decide +kernel
theorem dX11_postAll_22 : decode cX11_postAll 22 = .ok (.iload_n 3, 1) := by decide +kernel
theorem dX11_postAll_23 : decode cX11_postAll 23 = .ok (.iload 4, 2) := by decide +kernel
theorem dX11_postAll_25 : decode cX11_postAll 25 = .ok (.iload 5, 2) := by decide +kernel
theorem dX11_postAll_27 : decode cX11_postAll 27 = .ok (.iload 6, 2) := by decide +kernel
theorem dX11_postAll_29 : decode cX11_postAll 29 = .ok (.invokevirtual 146, 3) := by decide +kernel
theorem dX11_postAll_32 : decode cX11_postAll 32 = .ok (.istore 8, 2) := by decide +kernel
theorem dX11_postAll_34 : decode cX11_postAll 34 = .ok (.iinc 7 1, 3) := by decide +kernel
theorem dX11_postAll_37 : decode cX11_postAll 37 = .ok (.goto (-34), 3) := by decide +kernel
theorem dX11_postAll_40 : decode cX11_postAll 40 = .ok (.return_, 1) := by decide +kernel
theorem dX11_takeOut_0 : decode cX11_takeOut 0 = .ok (.iconst 0, 1) := by decide +kernel
theorem dX11_takeOut_1 : decode cX11_takeOut 1 = .ok (.istore_n 2, 1) := by decide +kernel
theorem dX11_takeOut_2 : decode cX11_takeOut 2 = .ok (.iload_n 2, 1) := by decide +kernel
theorem dX11_takeOut_3 : decode cX11_takeOut 3 = .ok (.bipush 7, 2) := by decide +kernel
theorem dX11_takeOut_5 : decode cX11_takeOut 5 = .ok (.if_icmp .ge 26, 3) := by decide +kernel
theorem dX11_takeOut_8 : decode cX11_takeOut 8 = .ok (.aload_n 0, 1) := by decide +kernel
theorem dX11_takeOut_9 : decode cX11_takeOut 9 = .ok (.getfield 87, 3) := by decide +kernel
theorem dX11_takeOut_12 : decode cX11_takeOut 12 = .ok (.iload_n 2, 1) := by decide +kernel
theorem dX11_takeOut_13 : decode cX11_takeOut 13 = .ok (.aload_n 0, 1) := by decide +kernel
theorem dX11_takeOut_14 : decode cX11_takeOut 14 = .ok (.getfield 81, 3) := by decide +kernel
theorem dX11_takeOut_17 : decode cX11_takeOut 17 = .ok (.bipush 7, 2) := by decide +kernel
theorem dX11_takeOut_19 : decode cX11_takeOut 19 = .ok (.iload_n 1, 1) := by decide +kernel
theorem dX11_takeOut_20 : decode cX11_takeOut 20 = .ok (.imul, 1) := by decide +kernel
theorem dX11_takeOut_21 : decode cX11_takeOut 21 = .ok (.iload_n 2, 1) := by decide +kernel
theorem dX11_takeOut_22 : decode cX11_takeOut 22 = .ok (.iadd, 1) := by decide +kernel
theorem dX11_takeOut_23 : decode cX11_takeOut 23 = .ok (.iaload, 1) := by decide +kernel
theorem dX11_takeOut_24 : decode cX11_takeOut 24 = .ok (.iastore, 1) := by decide +kernel
theorem dX11_takeOut_25 : decode cX11_takeOut 25 = .ok (.iinc 2 1, 3) := by decide +kernel
theorem dX11_takeOut_28 : decode cX11_takeOut 28 = .ok (.goto (-26), 3) := by decide +kernel
theorem dX11_takeOut_31 : decode cX11_takeOut 31 = .ok (.iconst 0, 1) := by decide +kernel
theorem dX11_takeOut_32 : decode cX11_takeOut 32 = .ok (.istore_n 2, 1) := by decide +kernel
theorem dX11_takeOut_33 : decode cX11_takeOut 33 = .ok (.iload_n 2, 1) := by decide +kernel
theorem dX11_takeOut_34 : decode cX11_takeOut 34 = .ok (.bipush 8, 2) := by decide +kernel
theorem dX11_takeOut_36 : decode cX11_takeOut 36 = .ok (.if_icmp .ge 26, 3) := by decide +kernel
theorem dX11_takeOut_39 : decode cX11_takeOut 39 = .ok (.aload_n 0, 1) := by decide +kernel
theorem dX11_takeOut_40 : decode cX11_takeOut 40 = .ok (.getfield 90, 3) := by decide +kernel
theorem dX11_takeOut_43 : decode cX11_takeOut 43 = .ok (.iload_n 2, 1) := by decide +kernel
theorem dX11_takeOut_44 : decode cX11_takeOut 44 = .ok (.aload_n 0, 1) := by decide +kernel
theorem dX11_takeOut_45 : decode cX11_takeOut 45 = .ok (.getfield 84, 3) := by decide +kernel
theorem dX11_takeOut_48 : decode cX11_takeOut 48 = .ok (.bipush 8, 2) := by decide +kernel
theorem dX11_takeOut_50 : decode cX11_takeOut 50 = .ok (.iload_n 1, 1) := by decide +kernel
theorem dX11_takeOut_51 : decode cX11_takeOut 51 = .ok (.imul, 1) := by decide +kernel
theorem dX11_takeOut_52 : decode cX11_takeOut 52 = .ok (.iload_n 2, 1) := by decide +kernel
theorem dX11_takeOut_53 : decode cX11_takeOut 53 = .ok (.iadd, 1) := by decide +kernel
theorem dX11_takeOut_54 : decode cX11_takeOut 54 = .ok (.iaload, 1) := by decide +kernel
theorem dX11_takeOut_55 : decode cX11_takeOut 55 = .ok (.iastore, 1) := by decide +kernel
theorem dX11_takeOut_56 : decode cX11_takeOut 56 = .ok (.iinc 2 1, 3) := by decide +kernel
theorem dX11_takeOut_59 : decode cX11_takeOut 59 = .ok (.goto (-26), 3) := by decide +kernel
theorem dX11_takeOut_62 : decode cX11_takeOut 62 = .ok (.bipush 7, 2) := by decide +kernel
theorem dX11_takeOut_64 : decode cX11_takeOut 64 = .ok (.iload_n 1, 1) := by decide +kernel
theorem dX11_takeOut_65 : decode cX11_takeOut 65 = .ok (.imul, 1) := by decide +kernel
theorem dX11_takeOut_66 : decode cX11_takeOut 66 = .ok (.istore_n 2, 1) := by decide +kernel
theorem dX11_takeOut_67 : decode cX11_takeOut 67 = .ok (.iload_n 2, 1) := by decide +kernel
theorem dX11_takeOut_68 : decode cX11_takeOut 68 = .ok (.bipush 7, 2) := by decide +kernel
theorem dX11_takeOut_70 : decode cX11_takeOut 70 = .ok (.iadd, 1) := by decide +kernel
theorem dX11_takeOut_71 : decode cX11_takeOut 71 = .ok (.bipush 7, 2) := by decide +kernel
theorem dX11_takeOut_73 : decode cX11_takeOut 73 = .ok (.aload_n 0, 1) := by decide +kernel
theorem dX11_takeOut_74 : decode cX11_takeOut 74 = .ok (.getfield 157, 3) := by decide +kernel
theorem dX11_takeOut_77 : decode cX11_takeOut 77 = .ok (.imul, 1) := by decide +kernel
theorem dX11_takeOut_78 : decode cX11_takeOut 78 = .ok (.if_icmp .ge 24, 3) := by decide +kernel
theorem dX11_takeOut_81 : decode cX11_takeOut 81 = .ok (.aload_n 0, 1) := by decide +kernel
theorem dX11_takeOut_82 : decode cX11_takeOut 82 = .ok (.getfield 81, 3) := by decide +kernel
theorem dX11_takeOut_85 : decode cX11_takeOut 85 = .ok (.iload_n 2, 1) := by decide +kernel
theorem dX11_takeOut_86 : decode cX11_takeOut 86 = .ok (.aload_n 0, 1) := by decide +kernel
theorem dX11_takeOut_87 : decode cX11_takeOut 87 = .ok (.getfield 81, 3) := by decide +kernel
theorem dX11_takeOut_90 : decode cX11_takeOut 90 = .ok (.iload_n 2, 1) := by decide +kernel
theorem dX11_takeOut_91 : decode cX11_takeOut 91 = .ok (.bipush 7, 2) := by decide +kernel
theorem dX11_takeOut_93 : decode cX11_takeOut 93 = .ok (.iadd, 1) := by decide +kernel
theorem dX11_takeOut_94 : decode cX11_takeOut 94 = .ok (.iaload, 1) := by decide +kernel
theorem dX11_takeOut_95 : decode cX11_takeOut 95 = .ok (.iastore, 1) := by decide +kernel
theorem dX11_takeOut_96 : decode cX11_takeOut 96 = .ok (.iinc 2 1, 3) := by decide +kernel
theorem dX11_takeOut_99 : decode cX11_takeOut 99 = .ok (.goto (-32), 3) := by decide +kernel
theorem dX11_takeOut_102 : decode cX11_takeOut 102 = .ok (.bipush 8, 2) := by decide +kernel
theorem dX11_takeOut_104 : decode cX11_takeOut 104 = .ok (.iload_n 1, 1) := by decide +kernel
theorem dX11_takeOut_105 : decode cX11_takeOut 105 = .ok (.imul, 1) := by decide +kernel
theorem dX11_takeOut_106 : decode cX11_takeOut 106 = .ok (.istore_n 2, 1) := by decide +kernel
theorem dX11_takeOut_107 : decode cX11_takeOut 107 = .ok (.iload_n 2, 1) := by decide +kernel
theorem dX11_takeOut_108 : decode cX11_takeOut 108 = .ok (.bipush 8, 2) := by decide +kernel
theorem dX11_takeOut_110 : decode cX11_takeOut 110 = .ok (.iadd, 1) := by decide +kernel
theorem dX11_takeOut_111 : decode cX11_takeOut 111 = .ok (.bipush 8, 2) := by decide +kernel
theorem dX11_takeOut_113 : decode cX11_takeOut 113 = .ok (.aload_n 0, 1) := by decide +kernel
theorem dX11_takeOut_114 : decode cX11_takeOut 114 = .ok (.getfield 157, 3) := by decide +kernel
theorem dX11_takeOut_117 : decode cX11_takeOut 117 = .ok (.imul, 1) := by decide +kernel
theorem dX11_takeOut_118 : decode cX11_takeOut 118 = .ok (.if_icmp .ge 24, 3) := by decide +kernel
theorem dX11_takeOut_121 : decode cX11_takeOut 121 = .ok (.aload_n 0, 1) := by decide +kernel
theorem dX11_takeOut_122 : decode cX11_takeOut 122 = .ok (.getfield 84, 3) := by decide +kernel
theorem dX11_takeOut_125 : decode cX11_takeOut 125 = .ok (.iload_n 2, 1) := by decide +kernel
theorem dX11_takeOut_126 : decode cX11_takeOut 126 = .ok (.aload_n 0, 1) := by decide +kernel
theorem dX11_takeOut_127 : decode cX11_takeOut 127 = .ok (.getfield 84, 3) := by decide +kernel
theorem dX11_takeOut_130 : decode cX11_takeOut 130 = .ok (.iload_n 2, 1) := by decide +kernel
theorem dX11_takeOut_131 : decode cX11_takeOut 131 = .ok (.bipush 8, 2) := by decide +kernel
theorem dX11_takeOut_133 : decode cX11_takeOut 133 = .ok (.iadd, 1) := by decide +kernel
theorem dX11_takeOut_134 : decode cX11_takeOut 134 = .ok (.iaload, 1) := by decide +kernel
theorem dX11_takeOut_135 : decode cX11_takeOut 135 = .ok (.iastore, 1) := by decide +kernel
theorem dX11_takeOut_136 : decode cX11_takeOut 136 = .ok (.iinc 2 1, 3) := by decide +kernel
theorem dX11_takeOut_139 : decode cX11_takeOut 139 = .ok (.goto (-32), 3) := by decide +kernel
theorem dX11_takeOut_142 : decode cX11_takeOut 142 = .ok (.aload_n 0, 1) := by decide +kernel
theorem dX11_takeOut_143 : decode cX11_takeOut 143 = .ok (.dup, 1) := by decide +kernel
theorem dX11_takeOut_144 : decode cX11_takeOut 144 = .ok (.getfield 157, 3) := by decide +kernel
theorem dX11_takeOut_147 : decode cX11_takeOut 147 = .ok (.iconst 1, 1) := by decide +kernel
theorem dX11_takeOut_148 : decode cX11_takeOut 148 = .ok (.isub, 1) := by decide +kernel
theorem dX11_takeOut_149 : decode cX11_takeOut 149 = .ok (.putfield 157, 3) := by decide +kernel
theorem dX11_takeOut_152 : decode cX11_takeOut 152 = .ok (.return_, 1) := by decide +kernel
theorem dX11_isMessage_0 : decode cX11_isMessage 0 = .ok (.iload_n 1, 1) := by decide +kernel
theorem dX11_isMessage_1 : decode cX11_isMessage 1 = .ok (.iconst 0, 1) := by decide +kernel
theorem dX11_isMessage_2 : decode cX11_isMessage 2 = .ok (.aload_n 0, 1) := by decide +kernel
theorem dX11_isMessage_3 : decode cX11_isMessage 3 = .ok (.getfield 157, 3) := by decide +kernel
theorem dX11_isMessage_6 : decode cX11_isMessage 6 = .ok (.iconst 1, 1) := by decide +kernel
theorem dX11_isMessage_7 : decode cX11_isMessage 7 = .ok (.isub, 1) := by decide +kernel
theorem dX11_isMessage_8 : decode cX11_isMessage 8 = .ok (.invokestatic 120, 3) := by decide +kernel
theorem dX11_isMessage_11 : decode cX11_isMessage 11 = .ok (.ireturn, 1) := by decide +kernel
theorem dX11_writes_0 : decode cX11_writes 0 = .ok (.aload_n 0, 1) := by decide +kernel
theorem dX11_writes_1 : decode cX11_writes 1 = .ok (.getfield 13, 3) := by decide +kernel
theorem dX11_writes_4 : decode cX11_writes 4 = .ok (.iload_n 1, 1) := by decide +kernel
theorem dX11_writes_5 : decode cX11_writes 5 = .ok (.iaload, 1) := by decide +kernel
theorem dX11_writes_6 : decode cX11_writes 6 = .ok (.aload_n 0, 1) := by decide +kernel
theorem dX11_writes_7 : decode cX11_writes 7 = .ok (.getfield 113, 3) := by decide +kernel
theorem dX11_writes_10 : decode cX11_writes 10 = .ok (.if_icmp .ne 5, 3) := by decide +kernel
theorem dX11_writes_13 : decode cX11_writes 13 = .ok (.iconst 0, 1) := by decide +kernel
theorem dX11_writes_14 : decode cX11_writes 14 = .ok (.ireturn, 1) := by decide +kernel
theorem dX11_writes_15 : decode cX11_writes 15 = .ok (.sipush 800, 3) := by decide +kernel
theorem dX11_writes_18 : decode cX11_writes 18 = .ok (.iload_n 1, 1) := by decide +kernel
theorem dX11_writes_19 : decode cX11_writes 19 = .ok (.imul, 1) := by decide +kernel
theorem dX11_writes_20 : decode cX11_writes 20 = .ok (.iconst 4, 1) := by decide +kernel
theorem dX11_writes_21 : decode cX11_writes 21 = .ok (.aload_n 0, 1) := by decide +kernel
theorem dX11_writes_22 : decode cX11_writes 22 = .ok (.getfield 13, 3) := by decide +kernel
theorem dX11_writes_25 : decode cX11_writes 25 = .ok (.iload_n 1, 1) := by decide +kernel
theorem dX11_writes_26 : decode cX11_writes 26 = .ok (.iaload, 1) := by decide +kernel
theorem dX11_writes_27 : decode cX11_writes 27 = .ok (.imul, 1) := by decide +kernel
theorem dX11_writes_28 : decode cX11_writes 28 = .ok (.iadd, 1) := by decide +kernel
theorem dX11_writes_29 : decode cX11_writes 29 = .ok (.istore 6, 2) := by decide +kernel
theorem dX11_writes_31 : decode cX11_writes 31 = .ok (.aload_n 0, 1) := by decide +kernel
theorem dX11_writes_32 : decode cX11_writes 32 = .ok (.getfield 17, 3) := by decide +kernel
theorem dX11_writes_35 : decode cX11_writes 35 = .ok (.iload 6, 2) := by decide +kernel
theorem dX11_writes_37 : decode cX11_writes 37 = .ok (.iload_n 2, 1) := by decide +kernel
theorem dX11_writes_38 : decode cX11_writes 38 = .ok (.iastore, 1) := by decide +kernel
theorem dX11_writes_39 : decode cX11_writes 39 = .ok (.aload_n 0, 1) := by decide +kernel
theorem dX11_writes_40 : decode cX11_writes 40 = .ok (.getfield 17, 3) := by decide +kernel
theorem dX11_writes_43 : decode cX11_writes 43 = .ok (.iload 6, 2) := by decide +kernel
theorem dX11_writes_45 : decode cX11_writes 45 = .ok (.iconst 1, 1) := by decide +kernel
theorem dX11_writes_46 : decode cX11_writes 46 = .ok (.iadd, 1) := by decide +kernel
theorem dX11_writes_47 : decode cX11_writes 47 = .ok (.iload_n 3, 1) := by decide +kernel
theorem dX11_writes_48 : decode cX11_writes 48 = .ok (.iastore, 1) := by decide +kernel
theorem dX11_writes_49 : decode cX11_writes 49 = .ok (.aload_n 0, 1) := by decide +kernel
theorem dX11_writes_50 : decode cX11_writes 50 = .ok (.getfield 17, 3) := by decide +kernel
theorem dX11_writes_53 : decode cX11_writes 53 = .ok (.iload 6, 2) := by decide +kernel
theorem dX11_writes_55 : decode cX11_writes 55 = .ok (.iconst 2, 1) := by decide +kernel
theorem dX11_writes_56 : decode cX11_writes 56 = .ok (.iadd, 1) := by decide +kernel
theorem dX11_writes_57 : decode cX11_writes 57 = .ok (.iload 4, 2) := by decide +kernel
theorem dX11_writes_59 : decode cX11_writes 59 = .ok (.iastore, 1) := by decide +kernel
theorem dX11_writes_60 : decode cX11_writes 60 = .ok (.aload_n 0, 1) := by decide +kernel
theorem dX11_writes_61 : decode cX11_writes 61 = .ok (.getfield 17, 3) := by decide +kernel
theorem dX11_writes_64 : decode cX11_writes 64 = .ok (.iload 6, 2) := by decide +kernel
theorem dX11_writes_66 : decode cX11_writes 66 = .ok (.iconst 3, 1) := by decide +kernel
theorem dX11_writes_67 : decode cX11_writes 67 = .ok (.iadd, 1) := by decide +kernel
theorem dX11_writes_68 : decode cX11_writes 68 = .ok (.iload 5, 2) := by decide +kernel
theorem dX11_writes_70 : decode cX11_writes 70 = .ok (.iastore, 1) := by decide +kernel
theorem dX11_writes_71 : decode cX11_writes 71 = .ok (.aload_n 0, 1) := by decide +kernel
theorem dX11_writes_72 : decode cX11_writes 72 = .ok (.getfield 13, 3) := by decide +kernel
theorem dX11_writes_75 : decode cX11_writes 75 = .ok (.iload_n 1, 1) := by decide +kernel
theorem dX11_writes_76 : decode cX11_writes 76 = .ok (.dup2, 1) := by decide +kernel
theorem dX11_writes_77 : decode cX11_writes 77 = .ok (.iaload, 1) := by decide +kernel
theorem dX11_writes_78 : decode cX11_writes 78 = .ok (.iconst 1, 1) := by decide +kernel
theorem dX11_writes_79 : decode cX11_writes 79 = .ok (.iadd, 1) := by decide +kernel
theorem dX11_writes_80 : decode cX11_writes 80 = .ok (.iastore, 1) := by decide +kernel
theorem dX11_writes_81 : decode cX11_writes 81 = .ok (.iconst 1, 1) := by decide +kernel
theorem dX11_writes_82 : decode cX11_writes 82 = .ok (.ireturn, 1) := by decide +kernel
theorem dX11_deliver_0 : decode cX11_deliver 0 = .ok (.aload_n 0, 1) := by decide +kernel
theorem dX11_deliver_1 : decode cX11_deliver 1 = .ok (.iload_n 1, 1) := by decide +kernel
theorem dX11_deliver_2 : decode cX11_deliver 2 = .ok (.invokevirtual 163, 3) := by decide +kernel
theorem dX11_deliver_5 : decode cX11_deliver 5 = .ok (.ifCond .ne 5, 3) := by decide +kernel
theorem dX11_deliver_8 : decode cX11_deliver 8 = .ok (.iconst (-1), 1) := by decide +kernel
theorem dX11_deliver_9 : decode cX11_deliver 9 = .ok (.ireturn, 1) := by decide +kernel
theorem dX11_deliver_10 : decode cX11_deliver 10 = .ok (.aload_n 0, 1) := by decide +kernel
theorem dX11_deliver_11 : decode cX11_deliver 11 = .ok (.iload_n 1, 1) := by decide +kernel
theorem dX11_deliver_12 : decode cX11_deliver 12 = .ok (.invokevirtual 166, 3) := by decide +kernel
theorem dX11_deliver_15 : decode cX11_deliver 15 = .ok (.aload_n 0, 1) := by decide +kernel
theorem dX11_deliver_16 : decode cX11_deliver 16 = .ok (.dup, 1) := by decide +kernel
theorem dX11_deliver_17 : decode cX11_deliver 17 = .ok (.getfield 169, 3) := by decide +kernel
theorem dX11_deliver_20 : decode cX11_deliver 20 = .ok (.iconst 1, 1) := by decide +kernel
theorem dX11_deliver_21 : decode cX11_deliver 21 = .ok (.iadd, 1) := by decide +kernel
theorem dX11_deliver_22 : decode cX11_deliver 22 = .ok (.putfield 169, 3) := by decide +kernel
theorem dX11_deliver_25 : decode cX11_deliver 25 = .ok (.aload_n 0, 1) := by decide +kernel
theorem dX11_deliver_26 : decode cX11_deliver 26 = .ok (.getfield 87, 3) := by decide +kernel
theorem dX11_deliver_29 : decode cX11_deliver 29 = .ok (.iconst 1, 1) := by decide +kernel
theorem dX11_deliver_30 : decode cX11_deliver 30 = .ok (.iaload, 1) := by decide +kernel
theorem dX11_deliver_31 : decode cX11_deliver 31 = .ok (.istore_n 2, 1) := by decide +kernel
theorem dX11_deliver_32 : decode cX11_deliver 32 = .ok (.iload_n 2, 1) := by decide +kernel
theorem dX11_deliver_33 : decode cX11_deliver 33 = .ok (.aload_n 0, 1) := by decide +kernel
theorem dX11_deliver_34 : decode cX11_deliver 34 = .ok (.getfield 97, 3) := by decide +kernel
theorem dX11_deliver_37 : decode cX11_deliver 37 = .ok (.aload_n 0, 1) := by decide +kernel
theorem dX11_deliver_38 : decode cX11_deliver 38 = .ok (.getfield 101, 3) := by decide +kernel
theorem dX11_deliver_41 : decode cX11_deliver 41 = .ok (.iadd, 1) := by decide +kernel
theorem dX11_deliver_42 : decode cX11_deliver 42 = .ok (.if_icmp .ne 52, 3) := by decide +kernel
theorem dX11_deliver_45 : decode cX11_deliver 45 = .ok (.aload_n 0, 1) := by decide +kernel
theorem dX11_deliver_46 : decode cX11_deliver 46 = .ok (.getfield 30, 3) := by decide +kernel
theorem dX11_deliver_49 : decode cX11_deliver 49 = .ok (.aload_n 0, 1) := by decide +kernel
theorem dX11_deliver_50 : decode cX11_deliver 50 = .ok (.getfield 87, 3) := by decide +kernel
theorem dX11_deliver_53 : decode cX11_deliver 53 = .ok (.iconst 2, 1) := by decide +kernel
theorem dX11_deliver_54 : decode cX11_deliver 54 = .ok (.iaload, 1) := by decide +kernel
theorem dX11_deliver_55 : decode cX11_deliver 55 = .ok (.aload_n 0, 1) := by decide +kernel
theorem dX11_deliver_56 : decode cX11_deliver 56 = .ok (.getfield 30, 3) := by decide +kernel
theorem dX11_deliver_59 : decode cX11_deliver 59 = .ok (.aload_n 0, 1) := by decide +kernel
theorem dX11_deliver_60 : decode cX11_deliver 60 = .ok (.getfield 87, 3) := by decide +kernel
theorem dX11_deliver_63 : decode cX11_deliver 63 = .ok (.iconst 2, 1) := by decide +kernel
theorem dX11_deliver_64 : decode cX11_deliver 64 = .ok (.iaload, 1) := by decide +kernel
theorem dX11_deliver_65 : decode cX11_deliver 65 = .ok (.iaload, 1) := by decide +kernel
theorem dX11_deliver_66 : decode cX11_deliver 66 = .ok (.iconst 2, 1) := by decide +kernel
theorem dX11_deliver_67 : decode cX11_deliver 67 = .ok (.if_icmp .ne 12, 3) := by decide +kernel
theorem dX11_deliver_70 : decode cX11_deliver 70 = .ok (.aload_n 0, 1) := by decide +kernel
theorem dX11_deliver_71 : decode cX11_deliver 71 = .ok (.getfield 87, 3) := by decide +kernel
theorem dX11_deliver_74 : decode cX11_deliver 74 = .ok (.iconst 5, 1) := by decide +kernel
theorem dX11_deliver_75 : decode cX11_deliver 75 = .ok (.iaload, 1) := by decide +kernel
theorem dX11_deliver_76 : decode cX11_deliver 76 = .ok (.goto 14, 3) := by decide +kernel
theorem dX11_deliver_79 : decode cX11_deliver 79 = .ok (.aload_n 0, 1) := by decide +kernel
theorem dX11_deliver_80 : decode cX11_deliver 80 = .ok (.getfield 30, 3) := by decide +kernel
theorem dX11_deliver_83 : decode cX11_deliver 83 = .ok (.aload_n 0, 1) := by decide +kernel
theorem dX11_deliver_84 : decode cX11_deliver 84 = .ok (.getfield 87, 3) := by decide +kernel
theorem dX11_deliver_87 : decode cX11_deliver 87 = .ok (.iconst 2, 1) := by decide +kernel
theorem dX11_deliver_88 : decode cX11_deliver 88 = .ok (.iaload, 1) := by decide +kernel
theorem dX11_deliver_89 : decode cX11_deliver 89 = .ok (.iaload, 1) := by decide +kernel
theorem dX11_deliver_90 : decode cX11_deliver 90 = .ok (.iastore, 1) := by decide +kernel
theorem dX11_deliver_91 : decode cX11_deliver 91 = .ok (.bipush 6, 2) := by decide +kernel
theorem dX11_deliver_93 : decode cX11_deliver 93 = .ok (.ireturn, 1) := by decide +kernel
theorem dX11_deliver_94 : decode cX11_deliver 94 = .ok (.aload_n 0, 1) := by decide +kernel
theorem dX11_deliver_95 : decode cX11_deliver 95 = .ok (.getfield 7, 3) := by decide +kernel
theorem dX11_deliver_98 : decode cX11_deliver 98 = .ok (.iload_n 2, 1) := by decide +kernel
theorem dX11_deliver_99 : decode cX11_deliver 99 = .ok (.baload, 1) := by decide +kernel
theorem dX11_deliver_100 : decode cX11_deliver 100 = .ok (.ifCond .ne 6, 3) := by decide +kernel
theorem dX11_deliver_103 : decode cX11_deliver 103 = .ok (.bipush 9, 2) := by decide +kernel
theorem dX11_deliver_105 : decode cX11_deliver 105 = .ok (.ireturn, 1) := by decide +kernel
theorem dX11_deliver_106 : decode cX11_deliver 106 = .ok (.aload_n 0, 1) := by decide +kernel
theorem dX11_deliver_107 : decode cX11_deliver 107 = .ok (.iload_n 2, 1) := by decide +kernel
theorem dX11_deliver_108 : decode cX11_deliver 108 = .ok (.aload_n 0, 1) := by decide +kernel
theorem dX11_deliver_109 : decode cX11_deliver 109 = .ok (.getfield 87, 3) := by decide +kernel
theorem dX11_deliver_112 : decode cX11_deliver 112 = .ok (.iconst 2, 1) := by decide +kernel
theorem dX11_deliver_113 : decode cX11_deliver 113 = .ok (.iaload, 1) := by decide +kernel
theorem dX11_deliver_114 : decode cX11_deliver 114 = .ok (.invokevirtual 172, 3) := by decide +kernel
theorem dX11_deliver_117 : decode cX11_deliver 117 = .ok (.ifCond .eq 12, 3) := by decide +kernel
theorem dX11_deliver_120 : decode cX11_deliver 120 = .ok (.aload_n 0, 1) := by decide +kernel
theorem dX11_deliver_121 : decode cX11_deliver 121 = .ok (.getfield 87, 3) := by decide +kernel
theorem dX11_deliver_124 : decode cX11_deliver 124 = .ok (.iconst 0, 1) := by decide +kernel
theorem dX11_deliver_125 : decode cX11_deliver 125 = .ok (.iaload, 1) := by decide +kernel
theorem dX11_deliver_126 : decode cX11_deliver 126 = .ok (.goto 5, 3) := by decide +kernel
theorem dX11_deliver_129 : decode cX11_deliver 129 = .ok (.bipush 10, 2) := by decide +kernel
theorem dX11_deliver_131 : decode cX11_deliver 131 = .ok (.ireturn, 1) := by decide +kernel
theorem dX11_does_0 : decode cX11_does 0 = .ok (.bipush 16, 2) := by decide +kernel
theorem dX11_does_2 : decode cX11_does 2 = .ok (.iload_n 1, 1) := by decide +kernel
theorem dX11_does_3 : decode cX11_does 3 = .ok (.aload_n 0, 1) := by decide +kernel
theorem dX11_does_4 : decode cX11_does 4 = .ok (.getfield 97, 3) := by decide +kernel
theorem dX11_does_7 : decode cX11_does 7 = .ok (.isub, 1) := by decide +kernel
theorem dX11_does_8 : decode cX11_does 8 = .ok (.imul, 1) := by decide +kernel
theorem dX11_does_9 : decode cX11_does 9 = .ok (.iload_n 2, 1) := by decide +kernel
theorem dX11_does_10 : decode cX11_does 10 = .ok (.iadd, 1) := by decide +kernel
theorem dX11_does_11 : decode cX11_does 11 = .ok (.istore_n 3, 1) := by decide +kernel
theorem dX11_does_12 : decode cX11_does 12 = .ok (.aload_n 0, 1) := by decide +kernel
theorem dX11_does_13 : decode cX11_does 13 = .ok (.getfield 87, 3) := by decide +kernel
theorem dX11_does_16 : decode cX11_does 16 = .ok (.iconst 0, 1) := by decide +kernel
theorem dX11_does_17 : decode cX11_does 17 = .ok (.iaload, 1) := by decide +kernel
theorem dX11_does_18 : decode cX11_does 18 = .ok (.tableswitch 75 1 5 #[34, 41, 49, 58, 66], 34) := by decide +kernel
theorem dX11_does_52 : decode cX11_does 52 = .ok (.aload_n 0, 1) := by decide +kernel
theorem dX11_does_53 : decode cX11_does 53 = .ok (.iload_n 1, 1) := by decide +kernel
theorem dX11_does_54 : decode cX11_does 54 = .ok (.iload_n 2, 1) := by decide +kernel
theorem dX11_does_55 : decode cX11_does 55 = .ok (.invokevirtual 175, 3) := by decide +kernel
theorem dX11_does_58 : decode cX11_does 58 = .ok (.ireturn, 1) := by decide +kernel
theorem dX11_does_59 : decode cX11_does 59 = .ok (.aload_n 0, 1) := by decide +kernel
theorem dX11_does_60 : decode cX11_does 60 = .ok (.iload_n 1, 1) := by decide +kernel
theorem dX11_does_61 : decode cX11_does 61 = .ok (.iload_n 2, 1) := by decide +kernel
theorem dX11_does_62 : decode cX11_does 62 = .ok (.iload_n 3, 1) := by decide +kernel
theorem dX11_does_63 : decode cX11_does 63 = .ok (.invokevirtual 178, 3) := by decide +kernel
theorem dX11_does_66 : decode cX11_does 66 = .ok (.ireturn, 1) := by decide +kernel
theorem dX11_does_67 : decode cX11_does 67 = .ok (.aload_n 0, 1) := by decide +kernel
theorem dX11_does_68 : decode cX11_does 68 = .ok (.iload_n 1, 1) := by decide +kernel
theorem dX11_does_69 : decode cX11_does 69 = .ok (.iload_n 2, 1) := by decide +kernel
theorem dX11_does_70 : decode cX11_does 70 = .ok (.iload_n 3, 1) := by decide +kernel
theorem dX11_does_71 : decode cX11_does 71 = .ok (.invokevirtual 181, 3) := by decide +kernel
theorem dX11_does_74 : decode cX11_does 74 = .ok (.iconst 1, 1) := by decide +kernel
theorem dX11_does_75 : decode cX11_does 75 = .ok (.ireturn, 1) := by decide +kernel
theorem dX11_does_76 : decode cX11_does 76 = .ok (.aload_n 0, 1) := by decide +kernel
theorem dX11_does_77 : decode cX11_does 77 = .ok (.iload_n 1, 1) := by decide +kernel
theorem dX11_does_78 : decode cX11_does 78 = .ok (.iload_n 2, 1) := by decide +kernel
theorem dX11_does_79 : decode cX11_does 79 = .ok (.iload_n 3, 1) := by decide +kernel
theorem dX11_does_80 : decode cX11_does 80 = .ok (.invokevirtual 185, 3) := by decide +kernel
theorem dX11_does_83 : decode cX11_does 83 = .ok (.ireturn, 1) := by decide +kernel
theorem dX11_does_84 : decode cX11_does 84 = .ok (.aload_n 0, 1) := by decide +kernel
theorem dX11_does_85 : decode cX11_does 85 = .ok (.iload_n 1, 1) := by decide +kernel
theorem dX11_does_86 : decode cX11_does 86 = .ok (.iload_n 2, 1) := by decide +kernel
theorem dX11_does_87 : decode cX11_does 87 = .ok (.iload_n 3, 1) := by decide +kernel
theorem dX11_does_88 : decode cX11_does 88 = .ok (.invokevirtual 188, 3) := by decide +kernel
theorem dX11_does_91 : decode cX11_does 91 = .ok (.iconst 1, 1) := by decide +kernel
theorem dX11_does_92 : decode cX11_does 92 = .ok (.ireturn, 1) := by decide +kernel
theorem dX11_does_93 : decode cX11_does 93 = .ok (.aload_n 0, 1) := by decide +kernel
theorem dX11_does_94 : decode cX11_does 94 = .ok (.iload_n 1, 1) := by decide +kernel
theorem dX11_does_95 : decode cX11_does 95 = .ok (.iload_n 2, 1) := by decide +kernel
theorem dX11_does_96 : decode cX11_does 96 = .ok (.invokevirtual 191, 3) := by decide +kernel
theorem dX11_does_99 : decode cX11_does 99 = .ok (.ireturn, 1) := by decide +kernel
theorem dX11_prepare_0 : decode cX11_prepare 0 = .ok (.bipush 16, 2) := by decide +kernel
theorem dX11_prepare_2 : decode cX11_prepare 2 = .ok (.iload_n 1, 1) := by decide +kernel
theorem dX11_prepare_3 : decode cX11_prepare 3 = .ok (.imul, 1) := by decide +kernel
theorem dX11_prepare_4 : decode cX11_prepare 4 = .ok (.iload_n 2, 1) := by decide +kernel
theorem dX11_prepare_5 : decode cX11_prepare 5 = .ok (.iadd, 1) := by decide +kernel
theorem dX11_prepare_6 : decode cX11_prepare 6 = .ok (.istore_n 3, 1) := by decide +kernel
theorem dX11_prepare_7 : decode cX11_prepare 7 = .ok (.aload_n 0, 1) := by decide +kernel
theorem dX11_prepare_8 : decode cX11_prepare 8 = .ok (.getfield 48, 3) := by decide +kernel
theorem dX11_prepare_11 : decode cX11_prepare 11 = .ok (.iload_n 3, 1) := by decide +kernel
theorem dX11_prepare_12 : decode cX11_prepare 12 = .ok (.iaload, 1) := by decide +kernel
theorem dX11_prepare_13 : decode cX11_prepare 13 = .ok (.ifCond .eq 5, 3) := by decide +kernel
theorem dX11_prepare_16 : decode cX11_prepare 16 = .ok (.iconst 1, 1) := by decide +kernel
theorem dX11_prepare_17 : decode cX11_prepare 17 = .ok (.ireturn, 1) := by decide +kernel
theorem dX11_prepare_18 : decode cX11_prepare 18 = .ok (.aload_n 0, 1) := by decide +kernel
theorem dX11_prepare_19 : decode cX11_prepare 19 = .ok (.getfield 45, 3) := by decide +kernel
theorem dX11_prepare_22 : decode cX11_prepare 22 = .ok (.iload_n 3, 1) := by decide +kernel
theorem dX11_prepare_23 : decode cX11_prepare 23 = .ok (.iaload, 1) := by decide +kernel
theorem dX11_prepare_24 : decode cX11_prepare 24 = .ok (.ifCond .ne 102, 3) := by decide +kernel
theorem dX11_prepare_27 : decode cX11_prepare 27 = .ok (.aload_n 0, 1) := by decide +kernel
theorem dX11_prepare_28 : decode cX11_prepare 28 = .ok (.getfield 42, 3) := by decide +kernel
theorem dX11_prepare_31 : decode cX11_prepare 31 = .ok (.iload_n 3, 1) := by decide +kernel
theorem dX11_prepare_32 : decode cX11_prepare 32 = .ok (.baload, 1) := by decide +kernel
theorem dX11_prepare_33 : decode cX11_prepare 33 = .ok (.ifCond .eq 7, 3) := by decide +kernel
theorem dX11_prepare_36 : decode cX11_prepare 36 = .ok (.iconst 1, 1) := by decide +kernel
theorem dX11_prepare_37 : decode cX11_prepare 37 = .ok (.goto 4, 3) := by decide +kernel
theorem dX11_prepare_40 : decode cX11_prepare 40 = .ok (.iconst 2, 1) := by decide +kernel
theorem dX11_prepare_41 : decode cX11_prepare 41 = .ok (.istore 4, 2) := by decide +kernel
theorem dX11_prepare_43 : decode cX11_prepare 43 = .ok (.aload_n 0, 1) := by decide +kernel
theorem dX11_prepare_44 : decode cX11_prepare 44 = .ok (.iload_n 1, 1) := by decide +kernel
theorem dX11_prepare_45 : decode cX11_prepare 45 = .ok (.iconst 1, 1) := by decide +kernel
theorem dX11_prepare_46 : decode cX11_prepare 46 = .ok (.iload_n 2, 1) := by decide +kernel
theorem dX11_prepare_47 : decode cX11_prepare 47 = .ok (.iload 4, 2) := by decide +kernel
theorem dX11_prepare_49 : decode cX11_prepare 49 = .ok (.iconst 0, 1) := by decide +kernel
theorem dX11_prepare_50 : decode cX11_prepare 50 = .ok (.invokevirtual 194, 3) := by decide +kernel
theorem dX11_prepare_53 : decode cX11_prepare 53 = .ok (.ifCond .ne 5, 3) := by decide +kernel
theorem dX11_prepare_56 : decode cX11_prepare 56 = .ok (.iconst 0, 1) := by decide +kernel
theorem dX11_prepare_57 : decode cX11_prepare 57 = .ok (.ireturn, 1) := by decide +kernel
theorem dX11_prepare_58 : decode cX11_prepare 58 = .ok (.aload_n 0, 1) := by decide +kernel
theorem dX11_prepare_59 : decode cX11_prepare 59 = .ok (.getfield 45, 3) := by decide +kernel
theorem dX11_prepare_62 : decode cX11_prepare 62 = .ok (.iload_n 3, 1) := by decide +kernel
theorem dX11_prepare_63 : decode cX11_prepare 63 = .ok (.iload 4, 2) := by decide +kernel
theorem dX11_prepare_65 : decode cX11_prepare 65 = .ok (.iastore, 1) := by decide +kernel
theorem dX11_prepare_66 : decode cX11_prepare 66 = .ok (.iload_n 1, 1) := by decide +kernel
theorem dX11_prepare_67 : decode cX11_prepare 67 = .ok (.istore 5, 2) := by decide +kernel
theorem dX11_prepare_69 : decode cX11_prepare 69 = .ok (.iload 5, 2) := by decide +kernel
theorem dX11_prepare_71 : decode cX11_prepare 71 = .ok (.aload_n 0, 1) := by decide +kernel
theorem dX11_prepare_72 : decode cX11_prepare 72 = .ok (.getfield 107, 3) := by decide +kernel
theorem dX11_prepare_75 : decode cX11_prepare 75 = .ok (.if_icmp .ge 51, 3) := by decide +kernel
theorem dX11_prepare_78 : decode cX11_prepare 78 = .ok (.iload 4, 2) := by decide +kernel
theorem dX11_prepare_80 : decode cX11_prepare 80 = .ok (.iconst 1, 1) := by decide +kernel
theorem dX11_prepare_81 : decode cX11_prepare 81 = .ok (.if_icmp .ne 45, 3) := by decide +kernel
theorem dX11_prepare_84 : decode cX11_prepare 84 = .ok (.aload_n 0, 1) := by decide +kernel
theorem dX11_prepare_85 : decode cX11_prepare 85 = .ok (.getfield 24, 3) := by decide +kernel
theorem dX11_prepare_88 : decode cX11_prepare 88 = .ok (.iload 5, 2) := by decide +kernel
theorem dX11_prepare_90 : decode cX11_prepare 90 = .ok (.dup2, 1) := by decide +kernel
theorem dX11_prepare_91 : decode cX11_prepare 91 = .ok (.iaload, 1) := by decide +kernel
theorem dX11_prepare_92 : decode cX11_prepare 92 = .ok (.aload_n 0, 1) := by decide +kernel
theorem dX11_prepare_93 : decode cX11_prepare 93 = .ok (.getfield 27, 3) := by decide +kernel
theorem dX11_prepare_96 : decode cX11_prepare 96 = .ok (.iload 5, 2) := by decide +kernel
theorem dX11_prepare_98 : decode cX11_prepare 98 = .ok (.iaload, 1) := by decide +kernel
theorem dX11_prepare_99 : decode cX11_prepare 99 = .ok (.iload_n 2, 1) := by decide +kernel
theorem dX11_prepare_100 : decode cX11_prepare 100 = .ok (.if_icmp .ne 7, 3) := by decide +kernel
theorem dX11_prepare_103 : decode cX11_prepare 103 = .ok (.iconst (-1), 1) := by decide +kernel
theorem dX11_prepare_104 : decode cX11_prepare 104 = .ok (.goto 8, 3) := by decide +kernel
theorem dX11_prepare_107 : decode cX11_prepare 107 = .ok (.iconst 1, 1) := by decide +kernel
theorem dX11_prepare_108 : decode cX11_prepare 108 = .ok (.iload_n 2, 1) := by decide +kernel
theorem dX11_prepare_109 : decode cX11_prepare 109 = .ok (.ishl, 1) := by decide +kernel
theorem dX11_prepare_110 : decode cX11_prepare 110 = .ok (.iconst (-1), 1) := by decide +kernel
theorem dX11_prepare_111 : decode cX11_prepare 111 = .ok (.ixor, 1) := by decide +kernel
theorem dX11_prepare_112 : decode cX11_prepare 112 = .ok (.iand, 1) := by decide +kernel
theorem dX11_prepare_113 : decode cX11_prepare 113 = .ok (.iastore, 1) := by decide +kernel
theorem dX11_prepare_114 : decode cX11_prepare 114 = .ok (.iload 5, 2) := by decide +kernel
theorem dX11_prepare_116 : decode cX11_prepare 116 = .ok (.aload_n 0, 1) := by decide +kernel
theorem dX11_prepare_117 : decode cX11_prepare 117 = .ok (.getfield 97, 3) := by decide +kernel
theorem dX11_prepare_120 : decode cX11_prepare 120 = .ok (.iadd, 1) := by decide +kernel
theorem dX11_prepare_121 : decode cX11_prepare 121 = .ok (.istore 5, 2) := by decide +kernel
theorem dX11_prepare_123 : decode cX11_prepare 123 = .ok (.goto (-54), 3) := by decide +kernel
theorem dX11_prepare_126 : decode cX11_prepare 126 = .ok (.aload_n 0, 1) := by decide +kernel
theorem dX11_prepare_127 : decode cX11_prepare 127 = .ok (.iconst 2, 1) := by decide +kernel
theorem dX11_prepare_128 : decode cX11_prepare 128 = .ok (.iload_n 2, 1) := by decide +kernel
theorem dX11_prepare_129 : decode cX11_prepare 129 = .ok (.iconst 0, 1) := by decide +kernel
theorem dX11_prepare_130 : decode cX11_prepare 130 = .ok (.iload_n 1, 1) := by decide +kernel
theorem dX11_prepare_131 : decode cX11_prepare 131 = .ok (.aload_n 0, 1) := by decide +kernel
theorem dX11_prepare_132 : decode cX11_prepare 132 = .ok (.getfield 45, 3) := by decide +kernel
theorem dX11_prepare_135 : decode cX11_prepare 135 = .ok (.iload_n 3, 1) := by decide +kernel
theorem dX11_prepare_136 : decode cX11_prepare 136 = .ok (.iaload, 1) := by decide +kernel
theorem dX11_prepare_137 : decode cX11_prepare 137 = .ok (.iload_n 1, 1) := by decide +kernel
theorem dX11_prepare_138 : decode cX11_prepare 138 = .ok (.invokevirtual 198, 3) := by decide +kernel
theorem dX11_prepare_141 : decode cX11_prepare 141 = .ok (.iconst 1, 1) := by decide +kernel
theorem dX11_prepare_142 : decode cX11_prepare 142 = .ok (.ireturn, 1) := by decide +kernel
theorem dX11_vote_0 : decode cX11_vote 0 = .ok (.aload_n 0, 1) := by decide +kernel
theorem dX11_vote_1 : decode cX11_vote 1 = .ok (.getfield 87, 3) := by decide +kernel
theorem dX11_vote_4 : decode cX11_vote 4 = .ok (.iconst 3, 1) := by decide +kernel
theorem dX11_vote_5 : decode cX11_vote 5 = .ok (.iaload, 1) := by decide +kernel
theorem dX11_vote_6 : decode cX11_vote 6 = .ok (.istore 4, 2) := by decide +kernel
theorem dX11_vote_8 : decode cX11_vote 8 = .ok (.aload_n 0, 1) := by decide +kernel
theorem dX11_vote_9 : decode cX11_vote 9 = .ok (.getfield 87, 3) := by decide +kernel
theorem dX11_vote_12 : decode cX11_vote 12 = .ok (.iconst 4, 1) := by decide +kernel
theorem dX11_vote_13 : decode cX11_vote 13 = .ok (.iaload, 1) := by decide +kernel
theorem dX11_vote_14 : decode cX11_vote 14 = .ok (.istore 5, 2) := by decide +kernel
theorem dX11_vote_16 : decode cX11_vote 16 = .ok (.aload_n 0, 1) := by decide +kernel
theorem dX11_vote_17 : decode cX11_vote 17 = .ok (.getfield 87, 3) := by decide +kernel
theorem dX11_vote_20 : decode cX11_vote 20 = .ok (.iconst 5, 1) := by decide +kernel
theorem dX11_vote_21 : decode cX11_vote 21 = .ok (.iaload, 1) := by decide +kernel
theorem dX11_vote_22 : decode cX11_vote 22 = .ok (.istore 6, 2) := by decide +kernel
theorem dX11_vote_24 : decode cX11_vote 24 = .ok (.iload 4, 2) := by decide +kernel
theorem dX11_vote_26 : decode cX11_vote 26 = .ok (.aload_n 0, 1) := by decide +kernel
theorem dX11_vote_27 : decode cX11_vote 27 = .ok (.getfield 51, 3) := by decide +kernel
theorem dX11_vote_30 : decode cX11_vote 30 = .ok (.iload_n 3, 1) := by decide +kernel
theorem dX11_vote_31 : decode cX11_vote 31 = .ok (.iaload, 1) := by decide +kernel
theorem dX11_vote_32 : decode cX11_vote 32 = .ok (.if_icmp .ge 5, 3) := by decide +kernel
theorem dX11_vote_35 : decode cX11_vote 35 = .ok (.iconst 1, 1) := by decide +kernel
theorem dX11_vote_36 : decode cX11_vote 36 = .ok (.ireturn, 1) := by decide +kernel
theorem dX11_vote_37 : decode cX11_vote 37 = .ok (.iconst 4, 1) := by decide +kernel
theorem dX11_vote_38 : decode cX11_vote 38 = .ok (.iload_n 3, 1) := by decide +kernel
theorem dX11_vote_39 : decode cX11_vote 39 = .ok (.imul, 1) := by decide +kernel
theorem dX11_vote_40 : decode cX11_vote 40 = .ok (.iload 5, 2) := by decide +kernel
theorem dX11_vote_42 : decode cX11_vote 42 = .ok (.iadd, 1) := by decide +kernel
theorem dX11_vote_43 : decode cX11_vote 43 = .ok (.istore 7, 2) := by decide +kernel
theorem dX11_vote_45 : decode cX11_vote 45 = .ok (.aload_n 0, 1) := by decide +kernel
theorem dX11_vote_46 : decode cX11_vote 46 = .ok (.getfield 63, 3) := by decide +kernel
theorem dX11_vote_49 : decode cX11_vote 49 = .ok (.iload 7, 2) := by decide +kernel
theorem dX11_vote_51 : decode cX11_vote 51 = .ok (.iaload, 1) := by decide +kernel
theorem dX11_vote_52 : decode cX11_vote 52 = .ok (.iload 4, 2) := by decide +kernel
theorem dX11_vote_54 : decode cX11_vote 54 = .ok (.if_icmp .ne 15, 3) := by decide +kernel
theorem dX11_vote_57 : decode cX11_vote 57 = .ok (.aload_n 0, 1) := by decide +kernel
theorem dX11_vote_58 : decode cX11_vote 58 = .ok (.getfield 66, 3) := by decide +kernel
theorem dX11_vote_61 : decode cX11_vote 61 = .ok (.iload 7, 2) := by decide +kernel
theorem dX11_vote_63 : decode cX11_vote 63 = .ok (.iaload, 1) := by decide +kernel
theorem dX11_vote_64 : decode cX11_vote 64 = .ok (.iload 6, 2) := by decide +kernel
theorem dX11_vote_66 : decode cX11_vote 66 = .ok (.if_icmp .eq 51, 3) := by decide +kernel
theorem dX11_vote_69 : decode cX11_vote 69 = .ok (.aload_n 0, 1) := by decide +kernel
theorem dX11_vote_70 : decode cX11_vote 70 = .ok (.iload_n 1, 1) := by decide +kernel
theorem dX11_vote_71 : decode cX11_vote 71 = .ok (.iconst 4, 1) := by decide +kernel
theorem dX11_vote_72 : decode cX11_vote 72 = .ok (.iload_n 2, 1) := by decide +kernel
theorem dX11_vote_73 : decode cX11_vote 73 = .ok (.iload 4, 2) := by decide +kernel
theorem dX11_vote_75 : decode cX11_vote 75 = .ok (.bipush 10, 2) := by decide +kernel
theorem dX11_vote_77 : decode cX11_vote 77 = .ok (.iload 5, 2) := by decide +kernel
theorem dX11_vote_79 : decode cX11_vote 79 = .ok (.imul, 1) := by decide +kernel
theorem dX11_vote_80 : decode cX11_vote 80 = .ok (.iload 6, 2) := by decide +kernel
theorem dX11_vote_82 : decode cX11_vote 82 = .ok (.iadd, 1) := by decide +kernel
theorem dX11_vote_83 : decode cX11_vote 83 = .ok (.invokevirtual 194, 3) := by decide +kernel
theorem dX11_vote_86 : decode cX11_vote 86 = .ok (.ifCond .ne 5, 3) := by decide +kernel
theorem dX11_vote_89 : decode cX11_vote 89 = .ok (.iconst 0, 1) := by decide +kernel
theorem dX11_vote_90 : decode cX11_vote 90 = .ok (.ireturn, 1) := by decide +kernel
theorem dX11_vote_91 : decode cX11_vote 91 = .ok (.aload_n 0, 1) := by decide +kernel
theorem dX11_vote_92 : decode cX11_vote 92 = .ok (.getfield 51, 3) := by decide +kernel
theorem dX11_vote_95 : decode cX11_vote 95 = .ok (.iload_n 3, 1) := by decide +kernel
theorem dX11_vote_96 : decode cX11_vote 96 = .ok (.iload 4, 2) := by decide +kernel
theorem dX11_vote_98 : decode cX11_vote 98 = .ok (.iastore, 1) := by decide +kernel
theorem dX11_vote_99 : decode cX11_vote 99 = .ok (.aload_n 0, 1) := by decide +kernel
theorem dX11_vote_100 : decode cX11_vote 100 = .ok (.getfield 63, 3) := by decide +kernel
theorem dX11_vote_103 : decode cX11_vote 103 = .ok (.iload 7, 2) := by decide +kernel
theorem dX11_vote_105 : decode cX11_vote 105 = .ok (.iload 4, 2) := by decide +kernel
theorem dX11_vote_107 : decode cX11_vote 107 = .ok (.iastore, 1) := by decide +kernel
theorem dX11_vote_108 : decode cX11_vote 108 = .ok (.aload_n 0, 1) := by decide +kernel
theorem dX11_vote_109 : decode cX11_vote 109 = .ok (.getfield 66, 3) := by decide +kernel
theorem dX11_vote_112 : decode cX11_vote 112 = .ok (.iload 7, 2) := by decide +kernel
theorem dX11_vote_114 : decode cX11_vote 114 = .ok (.iload 6, 2) := by decide +kernel
theorem dX11_vote_116 : decode cX11_vote 116 = .ok (.iastore, 1) := by decide +kernel
theorem dX11_vote_117 : decode cX11_vote 117 = .ok (.aload_n 0, 1) := by decide +kernel
theorem dX11_vote_118 : decode cX11_vote 118 = .ok (.iconst 3, 1) := by decide +kernel
theorem dX11_vote_119 : decode cX11_vote 119 = .ok (.aload_n 0, 1) := by decide +kernel
theorem dX11_vote_120 : decode cX11_vote 120 = .ok (.getfield 97, 3) := by decide +kernel
theorem dX11_vote_123 : decode cX11_vote 123 = .ok (.iload 4, 2) := by decide +kernel
theorem dX11_vote_125 : decode cX11_vote 125 = .ok (.aload_n 0, 1) := by decide +kernel
theorem dX11_vote_126 : decode cX11_vote 126 = .ok (.getfield 101, 3) := by decide +kernel
theorem dX11_vote_129 : decode cX11_vote 129 = .ok (.irem, 1) := by decide +kernel
theorem dX11_vote_130 : decode cX11_vote 130 = .ok (.iadd, 1) := by decide +kernel
theorem dX11_vote_131 : decode cX11_vote 131 = .ok (.iload_n 2, 1) := by decide +kernel
theorem dX11_vote_132 : decode cX11_vote 132 = .ok (.iload 4, 2) := by decide +kernel
theorem dX11_vote_134 : decode cX11_vote 134 = .ok (.iload 5, 2) := by decide +kernel
theorem dX11_vote_136 : decode cX11_vote 136 = .ok (.iload 6, 2) := by decide +kernel
theorem dX11_vote_138 : decode cX11_vote 138 = .ok (.iload_n 1, 1) := by decide +kernel
theorem dX11_vote_139 : decode cX11_vote 139 = .ok (.invokevirtual 146, 3) := by decide +kernel
theorem dX11_vote_142 : decode cX11_vote 142 = .ok (.istore 8, 2) := by decide +kernel
theorem dX11_vote_144 : decode cX11_vote 144 = .ok (.iconst 1, 1) := by decide +kernel
theorem dX11_vote_145 : decode cX11_vote 145 = .ok (.ireturn, 1) := by decide +kernel
theorem dX11_accept_0 : decode cX11_accept 0 = .ok (.aload_n 0, 1) := by decide +kernel
theorem dX11_accept_1 : decode cX11_accept 1 = .ok (.getfield 87, 3) := by decide +kernel
theorem dX11_accept_4 : decode cX11_accept 4 = .ok (.iconst 4, 1) := by decide +kernel
theorem dX11_accept_5 : decode cX11_accept 5 = .ok (.iaload, 1) := by decide +kernel
theorem dX11_accept_6 : decode cX11_accept 6 = .ok (.istore 4, 2) := by decide +kernel
theorem dX11_accept_8 : decode cX11_accept 8 = .ok (.aload_n 0, 1) := by decide +kernel
theorem dX11_accept_9 : decode cX11_accept 9 = .ok (.getfield 54, 3) := by decide +kernel
theorem dX11_accept_12 : decode cX11_accept 12 = .ok (.iload_n 3, 1) := by decide +kernel
theorem dX11_accept_13 : decode cX11_accept 13 = .ok (.iaload, 1) := by decide +kernel
theorem dX11_accept_14 : decode cX11_accept 14 = .ok (.aload_n 0, 1) := by decide +kernel
theorem dX11_accept_15 : decode cX11_accept 15 = .ok (.getfield 87, 3) := by decide +kernel
theorem dX11_accept_18 : decode cX11_accept 18 = .ok (.iconst 3, 1) := by decide +kernel
theorem dX11_accept_19 : decode cX11_accept 19 = .ok (.iaload, 1) := by decide +kernel
theorem dX11_accept_20 : decode cX11_accept 20 = .ok (.if_icmp .ne 12, 3) := by decide +kernel
theorem dX11_accept_23 : decode cX11_accept 23 = .ok (.aload_n 0, 1) := by decide +kernel
theorem dX11_accept_24 : decode cX11_accept 24 = .ok (.getfield 57, 3) := by decide +kernel
theorem dX11_accept_27 : decode cX11_accept 27 = .ok (.iload_n 3, 1) := by decide +kernel
theorem dX11_accept_28 : decode cX11_accept 28 = .ok (.iaload, 1) := by decide +kernel
theorem dX11_accept_29 : decode cX11_accept 29 = .ok (.ifCond .eq 4, 3) := by decide +kernel
theorem dX11_accept_32 : decode cX11_accept 32 = .ok (.return_, 1) := by decide +kernel
theorem dX11_accept_33 : decode cX11_accept 33 = .ok (.iconst 1, 1) := by decide +kernel
theorem dX11_accept_34 : decode cX11_accept 34 = .ok (.aload_n 0, 1) := by decide +kernel
theorem dX11_accept_35 : decode cX11_accept 35 = .ok (.getfield 87, 3) := by decide +kernel
theorem dX11_accept_38 : decode cX11_accept 38 = .ok (.bipush 6, 2) := by decide +kernel
theorem dX11_accept_40 : decode cX11_accept 40 = .ok (.iaload, 1) := by decide +kernel
theorem dX11_accept_41 : decode cX11_accept 41 = .ok (.aload_n 0, 1) := by decide +kernel
theorem dX11_accept_42 : decode cX11_accept 42 = .ok (.getfield 97, 3) := by decide +kernel
theorem dX11_accept_45 : decode cX11_accept 45 = .ok (.isub, 1) := by decide +kernel
theorem dX11_accept_46 : decode cX11_accept 46 = .ok (.ishl, 1) := by decide +kernel
theorem dX11_accept_47 : decode cX11_accept 47 = .ok (.istore 5, 2) := by decide +kernel
theorem dX11_accept_49 : decode cX11_accept 49 = .ok (.iconst 4, 1) := by decide +kernel
theorem dX11_accept_50 : decode cX11_accept 50 = .ok (.iload_n 3, 1) := by decide +kernel
theorem dX11_accept_51 : decode cX11_accept 51 = .ok (.imul, 1) := by decide +kernel
theorem dX11_accept_52 : decode cX11_accept 52 = .ok (.iload 4, 2) := by decide +kernel
theorem dX11_accept_54 : decode cX11_accept 54 = .ok (.iadd, 1) := by decide +kernel
theorem dX11_accept_55 : decode cX11_accept 55 = .ok (.istore 6, 2) := by decide +kernel
theorem dX11_accept_57 : decode cX11_accept 57 = .ok (.aload_n 0, 1) := by decide +kernel
theorem dX11_accept_58 : decode cX11_accept 58 = .ok (.getfield 69, 3) := by decide +kernel
theorem dX11_accept_61 : decode cX11_accept 61 = .ok (.iload 6, 2) := by decide +kernel
theorem dX11_accept_63 : decode cX11_accept 63 = .ok (.iaload, 1) := by decide +kernel
theorem dX11_accept_64 : decode cX11_accept 64 = .ok (.aload_n 0, 1) := by decide +kernel
theorem dX11_accept_65 : decode cX11_accept 65 = .ok (.getfield 72, 3) := by decide +kernel
theorem dX11_accept_68 : decode cX11_accept 68 = .ok (.iload 6, 2) := by decide +kernel
theorem dX11_accept_70 : decode cX11_accept 70 = .ok (.iaload, 1) := by decide +kernel
theorem dX11_accept_71 : decode cX11_accept 71 = .ok (.ior, 1) := by decide +kernel
theorem dX11_accept_72 : decode cX11_accept 72 = .ok (.iload 5, 2) := by decide +kernel
theorem dX11_accept_74 : decode cX11_accept 74 = .ok (.iand, 1) := by decide +kernel
theorem dX11_accept_75 : decode cX11_accept 75 = .ok (.ifCond .ne 55, 3) := by decide +kernel
theorem dX11_accept_78 : decode cX11_accept 78 = .ok (.aload_n 0, 1) := by decide +kernel
theorem dX11_accept_79 : decode cX11_accept 79 = .ok (.getfield 69, 3) := by decide +kernel
theorem dX11_accept_82 : decode cX11_accept 82 = .ok (.iload 6, 2) := by decide +kernel
end
section
theorem dX11_accept_84 : decode cX11_accept 84 = .ok (.dup2, 1) := by decide +kernel
theorem dX11_accept_85 : decode cX11_accept 85 = .ok (.iaload, 1) := by decide +kernel
theorem dX11_accept_86 : decode cX11_accept 86 = .ok (.aload_n 0, 1) := by decide +kernel
theorem dX11_accept_87 : decode cX11_accept 87 = .ok (.getfield 87, 3) := by decide +kernel
theorem dX11_accept_90 : decode cX11_accept 90 = .ok (.iconst 5, 1) := by decide +kernel
theorem dX11_accept_91 : decode cX11_accept 91 = .ok (.iaload, 1) := by decide +kernel
theorem dX11_accept_92 : decode cX11_accept 92 = .ok (.iconst 1, 1) := by decide +kernel
theorem dX11_accept_93 : decode cX11_accept 93 = .ok (.if_icmp .ne 8, 3) := by decide +kernel
theorem dX11_accept_96 : decode cX11_accept 96 = .ok (.iload 5, 2) := by decide +kernel
theorem dX11_accept_98 : decode cX11_accept 98 = .ok (.goto 4, 3) := by decide +kernel
theorem dX11_accept_101 : decode cX11_accept 101 = .ok (.iconst 0, 1) := by decide +kernel
theorem dX11_accept_102 : decode cX11_accept 102 = .ok (.ior, 1) := by decide +kernel
theorem dX11_accept_103 : decode cX11_accept 103 = .ok (.iastore, 1) := by decide +kernel
theorem dX11_accept_104 : decode cX11_accept 104 = .ok (.aload_n 0, 1) := by decide +kernel
theorem dX11_accept_105 : decode cX11_accept 105 = .ok (.getfield 72, 3) := by decide +kernel
theorem dX11_accept_108 : decode cX11_accept 108 = .ok (.iload 6, 2) := by decide +kernel
theorem dX11_accept_110 : decode cX11_accept 110 = .ok (.dup2, 1) := by decide +kernel
theorem dX11_accept_111 : decode cX11_accept 111 = .ok (.iaload, 1) := by decide +kernel
theorem dX11_accept_112 : decode cX11_accept 112 = .ok (.aload_n 0, 1) := by decide +kernel
theorem dX11_accept_113 : decode cX11_accept 113 = .ok (.getfield 87, 3) := by decide +kernel
theorem dX11_accept_116 : decode cX11_accept 116 = .ok (.iconst 5, 1) := by decide +kernel
theorem dX11_accept_117 : decode cX11_accept 117 = .ok (.iaload, 1) := by decide +kernel
theorem dX11_accept_118 : decode cX11_accept 118 = .ok (.iconst 2, 1) := by decide +kernel
theorem dX11_accept_119 : decode cX11_accept 119 = .ok (.if_icmp .ne 8, 3) := by decide +kernel
theorem dX11_accept_122 : decode cX11_accept 122 = .ok (.iload 5, 2) := by decide +kernel
theorem dX11_accept_124 : decode cX11_accept 124 = .ok (.goto 4, 3) := by decide +kernel
theorem dX11_accept_127 : decode cX11_accept 127 = .ok (.iconst 0, 1) := by decide +kernel
theorem dX11_accept_128 : decode cX11_accept 128 = .ok (.ior, 1) := by decide +kernel
theorem dX11_accept_129 : decode cX11_accept 129 = .ok (.iastore, 1) := by decide +kernel
theorem dX11_accept_130 : decode cX11_accept 130 = .ok (.iconst 1, 1) := by decide +kernel
theorem dX11_accept_131 : decode cX11_accept 131 = .ok (.istore 7, 2) := by decide +kernel
theorem dX11_accept_133 : decode cX11_accept 133 = .ok (.iconst 0, 1) := by decide +kernel
theorem dX11_accept_134 : decode cX11_accept 134 = .ok (.istore 8, 2) := by decide +kernel
theorem dX11_accept_136 : decode cX11_accept 136 = .ok (.iconst 0, 1) := by decide +kernel
theorem dX11_accept_137 : decode cX11_accept 137 = .ok (.istore 9, 2) := by decide +kernel
theorem dX11_accept_139 : decode cX11_accept 139 = .ok (.iload 9, 2) := by decide +kernel
theorem dX11_accept_141 : decode cX11_accept 141 = .ok (.aload_n 0, 1) := by decide +kernel
theorem dX11_accept_142 : decode cX11_accept 142 = .ok (.getfield 97, 3) := by decide +kernel
theorem dX11_accept_145 : decode cX11_accept 145 = .ok (.if_icmp .ge 79, 3) := by decide +kernel
theorem dX11_accept_148 : decode cX11_accept 148 = .ok (.aload_n 0, 1) := by decide +kernel
theorem dX11_accept_149 : decode cX11_accept 149 = .ok (.iload_n 2, 1) := by decide +kernel
theorem dX11_accept_150 : decode cX11_accept 150 = .ok (.iload 9, 2) := by decide +kernel
theorem dX11_accept_152 : decode cX11_accept 152 = .ok (.invokevirtual 128, 3) := by decide +kernel
theorem dX11_accept_155 : decode cX11_accept 155 = .ok (.ifCond .eq 63, 3) := by decide +kernel
theorem dX11_accept_158 : decode cX11_accept 158 = .ok (.iload 7, 2) := by decide +kernel
theorem dX11_accept_160 : decode cX11_accept 160 = .ok (.ifCond .eq 25, 3) := by decide +kernel
theorem dX11_accept_163 : decode cX11_accept 163 = .ok (.aload_n 0, 1) := by decide +kernel
theorem dX11_accept_164 : decode cX11_accept 164 = .ok (.aload_n 0, 1) := by decide +kernel
theorem dX11_accept_165 : decode cX11_accept 165 = .ok (.getfield 69, 3) := by decide +kernel
theorem dX11_accept_168 : decode cX11_accept 168 = .ok (.iconst 4, 1) := by decide +kernel
theorem dX11_accept_169 : decode cX11_accept 169 = .ok (.iload_n 3, 1) := by decide +kernel
theorem dX11_accept_170 : decode cX11_accept 170 = .ok (.imul, 1) := by decide +kernel
theorem dX11_accept_171 : decode cX11_accept 171 = .ok (.iload 9, 2) := by decide +kernel
theorem dX11_accept_173 : decode cX11_accept 173 = .ok (.iadd, 1) := by decide +kernel
theorem dX11_accept_174 : decode cX11_accept 174 = .ok (.iaload, 1) := by decide +kernel
theorem dX11_accept_175 : decode cX11_accept 175 = .ok (.invokevirtual 202, 3) := by decide +kernel
theorem dX11_accept_178 : decode cX11_accept 178 = .ok (.ifCond .eq 7, 3) := by decide +kernel
theorem dX11_accept_181 : decode cX11_accept 181 = .ok (.iconst 1, 1) := by decide +kernel
theorem dX11_accept_182 : decode cX11_accept 182 = .ok (.goto 4, 3) := by decide +kernel
theorem dX11_accept_185 : decode cX11_accept 185 = .ok (.iconst 0, 1) := by decide +kernel
theorem dX11_accept_186 : decode cX11_accept 186 = .ok (.istore 7, 2) := by decide +kernel
theorem dX11_accept_188 : decode cX11_accept 188 = .ok (.iload 8, 2) := by decide +kernel
theorem dX11_accept_190 : decode cX11_accept 190 = .ok (.ifCond .ne 21, 3) := by decide +kernel
theorem dX11_accept_193 : decode cX11_accept 193 = .ok (.aload_n 0, 1) := by decide +kernel
theorem dX11_accept_194 : decode cX11_accept 194 = .ok (.aload_n 0, 1) := by decide +kernel
theorem dX11_accept_195 : decode cX11_accept 195 = .ok (.getfield 72, 3) := by decide +kernel
theorem dX11_accept_198 : decode cX11_accept 198 = .ok (.iconst 4, 1) := by decide +kernel
theorem dX11_accept_199 : decode cX11_accept 199 = .ok (.iload_n 3, 1) := by decide +kernel
theorem dX11_accept_200 : decode cX11_accept 200 = .ok (.imul, 1) := by decide +kernel
theorem dX11_accept_201 : decode cX11_accept 201 = .ok (.iload 9, 2) := by decide +kernel
theorem dX11_accept_203 : decode cX11_accept 203 = .ok (.iadd, 1) := by decide +kernel
theorem dX11_accept_204 : decode cX11_accept 204 = .ok (.iaload, 1) := by decide +kernel
theorem dX11_accept_205 : decode cX11_accept 205 = .ok (.invokevirtual 202, 3) := by decide +kernel
theorem dX11_accept_208 : decode cX11_accept 208 = .ok (.ifCond .eq 7, 3) := by decide +kernel
theorem dX11_accept_211 : decode cX11_accept 211 = .ok (.iconst 1, 1) := by decide +kernel
theorem dX11_accept_212 : decode cX11_accept 212 = .ok (.goto 4, 3) := by decide +kernel
theorem dX11_accept_215 : decode cX11_accept 215 = .ok (.iconst 0, 1) := by decide +kernel
theorem dX11_accept_216 : decode cX11_accept 216 = .ok (.istore 8, 2) := by decide +kernel
theorem dX11_accept_218 : decode cX11_accept 218 = .ok (.iinc 9 1, 3) := by decide +kernel
theorem dX11_accept_221 : decode cX11_accept 221 = .ok (.goto (-82), 3) := by decide +kernel
theorem dX11_accept_224 : decode cX11_accept 224 = .ok (.iload 8, 2) := by decide +kernel
theorem dX11_accept_226 : decode cX11_accept 226 = .ok (.ifCond .ne 9, 3) := by decide +kernel
theorem dX11_accept_229 : decode cX11_accept 229 = .ok (.iload 7, 2) := by decide +kernel
theorem dX11_accept_231 : decode cX11_accept 231 = .ok (.ifCond .ne 4, 3) := by decide +kernel
theorem dX11_accept_234 : decode cX11_accept 234 = .ok (.return_, 1) := by decide +kernel
theorem dX11_accept_235 : decode cX11_accept 235 = .ok (.aload_n 0, 1) := by decide +kernel
theorem dX11_accept_236 : decode cX11_accept 236 = .ok (.getfield 57, 3) := by decide +kernel
theorem dX11_accept_239 : decode cX11_accept 239 = .ok (.iload_n 3, 1) := by decide +kernel
theorem dX11_accept_240 : decode cX11_accept 240 = .ok (.iload 8, 2) := by decide +kernel
theorem dX11_accept_242 : decode cX11_accept 242 = .ok (.ifCond .eq 7, 3) := by decide +kernel
theorem dX11_accept_245 : decode cX11_accept 245 = .ok (.iconst 4, 1) := by decide +kernel
theorem dX11_accept_246 : decode cX11_accept 246 = .ok (.goto 4, 3) := by decide +kernel
theorem dX11_accept_249 : decode cX11_accept 249 = .ok (.iconst 3, 1) := by decide +kernel
theorem dX11_accept_250 : decode cX11_accept 250 = .ok (.iastore, 1) := by decide +kernel
theorem dX11_accept_251 : decode cX11_accept 251 = .ok (.iconst 0, 1) := by decide +kernel
theorem dX11_accept_252 : decode cX11_accept 252 = .ok (.istore 9, 2) := by decide +kernel
theorem dX11_accept_254 : decode cX11_accept 254 = .ok (.iload 9, 2) := by decide +kernel
theorem dX11_accept_256 : decode cX11_accept 256 = .ok (.aload_n 0, 1) := by decide +kernel
theorem dX11_accept_257 : decode cX11_accept 257 = .ok (.getfield 97, 3) := by decide +kernel
theorem dX11_accept_260 : decode cX11_accept 260 = .ok (.if_icmp .ge 39, 3) := by decide +kernel
theorem dX11_accept_263 : decode cX11_accept 263 = .ok (.aload_n 0, 1) := by decide +kernel
theorem dX11_accept_264 : decode cX11_accept 264 = .ok (.iload_n 2, 1) := by decide +kernel
theorem dX11_accept_265 : decode cX11_accept 265 = .ok (.iload 9, 2) := by decide +kernel
theorem dX11_accept_267 : decode cX11_accept 267 = .ok (.invokevirtual 128, 3) := by decide +kernel
theorem dX11_accept_270 : decode cX11_accept 270 = .ok (.ifCond .eq 23, 3) := by decide +kernel
theorem dX11_accept_273 : decode cX11_accept 273 = .ok (.aload_n 0, 1) := by decide +kernel
theorem dX11_accept_274 : decode cX11_accept 274 = .ok (.bipush 6, 2) := by decide +kernel
theorem dX11_accept_276 : decode cX11_accept 276 = .ok (.iload 9, 2) := by decide +kernel
theorem dX11_accept_278 : decode cX11_accept 278 = .ok (.iload_n 2, 1) := by decide +kernel
theorem dX11_accept_279 : decode cX11_accept 279 = .ok (.iconst 0, 1) := by decide +kernel
theorem dX11_accept_280 : decode cX11_accept 280 = .ok (.iconst 0, 1) := by decide +kernel
theorem dX11_accept_281 : decode cX11_accept 281 = .ok (.aload_n 0, 1) := by decide +kernel
theorem dX11_accept_282 : decode cX11_accept 282 = .ok (.getfield 57, 3) := by decide +kernel
theorem dX11_accept_285 : decode cX11_accept 285 = .ok (.iload_n 3, 1) := by decide +kernel
theorem dX11_accept_286 : decode cX11_accept 286 = .ok (.iaload, 1) := by decide +kernel
theorem dX11_accept_287 : decode cX11_accept 287 = .ok (.iload_n 1, 1) := by decide +kernel
theorem dX11_accept_288 : decode cX11_accept 288 = .ok (.invokevirtual 146, 3) := by decide +kernel
theorem dX11_accept_291 : decode cX11_accept 291 = .ok (.istore 10, 2) := by decide +kernel
theorem dX11_accept_293 : decode cX11_accept 293 = .ok (.iinc 9 1, 3) := by decide +kernel
theorem dX11_accept_296 : decode cX11_accept 296 = .ok (.goto (-42), 3) := by decide +kernel
theorem dX11_accept_299 : decode cX11_accept 299 = .ok (.aload_n 0, 1) := by decide +kernel
theorem dX11_accept_300 : decode cX11_accept 300 = .ok (.bipush 6, 2) := by decide +kernel
theorem dX11_accept_302 : decode cX11_accept 302 = .ok (.aload_n 0, 1) := by decide +kernel
theorem dX11_accept_303 : decode cX11_accept 303 = .ok (.getfield 97, 3) := by decide +kernel
theorem dX11_accept_306 : decode cX11_accept 306 = .ok (.aload_n 0, 1) := by decide +kernel
theorem dX11_accept_307 : decode cX11_accept 307 = .ok (.getfield 101, 3) := by decide +kernel
theorem dX11_accept_310 : decode cX11_accept 310 = .ok (.iadd, 1) := by decide +kernel
theorem dX11_accept_311 : decode cX11_accept 311 = .ok (.iload_n 2, 1) := by decide +kernel
theorem dX11_accept_312 : decode cX11_accept 312 = .ok (.iconst 0, 1) := by decide +kernel
theorem dX11_accept_313 : decode cX11_accept 313 = .ok (.iconst 0, 1) := by decide +kernel
theorem dX11_accept_314 : decode cX11_accept 314 = .ok (.aload_n 0, 1) := by decide +kernel
theorem dX11_accept_315 : decode cX11_accept 315 = .ok (.getfield 57, 3) := by decide +kernel
theorem dX11_accept_318 : decode cX11_accept 318 = .ok (.iload_n 3, 1) := by decide +kernel
theorem dX11_accept_319 : decode cX11_accept 319 = .ok (.iaload, 1) := by decide +kernel
theorem dX11_accept_320 : decode cX11_accept 320 = .ok (.iload_n 1, 1) := by decide +kernel
theorem dX11_accept_321 : decode cX11_accept 321 = .ok (.invokevirtual 146, 3) := by decide +kernel
theorem dX11_accept_324 : decode cX11_accept 324 = .ok (.istore 9, 2) := by decide +kernel
theorem dX11_accept_326 : decode cX11_accept 326 = .ok (.return_, 1) := by decide +kernel
theorem dX11_answer_0 : decode cX11_answer 0 = .ok (.aload_n 0, 1) := by decide +kernel
theorem dX11_answer_1 : decode cX11_answer 1 = .ok (.getfield 87, 3) := by decide +kernel
theorem dX11_answer_4 : decode cX11_answer 4 = .ok (.iconst 3, 1) := by decide +kernel
theorem dX11_answer_5 : decode cX11_answer 5 = .ok (.iaload, 1) := by decide +kernel
theorem dX11_answer_6 : decode cX11_answer 6 = .ok (.istore 4, 2) := by decide +kernel
theorem dX11_answer_8 : decode cX11_answer 8 = .ok (.iload 4, 2) := by decide +kernel
theorem dX11_answer_10 : decode cX11_answer 10 = .ok (.aload_n 0, 1) := by decide +kernel
theorem dX11_answer_11 : decode cX11_answer 11 = .ok (.getfield 51, 3) := by decide +kernel
theorem dX11_answer_14 : decode cX11_answer 14 = .ok (.iload_n 3, 1) := by decide +kernel
theorem dX11_answer_15 : decode cX11_answer 15 = .ok (.iaload, 1) := by decide +kernel
theorem dX11_answer_16 : decode cX11_answer 16 = .ok (.if_icmp .ge 5, 3) := by decide +kernel
theorem dX11_answer_19 : decode cX11_answer 19 = .ok (.iconst 1, 1) := by decide +kernel
theorem dX11_answer_20 : decode cX11_answer 20 = .ok (.ireturn, 1) := by decide +kernel
theorem dX11_answer_21 : decode cX11_answer 21 = .ok (.iload 4, 2) := by decide +kernel
theorem dX11_answer_23 : decode cX11_answer 23 = .ok (.aload_n 0, 1) := by decide +kernel
theorem dX11_answer_24 : decode cX11_answer 24 = .ok (.getfield 51, 3) := by decide +kernel
theorem dX11_answer_27 : decode cX11_answer 27 = .ok (.iload_n 3, 1) := by decide +kernel
theorem dX11_answer_28 : decode cX11_answer 28 = .ok (.iaload, 1) := by decide +kernel
theorem dX11_answer_29 : decode cX11_answer 29 = .ok (.if_icmp .le 26, 3) := by decide +kernel
theorem dX11_answer_32 : decode cX11_answer 32 = .ok (.aload_n 0, 1) := by decide +kernel
theorem dX11_answer_33 : decode cX11_answer 33 = .ok (.iload_n 1, 1) := by decide +kernel
theorem dX11_answer_34 : decode cX11_answer 34 = .ok (.iconst 3, 1) := by decide +kernel
theorem dX11_answer_35 : decode cX11_answer 35 = .ok (.iload_n 2, 1) := by decide +kernel
theorem dX11_answer_36 : decode cX11_answer 36 = .ok (.iload 4, 2) := by decide +kernel
theorem dX11_answer_38 : decode cX11_answer 38 = .ok (.iconst 0, 1) := by decide +kernel
theorem dX11_answer_39 : decode cX11_answer 39 = .ok (.invokevirtual 194, 3) := by decide +kernel
theorem dX11_answer_42 : decode cX11_answer 42 = .ok (.ifCond .ne 5, 3) := by decide +kernel
theorem dX11_answer_45 : decode cX11_answer 45 = .ok (.iconst 0, 1) := by decide +kernel
theorem dX11_answer_46 : decode cX11_answer 46 = .ok (.ireturn, 1) := by decide +kernel
theorem dX11_answer_47 : decode cX11_answer 47 = .ok (.aload_n 0, 1) := by decide +kernel
theorem dX11_answer_48 : decode cX11_answer 48 = .ok (.getfield 51, 3) := by decide +kernel
theorem dX11_answer_51 : decode cX11_answer 51 = .ok (.iload_n 3, 1) := by decide +kernel
theorem dX11_answer_52 : decode cX11_answer 52 = .ok (.iload 4, 2) := by decide +kernel
theorem dX11_answer_54 : decode cX11_answer 54 = .ok (.iastore, 1) := by decide +kernel
theorem dX11_answer_55 : decode cX11_answer 55 = .ok (.aload_n 0, 1) := by decide +kernel
theorem dX11_answer_56 : decode cX11_answer 56 = .ok (.iconst 5, 1) := by decide +kernel
theorem dX11_answer_57 : decode cX11_answer 57 = .ok (.aload_n 0, 1) := by decide +kernel
theorem dX11_answer_58 : decode cX11_answer 58 = .ok (.getfield 97, 3) := by decide +kernel
theorem dX11_answer_61 : decode cX11_answer 61 = .ok (.iload 4, 2) := by decide +kernel
theorem dX11_answer_63 : decode cX11_answer 63 = .ok (.aload_n 0, 1) := by decide +kernel
theorem dX11_answer_64 : decode cX11_answer 64 = .ok (.getfield 101, 3) := by decide +kernel
theorem dX11_answer_67 : decode cX11_answer 67 = .ok (.irem, 1) := by decide +kernel
theorem dX11_answer_68 : decode cX11_answer 68 = .ok (.iadd, 1) := by decide +kernel
theorem dX11_answer_69 : decode cX11_answer 69 = .ok (.iload_n 2, 1) := by decide +kernel
theorem dX11_answer_70 : decode cX11_answer 70 = .ok (.iload 4, 2) := by decide +kernel
theorem dX11_answer_72 : decode cX11_answer 72 = .ok (.iconst 0, 1) := by decide +kernel
theorem dX11_answer_73 : decode cX11_answer 73 = .ok (.iconst 0, 1) := by decide +kernel
theorem dX11_answer_74 : decode cX11_answer 74 = .ok (.iload_n 1, 1) := by decide +kernel
theorem dX11_answer_75 : decode cX11_answer 75 = .ok (.invokevirtual 146, 3) := by decide +kernel
theorem dX11_answer_78 : decode cX11_answer 78 = .ok (.istore 5, 2) := by decide +kernel
theorem dX11_answer_80 : decode cX11_answer 80 = .ok (.iconst 0, 1) := by decide +kernel
theorem dX11_answer_81 : decode cX11_answer 81 = .ok (.istore 6, 2) := by decide +kernel
theorem dX11_answer_83 : decode cX11_answer 83 = .ok (.iload 6, 2) := by decide +kernel
theorem dX11_answer_85 : decode cX11_answer 85 = .ok (.iconst 4, 1) := by decide +kernel
theorem dX11_answer_86 : decode cX11_answer 86 = .ok (.if_icmp .ge 64, 3) := by decide +kernel
theorem dX11_answer_89 : decode cX11_answer 89 = .ok (.iload 5, 2) := by decide +kernel
theorem dX11_answer_91 : decode cX11_answer 91 = .ok (.ifCond .lt 59, 3) := by decide +kernel
theorem dX11_answer_94 : decode cX11_answer 94 = .ok (.aload_n 0, 1) := by decide +kernel
theorem dX11_answer_95 : decode cX11_answer 95 = .ok (.getfield 84, 3) := by decide +kernel
theorem dX11_answer_98 : decode cX11_answer 98 = .ok (.bipush 8, 2) := by decide +kernel
theorem dX11_answer_100 : decode cX11_answer 100 = .ok (.iload 5, 2) := by decide +kernel
theorem dX11_answer_102 : decode cX11_answer 102 = .ok (.imul, 1) := by decide +kernel
theorem dX11_answer_103 : decode cX11_answer 103 = .ok (.iload 6, 2) := by decide +kernel
theorem dX11_answer_105 : decode cX11_answer 105 = .ok (.iadd, 1) := by decide +kernel
theorem dX11_answer_106 : decode cX11_answer 106 = .ok (.aload_n 0, 1) := by decide +kernel
theorem dX11_answer_107 : decode cX11_answer 107 = .ok (.getfield 63, 3) := by decide +kernel
theorem dX11_answer_110 : decode cX11_answer 110 = .ok (.iconst 4, 1) := by decide +kernel
theorem dX11_answer_111 : decode cX11_answer 111 = .ok (.iload_n 3, 1) := by decide +kernel
theorem dX11_answer_112 : decode cX11_answer 112 = .ok (.imul, 1) := by decide +kernel
theorem dX11_answer_113 : decode cX11_answer 113 = .ok (.iload 6, 2) := by decide +kernel
theorem dX11_answer_115 : decode cX11_answer 115 = .ok (.iadd, 1) := by decide +kernel
theorem dX11_answer_116 : decode cX11_answer 116 = .ok (.iaload, 1) := by decide +kernel
theorem dX11_answer_117 : decode cX11_answer 117 = .ok (.iastore, 1) := by decide +kernel
theorem dX11_answer_118 : decode cX11_answer 118 = .ok (.aload_n 0, 1) := by decide +kernel
theorem dX11_answer_119 : decode cX11_answer 119 = .ok (.getfield 84, 3) := by decide +kernel
theorem dX11_answer_122 : decode cX11_answer 122 = .ok (.bipush 8, 2) := by decide +kernel
theorem dX11_answer_124 : decode cX11_answer 124 = .ok (.iload 5, 2) := by decide +kernel
theorem dX11_answer_126 : decode cX11_answer 126 = .ok (.imul, 1) := by decide +kernel
theorem dX11_answer_127 : decode cX11_answer 127 = .ok (.iconst 4, 1) := by decide +kernel
theorem dX11_answer_128 : decode cX11_answer 128 = .ok (.iadd, 1) := by decide +kernel
theorem dX11_answer_129 : decode cX11_answer 129 = .ok (.iload 6, 2) := by decide +kernel
theorem dX11_answer_131 : decode cX11_answer 131 = .ok (.iadd, 1) := by decide +kernel
theorem dX11_answer_132 : decode cX11_answer 132 = .ok (.aload_n 0, 1) := by decide +kernel
theorem dX11_answer_133 : decode cX11_answer 133 = .ok (.getfield 66, 3) := by decide +kernel
theorem dX11_answer_136 : decode cX11_answer 136 = .ok (.iconst 4, 1) := by decide +kernel
theorem dX11_answer_137 : decode cX11_answer 137 = .ok (.iload_n 3, 1) := by decide +kernel
theorem dX11_answer_138 : decode cX11_answer 138 = .ok (.imul, 1) := by decide +kernel
theorem dX11_answer_139 : decode cX11_answer 139 = .ok (.iload 6, 2) := by decide +kernel
theorem dX11_answer_141 : decode cX11_answer 141 = .ok (.iadd, 1) := by decide +kernel
theorem dX11_answer_142 : decode cX11_answer 142 = .ok (.iaload, 1) := by decide +kernel
theorem dX11_answer_143 : decode cX11_answer 143 = .ok (.iastore, 1) := by decide +kernel
theorem dX11_answer_144 : decode cX11_answer 144 = .ok (.iinc 6 1, 3) := by decide +kernel
theorem dX11_answer_147 : decode cX11_answer 147 = .ok (.goto (-64), 3) := by decide +kernel
theorem dX11_answer_150 : decode cX11_answer 150 = .ok (.iconst 1, 1) := by decide +kernel
theorem dX11_answer_151 : decode cX11_answer 151 = .ok (.ireturn, 1) := by decide +kernel
theorem dX11_promise_0 : decode cX11_promise 0 = .ok (.aload_n 0, 1) := by decide +kernel
theorem dX11_promise_1 : decode cX11_promise 1 = .ok (.getfield 87, 3) := by decide +kernel
theorem dX11_promise_4 : decode cX11_promise 4 = .ok (.iconst 3, 1) := by decide +kernel
theorem dX11_promise_5 : decode cX11_promise 5 = .ok (.iaload, 1) := by decide +kernel
theorem dX11_promise_6 : decode cX11_promise 6 = .ok (.istore 4, 2) := by decide +kernel
theorem dX11_promise_8 : decode cX11_promise 8 = .ok (.aload_n 0, 1) := by decide +kernel
theorem dX11_promise_9 : decode cX11_promise 9 = .ok (.getfield 54, 3) := by decide +kernel
theorem dX11_promise_12 : decode cX11_promise 12 = .ok (.iload_n 3, 1) := by decide +kernel
theorem dX11_promise_13 : decode cX11_promise 13 = .ok (.iaload, 1) := by decide +kernel
theorem dX11_promise_14 : decode cX11_promise 14 = .ok (.iload 4, 2) := by decide +kernel
theorem dX11_promise_16 : decode cX11_promise 16 = .ok (.if_icmp .ne 25, 3) := by decide +kernel
theorem dX11_promise_19 : decode cX11_promise 19 = .ok (.aload_n 0, 1) := by decide +kernel
theorem dX11_promise_20 : decode cX11_promise 20 = .ok (.getfield 57, 3) := by decide +kernel
theorem dX11_promise_23 : decode cX11_promise 23 = .ok (.iload_n 3, 1) := by decide +kernel
theorem dX11_promise_24 : decode cX11_promise 24 = .ok (.iaload, 1) := by decide +kernel
theorem dX11_promise_25 : decode cX11_promise 25 = .ok (.ifCond .ne 16, 3) := by decide +kernel
theorem dX11_promise_28 : decode cX11_promise 28 = .ok (.aload_n 0, 1) := by decide +kernel
theorem dX11_promise_29 : decode cX11_promise 29 = .ok (.aload_n 0, 1) := by decide +kernel
theorem dX11_promise_30 : decode cX11_promise 30 = .ok (.getfield 60, 3) := by decide +kernel
theorem dX11_promise_33 : decode cX11_promise 33 = .ok (.iload_n 3, 1) := by decide +kernel
theorem dX11_promise_34 : decode cX11_promise 34 = .ok (.iaload, 1) := by decide +kernel
theorem dX11_promise_35 : decode cX11_promise 35 = .ok (.invokevirtual 202, 3) := by decide +kernel
theorem dX11_promise_38 : decode cX11_promise 38 = .ok (.ifCond .eq 4, 3) := by decide +kernel
theorem dX11_promise_41 : decode cX11_promise 41 = .ok (.return_, 1) := by decide +kernel
theorem dX11_promise_42 : decode cX11_promise 42 = .ok (.aload_n 0, 1) := by decide +kernel
theorem dX11_promise_43 : decode cX11_promise 43 = .ok (.getfield 60, 3) := by decide +kernel
theorem dX11_promise_46 : decode cX11_promise 46 = .ok (.iload_n 3, 1) := by decide +kernel
theorem dX11_promise_47 : decode cX11_promise 47 = .ok (.dup2, 1) := by decide +kernel
theorem dX11_promise_48 : decode cX11_promise 48 = .ok (.iaload, 1) := by decide +kernel
theorem dX11_promise_49 : decode cX11_promise 49 = .ok (.iconst 1, 1) := by decide +kernel
theorem dX11_promise_50 : decode cX11_promise 50 = .ok (.aload_n 0, 1) := by decide +kernel
theorem dX11_promise_51 : decode cX11_promise 51 = .ok (.getfield 87, 3) := by decide +kernel
theorem dX11_promise_54 : decode cX11_promise 54 = .ok (.bipush 6, 2) := by decide +kernel
theorem dX11_promise_56 : decode cX11_promise 56 = .ok (.iaload, 1) := by decide +kernel
theorem dX11_promise_57 : decode cX11_promise 57 = .ok (.aload_n 0, 1) := by decide +kernel
theorem dX11_promise_58 : decode cX11_promise 58 = .ok (.getfield 97, 3) := by decide +kernel
theorem dX11_promise_61 : decode cX11_promise 61 = .ok (.isub, 1) := by decide +kernel
theorem dX11_promise_62 : decode cX11_promise 62 = .ok (.ishl, 1) := by decide +kernel
theorem dX11_promise_63 : decode cX11_promise 63 = .ok (.ior, 1) := by decide +kernel
theorem dX11_promise_64 : decode cX11_promise 64 = .ok (.iastore, 1) := by decide +kernel
theorem dX11_promise_65 : decode cX11_promise 65 = .ok (.iconst 0, 1) := by decide +kernel
theorem dX11_promise_66 : decode cX11_promise 66 = .ok (.istore 5, 2) := by decide +kernel
theorem dX11_promise_68 : decode cX11_promise 68 = .ok (.iload 5, 2) := by decide +kernel
theorem dX11_promise_70 : decode cX11_promise 70 = .ok (.iconst 4, 1) := by decide +kernel
theorem dX11_promise_71 : decode cX11_promise 71 = .ok (.if_icmp .ge 68, 3) := by decide +kernel
theorem dX11_promise_74 : decode cX11_promise 74 = .ok (.aload_n 0, 1) := by decide +kernel
theorem dX11_promise_75 : decode cX11_promise 75 = .ok (.getfield 90, 3) := by decide +kernel
theorem dX11_promise_78 : decode cX11_promise 78 = .ok (.iload 5, 2) := by decide +kernel
theorem dX11_promise_80 : decode cX11_promise 80 = .ok (.iaload, 1) := by decide +kernel
theorem dX11_promise_81 : decode cX11_promise 81 = .ok (.aload_n 0, 1) := by decide +kernel
theorem dX11_promise_82 : decode cX11_promise 82 = .ok (.getfield 75, 3) := by decide +kernel
theorem dX11_promise_85 : decode cX11_promise 85 = .ok (.iconst 4, 1) := by decide +kernel
theorem dX11_promise_86 : decode cX11_promise 86 = .ok (.iload_n 3, 1) := by decide +kernel
theorem dX11_promise_87 : decode cX11_promise 87 = .ok (.imul, 1) := by decide +kernel
theorem dX11_promise_88 : decode cX11_promise 88 = .ok (.iload 5, 2) := by decide +kernel
theorem dX11_promise_90 : decode cX11_promise 90 = .ok (.iadd, 1) := by decide +kernel
theorem dX11_promise_91 : decode cX11_promise 91 = .ok (.iaload, 1) := by decide +kernel
theorem dX11_promise_92 : decode cX11_promise 92 = .ok (.if_icmp .le 41, 3) := by decide +kernel
theorem dX11_promise_95 : decode cX11_promise 95 = .ok (.aload_n 0, 1) := by decide +kernel
theorem dX11_promise_96 : decode cX11_promise 96 = .ok (.getfield 75, 3) := by decide +kernel
theorem dX11_promise_99 : decode cX11_promise 99 = .ok (.iconst 4, 1) := by decide +kernel
theorem dX11_promise_100 : decode cX11_promise 100 = .ok (.iload_n 3, 1) := by decide +kernel
theorem dX11_promise_101 : decode cX11_promise 101 = .ok (.imul, 1) := by decide +kernel
theorem dX11_promise_102 : decode cX11_promise 102 = .ok (.iload 5, 2) := by decide +kernel
theorem dX11_promise_104 : decode cX11_promise 104 = .ok (.iadd, 1) := by decide +kernel
theorem dX11_promise_105 : decode cX11_promise 105 = .ok (.aload_n 0, 1) := by decide +kernel
theorem dX11_promise_106 : decode cX11_promise 106 = .ok (.getfield 90, 3) := by decide +kernel
theorem dX11_promise_109 : decode cX11_promise 109 = .ok (.iload 5, 2) := by decide +kernel
theorem dX11_promise_111 : decode cX11_promise 111 = .ok (.iaload, 1) := by decide +kernel
theorem dX11_promise_112 : decode cX11_promise 112 = .ok (.iastore, 1) := by decide +kernel
theorem dX11_promise_113 : decode cX11_promise 113 = .ok (.aload_n 0, 1) := by decide +kernel
theorem dX11_promise_114 : decode cX11_promise 114 = .ok (.getfield 78, 3) := by decide +kernel
theorem dX11_promise_117 : decode cX11_promise 117 = .ok (.iconst 4, 1) := by decide +kernel
theorem dX11_promise_118 : decode cX11_promise 118 = .ok (.iload_n 3, 1) := by decide +kernel
theorem dX11_promise_119 : decode cX11_promise 119 = .ok (.imul, 1) := by decide +kernel
theorem dX11_promise_120 : decode cX11_promise 120 = .ok (.iload 5, 2) := by decide +kernel
theorem dX11_promise_122 : decode cX11_promise 122 = .ok (.iadd, 1) := by decide +kernel
theorem dX11_promise_123 : decode cX11_promise 123 = .ok (.aload_n 0, 1) := by decide +kernel
theorem dX11_promise_124 : decode cX11_promise 124 = .ok (.getfield 90, 3) := by decide +kernel
theorem dX11_promise_127 : decode cX11_promise 127 = .ok (.iconst 4, 1) := by decide +kernel
theorem dX11_promise_128 : decode cX11_promise 128 = .ok (.iload 5, 2) := by decide +kernel
theorem dX11_promise_130 : decode cX11_promise 130 = .ok (.iadd, 1) := by decide +kernel
theorem dX11_promise_131 : decode cX11_promise 131 = .ok (.iaload, 1) := by decide +kernel
theorem dX11_promise_132 : decode cX11_promise 132 = .ok (.iastore, 1) := by decide +kernel
theorem dX11_promise_133 : decode cX11_promise 133 = .ok (.iinc 5 1, 3) := by decide +kernel
theorem dX11_promise_136 : decode cX11_promise 136 = .ok (.goto (-68), 3) := by decide +kernel
theorem dX11_promise_139 : decode cX11_promise 139 = .ok (.aload_n 0, 1) := by decide +kernel
theorem dX11_promise_140 : decode cX11_promise 140 = .ok (.aload_n 0, 1) := by decide +kernel
theorem dX11_promise_141 : decode cX11_promise 141 = .ok (.getfield 60, 3) := by decide +kernel
theorem dX11_promise_144 : decode cX11_promise 144 = .ok (.iload_n 3, 1) := by decide +kernel
theorem dX11_promise_145 : decode cX11_promise 145 = .ok (.iaload, 1) := by decide +kernel
theorem dX11_promise_146 : decode cX11_promise 146 = .ok (.invokevirtual 202, 3) := by decide +kernel
theorem dX11_promise_149 : decode cX11_promise 149 = .ok (.ifCond .ne 4, 3) := by decide +kernel
theorem dX11_promise_152 : decode cX11_promise 152 = .ok (.return_, 1) := by decide +kernel
theorem dX11_promise_153 : decode cX11_promise 153 = .ok (.iconst 0, 1) := by decide +kernel
theorem dX11_promise_154 : decode cX11_promise 154 = .ok (.istore 5, 2) := by decide +kernel
theorem dX11_promise_156 : decode cX11_promise 156 = .ok (.iload 5, 2) := by decide +kernel
theorem dX11_promise_158 : decode cX11_promise 158 = .ok (.aload_n 0, 1) := by decide +kernel
theorem dX11_promise_159 : decode cX11_promise 159 = .ok (.getfield 97, 3) := by decide +kernel
theorem dX11_promise_162 : decode cX11_promise 162 = .ok (.if_icmp .ge 59, 3) := by decide +kernel
theorem dX11_promise_165 : decode cX11_promise 165 = .ok (.aload_n 0, 1) := by decide +kernel
theorem dX11_promise_166 : decode cX11_promise 166 = .ok (.iload_n 2, 1) := by decide +kernel
theorem dX11_promise_167 : decode cX11_promise 167 = .ok (.iload 5, 2) := by decide +kernel
theorem dX11_promise_169 : decode cX11_promise 169 = .ok (.invokevirtual 128, 3) := by decide +kernel
theorem dX11_promise_172 : decode cX11_promise 172 = .ok (.ifCond .eq 43, 3) := by decide +kernel
theorem dX11_promise_175 : decode cX11_promise 175 = .ok (.aload_n 0, 1) := by decide +kernel
theorem dX11_promise_176 : decode cX11_promise 176 = .ok (.iconst 2, 1) := by decide +kernel
theorem dX11_promise_177 : decode cX11_promise 177 = .ok (.iload_n 2, 1) := by decide +kernel
theorem dX11_promise_178 : decode cX11_promise 178 = .ok (.iload 4, 2) := by decide +kernel
theorem dX11_promise_180 : decode cX11_promise 180 = .ok (.iload 5, 2) := by decide +kernel
theorem dX11_promise_182 : decode cX11_promise 182 = .ok (.aload_n 0, 1) := by decide +kernel
theorem dX11_promise_183 : decode cX11_promise 183 = .ok (.getfield 75, 3) := by decide +kernel
theorem dX11_promise_186 : decode cX11_promise 186 = .ok (.iconst 4, 1) := by decide +kernel
theorem dX11_promise_187 : decode cX11_promise 187 = .ok (.iload_n 3, 1) := by decide +kernel
theorem dX11_promise_188 : decode cX11_promise 188 = .ok (.imul, 1) := by decide +kernel
theorem dX11_promise_189 : decode cX11_promise 189 = .ok (.iload 5, 2) := by decide +kernel
theorem dX11_promise_191 : decode cX11_promise 191 = .ok (.iadd, 1) := by decide +kernel
theorem dX11_promise_192 : decode cX11_promise 192 = .ok (.iaload, 1) := by decide +kernel
theorem dX11_promise_193 : decode cX11_promise 193 = .ok (.ifCond .ge 7, 3) := by decide +kernel
theorem dX11_promise_196 : decode cX11_promise 196 = .ok (.iconst 2, 1) := by decide +kernel
theorem dX11_promise_197 : decode cX11_promise 197 = .ok (.goto 14, 3) := by decide +kernel
theorem dX11_promise_200 : decode cX11_promise 200 = .ok (.aload_n 0, 1) := by decide +kernel
theorem dX11_promise_201 : decode cX11_promise 201 = .ok (.getfield 78, 3) := by decide +kernel
theorem dX11_promise_204 : decode cX11_promise 204 = .ok (.iconst 4, 1) := by decide +kernel
theorem dX11_promise_205 : decode cX11_promise 205 = .ok (.iload_n 3, 1) := by decide +kernel
theorem dX11_promise_206 : decode cX11_promise 206 = .ok (.imul, 1) := by decide +kernel
theorem dX11_promise_207 : decode cX11_promise 207 = .ok (.iload 5, 2) := by decide +kernel
theorem dX11_promise_209 : decode cX11_promise 209 = .ok (.iadd, 1) := by decide +kernel
theorem dX11_promise_210 : decode cX11_promise 210 = .ok (.iaload, 1) := by decide +kernel
theorem dX11_promise_211 : decode cX11_promise 211 = .ok (.iload_n 1, 1) := by decide +kernel
theorem dX11_promise_212 : decode cX11_promise 212 = .ok (.invokevirtual 198, 3) := by decide +kernel
theorem dX11_promise_215 : decode cX11_promise 215 = .ok (.iinc 5 1, 3) := by decide +kernel
theorem dX11_promise_218 : decode cX11_promise 218 = .ok (.goto (-62), 3) := by decide +kernel
theorem dX11_promise_221 : decode cX11_promise 221 = .ok (.return_, 1) := by decide +kernel
theorem dX11_end_0 : decode cX11_end 0 = .ok (.bipush 16, 2) := by decide +kernel
theorem dX11_end_2 : decode cX11_end 2 = .ok (.iload_n 1, 1) := by decide +kernel
theorem dX11_end_3 : decode cX11_end 3 = .ok (.imul, 1) := by decide +kernel
theorem dX11_end_4 : decode cX11_end 4 = .ok (.iload_n 2, 1) := by decide +kernel
theorem dX11_end_5 : decode cX11_end 5 = .ok (.iadd, 1) := by decide +kernel
theorem dX11_end_6 : decode cX11_end 6 = .ok (.istore_n 3, 1) := by decide +kernel
theorem dX11_end_7 : decode cX11_end 7 = .ok (.aload_n 0, 1) := by decide +kernel
theorem dX11_end_8 : decode cX11_end 8 = .ok (.getfield 48, 3) := by decide +kernel
theorem dX11_end_11 : decode cX11_end 11 = .ok (.iload_n 3, 1) := by decide +kernel
theorem dX11_end_12 : decode cX11_end 12 = .ok (.iaload, 1) := by decide +kernel
theorem dX11_end_13 : decode cX11_end 13 = .ok (.ifCond .eq 5, 3) := by decide +kernel
theorem dX11_end_16 : decode cX11_end 16 = .ok (.iconst 1, 1) := by decide +kernel
theorem dX11_end_17 : decode cX11_end 17 = .ok (.ireturn, 1) := by decide +kernel
theorem dX11_end_18 : decode cX11_end 18 = .ok (.aload_n 0, 1) := by decide +kernel
theorem dX11_end_19 : decode cX11_end 19 = .ok (.iload_n 1, 1) := by decide +kernel
theorem dX11_end_20 : decode cX11_end 20 = .ok (.iconst 2, 1) := by decide +kernel
theorem dX11_end_21 : decode cX11_end 21 = .ok (.iload_n 2, 1) := by decide +kernel
theorem dX11_end_22 : decode cX11_end 22 = .ok (.aload_n 0, 1) := by decide +kernel
theorem dX11_end_23 : decode cX11_end 23 = .ok (.getfield 87, 3) := by decide +kernel
theorem dX11_end_26 : decode cX11_end 26 = .ok (.iconst 5, 1) := by decide +kernel
theorem dX11_end_27 : decode cX11_end 27 = .ok (.iaload, 1) := by decide +kernel
theorem dX11_end_28 : decode cX11_end 28 = .ok (.iconst 0, 1) := by decide +kernel
theorem dX11_end_29 : decode cX11_end 29 = .ok (.invokevirtual 194, 3) := by decide +kernel
theorem dX11_end_32 : decode cX11_end 32 = .ok (.ifCond .ne 5, 3) := by decide +kernel
theorem dX11_end_35 : decode cX11_end 35 = .ok (.iconst 0, 1) := by decide +kernel
theorem dX11_end_36 : decode cX11_end 36 = .ok (.ireturn, 1) := by decide +kernel
theorem dX11_end_37 : decode cX11_end 37 = .ok (.aload_n 0, 1) := by decide +kernel
theorem dX11_end_38 : decode cX11_end 38 = .ok (.getfield 48, 3) := by decide +kernel
theorem dX11_end_41 : decode cX11_end 41 = .ok (.iload_n 3, 1) := by decide +kernel
theorem dX11_end_42 : decode cX11_end 42 = .ok (.aload_n 0, 1) := by decide +kernel
theorem dX11_end_43 : decode cX11_end 43 = .ok (.getfield 87, 3) := by decide +kernel
theorem dX11_end_46 : decode cX11_end 46 = .ok (.iconst 5, 1) := by decide +kernel
theorem dX11_end_47 : decode cX11_end 47 = .ok (.iaload, 1) := by decide +kernel
theorem dX11_end_48 : decode cX11_end 48 = .ok (.iastore, 1) := by decide +kernel
theorem dX11_end_49 : decode cX11_end 49 = .ok (.iload_n 1, 1) := by decide +kernel
theorem dX11_end_50 : decode cX11_end 50 = .ok (.istore 4, 2) := by decide +kernel
theorem dX11_end_52 : decode cX11_end 52 = .ok (.iload 4, 2) := by decide +kernel
theorem dX11_end_54 : decode cX11_end 54 = .ok (.aload_n 0, 1) := by decide +kernel
theorem dX11_end_55 : decode cX11_end 55 = .ok (.getfield 107, 3) := by decide +kernel
theorem dX11_end_58 : decode cX11_end 58 = .ok (.if_icmp .ge 78, 3) := by decide +kernel
theorem dX11_end_61 : decode cX11_end 61 = .ok (.aload_n 0, 1) := by decide +kernel
theorem dX11_end_62 : decode cX11_end 62 = .ok (.getfield 87, 3) := by decide +kernel
theorem dX11_end_65 : decode cX11_end 65 = .ok (.iconst 5, 1) := by decide +kernel
theorem dX11_end_66 : decode cX11_end 66 = .ok (.iaload, 1) := by decide +kernel
theorem dX11_end_67 : decode cX11_end 67 = .ok (.iconst 3, 1) := by decide +kernel
theorem dX11_end_68 : decode cX11_end 68 = .ok (.if_icmp .ne 68, 3) := by decide +kernel
theorem dX11_end_71 : decode cX11_end 71 = .ok (.aload_n 0, 1) := by decide +kernel
theorem dX11_end_72 : decode cX11_end 72 = .ok (.getfield 42, 3) := by decide +kernel
theorem dX11_end_75 : decode cX11_end 75 = .ok (.iload_n 3, 1) := by decide +kernel
theorem dX11_end_76 : decode cX11_end 76 = .ok (.baload, 1) := by decide +kernel
theorem dX11_end_77 : decode cX11_end 77 = .ok (.ifCond .eq 59, 3) := by decide +kernel
theorem dX11_end_80 : decode cX11_end 80 = .ok (.aload_n 0, 1) := by decide +kernel
theorem dX11_end_81 : decode cX11_end 81 = .ok (.getfield 20, 3) := by decide +kernel
theorem dX11_end_84 : decode cX11_end 84 = .ok (.iload 4, 2) := by decide +kernel
theorem dX11_end_86 : decode cX11_end 86 = .ok (.aload_n 0, 1) := by decide +kernel
theorem dX11_end_87 : decode cX11_end 87 = .ok (.getfield 36, 3) := by decide +kernel
theorem dX11_end_90 : decode cX11_end 90 = .ok (.bipush 32, 2) := by decide +kernel
theorem dX11_end_92 : decode cX11_end 92 = .ok (.iload_n 2, 1) := by decide +kernel
theorem dX11_end_93 : decode cX11_end 93 = .ok (.imul, 1) := by decide +kernel
theorem dX11_end_94 : decode cX11_end 94 = .ok (.iload 4, 2) := by decide +kernel
theorem dX11_end_96 : decode cX11_end 96 = .ok (.iadd, 1) := by decide +kernel
theorem dX11_end_97 : decode cX11_end 97 = .ok (.baload, 1) := by decide +kernel
theorem dX11_end_98 : decode cX11_end 98 = .ok (.ifCond .eq 18, 3) := by decide +kernel
theorem dX11_end_101 : decode cX11_end 101 = .ok (.aload_n 0, 1) := by decide +kernel
theorem dX11_end_102 : decode cX11_end 102 = .ok (.getfield 39, 3) := by decide +kernel
theorem dX11_end_105 : decode cX11_end 105 = .ok (.bipush 32, 2) := by decide +kernel
theorem dX11_end_107 : decode cX11_end 107 = .ok (.iload_n 2, 1) := by decide +kernel
theorem dX11_end_108 : decode cX11_end 108 = .ok (.imul, 1) := by decide +kernel
theorem dX11_end_109 : decode cX11_end 109 = .ok (.iload 4, 2) := by decide +kernel
theorem dX11_end_111 : decode cX11_end 111 = .ok (.iadd, 1) := by decide +kernel
theorem dX11_end_112 : decode cX11_end 112 = .ok (.laload, 1) := by decide +kernel
theorem dX11_end_113 : decode cX11_end 113 = .ok (.goto 10, 3) := by decide +kernel
theorem dX11_end_116 : decode cX11_end 116 = .ok (.aload_n 0, 1) := by decide +kernel
theorem dX11_end_117 : decode cX11_end 117 = .ok (.getfield 20, 3) := by decide +kernel
theorem dX11_end_120 : decode cX11_end 120 = .ok (.iload 4, 2) := by decide +kernel
theorem dX11_end_122 : decode cX11_end 122 = .ok (.laload, 1) := by decide +kernel
theorem dX11_end_123 : decode cX11_end 123 = .ok (.lastore, 1) := by decide +kernel
theorem dX11_end_124 : decode cX11_end 124 = .ok (.iload 4, 2) := by decide +kernel
theorem dX11_end_126 : decode cX11_end 126 = .ok (.aload_n 0, 1) := by decide +kernel
theorem dX11_end_127 : decode cX11_end 127 = .ok (.getfield 97, 3) := by decide +kernel
theorem dX11_end_130 : decode cX11_end 130 = .ok (.iadd, 1) := by decide +kernel
theorem dX11_end_131 : decode cX11_end 131 = .ok (.istore 4, 2) := by decide +kernel
theorem dX11_end_133 : decode cX11_end 133 = .ok (.goto (-81), 3) := by decide +kernel
theorem dX11_end_136 : decode cX11_end 136 = .ok (.aload_n 0, 1) := by decide +kernel
theorem dX11_end_137 : decode cX11_end 137 = .ok (.iload_n 1, 1) := by decide +kernel
theorem dX11_end_138 : decode cX11_end 138 = .ok (.iload_n 2, 1) := by decide +kernel
theorem dX11_end_139 : decode cX11_end 139 = .ok (.invokevirtual 150, 3) := by decide +kernel
theorem dX11_end_142 : decode cX11_end 142 = .ok (.iconst 1, 1) := by decide +kernel
theorem dX11_end_143 : decode cX11_end 143 = .ok (.ireturn, 1) := by decide +kernel
theorem dX11_drop_0 : decode cX11_drop 0 = .ok (.aload_n 0, 1) := by decide +kernel
theorem dX11_drop_1 : decode cX11_drop 1 = .ok (.iload_n 1, 1) := by decide +kernel
theorem dX11_drop_2 : decode cX11_drop 2 = .ok (.invokevirtual 163, 3) := by decide +kernel
theorem dX11_drop_5 : decode cX11_drop 5 = .ok (.ifCond .ne 5, 3) := by decide +kernel
theorem dX11_drop_8 : decode cX11_drop 8 = .ok (.iconst (-1), 1) := by decide +kernel
theorem dX11_drop_9 : decode cX11_drop 9 = .ok (.ireturn, 1) := by decide +kernel
theorem dX11_drop_10 : decode cX11_drop 10 = .ok (.aload_n 0, 1) := by decide +kernel
theorem dX11_drop_11 : decode cX11_drop 11 = .ok (.iload_n 1, 1) := by decide +kernel
theorem dX11_drop_12 : decode cX11_drop 12 = .ok (.invokevirtual 166, 3) := by decide +kernel
theorem dX11_drop_15 : decode cX11_drop 15 = .ok (.aload_n 0, 1) := by decide +kernel
theorem dX11_drop_16 : decode cX11_drop 16 = .ok (.getfield 87, 3) := by decide +kernel
theorem dX11_drop_19 : decode cX11_drop 19 = .ok (.iconst 0, 1) := by decide +kernel
theorem dX11_drop_20 : decode cX11_drop 20 = .ok (.iaload, 1) := by decide +kernel
theorem dX11_drop_21 : decode cX11_drop 21 = .ok (.ireturn, 1) := by decide +kernel
theorem dX11_twice_0 : decode cX11_twice 0 = .ok (.aload_n 0, 1) := by decide +kernel
theorem dX11_twice_1 : decode cX11_twice 1 = .ok (.iload_n 1, 1) := by decide +kernel
theorem dX11_twice_2 : decode cX11_twice 2 = .ok (.invokevirtual 163, 3) := by decide +kernel
theorem dX11_twice_5 : decode cX11_twice 5 = .ok (.ifCond .ne 5, 3) := by decide +kernel
theorem dX11_twice_8 : decode cX11_twice 8 = .ok (.iconst (-1), 1) := by decide +kernel
theorem dX11_twice_9 : decode cX11_twice 9 = .ok (.ireturn, 1) := by decide +kernel
theorem dX11_twice_10 : decode cX11_twice 10 = .ok (.bipush 7, 2) := by decide +kernel
theorem dX11_twice_12 : decode cX11_twice 12 = .ok (.iload_n 1, 1) := by decide +kernel
theorem dX11_twice_13 : decode cX11_twice 13 = .ok (.imul, 1) := by decide +kernel
theorem dX11_twice_14 : decode cX11_twice 14 = .ok (.istore_n 2, 1) := by decide +kernel
theorem dX11_twice_15 : decode cX11_twice 15 = .ok (.aload_n 0, 1) := by decide +kernel
theorem dX11_twice_16 : decode cX11_twice 16 = .ok (.aload_n 0, 1) := by decide +kernel
theorem dX11_twice_17 : decode cX11_twice 17 = .ok (.getfield 81, 3) := by decide +kernel
theorem dX11_twice_20 : decode cX11_twice 20 = .ok (.iload_n 2, 1) := by decide +kernel
theorem dX11_twice_21 : decode cX11_twice 21 = .ok (.iaload, 1) := by decide +kernel
theorem dX11_twice_22 : decode cX11_twice 22 = .ok (.aload_n 0, 1) := by decide +kernel
theorem dX11_twice_23 : decode cX11_twice 23 = .ok (.getfield 81, 3) := by decide +kernel
theorem dX11_twice_26 : decode cX11_twice 26 = .ok (.iload_n 2, 1) := by decide +kernel
theorem dX11_twice_27 : decode cX11_twice 27 = .ok (.iconst 1, 1) := by decide +kernel
theorem dX11_twice_28 : decode cX11_twice 28 = .ok (.iadd, 1) := by decide +kernel
theorem dX11_twice_29 : decode cX11_twice 29 = .ok (.iaload, 1) := by decide +kernel
theorem dX11_twice_30 : decode cX11_twice 30 = .ok (.aload_n 0, 1) := by decide +kernel
theorem dX11_twice_31 : decode cX11_twice 31 = .ok (.getfield 81, 3) := by decide +kernel
theorem dX11_twice_34 : decode cX11_twice 34 = .ok (.iload_n 2, 1) := by decide +kernel
theorem dX11_twice_35 : decode cX11_twice 35 = .ok (.iconst 2, 1) := by decide +kernel
theorem dX11_twice_36 : decode cX11_twice 36 = .ok (.iadd, 1) := by decide +kernel
theorem dX11_twice_37 : decode cX11_twice 37 = .ok (.iaload, 1) := by decide +kernel
theorem dX11_twice_38 : decode cX11_twice 38 = .ok (.aload_n 0, 1) := by decide +kernel
theorem dX11_twice_39 : decode cX11_twice 39 = .ok (.getfield 81, 3) := by decide +kernel
theorem dX11_twice_42 : decode cX11_twice 42 = .ok (.iload_n 2, 1) := by decide +kernel
theorem dX11_twice_43 : decode cX11_twice 43 = .ok (.iconst 3, 1) := by decide +kernel
theorem dX11_twice_44 : decode cX11_twice 44 = .ok (.iadd, 1) := by decide +kernel
theorem dX11_twice_45 : decode cX11_twice 45 = .ok (.iaload, 1) := by decide +kernel
theorem dX11_twice_46 : decode cX11_twice 46 = .ok (.aload_n 0, 1) := by decide +kernel
theorem dX11_twice_47 : decode cX11_twice 47 = .ok (.getfield 81, 3) := by decide +kernel
theorem dX11_twice_50 : decode cX11_twice 50 = .ok (.iload_n 2, 1) := by decide +kernel
theorem dX11_twice_51 : decode cX11_twice 51 = .ok (.iconst 4, 1) := by decide +kernel
theorem dX11_twice_52 : decode cX11_twice 52 = .ok (.iadd, 1) := by decide +kernel
theorem dX11_twice_53 : decode cX11_twice 53 = .ok (.iaload, 1) := by decide +kernel
theorem dX11_twice_54 : decode cX11_twice 54 = .ok (.aload_n 0, 1) := by decide +kernel
theorem dX11_twice_55 : decode cX11_twice 55 = .ok (.getfield 81, 3) := by decide +kernel
theorem dX11_twice_58 : decode cX11_twice 58 = .ok (.iload_n 2, 1) := by decide +kernel
theorem dX11_twice_59 : decode cX11_twice 59 = .ok (.iconst 5, 1) := by decide +kernel
theorem dX11_twice_60 : decode cX11_twice 60 = .ok (.iadd, 1) := by decide +kernel
theorem dX11_twice_61 : decode cX11_twice 61 = .ok (.iaload, 1) := by decide +kernel
theorem dX11_twice_62 : decode cX11_twice 62 = .ok (.aload_n 0, 1) := by decide +kernel
theorem dX11_twice_63 : decode cX11_twice 63 = .ok (.getfield 81, 3) := by decide +kernel
theorem dX11_twice_66 : decode cX11_twice 66 = .ok (.iload_n 2, 1) := by decide +kernel
theorem dX11_twice_67 : decode cX11_twice 67 = .ok (.bipush 6, 2) := by decide +kernel
theorem dX11_twice_69 : decode cX11_twice 69 = .ok (.iadd, 1) := by decide +kernel
theorem dX11_twice_70 : decode cX11_twice 70 = .ok (.iaload, 1) := by decide +kernel
theorem dX11_twice_71 : decode cX11_twice 71 = .ok (.invokevirtual 146, 3) := by decide +kernel
theorem dX11_twice_74 : decode cX11_twice 74 = .ok (.istore_n 3, 1) := by decide +kernel
theorem dX11_twice_75 : decode cX11_twice 75 = .ok (.iconst 0, 1) := by decide +kernel
theorem dX11_twice_76 : decode cX11_twice 76 = .ok (.istore 4, 2) := by decide +kernel
theorem dX11_twice_78 : decode cX11_twice 78 = .ok (.iload 4, 2) := by decide +kernel
theorem dX11_twice_80 : decode cX11_twice 80 = .ok (.bipush 8, 2) := by decide +kernel
theorem dX11_twice_82 : decode cX11_twice 82 = .ok (.if_icmp .ge 37, 3) := by decide +kernel
theorem dX11_twice_85 : decode cX11_twice 85 = .ok (.iload_n 3, 1) := by decide +kernel
theorem dX11_twice_86 : decode cX11_twice 86 = .ok (.ifCond .lt 33, 3) := by decide +kernel
theorem dX11_twice_89 : decode cX11_twice 89 = .ok (.aload_n 0, 1) := by decide +kernel
theorem dX11_twice_90 : decode cX11_twice 90 = .ok (.getfield 84, 3) := by decide +kernel
theorem dX11_twice_93 : decode cX11_twice 93 = .ok (.bipush 8, 2) := by decide +kernel
theorem dX11_twice_95 : decode cX11_twice 95 = .ok (.iload_n 3, 1) := by decide +kernel
theorem dX11_twice_96 : decode cX11_twice 96 = .ok (.imul, 1) := by decide +kernel
theorem dX11_twice_97 : decode cX11_twice 97 = .ok (.iload 4, 2) := by decide +kernel
theorem dX11_twice_99 : decode cX11_twice 99 = .ok (.iadd, 1) := by decide +kernel
theorem dX11_twice_100 : decode cX11_twice 100 = .ok (.aload_n 0, 1) := by decide +kernel
theorem dX11_twice_101 : decode cX11_twice 101 = .ok (.getfield 84, 3) := by decide +kernel
theorem dX11_twice_104 : decode cX11_twice 104 = .ok (.bipush 8, 2) := by decide +kernel
theorem dX11_twice_106 : decode cX11_twice 106 = .ok (.iload_n 1, 1) := by decide +kernel
theorem dX11_twice_107 : decode cX11_twice 107 = .ok (.imul, 1) := by decide +kernel
theorem dX11_twice_108 : decode cX11_twice 108 = .ok (.iload 4, 2) := by decide +kernel
theorem dX11_twice_110 : decode cX11_twice 110 = .ok (.iadd, 1) := by decide +kernel
theorem dX11_twice_111 : decode cX11_twice 111 = .ok (.iaload, 1) := by decide +kernel
theorem dX11_twice_112 : decode cX11_twice 112 = .ok (.iastore, 1) := by decide +kernel
theorem dX11_twice_113 : decode cX11_twice 113 = .ok (.iinc 4 1, 3) := by decide +kernel
theorem dX11_twice_116 : decode cX11_twice 116 = .ok (.goto (-38), 3) := by decide +kernel
theorem dX11_twice_119 : decode cX11_twice 119 = .ok (.iload_n 3, 1) := by decide +kernel
theorem dX11_twice_120 : decode cX11_twice 120 = .ok (.ifCond .ge 7, 3) := by decide +kernel
theorem dX11_twice_123 : decode cX11_twice 123 = .ok (.iconst 0, 1) := by decide +kernel
theorem dX11_twice_124 : decode cX11_twice 124 = .ok (.goto 7, 3) := by decide +kernel
theorem dX11_twice_127 : decode cX11_twice 127 = .ok (.aload_n 0, 1) := by decide +kernel
theorem dX11_twice_128 : decode cX11_twice 128 = .ok (.getfield 157, 3) := by decide +kernel
theorem dX11_twice_131 : decode cX11_twice 131 = .ok (.ireturn, 1) := by decide +kernel
theorem dX11_begins_0 : decode cX11_begins 0 = .ok (.aload_n 0, 1) := by decide +kernel
theorem dX11_begins_1 : decode cX11_begins 1 = .ok (.getfield 60, 3) := by decide +kernel
theorem dX11_begins_4 : decode cX11_begins 4 = .ok (.iload_n 1, 1) := by decide +kernel
theorem dX11_begins_5 : decode cX11_begins 5 = .ok (.iconst 0, 1) := by decide +kernel
theorem dX11_begins_6 : decode cX11_begins 6 = .ok (.iastore, 1) := by decide +kernel
theorem dX11_begins_7 : decode cX11_begins 7 = .ok (.iconst 4, 1) := by decide +kernel
theorem dX11_begins_8 : decode cX11_begins 8 = .ok (.iload_n 1, 1) := by decide +kernel
theorem dX11_begins_9 : decode cX11_begins 9 = .ok (.imul, 1) := by decide +kernel
theorem dX11_begins_10 : decode cX11_begins 10 = .ok (.istore_n 2, 1) := by decide +kernel
theorem dX11_begins_11 : decode cX11_begins 11 = .ok (.iload_n 2, 1) := by decide +kernel
theorem dX11_begins_12 : decode cX11_begins 12 = .ok (.iconst 4, 1) := by decide +kernel
theorem dX11_begins_13 : decode cX11_begins 13 = .ok (.iload_n 1, 1) := by decide +kernel
theorem dX11_begins_14 : decode cX11_begins 14 = .ok (.imul, 1) := by decide +kernel
theorem dX11_begins_15 : decode cX11_begins 15 = .ok (.iconst 4, 1) := by decide +kernel
theorem dX11_begins_16 : decode cX11_begins 16 = .ok (.iadd, 1) := by decide +kernel
theorem dX11_begins_17 : decode cX11_begins 17 = .ok (.if_icmp .ge 37, 3) := by decide +kernel
theorem dX11_begins_20 : decode cX11_begins 20 = .ok (.aload_n 0, 1) := by decide +kernel
theorem dX11_begins_21 : decode cX11_begins 21 = .ok (.getfield 69, 3) := by decide +kernel
theorem dX11_begins_24 : decode cX11_begins 24 = .ok (.iload_n 2, 1) := by decide +kernel
theorem dX11_begins_25 : decode cX11_begins 25 = .ok (.iconst 0, 1) := by decide +kernel
theorem dX11_begins_26 : decode cX11_begins 26 = .ok (.iastore, 1) := by decide +kernel
theorem dX11_begins_27 : decode cX11_begins 27 = .ok (.aload_n 0, 1) := by decide +kernel
theorem dX11_begins_28 : decode cX11_begins 28 = .ok (.getfield 72, 3) := by decide +kernel
theorem dX11_begins_31 : decode cX11_begins 31 = .ok (.iload_n 2, 1) := by decide +kernel
theorem dX11_begins_32 : decode cX11_begins 32 = .ok (.iconst 0, 1) := by decide +kernel
theorem dX11_begins_33 : decode cX11_begins 33 = .ok (.iastore, 1) := by decide +kernel
theorem dX11_begins_34 : decode cX11_begins 34 = .ok (.aload_n 0, 1) := by decide +kernel
theorem dX11_begins_35 : decode cX11_begins 35 = .ok (.getfield 75, 3) := by decide +kernel
theorem dX11_begins_38 : decode cX11_begins 38 = .ok (.iload_n 2, 1) := by decide +kernel
theorem dX11_begins_39 : decode cX11_begins 39 = .ok (.iconst (-1), 1) := by decide +kernel
theorem dX11_begins_40 : decode cX11_begins 40 = .ok (.iastore, 1) := by decide +kernel
theorem dX11_begins_41 : decode cX11_begins 41 = .ok (.aload_n 0, 1) := by decide +kernel
theorem dX11_begins_42 : decode cX11_begins 42 = .ok (.getfield 78, 3) := by decide +kernel
theorem dX11_begins_45 : decode cX11_begins 45 = .ok (.iload_n 2, 1) := by decide +kernel
theorem dX11_begins_46 : decode cX11_begins 46 = .ok (.iconst 0, 1) := by decide +kernel
theorem dX11_begins_47 : decode cX11_begins 47 = .ok (.iastore, 1) := by decide +kernel
theorem dX11_begins_48 : decode cX11_begins 48 = .ok (.iinc 2 1, 3) := by decide +kernel
theorem dX11_begins_51 : decode cX11_begins 51 = .ok (.goto (-40), 3) := by decide +kernel
theorem dX11_begins_54 : decode cX11_begins 54 = .ok (.return_, 1) := by decide +kernel
theorem dX11_forget_0 : decode cX11_forget 0 = .ok (.bipush 16, 2) := by decide +kernel
theorem dX11_forget_2 : decode cX11_forget 2 = .ok (.iload_n 1, 1) := by decide +kernel
theorem dX11_forget_3 : decode cX11_forget 3 = .ok (.imul, 1) := by decide +kernel
theorem dX11_forget_4 : decode cX11_forget 4 = .ok (.istore_n 2, 1) := by decide +kernel
theorem dX11_forget_5 : decode cX11_forget 5 = .ok (.iload_n 2, 1) := by decide +kernel
theorem dX11_forget_6 : decode cX11_forget 6 = .ok (.bipush 16, 2) := by decide +kernel
theorem dX11_forget_8 : decode cX11_forget 8 = .ok (.iload_n 1, 1) := by decide +kernel
theorem dX11_forget_9 : decode cX11_forget 9 = .ok (.imul, 1) := by decide +kernel
theorem dX11_forget_10 : decode cX11_forget 10 = .ok (.bipush 16, 2) := by decide +kernel
theorem dX11_forget_12 : decode cX11_forget 12 = .ok (.iadd, 1) := by decide +kernel
theorem dX11_forget_13 : decode cX11_forget 13 = .ok (.if_icmp .ge 36, 3) := by decide +kernel
theorem dX11_forget_16 : decode cX11_forget 16 = .ok (.aload_n 0, 1) := by decide +kernel
theorem dX11_forget_17 : decode cX11_forget 17 = .ok (.iload_n 2, 1) := by decide +kernel
theorem dX11_forget_18 : decode cX11_forget 18 = .ok (.invokevirtual 205, 3) := by decide +kernel
theorem dX11_forget_21 : decode cX11_forget 21 = .ok (.aload_n 0, 1) := by decide +kernel
theorem dX11_forget_22 : decode cX11_forget 22 = .ok (.getfield 57, 3) := by decide +kernel
theorem dX11_forget_25 : decode cX11_forget 25 = .ok (.iload_n 2, 1) := by decide +kernel
theorem dX11_forget_26 : decode cX11_forget 26 = .ok (.iconst 0, 1) := by decide +kernel
theorem dX11_forget_27 : decode cX11_forget 27 = .ok (.iastore, 1) := by decide +kernel
theorem dX11_forget_28 : decode cX11_forget 28 = .ok (.aload_n 0, 1) := by decide +kernel
theorem dX11_forget_29 : decode cX11_forget 29 = .ok (.getfield 54, 3) := by decide +kernel
theorem dX11_forget_32 : decode cX11_forget 32 = .ok (.iload_n 2, 1) := by decide +kernel
theorem dX11_forget_33 : decode cX11_forget 33 = .ok (.iload_n 1, 1) := by decide +kernel
theorem dX11_forget_34 : decode cX11_forget 34 = .ok (.ifCond .ne 7, 3) := by decide +kernel
theorem dX11_forget_37 : decode cX11_forget 37 = .ok (.iconst 0, 1) := by decide +kernel
theorem dX11_forget_38 : decode cX11_forget 38 = .ok (.goto 4, 3) := by decide +kernel
theorem dX11_forget_41 : decode cX11_forget 41 = .ok (.iconst (-1), 1) := by decide +kernel
theorem dX11_forget_42 : decode cX11_forget 42 = .ok (.iastore, 1) := by decide +kernel
theorem dX11_forget_43 : decode cX11_forget 43 = .ok (.iinc 2 1, 3) := by decide +kernel
theorem dX11_forget_46 : decode cX11_forget 46 = .ok (.goto (-41), 3) := by decide +kernel
theorem dX11_forget_49 : decode cX11_forget 49 = .ok (.return_, 1) := by decide +kernel
theorem dX11_timeout_0 : decode cX11_timeout 0 = .ok (.aload_n 0, 1) := by decide +kernel
theorem dX11_timeout_1 : decode cX11_timeout 1 = .ok (.iload_n 1, 1) := by decide +kernel
theorem dX11_timeout_2 : decode cX11_timeout 2 = .ok (.invokevirtual 208, 3) := by decide +kernel
theorem dX11_timeout_5 : decode cX11_timeout 5 = .ok (.ifCond .eq 11, 3) := by decide +kernel
theorem dX11_timeout_8 : decode cX11_timeout 8 = .ok (.aload_n 0, 1) := by decide +kernel
theorem dX11_timeout_9 : decode cX11_timeout 9 = .ok (.iload_n 2, 1) := by decide +kernel
theorem dX11_timeout_10 : decode cX11_timeout 10 = .ok (.invokevirtual 132, 3) := by decide +kernel
theorem dX11_timeout_13 : decode cX11_timeout 13 = .ok (.ifCond .ne 5, 3) := by decide +kernel
theorem dX11_timeout_16 : decode cX11_timeout 16 = .ok (.iconst (-1), 1) := by decide +kernel
theorem dX11_timeout_17 : decode cX11_timeout 17 = .ok (.ireturn, 1) := by decide +kernel
theorem dX11_timeout_18 : decode cX11_timeout 18 = .ok (.bipush 16, 2) := by decide +kernel
theorem dX11_timeout_20 : decode cX11_timeout 20 = .ok (.iload_n 1, 1) := by decide +kernel
theorem dX11_timeout_21 : decode cX11_timeout 21 = .ok (.aload_n 0, 1) := by decide +kernel
theorem dX11_timeout_22 : decode cX11_timeout 22 = .ok (.getfield 97, 3) := by decide +kernel
theorem dX11_timeout_25 : decode cX11_timeout 25 = .ok (.isub, 1) := by decide +kernel
theorem dX11_timeout_26 : decode cX11_timeout 26 = .ok (.imul, 1) := by decide +kernel
theorem dX11_timeout_27 : decode cX11_timeout 27 = .ok (.iload_n 2, 1) := by decide +kernel
theorem dX11_timeout_28 : decode cX11_timeout 28 = .ok (.iadd, 1) := by decide +kernel
theorem dX11_timeout_29 : decode cX11_timeout 29 = .ok (.istore_n 3, 1) := by decide +kernel
theorem dX11_timeout_30 : decode cX11_timeout 30 = .ok (.aload_n 0, 1) := by decide +kernel
theorem dX11_timeout_31 : decode cX11_timeout 31 = .ok (.getfield 7, 3) := by decide +kernel
theorem dX11_timeout_34 : decode cX11_timeout 34 = .ok (.iload_n 1, 1) := by decide +kernel
theorem dX11_timeout_35 : decode cX11_timeout 35 = .ok (.baload, 1) := by decide +kernel
theorem dX11_timeout_36 : decode cX11_timeout 36 = .ok (.ifCond .eq 40, 3) := by decide +kernel
theorem dX11_timeout_39 : decode cX11_timeout 39 = .ok (.aload_n 0, 1) := by decide +kernel
theorem dX11_timeout_40 : decode cX11_timeout 40 = .ok (.getfield 57, 3) := by decide +kernel
theorem dX11_timeout_43 : decode cX11_timeout 43 = .ok (.iload_n 3, 1) := by decide +kernel
theorem dX11_timeout_44 : decode cX11_timeout 44 = .ok (.iaload, 1) := by decide +kernel
theorem dX11_timeout_45 : decode cX11_timeout 45 = .ok (.ifCond .ne 31, 3) := by decide +kernel
theorem dX11_timeout_48 : decode cX11_timeout 48 = .ok (.aload_n 0, 1) := by decide +kernel
theorem dX11_timeout_49 : decode cX11_timeout 49 = .ok (.getfield 30, 3) := by decide +kernel
theorem dX11_timeout_52 : decode cX11_timeout 52 = .ok (.iload_n 2, 1) := by decide +kernel
theorem dX11_timeout_53 : decode cX11_timeout 53 = .ok (.iaload, 1) := by decide +kernel
theorem dX11_timeout_54 : decode cX11_timeout 54 = .ok (.ifCond .eq 22, 3) := by decide +kernel
theorem dX11_timeout_57 : decode cX11_timeout 57 = .ok (.aload_n 0, 1) := by decide +kernel
theorem dX11_timeout_58 : decode cX11_timeout 58 = .ok (.getfield 30, 3) := by decide +kernel
theorem dX11_timeout_61 : decode cX11_timeout 61 = .ok (.iload_n 2, 1) := by decide +kernel
theorem dX11_timeout_62 : decode cX11_timeout 62 = .ok (.iaload, 1) := by decide +kernel
theorem dX11_timeout_63 : decode cX11_timeout 63 = .ok (.iconst 1, 1) := by decide +kernel
theorem dX11_timeout_64 : decode cX11_timeout 64 = .ok (.if_icmp .eq 12, 3) := by decide +kernel
theorem dX11_timeout_67 : decode cX11_timeout 67 = .ok (.aload_n 0, 1) := by decide +kernel
theorem dX11_timeout_68 : decode cX11_timeout 68 = .ok (.getfield 33, 3) := by decide +kernel
theorem dX11_timeout_71 : decode cX11_timeout 71 = .ok (.iload_n 2, 1) := by decide +kernel
theorem dX11_timeout_72 : decode cX11_timeout 72 = .ok (.iaload, 1) := by decide +kernel
theorem dX11_timeout_73 : decode cX11_timeout 73 = .ok (.ifCond .ne 5, 3) := by decide +kernel
theorem dX11_timeout_76 : decode cX11_timeout 76 = .ok (.iconst 0, 1) := by decide +kernel
theorem dX11_timeout_77 : decode cX11_timeout 77 = .ok (.ireturn, 1) := by decide +kernel
theorem dX11_timeout_78 : decode cX11_timeout 78 = .ok (.aload_n 0, 1) := by decide +kernel
theorem dX11_timeout_79 : decode cX11_timeout 79 = .ok (.getfield 54, 3) := by decide +kernel
theorem dX11_timeout_82 : decode cX11_timeout 82 = .ok (.iload_n 3, 1) := by decide +kernel
theorem dX11_timeout_83 : decode cX11_timeout 83 = .ok (.iaload, 1) := by decide +kernel
theorem dX11_timeout_84 : decode cX11_timeout 84 = .ok (.aload_n 0, 1) := by decide +kernel
theorem dX11_timeout_85 : decode cX11_timeout 85 = .ok (.getfield 51, 3) := by decide +kernel
theorem dX11_timeout_88 : decode cX11_timeout 88 = .ok (.iload_n 3, 1) := by decide +kernel
theorem dX11_timeout_89 : decode cX11_timeout 89 = .ok (.iaload, 1) := by decide +kernel
theorem dX11_timeout_90 : decode cX11_timeout 90 = .ok (.if_icmp .le 12, 3) := by decide +kernel
theorem dX11_timeout_93 : decode cX11_timeout 93 = .ok (.aload_n 0, 1) := by decide +kernel
theorem dX11_timeout_94 : decode cX11_timeout 94 = .ok (.getfield 54, 3) := by decide +kernel
theorem dX11_timeout_97 : decode cX11_timeout 97 = .ok (.iload_n 3, 1) := by decide +kernel
theorem dX11_timeout_98 : decode cX11_timeout 98 = .ok (.iaload, 1) := by decide +kernel
theorem dX11_timeout_99 : decode cX11_timeout 99 = .ok (.goto 9, 3) := by decide +kernel
theorem dX11_timeout_102 : decode cX11_timeout 102 = .ok (.aload_n 0, 1) := by decide +kernel
theorem dX11_timeout_103 : decode cX11_timeout 103 = .ok (.getfield 51, 3) := by decide +kernel
theorem dX11_timeout_106 : decode cX11_timeout 106 = .ok (.iload_n 3, 1) := by decide +kernel
theorem dX11_timeout_107 : decode cX11_timeout 107 = .ok (.iaload, 1) := by decide +kernel
theorem dX11_timeout_108 : decode cX11_timeout 108 = .ok (.istore 4, 2) := by decide +kernel
theorem dX11_timeout_110 : decode cX11_timeout 110 = .ok (.iload_n 1, 1) := by decide +kernel
theorem dX11_timeout_111 : decode cX11_timeout 111 = .ok (.aload_n 0, 1) := by decide +kernel
theorem dX11_timeout_112 : decode cX11_timeout 112 = .ok (.getfield 97, 3) := by decide +kernel
theorem dX11_timeout_115 : decode cX11_timeout 115 = .ok (.isub, 1) := by decide +kernel
theorem dX11_timeout_116 : decode cX11_timeout 116 = .ok (.istore 5, 2) := by decide +kernel
theorem dX11_timeout_118 : decode cX11_timeout 118 = .ok (.iload 5, 2) := by decide +kernel
theorem dX11_timeout_120 : decode cX11_timeout 120 = .ok (.iload 4, 2) := by decide +kernel
theorem dX11_timeout_122 : decode cX11_timeout 122 = .ok (.if_icmp .le 8, 3) := by decide +kernel
theorem dX11_timeout_125 : decode cX11_timeout 125 = .ok (.iload 5, 2) := by decide +kernel
theorem dX11_timeout_127 : decode cX11_timeout 127 = .ok (.ifCond .gt 15, 3) := by decide +kernel
theorem dX11_timeout_130 : decode cX11_timeout 130 = .ok (.iload 5, 2) := by decide +kernel
theorem dX11_timeout_132 : decode cX11_timeout 132 = .ok (.aload_n 0, 1) := by decide +kernel
theorem dX11_timeout_133 : decode cX11_timeout 133 = .ok (.getfield 101, 3) := by decide +kernel
theorem dX11_timeout_136 : decode cX11_timeout 136 = .ok (.iadd, 1) := by decide +kernel
theorem dX11_timeout_137 : decode cX11_timeout 137 = .ok (.istore 5, 2) := by decide +kernel
theorem dX11_timeout_139 : decode cX11_timeout 139 = .ok (.goto (-21), 3) := by decide +kernel
theorem dX11_timeout_142 : decode cX11_timeout 142 = .ok (.aload_n 0, 1) := by decide +kernel
theorem dX11_timeout_143 : decode cX11_timeout 143 = .ok (.iload_n 1, 1) := by decide +kernel
theorem dX11_timeout_144 : decode cX11_timeout 144 = .ok (.iconst 3, 1) := by decide +kernel
theorem dX11_timeout_145 : decode cX11_timeout 145 = .ok (.iload_n 2, 1) := by decide +kernel
theorem dX11_timeout_146 : decode cX11_timeout 146 = .ok (.iload 5, 2) := by decide +kernel
theorem dX11_timeout_148 : decode cX11_timeout 148 = .ok (.iconst 0, 1) := by decide +kernel
theorem dX11_timeout_149 : decode cX11_timeout 149 = .ok (.invokevirtual 194, 3) := by decide +kernel
theorem dX11_timeout_152 : decode cX11_timeout 152 = .ok (.ifCond .ne 5, 3) := by decide +kernel
theorem dX11_timeout_155 : decode cX11_timeout 155 = .ok (.iconst 0, 1) := by decide +kernel
theorem dX11_timeout_156 : decode cX11_timeout 156 = .ok (.ireturn, 1) := by decide +kernel
theorem dX11_timeout_157 : decode cX11_timeout 157 = .ok (.aload_n 0, 1) := by decide +kernel
theorem dX11_timeout_158 : decode cX11_timeout 158 = .ok (.getfield 51, 3) := by decide +kernel
theorem dX11_timeout_161 : decode cX11_timeout 161 = .ok (.iload_n 3, 1) := by decide +kernel
theorem dX11_timeout_162 : decode cX11_timeout 162 = .ok (.iload 5, 2) := by decide +kernel
theorem dX11_timeout_164 : decode cX11_timeout 164 = .ok (.iastore, 1) := by decide +kernel
theorem dX11_timeout_165 : decode cX11_timeout 165 = .ok (.aload_n 0, 1) := by decide +kernel
theorem dX11_timeout_166 : decode cX11_timeout 166 = .ok (.getfield 54, 3) := by decide +kernel
theorem dX11_timeout_169 : decode cX11_timeout 169 = .ok (.iload_n 3, 1) := by decide +kernel
theorem dX11_timeout_170 : decode cX11_timeout 170 = .ok (.iload 5, 2) := by decide +kernel
theorem dX11_timeout_172 : decode cX11_timeout 172 = .ok (.iastore, 1) := by decide +kernel
theorem dX11_timeout_173 : decode cX11_timeout 173 = .ok (.aload_n 0, 1) := by decide +kernel
theorem dX11_timeout_174 : decode cX11_timeout 174 = .ok (.iload_n 3, 1) := by decide +kernel
theorem dX11_timeout_175 : decode cX11_timeout 175 = .ok (.invokevirtual 205, 3) := by decide +kernel
theorem dX11_timeout_178 : decode cX11_timeout 178 = .ok (.aload_n 0, 1) := by decide +kernel
theorem dX11_timeout_179 : decode cX11_timeout 179 = .ok (.iconst 4, 1) := by decide +kernel
theorem dX11_timeout_180 : decode cX11_timeout 180 = .ok (.iload_n 2, 1) := by decide +kernel
theorem dX11_timeout_181 : decode cX11_timeout 181 = .ok (.iload 5, 2) := by decide +kernel
theorem dX11_timeout_183 : decode cX11_timeout 183 = .ok (.iconst 0, 1) := by decide +kernel
theorem dX11_timeout_184 : decode cX11_timeout 184 = .ok (.iconst 0, 1) := by decide +kernel
theorem dX11_timeout_185 : decode cX11_timeout 185 = .ok (.iload_n 1, 1) := by decide +kernel
theorem dX11_timeout_186 : decode cX11_timeout 186 = .ok (.invokevirtual 198, 3) := by decide +kernel
theorem dX11_timeout_189 : decode cX11_timeout 189 = .ok (.iload 5, 2) := by decide +kernel
theorem dX11_timeout_191 : decode cX11_timeout 191 = .ok (.ireturn, 1) := by decide +kernel
theorem dX11_crash_0 : decode cX11_crash 0 = .ok (.aload_n 0, 1) := by decide +kernel
theorem dX11_crash_1 : decode cX11_crash 1 = .ok (.iload_n 1, 1) := by decide +kernel
theorem dX11_crash_2 : decode cX11_crash 2 = .ok (.invokevirtual 211, 3) := by decide +kernel
theorem dX11_crash_5 : decode cX11_crash 5 = .ok (.ifCond .ne 5, 3) := by decide +kernel
theorem dX11_crash_8 : decode cX11_crash 8 = .ok (.iconst (-1), 1) := by decide +kernel
theorem dX11_crash_9 : decode cX11_crash 9 = .ok (.ireturn, 1) := by decide +kernel
theorem dX11_crash_10 : decode cX11_crash 10 = .ok (.aload_n 0, 1) := by decide +kernel
theorem dX11_crash_11 : decode cX11_crash 11 = .ok (.getfield 7, 3) := by decide +kernel
theorem dX11_crash_14 : decode cX11_crash 14 = .ok (.iload_n 1, 1) := by decide +kernel
theorem dX11_crash_15 : decode cX11_crash 15 = .ok (.baload, 1) := by decide +kernel
theorem dX11_crash_16 : decode cX11_crash 16 = .ok (.ifCond .ne 5, 3) := by decide +kernel
theorem dX11_crash_19 : decode cX11_crash 19 = .ok (.iconst 0, 1) := by decide +kernel
theorem dX11_crash_20 : decode cX11_crash 20 = .ok (.ireturn, 1) := by decide +kernel
theorem dX11_crash_21 : decode cX11_crash 21 = .ok (.aload_n 0, 1) := by decide +kernel
theorem dX11_crash_22 : decode cX11_crash 22 = .ok (.getfield 7, 3) := by decide +kernel
theorem dX11_crash_25 : decode cX11_crash 25 = .ok (.iload_n 1, 1) := by decide +kernel
theorem dX11_crash_26 : decode cX11_crash 26 = .ok (.iconst 0, 1) := by decide +kernel
theorem dX11_crash_27 : decode cX11_crash 27 = .ok (.bastore, 1) := by decide +kernel
theorem dX11_crash_28 : decode cX11_crash 28 = .ok (.iload_n 1, 1) := by decide +kernel
theorem dX11_crash_29 : decode cX11_crash 29 = .ok (.aload_n 0, 1) := by decide +kernel
theorem dX11_crash_30 : decode cX11_crash 30 = .ok (.getfield 97, 3) := by decide +kernel
theorem dX11_crash_33 : decode cX11_crash 33 = .ok (.if_icmp .lt 15, 3) := by decide +kernel
theorem dX11_crash_36 : decode cX11_crash 36 = .ok (.aload_n 0, 1) := by decide +kernel
theorem dX11_crash_37 : decode cX11_crash 37 = .ok (.iload_n 1, 1) := by decide +kernel
theorem dX11_crash_38 : decode cX11_crash 38 = .ok (.aload_n 0, 1) := by decide +kernel
theorem dX11_crash_39 : decode cX11_crash 39 = .ok (.getfield 97, 3) := by decide +kernel
theorem dX11_crash_42 : decode cX11_crash 42 = .ok (.isub, 1) := by decide +kernel
theorem dX11_crash_43 : decode cX11_crash 43 = .ok (.invokevirtual 116, 3) := by decide +kernel
theorem dX11_crash_46 : decode cX11_crash 46 = .ok (.iconst 1, 1) := by decide +kernel
theorem dX11_crash_47 : decode cX11_crash 47 = .ok (.ireturn, 1) := by decide +kernel
theorem dX11_crash_48 : decode cX11_crash 48 = .ok (.iconst 0, 1) := by decide +kernel
theorem dX11_crash_49 : decode cX11_crash 49 = .ok (.istore_n 2, 1) := by decide +kernel
theorem dX11_crash_50 : decode cX11_crash 50 = .ok (.iload_n 2, 1) := by decide +kernel
theorem dX11_crash_51 : decode cX11_crash 51 = .ok (.aload_n 0, 1) := by decide +kernel
theorem dX11_crash_52 : decode cX11_crash 52 = .ok (.getfield 104, 3) := by decide +kernel
theorem dX11_crash_55 : decode cX11_crash 55 = .ok (.if_icmp .ge 50, 3) := by decide +kernel
theorem dX11_crash_58 : decode cX11_crash 58 = .ok (.bipush 16, 2) := by decide +kernel
theorem dX11_crash_60 : decode cX11_crash 60 = .ok (.iload_n 1, 1) := by decide +kernel
theorem dX11_crash_61 : decode cX11_crash 61 = .ok (.imul, 1) := by decide +kernel
theorem dX11_crash_62 : decode cX11_crash 62 = .ok (.iload_n 2, 1) := by decide +kernel
theorem dX11_crash_63 : decode cX11_crash 63 = .ok (.iadd, 1) := by decide +kernel
theorem dX11_crash_64 : decode cX11_crash 64 = .ok (.istore_n 3, 1) := by decide +kernel
theorem dX11_crash_65 : decode cX11_crash 65 = .ok (.aload_n 0, 1) := by decide +kernel
theorem dX11_crash_66 : decode cX11_crash 66 = .ok (.getfield 42, 3) := by decide +kernel
theorem dX11_crash_69 : decode cX11_crash 69 = .ok (.iload_n 3, 1) := by decide +kernel
theorem dX11_crash_70 : decode cX11_crash 70 = .ok (.baload, 1) := by decide +kernel
theorem dX11_crash_71 : decode cX11_crash 71 = .ok (.ifCond .eq 28, 3) := by decide +kernel
theorem dX11_crash_74 : decode cX11_crash 74 = .ok (.aload_n 0, 1) := by decide +kernel
theorem dX11_crash_75 : decode cX11_crash 75 = .ok (.getfield 45, 3) := by decide +kernel
theorem dX11_crash_78 : decode cX11_crash 78 = .ok (.iload_n 3, 1) := by decide +kernel
theorem dX11_crash_79 : decode cX11_crash 79 = .ok (.iaload, 1) := by decide +kernel
theorem dX11_crash_80 : decode cX11_crash 80 = .ok (.iconst 1, 1) := by decide +kernel
theorem dX11_crash_81 : decode cX11_crash 81 = .ok (.if_icmp .ne 12, 3) := by decide +kernel
theorem dX11_crash_84 : decode cX11_crash 84 = .ok (.aload_n 0, 1) := by decide +kernel
theorem dX11_crash_85 : decode cX11_crash 85 = .ok (.getfield 48, 3) := by decide +kernel
theorem dX11_crash_88 : decode cX11_crash 88 = .ok (.iload_n 3, 1) := by decide +kernel
theorem dX11_crash_89 : decode cX11_crash 89 = .ok (.iaload, 1) := by decide +kernel
theorem dX11_crash_90 : decode cX11_crash 90 = .ok (.ifCond .eq 9, 3) := by decide +kernel
theorem dX11_crash_93 : decode cX11_crash 93 = .ok (.aload_n 0, 1) := by decide +kernel
theorem dX11_crash_94 : decode cX11_crash 94 = .ok (.iload_n 1, 1) := by decide +kernel
theorem dX11_crash_95 : decode cX11_crash 95 = .ok (.iload_n 2, 1) := by decide +kernel
theorem dX11_crash_96 : decode cX11_crash 96 = .ok (.invokevirtual 150, 3) := by decide +kernel
theorem dX11_crash_99 : decode cX11_crash 99 = .ok (.iinc 2 1, 3) := by decide +kernel
theorem dX11_crash_102 : decode cX11_crash 102 = .ok (.goto (-52), 3) := by decide +kernel
theorem dX11_crash_105 : decode cX11_crash 105 = .ok (.iconst 1, 1) := by decide +kernel
theorem dX11_crash_106 : decode cX11_crash 106 = .ok (.ireturn, 1) := by decide +kernel
theorem dX11_restart_0 : decode cX11_restart 0 = .ok (.aload_n 0, 1) := by decide +kernel
theorem dX11_restart_1 : decode cX11_restart 1 = .ok (.iload_n 1, 1) := by decide +kernel
theorem dX11_restart_2 : decode cX11_restart 2 = .ok (.invokevirtual 211, 3) := by decide +kernel
theorem dX11_restart_5 : decode cX11_restart 5 = .ok (.ifCond .ne 5, 3) := by decide +kernel
theorem dX11_restart_8 : decode cX11_restart 8 = .ok (.iconst (-1), 1) := by decide +kernel
theorem dX11_restart_9 : decode cX11_restart 9 = .ok (.ireturn, 1) := by decide +kernel
theorem dX11_restart_10 : decode cX11_restart 10 = .ok (.aload_n 0, 1) := by decide +kernel
theorem dX11_restart_11 : decode cX11_restart 11 = .ok (.getfield 7, 3) := by decide +kernel
theorem dX11_restart_14 : decode cX11_restart 14 = .ok (.iload_n 1, 1) := by decide +kernel
theorem dX11_restart_15 : decode cX11_restart 15 = .ok (.baload, 1) := by decide +kernel
theorem dX11_restart_16 : decode cX11_restart 16 = .ok (.ifCond .eq 7, 3) := by decide +kernel
theorem dX11_restart_19 : decode cX11_restart 19 = .ok (.iconst 0, 1) := by decide +kernel
theorem dX11_restart_20 : decode cX11_restart 20 = .ok (.goto 4, 3) := by decide +kernel
theorem dX11_restart_23 : decode cX11_restart 23 = .ok (.iconst 1, 1) := by decide +kernel
theorem dX11_restart_24 : decode cX11_restart 24 = .ok (.istore_n 2, 1) := by decide +kernel
theorem dX11_restart_25 : decode cX11_restart 25 = .ok (.aload_n 0, 1) := by decide +kernel
theorem dX11_restart_26 : decode cX11_restart 26 = .ok (.getfield 7, 3) := by decide +kernel
theorem dX11_restart_29 : decode cX11_restart 29 = .ok (.iload_n 1, 1) := by decide +kernel
theorem dX11_restart_30 : decode cX11_restart 30 = .ok (.iconst 1, 1) := by decide +kernel
theorem dX11_restart_31 : decode cX11_restart 31 = .ok (.bastore, 1) := by decide +kernel
theorem dX11_restart_32 : decode cX11_restart 32 = .ok (.iload_n 2, 1) := by decide +kernel
theorem dX11_restart_33 : decode cX11_restart 33 = .ok (.ireturn, 1) := by decide +kernel
theorem dX11_pending_0 : decode cX11_pending 0 = .ok (.aload_n 0, 1) := by decide +kernel
theorem dX11_pending_1 : decode cX11_pending 1 = .ok (.getfield 157, 3) := by decide +kernel
theorem dX11_pending_4 : decode cX11_pending 4 = .ok (.ireturn, 1) := by decide +kernel
theorem dX11_play_0 : decode cX11_play 0 = .ok (.iload_n 3, 1) := by decide +kernel
theorem dX11_play_1 : decode cX11_play 1 = .ok (.iconst 0, 1) := by decide +kernel
theorem dX11_play_2 : decode cX11_play 2 = .ok (.sipush 400, 3) := by decide +kernel
theorem dX11_play_5 : decode cX11_play 5 = .ok (.invokestatic 120, 3) := by decide +kernel
theorem dX11_play_8 : decode cX11_play 8 = .ok (.ifCond .ne 5, 3) := by decide +kernel
theorem dX11_play_11 : decode cX11_play 11 = .ok (.iconst (-1), 1) := by decide +kernel
theorem dX11_play_12 : decode cX11_play 12 = .ok (.ireturn, 1) := by decide +kernel
theorem dX11_play_13 : decode cX11_play 13 = .ok (.lload_n 1, 1) := by decide +kernel
theorem dX11_play_14 : decode cX11_play 14 = .ok (.lstore 4, 2) := by decide +kernel
theorem dX11_play_16 : decode cX11_play 16 = .ok (.iconst 0, 1) := by decide +kernel
theorem dX11_play_17 : decode cX11_play 17 = .ok (.istore 6, 2) := by decide +kernel
theorem dX11_play_19 : decode cX11_play 19 = .ok (.iload 6, 2) := by decide +kernel
theorem dX11_play_21 : decode cX11_play 21 = .ok (.iload_n 3, 1) := by decide +kernel
theorem dX11_play_22 : decode cX11_play 22 = .ok (.if_icmp .ge 52, 3) := by decide +kernel
theorem dX11_play_25 : decode cX11_play 25 = .ok (.aload_n 0, 1) := by decide +kernel
theorem dX11_play_26 : decode cX11_play 26 = .ok (.getfield 157, 3) := by decide +kernel
theorem dX11_play_29 : decode cX11_play 29 = .ok (.ifCond .le 45, 3) := by decide +kernel
theorem dX11_play_32 : decode cX11_play 32 = .ok (.lload 4, 2) := by decide +kernel
theorem dX11_play_34 : decode cX11_play 34 = .ok (.ldc2_w 214, 3) := by decide +kernel
theorem dX11_play_37 : decode cX11_play 37 = .ok (.lmul, 1) := by decide +kernel
theorem dX11_play_38 : decode cX11_play 38 = .ok (.ldc2_w 216, 3) := by decide +kernel
theorem dX11_play_41 : decode cX11_play 41 = .ok (.ladd, 1) := by decide +kernel
theorem dX11_play_42 : decode cX11_play 42 = .ok (.lstore 4, 2) := by decide +kernel
theorem dX11_play_44 : decode cX11_play 44 = .ok (.lload 4, 2) := by decide +kernel
theorem dX11_play_46 : decode cX11_play 46 = .ok (.bipush 32, 2) := by decide +kernel
theorem dX11_play_48 : decode cX11_play 48 = .ok (.lushr, 1) := by decide +kernel
theorem dX11_play_49 : decode cX11_play 49 = .ok (.l2i, 1) := by decide +kernel
theorem dX11_play_50 : decode cX11_play 50 = .ok (.ldc 218, 2) := by decide +kernel
theorem dX11_play_52 : decode cX11_play 52 = .ok (.iand, 1) := by decide +kernel
theorem dX11_play_53 : decode cX11_play 53 = .ok (.istore 7, 2) := by decide +kernel
theorem dX11_play_55 : decode cX11_play 55 = .ok (.aload_n 0, 1) := by decide +kernel
theorem dX11_play_56 : decode cX11_play 56 = .ok (.iload 7, 2) := by decide +kernel
theorem dX11_play_58 : decode cX11_play 58 = .ok (.aload_n 0, 1) := by decide +kernel
theorem dX11_play_59 : decode cX11_play 59 = .ok (.getfield 157, 3) := by decide +kernel
theorem dX11_play_62 : decode cX11_play 62 = .ok (.irem, 1) := by decide +kernel
theorem dX11_play_63 : decode cX11_play 63 = .ok (.invokevirtual 219, 3) := by decide +kernel
theorem dX11_play_66 : decode cX11_play 66 = .ok (.istore 8, 2) := by decide +kernel
theorem dX11_play_68 : decode cX11_play 68 = .ok (.iinc 6 1, 3) := by decide +kernel
theorem dX11_play_71 : decode cX11_play 71 = .ok (.goto (-52), 3) := by decide +kernel
theorem dX11_play_74 : decode cX11_play 74 = .ok (.iload 6, 2) := by decide +kernel
theorem dX11_play_76 : decode cX11_play 76 = .ok (.ireturn, 1) := by decide +kernel
theorem dX11_message_0 : decode cX11_message 0 = .ok (.aload_n 0, 1) := by decide +kernel
theorem dX11_message_1 : decode cX11_message 1 = .ok (.iload_n 1, 1) := by decide +kernel
theorem dX11_message_2 : decode cX11_message 2 = .ok (.invokevirtual 163, 3) := by decide +kernel
theorem dX11_message_5 : decode cX11_message 5 = .ok (.ifCond .eq 27, 3) := by decide +kernel
theorem dX11_message_8 : decode cX11_message 8 = .ok (.iload_n 2, 1) := by decide +kernel
theorem dX11_message_9 : decode cX11_message 9 = .ok (.iconst 0, 1) := by decide +kernel
theorem dX11_message_10 : decode cX11_message 10 = .ok (.bipush 6, 2) := by decide +kernel
theorem dX11_message_12 : decode cX11_message 12 = .ok (.invokestatic 120, 3) := by decide +kernel
theorem dX11_message_15 : decode cX11_message 15 = .ok (.ifCond .eq 17, 3) := by decide +kernel
theorem dX11_message_18 : decode cX11_message 18 = .ok (.aload_n 0, 1) := by decide +kernel
theorem dX11_message_19 : decode cX11_message 19 = .ok (.getfield 81, 3) := by decide +kernel
theorem dX11_message_22 : decode cX11_message 22 = .ok (.bipush 7, 2) := by decide +kernel
theorem dX11_message_24 : decode cX11_message 24 = .ok (.iload_n 1, 1) := by decide +kernel
theorem dX11_message_25 : decode cX11_message 25 = .ok (.imul, 1) := by decide +kernel
theorem dX11_message_26 : decode cX11_message 26 = .ok (.iload_n 2, 1) := by decide +kernel
theorem dX11_message_27 : decode cX11_message 27 = .ok (.iadd, 1) := by decide +kernel
theorem dX11_message_28 : decode cX11_message 28 = .ok (.iaload, 1) := by decide +kernel
theorem dX11_message_29 : decode cX11_message 29 = .ok (.goto 4, 3) := by decide +kernel
theorem dX11_message_32 : decode cX11_message 32 = .ok (.iconst (-1), 1) := by decide +kernel
theorem dX11_message_33 : decode cX11_message 33 = .ok (.ireturn, 1) := by decide +kernel
theorem dX11_lock_0 : decode cX11_lock 0 = .ok (.aload_n 0, 1) := by decide +kernel
theorem dX11_lock_1 : decode cX11_lock 1 = .ok (.iload_n 1, 1) := by decide +kernel
theorem dX11_lock_2 : decode cX11_lock 2 = .ok (.invokevirtual 136, 3) := by decide +kernel
theorem dX11_lock_5 : decode cX11_lock 5 = .ok (.ifCond .eq 12, 3) := by decide +kernel
theorem dX11_lock_8 : decode cX11_lock 8 = .ok (.iload_n 2, 1) := by decide +kernel
theorem dX11_lock_9 : decode cX11_lock 9 = .ok (.iconst 0, 1) := by decide +kernel
theorem dX11_lock_10 : decode cX11_lock 10 = .ok (.iconst 2, 1) := by decide +kernel
theorem dX11_lock_11 : decode cX11_lock 11 = .ok (.invokestatic 120, 3) := by decide +kernel
theorem dX11_lock_14 : decode cX11_lock 14 = .ok (.ifCond .ne 5, 3) := by decide +kernel
theorem dX11_lock_17 : decode cX11_lock 17 = .ok (.iconst (-1), 1) := by decide +kernel
theorem dX11_lock_18 : decode cX11_lock 18 = .ok (.ireturn, 1) := by decide +kernel
theorem dX11_lock_19 : decode cX11_lock 19 = .ok (.iload_n 2, 1) := by decide +kernel
theorem dX11_lock_20 : decode cX11_lock 20 = .ok (.ifCond .ne 13, 3) := by decide +kernel
theorem dX11_lock_23 : decode cX11_lock 23 = .ok (.aload_n 0, 1) := by decide +kernel
theorem dX11_lock_24 : decode cX11_lock 24 = .ok (.getfield 24, 3) := by decide +kernel
theorem dX11_lock_27 : decode cX11_lock 27 = .ok (.iload_n 1, 1) := by decide +kernel
theorem dX11_lock_28 : decode cX11_lock 28 = .ok (.iaload, 1) := by decide +kernel
theorem dX11_lock_29 : decode cX11_lock 29 = .ok (.invokestatic 124, 3) := by decide +kernel
theorem dX11_lock_32 : decode cX11_lock 32 = .ok (.ireturn, 1) := by decide +kernel
theorem dX11_lock_33 : decode cX11_lock 33 = .ok (.iload_n 2, 1) := by decide +kernel
theorem dX11_lock_34 : decode cX11_lock 34 = .ok (.iconst 2, 1) := by decide +kernel
theorem dX11_lock_35 : decode cX11_lock 35 = .ok (.if_icmp .ne 18, 3) := by decide +kernel
theorem dX11_lock_38 : decode cX11_lock 38 = .ok (.aload_n 0, 1) := by decide +kernel
theorem dX11_lock_39 : decode cX11_lock 39 = .ok (.getfield 27, 3) := by decide +kernel
theorem dX11_lock_42 : decode cX11_lock 42 = .ok (.iload_n 1, 1) := by decide +kernel
theorem dX11_lock_43 : decode cX11_lock 43 = .ok (.iaload, 1) := by decide +kernel
theorem dX11_lock_44 : decode cX11_lock 44 = .ok (.ifCond .lt 7, 3) := by decide +kernel
theorem dX11_lock_47 : decode cX11_lock 47 = .ok (.iconst 1, 1) := by decide +kernel
theorem dX11_lock_48 : decode cX11_lock 48 = .ok (.goto 4, 3) := by decide +kernel
theorem dX11_lock_51 : decode cX11_lock 51 = .ok (.iconst 0, 1) := by decide +kernel
theorem dX11_lock_52 : decode cX11_lock 52 = .ok (.ireturn, 1) := by decide +kernel
theorem dX11_lock_53 : decode cX11_lock 53 = .ok (.iconst 0, 1) := by decide +kernel
theorem dX11_lock_54 : decode cX11_lock 54 = .ok (.istore_n 3, 1) := by decide +kernel
theorem dX11_lock_55 : decode cX11_lock 55 = .ok (.iload_n 3, 1) := by decide +kernel
theorem dX11_lock_56 : decode cX11_lock 56 = .ok (.bipush 16, 2) := by decide +kernel
theorem dX11_lock_58 : decode cX11_lock 58 = .ok (.if_icmp .ge 22, 3) := by decide +kernel
theorem dX11_lock_61 : decode cX11_lock 61 = .ok (.aload_n 0, 1) := by decide +kernel
theorem dX11_lock_62 : decode cX11_lock 62 = .ok (.getfield 24, 3) := by decide +kernel
theorem dX11_lock_65 : decode cX11_lock 65 = .ok (.iload_n 1, 1) := by decide +kernel
theorem dX11_lock_66 : decode cX11_lock 66 = .ok (.iaload, 1) := by decide +kernel
theorem dX11_lock_67 : decode cX11_lock 67 = .ok (.iload_n 3, 1) := by decide +kernel
theorem dX11_lock_68 : decode cX11_lock 68 = .ok (.ishr, 1) := by decide +kernel
theorem dX11_lock_69 : decode cX11_lock 69 = .ok (.iconst 1, 1) := by decide +kernel
theorem dX11_lock_70 : decode cX11_lock 70 = .ok (.iand, 1) := by decide +kernel
theorem dX11_lock_71 : decode cX11_lock 71 = .ok (.ifCond .ne 9, 3) := by decide +kernel
theorem dX11_lock_74 : decode cX11_lock 74 = .ok (.iinc 3 1, 3) := by decide +kernel
theorem dX11_lock_77 : decode cX11_lock 77 = .ok (.goto (-22), 3) := by decide +kernel
theorem dX11_lock_80 : decode cX11_lock 80 = .ok (.iload_n 3, 1) := by decide +kernel
theorem dX11_lock_81 : decode cX11_lock 81 = .ok (.bipush 16, 2) := by decide +kernel
theorem dX11_lock_83 : decode cX11_lock 83 = .ok (.if_icmp .ge 7, 3) := by decide +kernel
theorem dX11_lock_86 : decode cX11_lock 86 = .ok (.iload_n 3, 1) := by decide +kernel
theorem dX11_lock_87 : decode cX11_lock 87 = .ok (.goto 4, 3) := by decide +kernel
theorem dX11_lock_90 : decode cX11_lock 90 = .ok (.iconst (-1), 1) := by decide +kernel
theorem dX11_lock_91 : decode cX11_lock 91 = .ok (.ireturn, 1) := by decide +kernel
theorem dX11_node_0 : decode cX11_node 0 = .ok (.aload_n 0, 1) := by decide +kernel
theorem dX11_node_1 : decode cX11_node 1 = .ok (.iload_n 1, 1) := by decide +kernel
theorem dX11_node_2 : decode cX11_node 2 = .ok (.invokevirtual 211, 3) := by decide +kernel
theorem dX11_node_5 : decode cX11_node 5 = .ok (.ifCond .eq 38, 3) := by decide +kernel
theorem dX11_node_8 : decode cX11_node 8 = .ok (.iload_n 2, 1) := by decide +kernel
theorem dX11_node_9 : decode cX11_node 9 = .ok (.iconst 0, 1) := by decide +kernel
theorem dX11_node_10 : decode cX11_node 10 = .ok (.iconst 4, 1) := by decide +kernel
theorem dX11_node_11 : decode cX11_node 11 = .ok (.invokestatic 120, 3) := by decide +kernel
theorem dX11_node_14 : decode cX11_node 14 = .ok (.ifCond .eq 29, 3) := by decide +kernel
theorem dX11_node_17 : decode cX11_node 17 = .ok (.iload_n 2, 1) := by decide +kernel
theorem dX11_node_18 : decode cX11_node 18 = .ok (.iconst 2, 1) := by decide +kernel
theorem dX11_node_19 : decode cX11_node 19 = .ok (.if_icmp .ne 11, 3) := by decide +kernel
theorem dX11_node_22 : decode cX11_node 22 = .ok (.iload_n 1, 1) := by decide +kernel
theorem dX11_node_23 : decode cX11_node 23 = .ok (.aload_n 0, 1) := by decide +kernel
theorem dX11_node_24 : decode cX11_node 24 = .ok (.getfield 97, 3) := by decide +kernel
theorem dX11_node_27 : decode cX11_node 27 = .ok (.if_icmp .ge 16, 3) := by decide +kernel
theorem dX11_node_30 : decode cX11_node 30 = .ok (.iload_n 2, 1) := by decide +kernel
theorem dX11_node_31 : decode cX11_node 31 = .ok (.iconst 2, 1) := by decide +kernel
theorem dX11_node_32 : decode cX11_node 32 = .ok (.if_icmp .le 13, 3) := by decide +kernel
theorem dX11_node_35 : decode cX11_node 35 = .ok (.iload_n 1, 1) := by decide +kernel
theorem dX11_node_36 : decode cX11_node 36 = .ok (.aload_n 0, 1) := by decide +kernel
theorem dX11_node_37 : decode cX11_node 37 = .ok (.getfield 97, 3) := by decide +kernel
theorem dX11_node_40 : decode cX11_node 40 = .ok (.if_icmp .ge 5, 3) := by decide +kernel
theorem dX11_node_43 : decode cX11_node 43 = .ok (.iconst (-1), 1) := by decide +kernel
theorem dX11_node_44 : decode cX11_node 44 = .ok (.ireturn, 1) := by decide +kernel
theorem dX11_node_45 : decode cX11_node 45 = .ok (.iload_n 2, 1) := by decide +kernel
theorem dX11_node_46 : decode cX11_node 46 = .ok (.iconst 2, 1) := by decide +kernel
theorem dX11_node_47 : decode cX11_node 47 = .ok (.if_icmp .ge 32, 3) := by decide +kernel
theorem dX11_node_50 : decode cX11_node 50 = .ok (.iload_n 2, 1) := by decide +kernel
theorem dX11_node_51 : decode cX11_node 51 = .ok (.iconst 1, 1) := by decide +kernel
theorem dX11_node_52 : decode cX11_node 52 = .ok (.if_icmp .ne 12, 3) := by decide +kernel
theorem dX11_node_55 : decode cX11_node 55 = .ok (.aload_n 0, 1) := by decide +kernel
theorem dX11_node_56 : decode cX11_node 56 = .ok (.getfield 13, 3) := by decide +kernel
theorem dX11_node_59 : decode cX11_node 59 = .ok (.iload_n 1, 1) := by decide +kernel
theorem dX11_node_60 : decode cX11_node 60 = .ok (.iaload, 1) := by decide +kernel
theorem dX11_node_61 : decode cX11_node 61 = .ok (.goto 17, 3) := by decide +kernel
theorem dX11_node_64 : decode cX11_node 64 = .ok (.aload_n 0, 1) := by decide +kernel
theorem dX11_node_65 : decode cX11_node 65 = .ok (.getfield 7, 3) := by decide +kernel
theorem dX11_node_68 : decode cX11_node 68 = .ok (.iload_n 1, 1) := by decide +kernel
theorem dX11_node_69 : decode cX11_node 69 = .ok (.baload, 1) := by decide +kernel
theorem dX11_node_70 : decode cX11_node 70 = .ok (.ifCond .eq 7, 3) := by decide +kernel
theorem dX11_node_73 : decode cX11_node 73 = .ok (.iconst 1, 1) := by decide +kernel
theorem dX11_node_74 : decode cX11_node 74 = .ok (.goto 4, 3) := by decide +kernel
theorem dX11_node_77 : decode cX11_node 77 = .ok (.iconst 0, 1) := by decide +kernel
theorem dX11_node_78 : decode cX11_node 78 = .ok (.ireturn, 1) := by decide +kernel
theorem dX11_node_79 : decode cX11_node 79 = .ok (.iconst 0, 1) := by decide +kernel
theorem dX11_node_80 : decode cX11_node 80 = .ok (.istore_n 3, 1) := by decide +kernel
theorem dX11_node_81 : decode cX11_node 81 = .ok (.iconst 0, 1) := by decide +kernel
theorem dX11_node_82 : decode cX11_node 82 = .ok (.istore 4, 2) := by decide +kernel
theorem dX11_node_84 : decode cX11_node 84 = .ok (.iload 4, 2) := by decide +kernel
theorem dX11_node_86 : decode cX11_node 86 = .ok (.aload_n 0, 1) := by decide +kernel
theorem dX11_node_87 : decode cX11_node 87 = .ok (.getfield 104, 3) := by decide +kernel
theorem dX11_node_90 : decode cX11_node 90 = .ok (.if_icmp .ge 90, 3) := by decide +kernel
theorem dX11_node_93 : decode cX11_node 93 = .ok (.iload_n 2, 1) := by decide +kernel
theorem dX11_node_94 : decode cX11_node 94 = .ok (.iconst 2, 1) := by decide +kernel
theorem dX11_node_95 : decode cX11_node 95 = .ok (.if_icmp .ne 29, 3) := by decide +kernel
theorem dX11_node_98 : decode cX11_node 98 = .ok (.iload_n 3, 1) := by decide +kernel
theorem dX11_node_99 : decode cX11_node 99 = .ok (.aload_n 0, 1) := by decide +kernel
theorem dX11_node_100 : decode cX11_node 100 = .ok (.getfield 42, 3) := by decide +kernel
theorem dX11_node_103 : decode cX11_node 103 = .ok (.bipush 16, 2) := by decide +kernel
theorem dX11_node_105 : decode cX11_node 105 = .ok (.iload_n 1, 1) := by decide +kernel
theorem dX11_node_106 : decode cX11_node 106 = .ok (.imul, 1) := by decide +kernel
theorem dX11_node_107 : decode cX11_node 107 = .ok (.iload 4, 2) := by decide +kernel
theorem dX11_node_109 : decode cX11_node 109 = .ok (.iadd, 1) := by decide +kernel
theorem dX11_node_110 : decode cX11_node 110 = .ok (.baload, 1) := by decide +kernel
theorem dX11_node_111 : decode cX11_node 111 = .ok (.ifCond .eq 7, 3) := by decide +kernel
theorem dX11_node_114 : decode cX11_node 114 = .ok (.iconst 1, 1) := by decide +kernel
theorem dX11_node_115 : decode cX11_node 115 = .ok (.goto 4, 3) := by decide +kernel
theorem dX11_node_118 : decode cX11_node 118 = .ok (.iconst 0, 1) := by decide +kernel
theorem dX11_node_119 : decode cX11_node 119 = .ok (.iadd, 1) := by decide +kernel
theorem dX11_node_120 : decode cX11_node 120 = .ok (.istore_n 3, 1) := by decide +kernel
theorem dX11_node_121 : decode cX11_node 121 = .ok (.goto 53, 3) := by decide +kernel
theorem dX11_node_124 : decode cX11_node 124 = .ok (.bipush 16, 2) := by decide +kernel
theorem dX11_node_126 : decode cX11_node 126 = .ok (.iload_n 1, 1) := by decide +kernel
theorem dX11_node_127 : decode cX11_node 127 = .ok (.aload_n 0, 1) := by decide +kernel
theorem dX11_node_128 : decode cX11_node 128 = .ok (.getfield 97, 3) := by decide +kernel
theorem dX11_node_131 : decode cX11_node 131 = .ok (.isub, 1) := by decide +kernel
theorem dX11_node_132 : decode cX11_node 132 = .ok (.imul, 1) := by decide +kernel
theorem dX11_node_133 : decode cX11_node 133 = .ok (.iload 4, 2) := by decide +kernel
theorem dX11_node_135 : decode cX11_node 135 = .ok (.iadd, 1) := by decide +kernel
theorem dX11_node_136 : decode cX11_node 136 = .ok (.istore 5, 2) := by decide +kernel
theorem dX11_node_138 : decode cX11_node 138 = .ok (.iload_n 3, 1) := by decide +kernel
theorem dX11_node_139 : decode cX11_node 139 = .ok (.iload_n 2, 1) := by decide +kernel
theorem dX11_node_140 : decode cX11_node 140 = .ok (.iconst 3, 1) := by decide +kernel
theorem dX11_node_141 : decode cX11_node 141 = .ok (.if_icmp .ne 16, 3) := by decide +kernel
theorem dX11_node_144 : decode cX11_node 144 = .ok (.aload_n 0, 1) := by decide +kernel
theorem dX11_node_145 : decode cX11_node 145 = .ok (.getfield 51, 3) := by decide +kernel
theorem dX11_node_148 : decode cX11_node 148 = .ok (.iload 5, 2) := by decide +kernel
theorem dX11_node_150 : decode cX11_node 150 = .ok (.iaload, 1) := by decide +kernel
theorem dX11_node_151 : decode cX11_node 151 = .ok (.ifCond .ne 20, 3) := by decide +kernel
theorem dX11_node_154 : decode cX11_node 154 = .ok (.goto 13, 3) := by decide +kernel
theorem dX11_node_157 : decode cX11_node 157 = .ok (.aload_n 0, 1) := by decide +kernel
theorem dX11_node_158 : decode cX11_node 158 = .ok (.getfield 57, 3) := by decide +kernel
theorem dX11_node_161 : decode cX11_node 161 = .ok (.iload 5, 2) := by decide +kernel
theorem dX11_node_163 : decode cX11_node 163 = .ok (.iaload, 1) := by decide +kernel
theorem dX11_node_164 : decode cX11_node 164 = .ok (.ifCond .eq 7, 3) := by decide +kernel
theorem dX11_node_167 : decode cX11_node 167 = .ok (.iconst 1, 1) := by decide +kernel
theorem dX11_node_168 : decode cX11_node 168 = .ok (.goto 4, 3) := by decide +kernel
theorem dX11_node_171 : decode cX11_node 171 = .ok (.iconst 0, 1) := by decide +kernel
theorem dX11_node_172 : decode cX11_node 172 = .ok (.iadd, 1) := by decide +kernel
theorem dX11_node_173 : decode cX11_node 173 = .ok (.istore_n 3, 1) := by decide +kernel
theorem dX11_node_174 : decode cX11_node 174 = .ok (.iinc 4 1, 3) := by decide +kernel
theorem dX11_node_177 : decode cX11_node 177 = .ok (.goto (-93), 3) := by decide +kernel
theorem dX11_node_180 : decode cX11_node 180 = .ok (.iload_n 3, 1) := by decide +kernel
theorem dX11_node_181 : decode cX11_node 181 = .ok (.ireturn, 1) := by decide +kernel
theorem dX11_entry_0 : decode cX11_entry 0 = .ok (.aload_n 0, 1) := by decide +kernel
theorem dX11_entry_1 : decode cX11_entry 1 = .ok (.iload_n 1, 1) := by decide +kernel
theorem dX11_entry_2 : decode cX11_entry 2 = .ok (.invokevirtual 211, 3) := by decide +kernel
theorem dX11_entry_5 : decode cX11_entry 5 = .ok (.ifCond .eq 47, 3) := by decide +kernel
theorem dX11_entry_8 : decode cX11_entry 8 = .ok (.iload_n 2, 1) := by decide +kernel
theorem dX11_entry_9 : decode cX11_entry 9 = .ok (.iconst 0, 1) := by decide +kernel
theorem dX11_entry_10 : decode cX11_entry 10 = .ok (.aload_n 0, 1) := by decide +kernel
theorem dX11_entry_11 : decode cX11_entry 11 = .ok (.getfield 13, 3) := by decide +kernel
theorem dX11_entry_14 : decode cX11_entry 14 = .ok (.iload_n 1, 1) := by decide +kernel
theorem dX11_entry_15 : decode cX11_entry 15 = .ok (.iaload, 1) := by decide +kernel
theorem dX11_entry_16 : decode cX11_entry 16 = .ok (.iconst 1, 1) := by decide +kernel
theorem dX11_entry_17 : decode cX11_entry 17 = .ok (.isub, 1) := by decide +kernel
theorem dX11_entry_18 : decode cX11_entry 18 = .ok (.invokestatic 120, 3) := by decide +kernel
theorem dX11_entry_21 : decode cX11_entry 21 = .ok (.ifCond .eq 31, 3) := by decide +kernel
theorem dX11_entry_24 : decode cX11_entry 24 = .ok (.iload_n 3, 1) := by decide +kernel
theorem dX11_entry_25 : decode cX11_entry 25 = .ok (.iconst 0, 1) := by decide +kernel
theorem dX11_entry_26 : decode cX11_entry 26 = .ok (.iconst 3, 1) := by decide +kernel
theorem dX11_entry_27 : decode cX11_entry 27 = .ok (.invokestatic 120, 3) := by decide +kernel
theorem dX11_entry_30 : decode cX11_entry 30 = .ok (.ifCond .eq 22, 3) := by decide +kernel
theorem dX11_entry_33 : decode cX11_entry 33 = .ok (.aload_n 0, 1) := by decide +kernel
theorem dX11_entry_34 : decode cX11_entry 34 = .ok (.getfield 17, 3) := by decide +kernel
theorem dX11_entry_37 : decode cX11_entry 37 = .ok (.sipush 800, 3) := by decide +kernel
theorem dX11_entry_40 : decode cX11_entry 40 = .ok (.iload_n 1, 1) := by decide +kernel
theorem dX11_entry_41 : decode cX11_entry 41 = .ok (.imul, 1) := by decide +kernel
theorem dX11_entry_42 : decode cX11_entry 42 = .ok (.iconst 4, 1) := by decide +kernel
theorem dX11_entry_43 : decode cX11_entry 43 = .ok (.iload_n 2, 1) := by decide +kernel
theorem dX11_entry_44 : decode cX11_entry 44 = .ok (.imul, 1) := by decide +kernel
theorem dX11_entry_45 : decode cX11_entry 45 = .ok (.iadd, 1) := by decide +kernel
theorem dX11_entry_46 : decode cX11_entry 46 = .ok (.iload_n 3, 1) := by decide +kernel
theorem dX11_entry_47 : decode cX11_entry 47 = .ok (.iadd, 1) := by decide +kernel
theorem dX11_entry_48 : decode cX11_entry 48 = .ok (.iaload, 1) := by decide +kernel
theorem dX11_entry_49 : decode cX11_entry 49 = .ok (.goto 4, 3) := by decide +kernel
theorem dX11_entry_52 : decode cX11_entry 52 = .ok (.iconst (-1), 1) := by decide +kernel
theorem dX11_entry_53 : decode cX11_entry 53 = .ok (.ireturn, 1) := by decide +kernel
theorem dX11_ballot_0 : decode cX11_ballot 0 = .ok (.aload_n 0, 1) := by decide +kernel
theorem dX11_ballot_1 : decode cX11_ballot 1 = .ok (.iload_n 1, 1) := by decide +kernel
theorem dX11_ballot_2 : decode cX11_ballot 2 = .ok (.invokevirtual 208, 3) := by decide +kernel
theorem dX11_ballot_5 : decode cX11_ballot 5 = .ok (.ifCond .eq 20, 3) := by decide +kernel
theorem dX11_ballot_8 : decode cX11_ballot 8 = .ok (.aload_n 0, 1) := by decide +kernel
theorem dX11_ballot_9 : decode cX11_ballot 9 = .ok (.iload_n 2, 1) := by decide +kernel
theorem dX11_ballot_10 : decode cX11_ballot 10 = .ok (.invokevirtual 132, 3) := by decide +kernel
theorem dX11_ballot_13 : decode cX11_ballot 13 = .ok (.ifCond .eq 12, 3) := by decide +kernel
theorem dX11_ballot_16 : decode cX11_ballot 16 = .ok (.iload_n 3, 1) := by decide +kernel
theorem dX11_ballot_17 : decode cX11_ballot 17 = .ok (.iconst 0, 1) := by decide +kernel
theorem dX11_ballot_18 : decode cX11_ballot 18 = .ok (.iconst 3, 1) := by decide +kernel
theorem dX11_ballot_19 : decode cX11_ballot 19 = .ok (.invokestatic 120, 3) := by decide +kernel
theorem dX11_ballot_22 : decode cX11_ballot 22 = .ok (.ifCond .ne 5, 3) := by decide +kernel
theorem dX11_ballot_25 : decode cX11_ballot 25 = .ok (.iconst (-1), 1) := by decide +kernel
theorem dX11_ballot_26 : decode cX11_ballot 26 = .ok (.ireturn, 1) := by decide +kernel
theorem dX11_ballot_27 : decode cX11_ballot 27 = .ok (.bipush 16, 2) := by decide +kernel
theorem dX11_ballot_29 : decode cX11_ballot 29 = .ok (.iload_n 1, 1) := by decide +kernel
theorem dX11_ballot_30 : decode cX11_ballot 30 = .ok (.aload_n 0, 1) := by decide +kernel
theorem dX11_ballot_31 : decode cX11_ballot 31 = .ok (.getfield 97, 3) := by decide +kernel
theorem dX11_ballot_34 : decode cX11_ballot 34 = .ok (.isub, 1) := by decide +kernel
theorem dX11_ballot_35 : decode cX11_ballot 35 = .ok (.imul, 1) := by decide +kernel
theorem dX11_ballot_36 : decode cX11_ballot 36 = .ok (.iload_n 2, 1) := by decide +kernel
theorem dX11_ballot_37 : decode cX11_ballot 37 = .ok (.iadd, 1) := by decide +kernel
theorem dX11_ballot_38 : decode cX11_ballot 38 = .ok (.istore 4, 2) := by decide +kernel
theorem dX11_ballot_40 : decode cX11_ballot 40 = .ok (.iload_n 3, 1) := by decide +kernel
theorem dX11_ballot_41 : decode cX11_ballot 41 = .ok (.ifCond .ne 13, 3) := by decide +kernel
theorem dX11_ballot_44 : decode cX11_ballot 44 = .ok (.aload_n 0, 1) := by decide +kernel
theorem dX11_ballot_45 : decode cX11_ballot 45 = .ok (.getfield 51, 3) := by decide +kernel
theorem dX11_ballot_48 : decode cX11_ballot 48 = .ok (.iload 4, 2) := by decide +kernel
theorem dX11_ballot_50 : decode cX11_ballot 50 = .ok (.iaload, 1) := by decide +kernel
theorem dX11_ballot_51 : decode cX11_ballot 51 = .ok (.goto 43, 3) := by decide +kernel
theorem dX11_ballot_54 : decode cX11_ballot 54 = .ok (.iload_n 3, 1) := by decide +kernel
theorem dX11_ballot_55 : decode cX11_ballot 55 = .ok (.iconst 1, 1) := by decide +kernel
theorem dX11_ballot_56 : decode cX11_ballot 56 = .ok (.if_icmp .ne 13, 3) := by decide +kernel
theorem dX11_ballot_59 : decode cX11_ballot 59 = .ok (.aload_n 0, 1) := by decide +kernel
theorem dX11_ballot_60 : decode cX11_ballot 60 = .ok (.getfield 54, 3) := by decide +kernel
theorem dX11_ballot_63 : decode cX11_ballot 63 = .ok (.iload 4, 2) := by decide +kernel
theorem dX11_ballot_65 : decode cX11_ballot 65 = .ok (.iaload, 1) := by decide +kernel
theorem dX11_ballot_66 : decode cX11_ballot 66 = .ok (.goto 28, 3) := by decide +kernel
theorem dX11_ballot_69 : decode cX11_ballot 69 = .ok (.iload_n 3, 1) := by decide +kernel
theorem dX11_ballot_70 : decode cX11_ballot 70 = .ok (.iconst 2, 1) := by decide +kernel
theorem dX11_ballot_71 : decode cX11_ballot 71 = .ok (.if_icmp .ne 13, 3) := by decide +kernel
theorem dX11_ballot_74 : decode cX11_ballot 74 = .ok (.aload_n 0, 1) := by decide +kernel
theorem dX11_ballot_75 : decode cX11_ballot 75 = .ok (.getfield 57, 3) := by decide +kernel
theorem dX11_ballot_78 : decode cX11_ballot 78 = .ok (.iload 4, 2) := by decide +kernel
theorem dX11_ballot_80 : decode cX11_ballot 80 = .ok (.iaload, 1) := by decide +kernel
theorem dX11_ballot_81 : decode cX11_ballot 81 = .ok (.goto 13, 3) := by decide +kernel
theorem dX11_ballot_84 : decode cX11_ballot 84 = .ok (.aload_n 0, 1) := by decide +kernel
theorem dX11_ballot_85 : decode cX11_ballot 85 = .ok (.getfield 60, 3) := by decide +kernel
theorem dX11_ballot_88 : decode cX11_ballot 88 = .ok (.iload 4, 2) := by decide +kernel
theorem dX11_ballot_90 : decode cX11_ballot 90 = .ok (.iaload, 1) := by decide +kernel
theorem dX11_ballot_91 : decode cX11_ballot 91 = .ok (.invokestatic 124, 3) := by decide +kernel
theorem dX11_ballot_94 : decode cX11_ballot 94 = .ok (.ireturn, 1) := by decide +kernel
theorem dX11_accepted_0 : decode cX11_accepted 0 = .ok (.aload_n 0, 1) := by decide +kernel
theorem dX11_accepted_1 : decode cX11_accepted 1 = .ok (.iload_n 1, 1) := by decide +kernel
theorem dX11_accepted_2 : decode cX11_accepted 2 = .ok (.invokevirtual 208, 3) := by decide +kernel
theorem dX11_accepted_5 : decode cX11_accepted 5 = .ok (.ifCond .eq 35, 3) := by decide +kernel
theorem dX11_accepted_8 : decode cX11_accepted 8 = .ok (.aload_n 0, 1) := by decide +kernel
theorem dX11_accepted_9 : decode cX11_accepted 9 = .ok (.iload_n 2, 1) := by decide +kernel
theorem dX11_accepted_10 : decode cX11_accepted 10 = .ok (.invokevirtual 132, 3) := by decide +kernel
theorem dX11_accepted_13 : decode cX11_accepted 13 = .ok (.ifCond .eq 27, 3) := by decide +kernel
theorem dX11_accepted_16 : decode cX11_accepted 16 = .ok (.iload_n 3, 1) := by decide +kernel
theorem dX11_accepted_17 : decode cX11_accepted 17 = .ok (.iconst 0, 1) := by decide +kernel
theorem dX11_accepted_18 : decode cX11_accepted 18 = .ok (.aload_n 0, 1) := by decide +kernel
theorem dX11_accepted_19 : decode cX11_accepted 19 = .ok (.getfield 97, 3) := by decide +kernel
theorem dX11_accepted_22 : decode cX11_accepted 22 = .ok (.iconst 1, 1) := by decide +kernel
theorem dX11_accepted_23 : decode cX11_accepted 23 = .ok (.isub, 1) := by decide +kernel
theorem dX11_accepted_24 : decode cX11_accepted 24 = .ok (.invokestatic 120, 3) := by decide +kernel
theorem dX11_accepted_27 : decode cX11_accepted 27 = .ok (.ifCond .eq 13, 3) := by decide +kernel
theorem dX11_accepted_30 : decode cX11_accepted 30 = .ok (.iload 4, 2) := by decide +kernel
theorem dX11_accepted_32 : decode cX11_accepted 32 = .ok (.iconst 0, 1) := by decide +kernel
theorem dX11_accepted_33 : decode cX11_accepted 33 = .ok (.iconst 2, 1) := by decide +kernel
theorem dX11_accepted_34 : decode cX11_accepted 34 = .ok (.invokestatic 120, 3) := by decide +kernel
theorem dX11_accepted_37 : decode cX11_accepted 37 = .ok (.ifCond .ne 5, 3) := by decide +kernel
theorem dX11_accepted_40 : decode cX11_accepted 40 = .ok (.iconst (-1), 1) := by decide +kernel
theorem dX11_accepted_41 : decode cX11_accepted 41 = .ok (.ireturn, 1) := by decide +kernel
theorem dX11_accepted_42 : decode cX11_accepted 42 = .ok (.bipush 64, 2) := by decide +kernel
theorem dX11_accepted_44 : decode cX11_accepted 44 = .ok (.iload_n 1, 1) := by decide +kernel
theorem dX11_accepted_45 : decode cX11_accepted 45 = .ok (.aload_n 0, 1) := by decide +kernel
theorem dX11_accepted_46 : decode cX11_accepted 46 = .ok (.getfield 97, 3) := by decide +kernel
theorem dX11_accepted_49 : decode cX11_accepted 49 = .ok (.isub, 1) := by decide +kernel
theorem dX11_accepted_50 : decode cX11_accepted 50 = .ok (.imul, 1) := by decide +kernel
theorem dX11_accepted_51 : decode cX11_accepted 51 = .ok (.iconst 4, 1) := by decide +kernel
theorem dX11_accepted_52 : decode cX11_accepted 52 = .ok (.iload_n 2, 1) := by decide +kernel
theorem dX11_accepted_53 : decode cX11_accepted 53 = .ok (.imul, 1) := by decide +kernel
theorem dX11_accepted_54 : decode cX11_accepted 54 = .ok (.iadd, 1) := by decide +kernel
theorem dX11_accepted_55 : decode cX11_accepted 55 = .ok (.iload_n 3, 1) := by decide +kernel
theorem dX11_accepted_56 : decode cX11_accepted 56 = .ok (.iadd, 1) := by decide +kernel
theorem dX11_accepted_57 : decode cX11_accepted 57 = .ok (.istore 5, 2) := by decide +kernel
theorem dX11_accepted_59 : decode cX11_accepted 59 = .ok (.iload 4, 2) := by decide +kernel
theorem dX11_accepted_61 : decode cX11_accepted 61 = .ok (.ifCond .ne 13, 3) := by decide +kernel
theorem dX11_accepted_64 : decode cX11_accepted 64 = .ok (.aload_n 0, 1) := by decide +kernel
theorem dX11_accepted_65 : decode cX11_accepted 65 = .ok (.getfield 63, 3) := by decide +kernel
theorem dX11_accepted_68 : decode cX11_accepted 68 = .ok (.iload 5, 2) := by decide +kernel
theorem dX11_accepted_70 : decode cX11_accepted 70 = .ok (.iaload, 1) := by decide +kernel
theorem dX11_accepted_71 : decode cX11_accepted 71 = .ok (.goto 37, 3) := by decide +kernel
theorem dX11_accepted_74 : decode cX11_accepted 74 = .ok (.iload 4, 2) := by decide +kernel
theorem dX11_accepted_76 : decode cX11_accepted 76 = .ok (.iconst 1, 1) := by decide +kernel
theorem dX11_accepted_77 : decode cX11_accepted 77 = .ok (.if_icmp .ne 13, 3) := by decide +kernel
theorem dX11_accepted_80 : decode cX11_accepted 80 = .ok (.aload_n 0, 1) := by decide +kernel
theorem dX11_accepted_81 : decode cX11_accepted 81 = .ok (.getfield 66, 3) := by decide +kernel
theorem dX11_accepted_84 : decode cX11_accepted 84 = .ok (.iload 5, 2) := by decide +kernel
theorem dX11_accepted_86 : decode cX11_accepted 86 = .ok (.iaload, 1) := by decide +kernel
theorem dX11_accepted_87 : decode cX11_accepted 87 = .ok (.goto 21, 3) := by decide +kernel
theorem dX11_accepted_90 : decode cX11_accepted 90 = .ok (.aload_n 0, 1) := by decide +kernel
theorem dX11_accepted_91 : decode cX11_accepted 91 = .ok (.getfield 69, 3) := by decide +kernel
theorem dX11_accepted_94 : decode cX11_accepted 94 = .ok (.iload 5, 2) := by decide +kernel
theorem dX11_accepted_96 : decode cX11_accepted 96 = .ok (.iaload, 1) := by decide +kernel
theorem dX11_accepted_97 : decode cX11_accepted 97 = .ok (.aload_n 0, 1) := by decide +kernel
theorem dX11_accepted_98 : decode cX11_accepted 98 = .ok (.getfield 72, 3) := by decide +kernel
theorem dX11_accepted_101 : decode cX11_accepted 101 = .ok (.iload 5, 2) := by decide +kernel
theorem dX11_accepted_103 : decode cX11_accepted 103 = .ok (.iaload, 1) := by decide +kernel
theorem dX11_accepted_104 : decode cX11_accepted 104 = .ok (.ior, 1) := by decide +kernel
theorem dX11_accepted_105 : decode cX11_accepted 105 = .ok (.invokestatic 124, 3) := by decide +kernel
theorem dX11_accepted_108 : decode cX11_accepted 108 = .ok (.ireturn, 1) := by decide +kernel
theorem dX11_count_0 : decode cX11_count 0 = .ok (.iconst 0, 1) := by decide +kernel
theorem dX11_count_1 : decode cX11_count 1 = .ok (.istore_n 2, 1) := by decide +kernel
theorem dX11_count_2 : decode cX11_count 2 = .ok (.iload_n 1, 1) := by decide +kernel
theorem dX11_count_3 : decode cX11_count 3 = .ok (.tableswitch 120 0 8 #[49, 54, 59, 64, 64, 100, 105, 110, 115], 49) := by decide +kernel
theorem dX11_count_52 : decode cX11_count 52 = .ok (.aload_n 0, 1) := by decide +kernel
theorem dX11_count_53 : decode cX11_count 53 = .ok (.getfield 154, 3) := by decide +kernel
theorem dX11_count_56 : decode cX11_count 56 = .ok (.ireturn, 1) := by decide +kernel
theorem dX11_count_57 : decode cX11_count 57 = .ok (.aload_n 0, 1) := by decide +kernel
theorem dX11_count_58 : decode cX11_count 58 = .ok (.getfield 160, 3) := by decide +kernel
theorem dX11_count_61 : decode cX11_count 61 = .ok (.ireturn, 1) := by decide +kernel
theorem dX11_count_62 : decode cX11_count 62 = .ok (.aload_n 0, 1) := by decide +kernel
theorem dX11_count_63 : decode cX11_count 63 = .ok (.getfield 169, 3) := by decide +kernel
theorem dX11_count_66 : decode cX11_count 66 = .ok (.ireturn, 1) := by decide +kernel
theorem dX11_count_67 : decode cX11_count 67 = .ok (.iconst 0, 1) := by decide +kernel
theorem dX11_count_68 : decode cX11_count 68 = .ok (.istore_n 3, 1) := by decide +kernel
theorem dX11_count_69 : decode cX11_count 69 = .ok (.iload_n 3, 1) := by decide +kernel
theorem dX11_count_70 : decode cX11_count 70 = .ok (.aload_n 0, 1) := by decide +kernel
theorem dX11_count_71 : decode cX11_count 71 = .ok (.getfield 104, 3) := by decide +kernel
theorem dX11_count_74 : decode cX11_count 74 = .ok (.if_icmp .ge 27, 3) := by decide +kernel
theorem dX11_count_77 : decode cX11_count 77 = .ok (.iload_n 2, 1) := by decide +kernel
theorem dX11_count_78 : decode cX11_count 78 = .ok (.aload_n 0, 1) := by decide +kernel
theorem dX11_count_79 : decode cX11_count 79 = .ok (.getfield 30, 3) := by decide +kernel
theorem dX11_count_82 : decode cX11_count 82 = .ok (.iload_n 3, 1) := by decide +kernel
theorem dX11_count_83 : decode cX11_count 83 = .ok (.iaload, 1) := by decide +kernel
theorem dX11_count_84 : decode cX11_count 84 = .ok (.iload_n 1, 1) := by decide +kernel
theorem dX11_count_85 : decode cX11_count 85 = .ok (.if_icmp .ne 7, 3) := by decide +kernel
theorem dX11_count_88 : decode cX11_count 88 = .ok (.iconst 1, 1) := by decide +kernel
theorem dX11_count_89 : decode cX11_count 89 = .ok (.goto 4, 3) := by decide +kernel
theorem dX11_count_92 : decode cX11_count 92 = .ok (.iconst 0, 1) := by decide +kernel
theorem dX11_count_93 : decode cX11_count 93 = .ok (.iadd, 1) := by decide +kernel
theorem dX11_count_94 : decode cX11_count 94 = .ok (.istore_n 2, 1) := by decide +kernel
theorem dX11_count_95 : decode cX11_count 95 = .ok (.iinc 3 1, 3) := by decide +kernel
theorem dX11_count_98 : decode cX11_count 98 = .ok (.goto (-29), 3) := by decide +kernel
theorem dX11_count_101 : decode cX11_count 101 = .ok (.iload_n 2, 1) := by decide +kernel
theorem dX11_count_102 : decode cX11_count 102 = .ok (.ireturn, 1) := by decide +kernel
theorem dX11_count_103 : decode cX11_count 103 = .ok (.aload_n 0, 1) := by decide +kernel
theorem dX11_count_104 : decode cX11_count 104 = .ok (.getfield 97, 3) := by decide +kernel
theorem dX11_count_107 : decode cX11_count 107 = .ok (.ireturn, 1) := by decide +kernel
theorem dX11_count_108 : decode cX11_count 108 = .ok (.aload_n 0, 1) := by decide +kernel
theorem dX11_count_109 : decode cX11_count 109 = .ok (.getfield 101, 3) := by decide +kernel
theorem dX11_count_112 : decode cX11_count 112 = .ok (.ireturn, 1) := by decide +kernel
theorem dX11_count_113 : decode cX11_count 113 = .ok (.aload_n 0, 1) := by decide +kernel
theorem dX11_count_114 : decode cX11_count 114 = .ok (.getfield 104, 3) := by decide +kernel
theorem dX11_count_117 : decode cX11_count 117 = .ok (.ireturn, 1) := by decide +kernel
theorem dX11_count_118 : decode cX11_count 118 = .ok (.aload_n 0, 1) := by decide +kernel
theorem dX11_count_119 : decode cX11_count 119 = .ok (.getfield 107, 3) := by decide +kernel
theorem dX11_count_122 : decode cX11_count 122 = .ok (.ireturn, 1) := by decide +kernel
theorem dX11_count_123 : decode cX11_count 123 = .ok (.iconst (-1), 1) := by decide +kernel
theorem dX11_count_124 : decode cX11_count 124 = .ok (.ireturn, 1) := by decide +kernel
theorem dJ6_bitCount_0f7a4_0 : decode cJ6_bitCount_0f7a4 0 = .ok (.iload_n 0, 1) := by decide +kernel
theorem dJ6_bitCount_0f7a4_1 : decode cJ6_bitCount_0f7a4 1 = .ok (.iload_n 0, 1) := by decide +kernel
theorem dJ6_bitCount_0f7a4_2 : decode cJ6_bitCount_0f7a4 2 = .ok (.iconst 1, 1) := by decide +kernel
theorem dJ6_bitCount_0f7a4_3 : decode cJ6_bitCount_0f7a4 3 = .ok (.iushr, 1) := by decide +kernel
theorem dJ6_bitCount_0f7a4_4 : decode cJ6_bitCount_0f7a4 4 = .ok (.ldc_w 265, 3) := by decide +kernel
theorem dJ6_bitCount_0f7a4_7 : decode cJ6_bitCount_0f7a4 7 = .ok (.iand, 1) := by decide +kernel
theorem dJ6_bitCount_0f7a4_8 : decode cJ6_bitCount_0f7a4 8 = .ok (.isub, 1) := by decide +kernel
theorem dJ6_bitCount_0f7a4_9 : decode cJ6_bitCount_0f7a4 9 = .ok (.istore_n 0, 1) := by decide +kernel
theorem dJ6_bitCount_0f7a4_10 : decode cJ6_bitCount_0f7a4 10 = .ok (.iload_n 0, 1) := by decide +kernel
theorem dJ6_bitCount_0f7a4_11 : decode cJ6_bitCount_0f7a4 11 = .ok (.ldc_w 266, 3) := by decide +kernel
theorem dJ6_bitCount_0f7a4_14 : decode cJ6_bitCount_0f7a4 14 = .ok (.iand, 1) := by decide +kernel
theorem dJ6_bitCount_0f7a4_15 : decode cJ6_bitCount_0f7a4 15 = .ok (.iload_n 0, 1) := by decide +kernel
theorem dJ6_bitCount_0f7a4_16 : decode cJ6_bitCount_0f7a4 16 = .ok (.iconst 2, 1) := by decide +kernel
theorem dJ6_bitCount_0f7a4_17 : decode cJ6_bitCount_0f7a4 17 = .ok (.iushr, 1) := by decide +kernel
theorem dJ6_bitCount_0f7a4_18 : decode cJ6_bitCount_0f7a4 18 = .ok (.ldc_w 266, 3) := by decide +kernel
theorem dJ6_bitCount_0f7a4_21 : decode cJ6_bitCount_0f7a4 21 = .ok (.iand, 1) := by decide +kernel
theorem dJ6_bitCount_0f7a4_22 : decode cJ6_bitCount_0f7a4 22 = .ok (.iadd, 1) := by decide +kernel
theorem dJ6_bitCount_0f7a4_23 : decode cJ6_bitCount_0f7a4 23 = .ok (.istore_n 0, 1) := by decide +kernel
theorem dJ6_bitCount_0f7a4_24 : decode cJ6_bitCount_0f7a4 24 = .ok (.iload_n 0, 1) := by decide +kernel
theorem dJ6_bitCount_0f7a4_25 : decode cJ6_bitCount_0f7a4 25 = .ok (.iload_n 0, 1) := by decide +kernel
theorem dJ6_bitCount_0f7a4_26 : decode cJ6_bitCount_0f7a4 26 = .ok (.iconst 4, 1) := by decide +kernel
theorem dJ6_bitCount_0f7a4_27 : decode cJ6_bitCount_0f7a4 27 = .ok (.iushr, 1) := by decide +kernel
theorem dJ6_bitCount_0f7a4_28 : decode cJ6_bitCount_0f7a4 28 = .ok (.iadd, 1) := by decide +kernel
theorem dJ6_bitCount_0f7a4_29 : decode cJ6_bitCount_0f7a4 29 = .ok (.ldc_w 267, 3) := by decide +kernel
theorem dJ6_bitCount_0f7a4_32 : decode cJ6_bitCount_0f7a4 32 = .ok (.iand, 1) := by decide +kernel
theorem dJ6_bitCount_0f7a4_33 : decode cJ6_bitCount_0f7a4 33 = .ok (.istore_n 0, 1) := by decide +kernel
theorem dJ6_bitCount_0f7a4_34 : decode cJ6_bitCount_0f7a4 34 = .ok (.iload_n 0, 1) := by decide +kernel
theorem dJ6_bitCount_0f7a4_35 : decode cJ6_bitCount_0f7a4 35 = .ok (.iload_n 0, 1) := by decide +kernel
theorem dJ6_bitCount_0f7a4_36 : decode cJ6_bitCount_0f7a4 36 = .ok (.bipush 8, 2) := by decide +kernel
theorem dJ6_bitCount_0f7a4_38 : decode cJ6_bitCount_0f7a4 38 = .ok (.iushr, 1) := by decide +kernel
theorem dJ6_bitCount_0f7a4_39 : decode cJ6_bitCount_0f7a4 39 = .ok (.iadd, 1) := by decide +kernel
theorem dJ6_bitCount_0f7a4_40 : decode cJ6_bitCount_0f7a4 40 = .ok (.istore_n 0, 1) := by decide +kernel
theorem dJ6_bitCount_0f7a4_41 : decode cJ6_bitCount_0f7a4 41 = .ok (.iload_n 0, 1) := by decide +kernel
theorem dJ6_bitCount_0f7a4_42 : decode cJ6_bitCount_0f7a4 42 = .ok (.iload_n 0, 1) := by decide +kernel
theorem dJ6_bitCount_0f7a4_43 : decode cJ6_bitCount_0f7a4 43 = .ok (.bipush 16, 2) := by decide +kernel
theorem dJ6_bitCount_0f7a4_45 : decode cJ6_bitCount_0f7a4 45 = .ok (.iushr, 1) := by decide +kernel
theorem dJ6_bitCount_0f7a4_46 : decode cJ6_bitCount_0f7a4 46 = .ok (.iadd, 1) := by decide +kernel
theorem dJ6_bitCount_0f7a4_47 : decode cJ6_bitCount_0f7a4 47 = .ok (.istore_n 0, 1) := by decide +kernel
theorem dJ6_bitCount_0f7a4_48 : decode cJ6_bitCount_0f7a4 48 = .ok (.iload_n 0, 1) := by decide +kernel
theorem dJ6_bitCount_0f7a4_49 : decode cJ6_bitCount_0f7a4 49 = .ok (.bipush 63, 2) := by decide +kernel
theorem dJ6_bitCount_0f7a4_51 : decode cJ6_bitCount_0f7a4 51 = .ok (.iand, 1) := by decide +kernel
theorem dJ6_bitCount_0f7a4_52 : decode cJ6_bitCount_0f7a4 52 = .ok (.ireturn, 1) := by decide +kernel
theorem dJ9_floorMod_7cf53_0 : decode cJ9_floorMod_7cf53 0 = .ok (.iload_n 0, 1) := by decide +kernel
theorem dJ9_floorMod_7cf53_1 : decode cJ9_floorMod_7cf53 1 = .ok (.iload_n 1, 1) := by decide +kernel
theorem dJ9_floorMod_7cf53_2 : decode cJ9_floorMod_7cf53 2 = .ok (.irem, 1) := by decide +kernel
theorem dJ9_floorMod_7cf53_3 : decode cJ9_floorMod_7cf53 3 = .ok (.istore_n 2, 1) := by decide +kernel
theorem dJ9_floorMod_7cf53_4 : decode cJ9_floorMod_7cf53 4 = .ok (.iload_n 0, 1) := by decide +kernel
theorem dJ9_floorMod_7cf53_5 : decode cJ9_floorMod_7cf53 5 = .ok (.iload_n 1, 1) := by decide +kernel
theorem dJ9_floorMod_7cf53_6 : decode cJ9_floorMod_7cf53 6 = .ok (.ixor, 1) := by decide +kernel
theorem dJ9_floorMod_7cf53_7 : decode cJ9_floorMod_7cf53 7 = .ok (.ifCond .ge 11, 3) := by decide +kernel
theorem dJ9_floorMod_7cf53_10 : decode cJ9_floorMod_7cf53 10 = .ok (.iload_n 2, 1) := by decide +kernel
theorem dJ9_floorMod_7cf53_11 : decode cJ9_floorMod_7cf53 11 = .ok (.ifCond .eq 7, 3) := by decide +kernel
theorem dJ9_floorMod_7cf53_14 : decode cJ9_floorMod_7cf53 14 = .ok (.iload_n 2, 1) := by decide +kernel
theorem dJ9_floorMod_7cf53_15 : decode cJ9_floorMod_7cf53 15 = .ok (.iload_n 1, 1) := by decide +kernel
theorem dJ9_floorMod_7cf53_16 : decode cJ9_floorMod_7cf53 16 = .ok (.iadd, 1) := by decide +kernel
theorem dJ9_floorMod_7cf53_17 : decode cJ9_floorMod_7cf53 17 = .ok (.ireturn, 1) := by decide +kernel
theorem dJ9_floorMod_7cf53_18 : decode cJ9_floorMod_7cf53 18 = .ok (.iload_n 2, 1) := by decide +kernel
theorem dJ9_floorMod_7cf53_19 : decode cJ9_floorMod_7cf53 19 = .ok (.ireturn, 1) := by decide +kernel
theorem dJ9_max_7cf53_0 : decode cJ9_max_7cf53 0 = .ok (.iload_n 0, 1) := by decide +kernel
theorem dJ9_max_7cf53_1 : decode cJ9_max_7cf53 1 = .ok (.iload_n 1, 1) := by decide +kernel
theorem dJ9_max_7cf53_2 : decode cJ9_max_7cf53 2 = .ok (.if_icmp .lt 7, 3) := by decide +kernel
theorem dJ9_max_7cf53_5 : decode cJ9_max_7cf53 5 = .ok (.iload_n 0, 1) := by decide +kernel
theorem dJ9_max_7cf53_6 : decode cJ9_max_7cf53 6 = .ok (.goto 4, 3) := by decide +kernel
theorem dJ9_max_7cf53_9 : decode cJ9_max_7cf53 9 = .ok (.iload_n 1, 1) := by decide +kernel
theorem dJ9_max_7cf53_10 : decode cJ9_max_7cf53 10 = .ok (.ireturn, 1) := by decide +kernel
theorem dJ9_min_7cf53_0 : decode cJ9_min_7cf53 0 = .ok (.iload_n 0, 1) := by decide +kernel
theorem dJ9_min_7cf53_1 : decode cJ9_min_7cf53 1 = .ok (.iload_n 1, 1) := by decide +kernel
theorem dJ9_min_7cf53_2 : decode cJ9_min_7cf53 2 = .ok (.if_icmp .gt 7, 3) := by decide +kernel
theorem dJ9_min_7cf53_5 : decode cJ9_min_7cf53 5 = .ok (.iload_n 0, 1) := by decide +kernel
theorem dJ9_min_7cf53_6 : decode cJ9_min_7cf53 6 = .ok (.goto 4, 3) := by decide +kernel
theorem dJ9_min_7cf53_9 : decode cJ9_min_7cf53 9 = .ok (.iload_n 1, 1) := by decide +kernel
theorem dJ9_min_7cf53_10 : decode cJ9_min_7cf53 10 = .ok (.ireturn, 1) := by decide +kernel
theorem dJ7_fill_53178_0 : decode cJ7_fill_53178 0 = .ok (.iconst 0, 1) := by decide +kernel
theorem dJ7_fill_53178_1 : decode cJ7_fill_53178 1 = .ok (.istore_n 2, 1) := by decide +kernel
theorem dJ7_fill_53178_2 : decode cJ7_fill_53178 2 = .ok (.aload_n 0, 1) := by decide +kernel
theorem dJ7_fill_53178_3 : decode cJ7_fill_53178 3 = .ok (.arraylength, 1) := by decide +kernel
theorem dJ7_fill_53178_4 : decode cJ7_fill_53178 4 = .ok (.istore_n 3, 1) := by decide +kernel
theorem dJ7_fill_53178_5 : decode cJ7_fill_53178 5 = .ok (.iload_n 2, 1) := by decide +kernel
theorem dJ7_fill_53178_6 : decode cJ7_fill_53178 6 = .ok (.iload_n 3, 1) := by decide +kernel
theorem dJ7_fill_53178_7 : decode cJ7_fill_53178 7 = .ok (.if_icmp .ge 13, 3) := by decide +kernel
theorem dJ7_fill_53178_10 : decode cJ7_fill_53178 10 = .ok (.aload_n 0, 1) := by decide +kernel
theorem dJ7_fill_53178_11 : decode cJ7_fill_53178 11 = .ok (.iload_n 2, 1) := by decide +kernel
theorem dJ7_fill_53178_12 : decode cJ7_fill_53178 12 = .ok (.iload_n 1, 1) := by decide +kernel
theorem dJ7_fill_53178_13 : decode cJ7_fill_53178 13 = .ok (.iastore, 1) := by decide +kernel
theorem dJ7_fill_53178_14 : decode cJ7_fill_53178 14 = .ok (.iinc 2 1, 3) := by decide +kernel
theorem dJ7_fill_53178_17 : decode cJ7_fill_53178 17 = .ok (.goto (-12), 3) := by decide +kernel
theorem dJ7_fill_53178_20 : decode cJ7_fill_53178 20 = .ok (.return_, 1) := by decide +kernel
theorem dL_cell_0 : decode cL_cell 0 = .ok (.iload_n 1, 1) := by decide +kernel
theorem dL_cell_1 : decode cL_cell 1 = .ok (.aload_n 0, 1) := by decide +kernel
theorem dL_cell_2 : decode cL_cell 2 = .ok (.arraylength, 1) := by decide +kernel
theorem dL_cell_3 : decode cL_cell 3 = .ok (.if_icmp .ge 9, 3) := by decide +kernel
theorem dL_cell_6 : decode cL_cell 6 = .ok (.aload_n 0, 1) := by decide +kernel
theorem dL_cell_7 : decode cL_cell 7 = .ok (.iload_n 1, 1) := by decide +kernel
theorem dL_cell_8 : decode cL_cell 8 = .ok (.iaload, 1) := by decide +kernel
theorem dL_cell_9 : decode cL_cell 9 = .ok (.goto 4, 3) := by decide +kernel
theorem dL_cell_12 : decode cL_cell 12 = .ok (.iconst 0, 1) := by decide +kernel
theorem dL_cell_13 : decode cL_cell 13 = .ok (.ireturn, 1) := by decide +kernel
theorem dL_law_0 : decode cL_law 0 = .ok (.new 7, 3) := by decide +kernel
theorem dL_law_3 : decode cL_law 3 = .ok (.dup, 1) := by decide +kernel
theorem dL_law_4 : decode cL_law 4 = .ok (.aload_n 0, 1) := by decide +kernel
theorem dL_law_5 : decode cL_law 5 = .ok (.iconst 0, 1) := by decide +kernel
theorem dL_law_6 : decode cL_law 6 = .ok (.invokestatic 9, 3) := by decide +kernel
theorem dL_law_9 : decode cL_law 9 = .ok (.aload_n 0, 1) := by decide +kernel
theorem dL_law_10 : decode cL_law 10 = .ok (.iconst 1, 1) := by decide +kernel
theorem dL_law_11 : decode cL_law 11 = .ok (.invokestatic 9, 3) := by decide +kernel
theorem dL_law_14 : decode cL_law 14 = .ok (.aload_n 0, 1) := by decide +kernel
theorem dL_law_15 : decode cL_law 15 = .ok (.iconst 2, 1) := by decide +kernel
theorem dL_law_16 : decode cL_law 16 = .ok (.invokestatic 9, 3) := by decide +kernel
theorem dL_law_19 : decode cL_law 19 = .ok (.aload_n 0, 1) := by decide +kernel
theorem dL_law_20 : decode cL_law 20 = .ok (.iconst 3, 1) := by decide +kernel
theorem dL_law_21 : decode cL_law 21 = .ok (.invokestatic 9, 3) := by decide +kernel
theorem dL_law_24 : decode cL_law 24 = .ok (.aload_n 0, 1) := by decide +kernel
theorem dL_law_25 : decode cL_law 25 = .ok (.iconst 4, 1) := by decide +kernel
theorem dL_law_26 : decode cL_law 26 = .ok (.invokestatic 9, 3) := by decide +kernel
theorem dL_law_29 : decode cL_law 29 = .ok (.aload_n 0, 1) := by decide +kernel
theorem dL_law_30 : decode cL_law 30 = .ok (.iconst 5, 1) := by decide +kernel
theorem dL_law_31 : decode cL_law 31 = .ok (.invokestatic 9, 3) := by decide +kernel
theorem dL_law_34 : decode cL_law 34 = .ok (.invokespecial 15, 3) := by decide +kernel
theorem dL_law_37 : decode cL_law 37 = .ok (.astore_n 1, 1) := by decide +kernel
theorem dL_law_38 : decode cL_law 38 = .ok (.new 18, 3) := by decide +kernel
theorem dL_law_41 : decode cL_law 41 = .ok (.dup, 1) := by decide +kernel
theorem dL_law_42 : decode cL_law 42 = .ok (.aload_n 0, 1) := by decide +kernel
theorem dL_law_43 : decode cL_law 43 = .ok (.iconst 0, 1) := by decide +kernel
theorem dL_law_44 : decode cL_law 44 = .ok (.invokestatic 9, 3) := by decide +kernel
theorem dL_law_47 : decode cL_law 47 = .ok (.aload_n 0, 1) := by decide +kernel
theorem dL_law_48 : decode cL_law 48 = .ok (.iconst 1, 1) := by decide +kernel
theorem dL_law_49 : decode cL_law 49 = .ok (.invokestatic 9, 3) := by decide +kernel
theorem dL_law_52 : decode cL_law 52 = .ok (.aload_n 0, 1) := by decide +kernel
theorem dL_law_53 : decode cL_law 53 = .ok (.iconst 2, 1) := by decide +kernel
theorem dL_law_54 : decode cL_law 54 = .ok (.invokestatic 9, 3) := by decide +kernel
theorem dL_law_57 : decode cL_law 57 = .ok (.aload_n 0, 1) := by decide +kernel
theorem dL_law_58 : decode cL_law 58 = .ok (.iconst 3, 1) := by decide +kernel
theorem dL_law_59 : decode cL_law 59 = .ok (.invokestatic 9, 3) := by decide +kernel
theorem dL_law_62 : decode cL_law 62 = .ok (.aload_n 0, 1) := by decide +kernel
theorem dL_law_63 : decode cL_law 63 = .ok (.iconst 4, 1) := by decide +kernel
theorem dL_law_64 : decode cL_law 64 = .ok (.invokestatic 9, 3) := by decide +kernel
theorem dL_law_67 : decode cL_law 67 = .ok (.aload_n 0, 1) := by decide +kernel
theorem dL_law_68 : decode cL_law 68 = .ok (.iconst 5, 1) := by decide +kernel
theorem dL_law_69 : decode cL_law 69 = .ok (.invokestatic 9, 3) := by decide +kernel
theorem dL_law_72 : decode cL_law 72 = .ok (.invokespecial 20, 3) := by decide +kernel
theorem dL_law_75 : decode cL_law 75 = .ok (.astore_n 2, 1) := by decide +kernel
theorem dL_law_76 : decode cL_law 76 = .ok (.bipush 6, 2) := by decide +kernel
theorem dL_law_78 : decode cL_law 78 = .ok (.istore_n 3, 1) := by decide +kernel
theorem dL_law_79 : decode cL_law 79 = .ok (.iload_n 3, 1) := by decide +kernel
theorem dL_law_80 : decode cL_law 80 = .ok (.aload_n 0, 1) := by decide +kernel
theorem dL_law_81 : decode cL_law 81 = .ok (.arraylength, 1) := by decide +kernel
theorem dL_law_82 : decode cL_law 82 = .ok (.iconst 5, 1) := by decide +kernel
theorem dL_law_83 : decode cL_law 83 = .ok (.isub, 1) := by decide +kernel
theorem dL_law_84 : decode cL_law 84 = .ok (.if_icmp .gt 843, 3) := by decide +kernel
theorem dL_law_87 : decode cL_law 87 = .ok (.aload_n 0, 1) := by decide +kernel
theorem dL_law_88 : decode cL_law 88 = .ok (.iload_n 3, 1) := by decide +kernel
theorem dL_law_89 : decode cL_law 89 = .ok (.iaload, 1) := by decide +kernel
theorem dL_law_90 : decode cL_law 90 = .ok (.bipush 31, 2) := by decide +kernel
theorem dL_law_92 : decode cL_law 92 = .ok (.iand, 1) := by decide +kernel
theorem dL_law_93 : decode cL_law 93 = .ok (.tableswitch 828 0 22 #[107, 130, 164, 177, 250, 273, 296, 319, 343, 366, 389, 412, 445, 468, 491, 504, 567, 600, 633, 666, 709, 752, 805], 107) := by decide +kernel
theorem dL_law_200 : decode cL_law 200 = .ok (.aload_n 1, 1) := by decide +kernel
theorem dL_law_201 : decode cL_law 201 = .ok (.aload_n 0, 1) := by decide +kernel
theorem dL_law_202 : decode cL_law 202 = .ok (.iload_n 3, 1) := by decide +kernel
theorem dL_law_203 : decode cL_law 203 = .ok (.iconst 1, 1) := by decide +kernel
theorem dL_law_204 : decode cL_law 204 = .ok (.iadd, 1) := by decide +kernel
theorem dL_law_205 : decode cL_law 205 = .ok (.iaload, 1) := by decide +kernel
theorem dL_law_206 : decode cL_law 206 = .ok (.invokevirtual 21, 3) := by decide +kernel
theorem dL_law_209 : decode cL_law 209 = .ok (.aload_n 2, 1) := by decide +kernel
theorem dL_law_210 : decode cL_law 210 = .ok (.aload_n 0, 1) := by decide +kernel
theorem dL_law_211 : decode cL_law 211 = .ok (.iload_n 3, 1) := by decide +kernel
theorem dL_law_212 : decode cL_law 212 = .ok (.iconst 1, 1) := by decide +kernel
theorem dL_law_213 : decode cL_law 213 = .ok (.iadd, 1) := by decide +kernel
theorem dL_law_214 : decode cL_law 214 = .ok (.iaload, 1) := by decide +kernel
theorem dL_law_215 : decode cL_law 215 = .ok (.invokevirtual 25, 3) := by decide +kernel
theorem dL_law_218 : decode cL_law 218 = .ok (.if_icmp .eq 703, 3) := by decide +kernel
theorem dL_law_221 : decode cL_law 221 = .ok (.iconst 0, 1) := by decide +kernel
theorem dL_law_222 : decode cL_law 222 = .ok (.ireturn, 1) := by decide +kernel
theorem dL_law_223 : decode cL_law 223 = .ok (.aload_n 1, 1) := by decide +kernel
theorem dL_law_224 : decode cL_law 224 = .ok (.aload_n 0, 1) := by decide +kernel
theorem dL_law_225 : decode cL_law 225 = .ok (.iload_n 3, 1) := by decide +kernel
theorem dL_law_226 : decode cL_law 226 = .ok (.iconst 1, 1) := by decide +kernel
theorem dL_law_227 : decode cL_law 227 = .ok (.iadd, 1) := by decide +kernel
theorem dL_law_228 : decode cL_law 228 = .ok (.iaload, 1) := by decide +kernel
theorem dL_law_229 : decode cL_law 229 = .ok (.aload_n 0, 1) := by decide +kernel
theorem dL_law_230 : decode cL_law 230 = .ok (.iload_n 3, 1) := by decide +kernel
theorem dL_law_231 : decode cL_law 231 = .ok (.iconst 2, 1) := by decide +kernel
theorem dL_law_232 : decode cL_law 232 = .ok (.iadd, 1) := by decide +kernel
theorem dL_law_233 : decode cL_law 233 = .ok (.iaload, 1) := by decide +kernel
theorem dL_law_234 : decode cL_law 234 = .ok (.invokevirtual 26, 3) := by decide +kernel
theorem dL_law_237 : decode cL_law 237 = .ok (.aload_n 2, 1) := by decide +kernel
theorem dL_law_238 : decode cL_law 238 = .ok (.aload_n 0, 1) := by decide +kernel
theorem dL_law_239 : decode cL_law 239 = .ok (.iload_n 3, 1) := by decide +kernel
theorem dL_law_240 : decode cL_law 240 = .ok (.iconst 1, 1) := by decide +kernel
theorem dL_law_241 : decode cL_law 241 = .ok (.iadd, 1) := by decide +kernel
theorem dL_law_242 : decode cL_law 242 = .ok (.iaload, 1) := by decide +kernel
theorem dL_law_243 : decode cL_law 243 = .ok (.aload_n 0, 1) := by decide +kernel
theorem dL_law_244 : decode cL_law 244 = .ok (.iload_n 3, 1) := by decide +kernel
theorem dL_law_245 : decode cL_law 245 = .ok (.iconst 2, 1) := by decide +kernel
theorem dL_law_246 : decode cL_law 246 = .ok (.iadd, 1) := by decide +kernel
theorem dL_law_247 : decode cL_law 247 = .ok (.iaload, 1) := by decide +kernel
theorem dL_law_248 : decode cL_law 248 = .ok (.invokevirtual 30, 3) := by decide +kernel
theorem dL_law_251 : decode cL_law 251 = .ok (.lcmp, 1) := by decide +kernel
theorem dL_law_252 : decode cL_law 252 = .ok (.ifCond .eq 669, 3) := by decide +kernel
theorem dL_law_255 : decode cL_law 255 = .ok (.iconst 0, 1) := by decide +kernel
theorem dL_law_256 : decode cL_law 256 = .ok (.ireturn, 1) := by decide +kernel
theorem dL_law_257 : decode cL_law 257 = .ok (.aload_n 1, 1) := by decide +kernel
theorem dL_law_258 : decode cL_law 258 = .ok (.invokevirtual 31, 3) := by decide +kernel
theorem dL_law_261 : decode cL_law 261 = .ok (.aload_n 2, 1) := by decide +kernel
theorem dL_law_262 : decode cL_law 262 = .ok (.invokevirtual 35, 3) := by decide +kernel
theorem dL_law_265 : decode cL_law 265 = .ok (.if_icmp .eq 656, 3) := by decide +kernel
theorem dL_law_268 : decode cL_law 268 = .ok (.iconst 0, 1) := by decide +kernel
theorem dL_law_269 : decode cL_law 269 = .ok (.ireturn, 1) := by decide +kernel
theorem dL_law_270 : decode cL_law 270 = .ok (.aload_n 1, 1) := by decide +kernel
theorem dL_law_271 : decode cL_law 271 = .ok (.aload_n 0, 1) := by decide +kernel
theorem dL_law_272 : decode cL_law 272 = .ok (.iload_n 3, 1) := by decide +kernel
theorem dL_law_273 : decode cL_law 273 = .ok (.iconst 1, 1) := by decide +kernel
theorem dL_law_274 : decode cL_law 274 = .ok (.iadd, 1) := by decide +kernel
theorem dL_law_275 : decode cL_law 275 = .ok (.iaload, 1) := by decide +kernel
theorem dL_law_276 : decode cL_law 276 = .ok (.aload_n 0, 1) := by decide +kernel
theorem dL_law_277 : decode cL_law 277 = .ok (.iload_n 3, 1) := by decide +kernel
theorem dL_law_278 : decode cL_law 278 = .ok (.iconst 2, 1) := by decide +kernel
theorem dL_law_279 : decode cL_law 279 = .ok (.iadd, 1) := by decide +kernel
theorem dL_law_280 : decode cL_law 280 = .ok (.iaload, 1) := by decide +kernel
theorem dL_law_281 : decode cL_law 281 = .ok (.aload_n 0, 1) := by decide +kernel
theorem dL_law_282 : decode cL_law 282 = .ok (.iload_n 3, 1) := by decide +kernel
theorem dL_law_283 : decode cL_law 283 = .ok (.iconst 3, 1) := by decide +kernel
theorem dL_law_284 : decode cL_law 284 = .ok (.iadd, 1) := by decide +kernel
theorem dL_law_285 : decode cL_law 285 = .ok (.iaload, 1) := by decide +kernel
theorem dL_law_286 : decode cL_law 286 = .ok (.i2l, 1) := by decide +kernel
theorem dL_law_287 : decode cL_law 287 = .ok (.bipush 32, 2) := by decide +kernel
theorem dL_law_289 : decode cL_law 289 = .ok (.lshl, 1) := by decide +kernel
theorem dL_law_290 : decode cL_law 290 = .ok (.aload_n 0, 1) := by decide +kernel
theorem dL_law_291 : decode cL_law 291 = .ok (.iload_n 3, 1) := by decide +kernel
theorem dL_law_292 : decode cL_law 292 = .ok (.iconst 4, 1) := by decide +kernel
theorem dL_law_293 : decode cL_law 293 = .ok (.iadd, 1) := by decide +kernel
theorem dL_law_294 : decode cL_law 294 = .ok (.iaload, 1) := by decide +kernel
theorem dL_law_295 : decode cL_law 295 = .ok (.i2l, 1) := by decide +kernel
theorem dL_law_296 : decode cL_law 296 = .ok (.ldc2_w 36, 3) := by decide +kernel
theorem dL_law_299 : decode cL_law 299 = .ok (.land, 1) := by decide +kernel
theorem dL_law_300 : decode cL_law 300 = .ok (.lor, 1) := by decide +kernel
theorem dL_law_301 : decode cL_law 301 = .ok (.invokevirtual 38, 3) := by decide +kernel
theorem dL_law_304 : decode cL_law 304 = .ok (.aload_n 2, 1) := by decide +kernel
theorem dL_law_305 : decode cL_law 305 = .ok (.aload_n 0, 1) := by decide +kernel
theorem dL_law_306 : decode cL_law 306 = .ok (.iload_n 3, 1) := by decide +kernel
theorem dL_law_307 : decode cL_law 307 = .ok (.iconst 1, 1) := by decide +kernel
theorem dL_law_308 : decode cL_law 308 = .ok (.iadd, 1) := by decide +kernel
theorem dL_law_309 : decode cL_law 309 = .ok (.iaload, 1) := by decide +kernel
theorem dL_law_310 : decode cL_law 310 = .ok (.aload_n 0, 1) := by decide +kernel
theorem dL_law_311 : decode cL_law 311 = .ok (.iload_n 3, 1) := by decide +kernel
theorem dL_law_312 : decode cL_law 312 = .ok (.iconst 2, 1) := by decide +kernel
theorem dL_law_313 : decode cL_law 313 = .ok (.iadd, 1) := by decide +kernel
theorem dL_law_314 : decode cL_law 314 = .ok (.iaload, 1) := by decide +kernel
theorem dL_law_315 : decode cL_law 315 = .ok (.aload_n 0, 1) := by decide +kernel
theorem dL_law_316 : decode cL_law 316 = .ok (.iload_n 3, 1) := by decide +kernel
theorem dL_law_317 : decode cL_law 317 = .ok (.iconst 3, 1) := by decide +kernel
theorem dL_law_318 : decode cL_law 318 = .ok (.iadd, 1) := by decide +kernel
theorem dL_law_319 : decode cL_law 319 = .ok (.iaload, 1) := by decide +kernel
theorem dL_law_320 : decode cL_law 320 = .ok (.i2l, 1) := by decide +kernel
theorem dL_law_321 : decode cL_law 321 = .ok (.bipush 32, 2) := by decide +kernel
theorem dL_law_323 : decode cL_law 323 = .ok (.lshl, 1) := by decide +kernel
theorem dL_law_324 : decode cL_law 324 = .ok (.aload_n 0, 1) := by decide +kernel
theorem dL_law_325 : decode cL_law 325 = .ok (.iload_n 3, 1) := by decide +kernel
theorem dL_law_326 : decode cL_law 326 = .ok (.iconst 4, 1) := by decide +kernel
theorem dL_law_327 : decode cL_law 327 = .ok (.iadd, 1) := by decide +kernel
theorem dL_law_328 : decode cL_law 328 = .ok (.iaload, 1) := by decide +kernel
theorem dL_law_329 : decode cL_law 329 = .ok (.i2l, 1) := by decide +kernel
theorem dL_law_330 : decode cL_law 330 = .ok (.ldc2_w 36, 3) := by decide +kernel
theorem dL_law_333 : decode cL_law 333 = .ok (.land, 1) := by decide +kernel
theorem dL_law_334 : decode cL_law 334 = .ok (.lor, 1) := by decide +kernel
theorem dL_law_335 : decode cL_law 335 = .ok (.invokevirtual 42, 3) := by decide +kernel
theorem dL_law_338 : decode cL_law 338 = .ok (.if_icmp .eq 583, 3) := by decide +kernel
theorem dL_law_341 : decode cL_law 341 = .ok (.iconst 0, 1) := by decide +kernel
theorem dL_law_342 : decode cL_law 342 = .ok (.ireturn, 1) := by decide +kernel
theorem dL_law_343 : decode cL_law 343 = .ok (.aload_n 1, 1) := by decide +kernel
theorem dL_law_344 : decode cL_law 344 = .ok (.aload_n 0, 1) := by decide +kernel
theorem dL_law_345 : decode cL_law 345 = .ok (.iload_n 3, 1) := by decide +kernel
theorem dL_law_346 : decode cL_law 346 = .ok (.iconst 1, 1) := by decide +kernel
theorem dL_law_347 : decode cL_law 347 = .ok (.iadd, 1) := by decide +kernel
theorem dL_law_348 : decode cL_law 348 = .ok (.iaload, 1) := by decide +kernel
theorem dL_law_349 : decode cL_law 349 = .ok (.invokevirtual 43, 3) := by decide +kernel
theorem dL_law_352 : decode cL_law 352 = .ok (.aload_n 2, 1) := by decide +kernel
theorem dL_law_353 : decode cL_law 353 = .ok (.aload_n 0, 1) := by decide +kernel
theorem dL_law_354 : decode cL_law 354 = .ok (.iload_n 3, 1) := by decide +kernel
theorem dL_law_355 : decode cL_law 355 = .ok (.iconst 1, 1) := by decide +kernel
theorem dL_law_356 : decode cL_law 356 = .ok (.iadd, 1) := by decide +kernel
theorem dL_law_357 : decode cL_law 357 = .ok (.iaload, 1) := by decide +kernel
theorem dL_law_358 : decode cL_law 358 = .ok (.invokevirtual 46, 3) := by decide +kernel
theorem dL_law_361 : decode cL_law 361 = .ok (.if_icmp .eq 560, 3) := by decide +kernel
theorem dL_law_364 : decode cL_law 364 = .ok (.iconst 0, 1) := by decide +kernel
theorem dL_law_365 : decode cL_law 365 = .ok (.ireturn, 1) := by decide +kernel
theorem dL_law_366 : decode cL_law 366 = .ok (.aload_n 1, 1) := by decide +kernel
theorem dL_law_367 : decode cL_law 367 = .ok (.aload_n 0, 1) := by decide +kernel
theorem dL_law_368 : decode cL_law 368 = .ok (.iload_n 3, 1) := by decide +kernel
theorem dL_law_369 : decode cL_law 369 = .ok (.iconst 1, 1) := by decide +kernel
theorem dL_law_370 : decode cL_law 370 = .ok (.iadd, 1) := by decide +kernel
theorem dL_law_371 : decode cL_law 371 = .ok (.iaload, 1) := by decide +kernel
theorem dL_law_372 : decode cL_law 372 = .ok (.invokevirtual 47, 3) := by decide +kernel
theorem dL_law_375 : decode cL_law 375 = .ok (.aload_n 2, 1) := by decide +kernel
theorem dL_law_376 : decode cL_law 376 = .ok (.aload_n 0, 1) := by decide +kernel
theorem dL_law_377 : decode cL_law 377 = .ok (.iload_n 3, 1) := by decide +kernel
theorem dL_law_378 : decode cL_law 378 = .ok (.iconst 1, 1) := by decide +kernel
theorem dL_law_379 : decode cL_law 379 = .ok (.iadd, 1) := by decide +kernel
theorem dL_law_380 : decode cL_law 380 = .ok (.iaload, 1) := by decide +kernel
theorem dL_law_381 : decode cL_law 381 = .ok (.invokevirtual 50, 3) := by decide +kernel
theorem dL_law_384 : decode cL_law 384 = .ok (.if_icmp .eq 537, 3) := by decide +kernel
theorem dL_law_387 : decode cL_law 387 = .ok (.iconst 0, 1) := by decide +kernel
theorem dL_law_388 : decode cL_law 388 = .ok (.ireturn, 1) := by decide +kernel
theorem dL_law_389 : decode cL_law 389 = .ok (.aload_n 1, 1) := by decide +kernel
theorem dL_law_390 : decode cL_law 390 = .ok (.aload_n 0, 1) := by decide +kernel
theorem dL_law_391 : decode cL_law 391 = .ok (.iload_n 3, 1) := by decide +kernel
theorem dL_law_392 : decode cL_law 392 = .ok (.iconst 1, 1) := by decide +kernel
theorem dL_law_393 : decode cL_law 393 = .ok (.iadd, 1) := by decide +kernel
theorem dL_law_394 : decode cL_law 394 = .ok (.iaload, 1) := by decide +kernel
theorem dL_law_395 : decode cL_law 395 = .ok (.invokevirtual 51, 3) := by decide +kernel
theorem dL_law_398 : decode cL_law 398 = .ok (.aload_n 2, 1) := by decide +kernel
theorem dL_law_399 : decode cL_law 399 = .ok (.aload_n 0, 1) := by decide +kernel
theorem dL_law_400 : decode cL_law 400 = .ok (.iload_n 3, 1) := by decide +kernel
theorem dL_law_401 : decode cL_law 401 = .ok (.iconst 1, 1) := by decide +kernel
theorem dL_law_402 : decode cL_law 402 = .ok (.iadd, 1) := by decide +kernel
theorem dL_law_403 : decode cL_law 403 = .ok (.iaload, 1) := by decide +kernel
theorem dL_law_404 : decode cL_law 404 = .ok (.invokevirtual 54, 3) := by decide +kernel
theorem dL_law_407 : decode cL_law 407 = .ok (.if_icmp .eq 514, 3) := by decide +kernel
theorem dL_law_410 : decode cL_law 410 = .ok (.iconst 0, 1) := by decide +kernel
theorem dL_law_411 : decode cL_law 411 = .ok (.ireturn, 1) := by decide +kernel
theorem dL_law_412 : decode cL_law 412 = .ok (.aload_n 1, 1) := by decide +kernel
theorem dL_law_413 : decode cL_law 413 = .ok (.aload_n 0, 1) := by decide +kernel
theorem dL_law_414 : decode cL_law 414 = .ok (.iload_n 3, 1) := by decide +kernel
theorem dL_law_415 : decode cL_law 415 = .ok (.iconst 1, 1) := by decide +kernel
theorem dL_law_416 : decode cL_law 416 = .ok (.iadd, 1) := by decide +kernel
theorem dL_law_417 : decode cL_law 417 = .ok (.iaload, 1) := by decide +kernel
theorem dL_law_418 : decode cL_law 418 = .ok (.invokevirtual 55, 3) := by decide +kernel
theorem dL_law_421 : decode cL_law 421 = .ok (.aload_n 2, 1) := by decide +kernel
theorem dL_law_422 : decode cL_law 422 = .ok (.aload_n 0, 1) := by decide +kernel
theorem dL_law_423 : decode cL_law 423 = .ok (.iload_n 3, 1) := by decide +kernel
theorem dL_law_424 : decode cL_law 424 = .ok (.iconst 1, 1) := by decide +kernel
theorem dL_law_425 : decode cL_law 425 = .ok (.iadd, 1) := by decide +kernel
theorem dL_law_426 : decode cL_law 426 = .ok (.iaload, 1) := by decide +kernel
theorem dL_law_427 : decode cL_law 427 = .ok (.invokevirtual 59, 3) := by decide +kernel
theorem dL_law_430 : decode cL_law 430 = .ok (.lcmp, 1) := by decide +kernel
theorem dL_law_431 : decode cL_law 431 = .ok (.ifCond .eq 490, 3) := by decide +kernel
theorem dL_law_434 : decode cL_law 434 = .ok (.iconst 0, 1) := by decide +kernel
theorem dL_law_435 : decode cL_law 435 = .ok (.ireturn, 1) := by decide +kernel
theorem dL_law_436 : decode cL_law 436 = .ok (.aload_n 1, 1) := by decide +kernel
theorem dL_law_437 : decode cL_law 437 = .ok (.aload_n 0, 1) := by decide +kernel
theorem dL_law_438 : decode cL_law 438 = .ok (.iload_n 3, 1) := by decide +kernel
theorem dL_law_439 : decode cL_law 439 = .ok (.iconst 1, 1) := by decide +kernel
theorem dL_law_440 : decode cL_law 440 = .ok (.iadd, 1) := by decide +kernel
theorem dL_law_441 : decode cL_law 441 = .ok (.iaload, 1) := by decide +kernel
theorem dL_law_442 : decode cL_law 442 = .ok (.invokevirtual 60, 3) := by decide +kernel
theorem dL_law_445 : decode cL_law 445 = .ok (.aload_n 2, 1) := by decide +kernel
theorem dL_law_446 : decode cL_law 446 = .ok (.aload_n 0, 1) := by decide +kernel
theorem dL_law_447 : decode cL_law 447 = .ok (.iload_n 3, 1) := by decide +kernel
theorem dL_law_448 : decode cL_law 448 = .ok (.iconst 1, 1) := by decide +kernel
theorem dL_law_449 : decode cL_law 449 = .ok (.iadd, 1) := by decide +kernel
theorem dL_law_450 : decode cL_law 450 = .ok (.iaload, 1) := by decide +kernel
theorem dL_law_451 : decode cL_law 451 = .ok (.invokevirtual 63, 3) := by decide +kernel
theorem dL_law_454 : decode cL_law 454 = .ok (.if_icmp .eq 467, 3) := by decide +kernel
theorem dL_law_457 : decode cL_law 457 = .ok (.iconst 0, 1) := by decide +kernel
theorem dL_law_458 : decode cL_law 458 = .ok (.ireturn, 1) := by decide +kernel
theorem dL_law_459 : decode cL_law 459 = .ok (.aload_n 1, 1) := by decide +kernel
theorem dL_law_460 : decode cL_law 460 = .ok (.aload_n 0, 1) := by decide +kernel
theorem dL_law_461 : decode cL_law 461 = .ok (.iload_n 3, 1) := by decide +kernel
theorem dL_law_462 : decode cL_law 462 = .ok (.iconst 1, 1) := by decide +kernel
theorem dL_law_463 : decode cL_law 463 = .ok (.iadd, 1) := by decide +kernel
theorem dL_law_464 : decode cL_law 464 = .ok (.iaload, 1) := by decide +kernel
theorem dL_law_465 : decode cL_law 465 = .ok (.invokevirtual 64, 3) := by decide +kernel
theorem dL_law_468 : decode cL_law 468 = .ok (.aload_n 2, 1) := by decide +kernel
theorem dL_law_469 : decode cL_law 469 = .ok (.aload_n 0, 1) := by decide +kernel
theorem dL_law_470 : decode cL_law 470 = .ok (.iload_n 3, 1) := by decide +kernel
theorem dL_law_471 : decode cL_law 471 = .ok (.iconst 1, 1) := by decide +kernel
theorem dL_law_472 : decode cL_law 472 = .ok (.iadd, 1) := by decide +kernel
theorem dL_law_473 : decode cL_law 473 = .ok (.iaload, 1) := by decide +kernel
theorem dL_law_474 : decode cL_law 474 = .ok (.invokevirtual 67, 3) := by decide +kernel
theorem dL_law_477 : decode cL_law 477 = .ok (.if_icmp .eq 444, 3) := by decide +kernel
theorem dL_law_480 : decode cL_law 480 = .ok (.iconst 0, 1) := by decide +kernel
theorem dL_law_481 : decode cL_law 481 = .ok (.ireturn, 1) := by decide +kernel
theorem dL_law_482 : decode cL_law 482 = .ok (.aload_n 1, 1) := by decide +kernel
theorem dL_law_483 : decode cL_law 483 = .ok (.aload_n 0, 1) := by decide +kernel
theorem dL_law_484 : decode cL_law 484 = .ok (.iload_n 3, 1) := by decide +kernel
theorem dL_law_485 : decode cL_law 485 = .ok (.iconst 1, 1) := by decide +kernel
theorem dL_law_486 : decode cL_law 486 = .ok (.iadd, 1) := by decide +kernel
theorem dL_law_487 : decode cL_law 487 = .ok (.iaload, 1) := by decide +kernel
theorem dL_law_488 : decode cL_law 488 = .ok (.invokevirtual 68, 3) := by decide +kernel
theorem dL_law_491 : decode cL_law 491 = .ok (.aload_n 2, 1) := by decide +kernel
theorem dL_law_492 : decode cL_law 492 = .ok (.aload_n 0, 1) := by decide +kernel
theorem dL_law_493 : decode cL_law 493 = .ok (.iload_n 3, 1) := by decide +kernel
theorem dL_law_494 : decode cL_law 494 = .ok (.iconst 1, 1) := by decide +kernel
theorem dL_law_495 : decode cL_law 495 = .ok (.iadd, 1) := by decide +kernel
theorem dL_law_496 : decode cL_law 496 = .ok (.iaload, 1) := by decide +kernel
theorem dL_law_497 : decode cL_law 497 = .ok (.invokevirtual 71, 3) := by decide +kernel
theorem dL_law_500 : decode cL_law 500 = .ok (.if_icmp .eq 421, 3) := by decide +kernel
theorem dL_law_503 : decode cL_law 503 = .ok (.iconst 0, 1) := by decide +kernel
theorem dL_law_504 : decode cL_law 504 = .ok (.ireturn, 1) := by decide +kernel
theorem dL_law_505 : decode cL_law 505 = .ok (.aload_n 1, 1) := by decide +kernel
theorem dL_law_506 : decode cL_law 506 = .ok (.aload_n 0, 1) := by decide +kernel
theorem dL_law_507 : decode cL_law 507 = .ok (.iload_n 3, 1) := by decide +kernel
theorem dL_law_508 : decode cL_law 508 = .ok (.iconst 1, 1) := by decide +kernel
theorem dL_law_509 : decode cL_law 509 = .ok (.iadd, 1) := by decide +kernel
theorem dL_law_510 : decode cL_law 510 = .ok (.iaload, 1) := by decide +kernel
theorem dL_law_511 : decode cL_law 511 = .ok (.aload_n 0, 1) := by decide +kernel
theorem dL_law_512 : decode cL_law 512 = .ok (.iload_n 3, 1) := by decide +kernel
theorem dL_law_513 : decode cL_law 513 = .ok (.iconst 2, 1) := by decide +kernel
theorem dL_law_514 : decode cL_law 514 = .ok (.iadd, 1) := by decide +kernel
theorem dL_law_515 : decode cL_law 515 = .ok (.iaload, 1) := by decide +kernel
theorem dL_law_516 : decode cL_law 516 = .ok (.invokevirtual 72, 3) := by decide +kernel
theorem dL_law_519 : decode cL_law 519 = .ok (.aload_n 2, 1) := by decide +kernel
theorem dL_law_520 : decode cL_law 520 = .ok (.aload_n 0, 1) := by decide +kernel
theorem dL_law_521 : decode cL_law 521 = .ok (.iload_n 3, 1) := by decide +kernel
theorem dL_law_522 : decode cL_law 522 = .ok (.iconst 1, 1) := by decide +kernel
theorem dL_law_523 : decode cL_law 523 = .ok (.iadd, 1) := by decide +kernel
theorem dL_law_524 : decode cL_law 524 = .ok (.iaload, 1) := by decide +kernel
theorem dL_law_525 : decode cL_law 525 = .ok (.aload_n 0, 1) := by decide +kernel
theorem dL_law_526 : decode cL_law 526 = .ok (.iload_n 3, 1) := by decide +kernel
theorem dL_law_527 : decode cL_law 527 = .ok (.iconst 2, 1) := by decide +kernel
theorem dL_law_528 : decode cL_law 528 = .ok (.iadd, 1) := by decide +kernel
theorem dL_law_529 : decode cL_law 529 = .ok (.iaload, 1) := by decide +kernel
theorem dL_law_530 : decode cL_law 530 = .ok (.invokevirtual 76, 3) := by decide +kernel
theorem dL_law_533 : decode cL_law 533 = .ok (.if_icmp .eq 388, 3) := by decide +kernel
theorem dL_law_536 : decode cL_law 536 = .ok (.iconst 0, 1) := by decide +kernel
theorem dL_law_537 : decode cL_law 537 = .ok (.ireturn, 1) := by decide +kernel
theorem dL_law_538 : decode cL_law 538 = .ok (.aload_n 1, 1) := by decide +kernel
theorem dL_law_539 : decode cL_law 539 = .ok (.aload_n 0, 1) := by decide +kernel
theorem dL_law_540 : decode cL_law 540 = .ok (.iload_n 3, 1) := by decide +kernel
theorem dL_law_541 : decode cL_law 541 = .ok (.iconst 1, 1) := by decide +kernel
theorem dL_law_542 : decode cL_law 542 = .ok (.iadd, 1) := by decide +kernel
theorem dL_law_543 : decode cL_law 543 = .ok (.iaload, 1) := by decide +kernel
theorem dL_law_544 : decode cL_law 544 = .ok (.invokevirtual 77, 3) := by decide +kernel
theorem dL_law_547 : decode cL_law 547 = .ok (.aload_n 2, 1) := by decide +kernel
theorem dL_law_548 : decode cL_law 548 = .ok (.aload_n 0, 1) := by decide +kernel
theorem dL_law_549 : decode cL_law 549 = .ok (.iload_n 3, 1) := by decide +kernel
theorem dL_law_550 : decode cL_law 550 = .ok (.iconst 1, 1) := by decide +kernel
theorem dL_law_551 : decode cL_law 551 = .ok (.iadd, 1) := by decide +kernel
theorem dL_law_552 : decode cL_law 552 = .ok (.iaload, 1) := by decide +kernel
theorem dL_law_553 : decode cL_law 553 = .ok (.invokevirtual 80, 3) := by decide +kernel
theorem dL_law_556 : decode cL_law 556 = .ok (.if_icmp .eq 365, 3) := by decide +kernel
theorem dL_law_559 : decode cL_law 559 = .ok (.iconst 0, 1) := by decide +kernel
theorem dL_law_560 : decode cL_law 560 = .ok (.ireturn, 1) := by decide +kernel
theorem dL_law_561 : decode cL_law 561 = .ok (.aload_n 1, 1) := by decide +kernel
theorem dL_law_562 : decode cL_law 562 = .ok (.aload_n 0, 1) := by decide +kernel
theorem dL_law_563 : decode cL_law 563 = .ok (.iload_n 3, 1) := by decide +kernel
theorem dL_law_564 : decode cL_law 564 = .ok (.iconst 1, 1) := by decide +kernel
theorem dL_law_565 : decode cL_law 565 = .ok (.iadd, 1) := by decide +kernel
theorem dL_law_566 : decode cL_law 566 = .ok (.iaload, 1) := by decide +kernel
theorem dL_law_567 : decode cL_law 567 = .ok (.invokevirtual 81, 3) := by decide +kernel
theorem dL_law_570 : decode cL_law 570 = .ok (.aload_n 2, 1) := by decide +kernel
theorem dL_law_571 : decode cL_law 571 = .ok (.aload_n 0, 1) := by decide +kernel
theorem dL_law_572 : decode cL_law 572 = .ok (.iload_n 3, 1) := by decide +kernel
theorem dL_law_573 : decode cL_law 573 = .ok (.iconst 1, 1) := by decide +kernel
theorem dL_law_574 : decode cL_law 574 = .ok (.iadd, 1) := by decide +kernel
theorem dL_law_575 : decode cL_law 575 = .ok (.iaload, 1) := by decide +kernel
theorem dL_law_576 : decode cL_law 576 = .ok (.invokevirtual 84, 3) := by decide +kernel
theorem dL_law_579 : decode cL_law 579 = .ok (.if_icmp .eq 342, 3) := by decide +kernel
theorem dL_law_582 : decode cL_law 582 = .ok (.iconst 0, 1) := by decide +kernel
theorem dL_law_583 : decode cL_law 583 = .ok (.ireturn, 1) := by decide +kernel
theorem dL_law_584 : decode cL_law 584 = .ok (.aload_n 1, 1) := by decide +kernel
theorem dL_law_585 : decode cL_law 585 = .ok (.invokevirtual 85, 3) := by decide +kernel
theorem dL_law_588 : decode cL_law 588 = .ok (.aload_n 2, 1) := by decide +kernel
theorem dL_law_589 : decode cL_law 589 = .ok (.invokevirtual 88, 3) := by decide +kernel
theorem dL_law_592 : decode cL_law 592 = .ok (.if_icmp .eq 329, 3) := by decide +kernel
theorem dL_law_595 : decode cL_law 595 = .ok (.iconst 0, 1) := by decide +kernel
theorem dL_law_596 : decode cL_law 596 = .ok (.ireturn, 1) := by decide +kernel
theorem dL_law_597 : decode cL_law 597 = .ok (.aload_n 1, 1) := by decide +kernel
theorem dL_law_598 : decode cL_law 598 = .ok (.aload_n 0, 1) := by decide +kernel
theorem dL_law_599 : decode cL_law 599 = .ok (.iload_n 3, 1) := by decide +kernel
theorem dL_law_600 : decode cL_law 600 = .ok (.iconst 1, 1) := by decide +kernel
theorem dL_law_601 : decode cL_law 601 = .ok (.iadd, 1) := by decide +kernel
theorem dL_law_602 : decode cL_law 602 = .ok (.iaload, 1) := by decide +kernel
theorem dL_law_603 : decode cL_law 603 = .ok (.i2l, 1) := by decide +kernel
theorem dL_law_604 : decode cL_law 604 = .ok (.bipush 32, 2) := by decide +kernel
theorem dL_law_606 : decode cL_law 606 = .ok (.lshl, 1) := by decide +kernel
theorem dL_law_607 : decode cL_law 607 = .ok (.aload_n 0, 1) := by decide +kernel
theorem dL_law_608 : decode cL_law 608 = .ok (.iload_n 3, 1) := by decide +kernel
theorem dL_law_609 : decode cL_law 609 = .ok (.iconst 2, 1) := by decide +kernel
theorem dL_law_610 : decode cL_law 610 = .ok (.iadd, 1) := by decide +kernel
theorem dL_law_611 : decode cL_law 611 = .ok (.iaload, 1) := by decide +kernel
theorem dL_law_612 : decode cL_law 612 = .ok (.i2l, 1) := by decide +kernel
theorem dL_law_613 : decode cL_law 613 = .ok (.ldc2_w 36, 3) := by decide +kernel
theorem dL_law_616 : decode cL_law 616 = .ok (.land, 1) := by decide +kernel
theorem dL_law_617 : decode cL_law 617 = .ok (.lor, 1) := by decide +kernel
theorem dL_law_618 : decode cL_law 618 = .ok (.aload_n 0, 1) := by decide +kernel
theorem dL_law_619 : decode cL_law 619 = .ok (.iload_n 3, 1) := by decide +kernel
theorem dL_law_620 : decode cL_law 620 = .ok (.iconst 3, 1) := by decide +kernel
theorem dL_law_621 : decode cL_law 621 = .ok (.iadd, 1) := by decide +kernel
theorem dL_law_622 : decode cL_law 622 = .ok (.iaload, 1) := by decide +kernel
theorem dL_law_623 : decode cL_law 623 = .ok (.invokevirtual 89, 3) := by decide +kernel
theorem dL_law_626 : decode cL_law 626 = .ok (.aload_n 2, 1) := by decide +kernel
theorem dL_law_627 : decode cL_law 627 = .ok (.aload_n 0, 1) := by decide +kernel
theorem dL_law_628 : decode cL_law 628 = .ok (.iload_n 3, 1) := by decide +kernel
theorem dL_law_629 : decode cL_law 629 = .ok (.iconst 1, 1) := by decide +kernel
theorem dL_law_630 : decode cL_law 630 = .ok (.iadd, 1) := by decide +kernel
theorem dL_law_631 : decode cL_law 631 = .ok (.iaload, 1) := by decide +kernel
theorem dL_law_632 : decode cL_law 632 = .ok (.i2l, 1) := by decide +kernel
theorem dL_law_633 : decode cL_law 633 = .ok (.bipush 32, 2) := by decide +kernel
theorem dL_law_635 : decode cL_law 635 = .ok (.lshl, 1) := by decide +kernel
theorem dL_law_636 : decode cL_law 636 = .ok (.aload_n 0, 1) := by decide +kernel
theorem dL_law_637 : decode cL_law 637 = .ok (.iload_n 3, 1) := by decide +kernel
theorem dL_law_638 : decode cL_law 638 = .ok (.iconst 2, 1) := by decide +kernel
theorem dL_law_639 : decode cL_law 639 = .ok (.iadd, 1) := by decide +kernel
theorem dL_law_640 : decode cL_law 640 = .ok (.iaload, 1) := by decide +kernel
theorem dL_law_641 : decode cL_law 641 = .ok (.i2l, 1) := by decide +kernel
theorem dL_law_642 : decode cL_law 642 = .ok (.ldc2_w 36, 3) := by decide +kernel
theorem dL_law_645 : decode cL_law 645 = .ok (.land, 1) := by decide +kernel
theorem dL_law_646 : decode cL_law 646 = .ok (.lor, 1) := by decide +kernel
theorem dL_law_647 : decode cL_law 647 = .ok (.aload_n 0, 1) := by decide +kernel
theorem dL_law_648 : decode cL_law 648 = .ok (.iload_n 3, 1) := by decide +kernel
theorem dL_law_649 : decode cL_law 649 = .ok (.iconst 3, 1) := by decide +kernel
theorem dL_law_650 : decode cL_law 650 = .ok (.iadd, 1) := by decide +kernel
theorem dL_law_651 : decode cL_law 651 = .ok (.iaload, 1) := by decide +kernel
theorem dL_law_652 : decode cL_law 652 = .ok (.invokevirtual 93, 3) := by decide +kernel
theorem dL_law_655 : decode cL_law 655 = .ok (.if_icmp .eq 266, 3) := by decide +kernel
theorem dL_law_658 : decode cL_law 658 = .ok (.iconst 0, 1) := by decide +kernel
theorem dL_law_659 : decode cL_law 659 = .ok (.ireturn, 1) := by decide +kernel
theorem dL_law_660 : decode cL_law 660 = .ok (.aload_n 1, 1) := by decide +kernel
theorem dL_law_661 : decode cL_law 661 = .ok (.aload_n 0, 1) := by decide +kernel
theorem dL_law_662 : decode cL_law 662 = .ok (.iload_n 3, 1) := by decide +kernel
theorem dL_law_663 : decode cL_law 663 = .ok (.iconst 1, 1) := by decide +kernel
theorem dL_law_664 : decode cL_law 664 = .ok (.iadd, 1) := by decide +kernel
theorem dL_law_665 : decode cL_law 665 = .ok (.iaload, 1) := by decide +kernel
theorem dL_law_666 : decode cL_law 666 = .ok (.aload_n 0, 1) := by decide +kernel
theorem dL_law_667 : decode cL_law 667 = .ok (.iload_n 3, 1) := by decide +kernel
theorem dL_law_668 : decode cL_law 668 = .ok (.iconst 2, 1) := by decide +kernel
theorem dL_law_669 : decode cL_law 669 = .ok (.iadd, 1) := by decide +kernel
theorem dL_law_670 : decode cL_law 670 = .ok (.iaload, 1) := by decide +kernel
theorem dL_law_671 : decode cL_law 671 = .ok (.invokevirtual 94, 3) := by decide +kernel
theorem dL_law_674 : decode cL_law 674 = .ok (.aload_n 2, 1) := by decide +kernel
theorem dL_law_675 : decode cL_law 675 = .ok (.aload_n 0, 1) := by decide +kernel
theorem dL_law_676 : decode cL_law 676 = .ok (.iload_n 3, 1) := by decide +kernel
theorem dL_law_677 : decode cL_law 677 = .ok (.iconst 1, 1) := by decide +kernel
theorem dL_law_678 : decode cL_law 678 = .ok (.iadd, 1) := by decide +kernel
theorem dL_law_679 : decode cL_law 679 = .ok (.iaload, 1) := by decide +kernel
theorem dL_law_680 : decode cL_law 680 = .ok (.aload_n 0, 1) := by decide +kernel
theorem dL_law_681 : decode cL_law 681 = .ok (.iload_n 3, 1) := by decide +kernel
theorem dL_law_682 : decode cL_law 682 = .ok (.iconst 2, 1) := by decide +kernel
theorem dL_law_683 : decode cL_law 683 = .ok (.iadd, 1) := by decide +kernel
theorem dL_law_684 : decode cL_law 684 = .ok (.iaload, 1) := by decide +kernel
theorem dL_law_685 : decode cL_law 685 = .ok (.invokevirtual 97, 3) := by decide +kernel
theorem dL_law_688 : decode cL_law 688 = .ok (.if_icmp .eq 233, 3) := by decide +kernel
theorem dL_law_691 : decode cL_law 691 = .ok (.iconst 0, 1) := by decide +kernel
theorem dL_law_692 : decode cL_law 692 = .ok (.ireturn, 1) := by decide +kernel
theorem dL_law_693 : decode cL_law 693 = .ok (.aload_n 1, 1) := by decide +kernel
theorem dL_law_694 : decode cL_law 694 = .ok (.aload_n 0, 1) := by decide +kernel
theorem dL_law_695 : decode cL_law 695 = .ok (.iload_n 3, 1) := by decide +kernel
theorem dL_law_696 : decode cL_law 696 = .ok (.iconst 1, 1) := by decide +kernel
theorem dL_law_697 : decode cL_law 697 = .ok (.iadd, 1) := by decide +kernel
theorem dL_law_698 : decode cL_law 698 = .ok (.iaload, 1) := by decide +kernel
theorem dL_law_699 : decode cL_law 699 = .ok (.aload_n 0, 1) := by decide +kernel
theorem dL_law_700 : decode cL_law 700 = .ok (.iload_n 3, 1) := by decide +kernel
theorem dL_law_701 : decode cL_law 701 = .ok (.iconst 2, 1) := by decide +kernel
theorem dL_law_702 : decode cL_law 702 = .ok (.iadd, 1) := by decide +kernel
theorem dL_law_703 : decode cL_law 703 = .ok (.iaload, 1) := by decide +kernel
theorem dL_law_704 : decode cL_law 704 = .ok (.invokevirtual 98, 3) := by decide +kernel
theorem dL_law_707 : decode cL_law 707 = .ok (.aload_n 2, 1) := by decide +kernel
theorem dL_law_708 : decode cL_law 708 = .ok (.aload_n 0, 1) := by decide +kernel
theorem dL_law_709 : decode cL_law 709 = .ok (.iload_n 3, 1) := by decide +kernel
theorem dL_law_710 : decode cL_law 710 = .ok (.iconst 1, 1) := by decide +kernel
theorem dL_law_711 : decode cL_law 711 = .ok (.iadd, 1) := by decide +kernel
theorem dL_law_712 : decode cL_law 712 = .ok (.iaload, 1) := by decide +kernel
theorem dL_law_713 : decode cL_law 713 = .ok (.aload_n 0, 1) := by decide +kernel
theorem dL_law_714 : decode cL_law 714 = .ok (.iload_n 3, 1) := by decide +kernel
theorem dL_law_715 : decode cL_law 715 = .ok (.iconst 2, 1) := by decide +kernel
theorem dL_law_716 : decode cL_law 716 = .ok (.iadd, 1) := by decide +kernel
theorem dL_law_717 : decode cL_law 717 = .ok (.iaload, 1) := by decide +kernel
theorem dL_law_718 : decode cL_law 718 = .ok (.invokevirtual 101, 3) := by decide +kernel
theorem dL_law_721 : decode cL_law 721 = .ok (.if_icmp .eq 200, 3) := by decide +kernel
theorem dL_law_724 : decode cL_law 724 = .ok (.iconst 0, 1) := by decide +kernel
theorem dL_law_725 : decode cL_law 725 = .ok (.ireturn, 1) := by decide +kernel
theorem dL_law_726 : decode cL_law 726 = .ok (.aload_n 1, 1) := by decide +kernel
theorem dL_law_727 : decode cL_law 727 = .ok (.aload_n 0, 1) := by decide +kernel
theorem dL_law_728 : decode cL_law 728 = .ok (.iload_n 3, 1) := by decide +kernel
theorem dL_law_729 : decode cL_law 729 = .ok (.iconst 1, 1) := by decide +kernel
theorem dL_law_730 : decode cL_law 730 = .ok (.iadd, 1) := by decide +kernel
theorem dL_law_731 : decode cL_law 731 = .ok (.iaload, 1) := by decide +kernel
theorem dL_law_732 : decode cL_law 732 = .ok (.aload_n 0, 1) := by decide +kernel
theorem dL_law_733 : decode cL_law 733 = .ok (.iload_n 3, 1) := by decide +kernel
theorem dL_law_734 : decode cL_law 734 = .ok (.iconst 2, 1) := by decide +kernel
theorem dL_law_735 : decode cL_law 735 = .ok (.iadd, 1) := by decide +kernel
theorem dL_law_736 : decode cL_law 736 = .ok (.iaload, 1) := by decide +kernel
theorem dL_law_737 : decode cL_law 737 = .ok (.invokevirtual 102, 3) := by decide +kernel
theorem dL_law_740 : decode cL_law 740 = .ok (.aload_n 2, 1) := by decide +kernel
theorem dL_law_741 : decode cL_law 741 = .ok (.aload_n 0, 1) := by decide +kernel
theorem dL_law_742 : decode cL_law 742 = .ok (.iload_n 3, 1) := by decide +kernel
theorem dL_law_743 : decode cL_law 743 = .ok (.iconst 1, 1) := by decide +kernel
theorem dL_law_744 : decode cL_law 744 = .ok (.iadd, 1) := by decide +kernel
theorem dL_law_745 : decode cL_law 745 = .ok (.iaload, 1) := by decide +kernel
theorem dL_law_746 : decode cL_law 746 = .ok (.aload_n 0, 1) := by decide +kernel
theorem dL_law_747 : decode cL_law 747 = .ok (.iload_n 3, 1) := by decide +kernel
theorem dL_law_748 : decode cL_law 748 = .ok (.iconst 2, 1) := by decide +kernel
theorem dL_law_749 : decode cL_law 749 = .ok (.iadd, 1) := by decide +kernel
theorem dL_law_750 : decode cL_law 750 = .ok (.iaload, 1) := by decide +kernel
theorem dL_law_751 : decode cL_law 751 = .ok (.invokevirtual 105, 3) := by decide +kernel
theorem dL_law_754 : decode cL_law 754 = .ok (.if_icmp .eq 167, 3) := by decide +kernel
theorem dL_law_757 : decode cL_law 757 = .ok (.iconst 0, 1) := by decide +kernel
theorem dL_law_758 : decode cL_law 758 = .ok (.ireturn, 1) := by decide +kernel
theorem dL_law_759 : decode cL_law 759 = .ok (.aload_n 1, 1) := by decide +kernel
theorem dL_law_760 : decode cL_law 760 = .ok (.aload_n 0, 1) := by decide +kernel
theorem dL_law_761 : decode cL_law 761 = .ok (.iload_n 3, 1) := by decide +kernel
theorem dL_law_762 : decode cL_law 762 = .ok (.iconst 1, 1) := by decide +kernel
theorem dL_law_763 : decode cL_law 763 = .ok (.iadd, 1) := by decide +kernel
theorem dL_law_764 : decode cL_law 764 = .ok (.iaload, 1) := by decide +kernel
theorem dL_law_765 : decode cL_law 765 = .ok (.aload_n 0, 1) := by decide +kernel
theorem dL_law_766 : decode cL_law 766 = .ok (.iload_n 3, 1) := by decide +kernel
theorem dL_law_767 : decode cL_law 767 = .ok (.iconst 2, 1) := by decide +kernel
theorem dL_law_768 : decode cL_law 768 = .ok (.iadd, 1) := by decide +kernel
theorem dL_law_769 : decode cL_law 769 = .ok (.iaload, 1) := by decide +kernel
theorem dL_law_770 : decode cL_law 770 = .ok (.aload_n 0, 1) := by decide +kernel
theorem dL_law_771 : decode cL_law 771 = .ok (.iload_n 3, 1) := by decide +kernel
theorem dL_law_772 : decode cL_law 772 = .ok (.iconst 3, 1) := by decide +kernel
theorem dL_law_773 : decode cL_law 773 = .ok (.iadd, 1) := by decide +kernel
theorem dL_law_774 : decode cL_law 774 = .ok (.iaload, 1) := by decide +kernel
theorem dL_law_775 : decode cL_law 775 = .ok (.invokevirtual 106, 3) := by decide +kernel
theorem dL_law_778 : decode cL_law 778 = .ok (.aload_n 2, 1) := by decide +kernel
theorem dL_law_779 : decode cL_law 779 = .ok (.aload_n 0, 1) := by decide +kernel
theorem dL_law_780 : decode cL_law 780 = .ok (.iload_n 3, 1) := by decide +kernel
theorem dL_law_781 : decode cL_law 781 = .ok (.iconst 1, 1) := by decide +kernel
theorem dL_law_782 : decode cL_law 782 = .ok (.iadd, 1) := by decide +kernel
theorem dL_law_783 : decode cL_law 783 = .ok (.iaload, 1) := by decide +kernel
theorem dL_law_784 : decode cL_law 784 = .ok (.aload_n 0, 1) := by decide +kernel
theorem dL_law_785 : decode cL_law 785 = .ok (.iload_n 3, 1) := by decide +kernel
theorem dL_law_786 : decode cL_law 786 = .ok (.iconst 2, 1) := by decide +kernel
theorem dL_law_787 : decode cL_law 787 = .ok (.iadd, 1) := by decide +kernel
theorem dL_law_788 : decode cL_law 788 = .ok (.iaload, 1) := by decide +kernel
theorem dL_law_789 : decode cL_law 789 = .ok (.aload_n 0, 1) := by decide +kernel
theorem dL_law_790 : decode cL_law 790 = .ok (.iload_n 3, 1) := by decide +kernel
theorem dL_law_791 : decode cL_law 791 = .ok (.iconst 3, 1) := by decide +kernel
theorem dL_law_792 : decode cL_law 792 = .ok (.iadd, 1) := by decide +kernel
theorem dL_law_793 : decode cL_law 793 = .ok (.iaload, 1) := by decide +kernel
theorem dL_law_794 : decode cL_law 794 = .ok (.invokevirtual 110, 3) := by decide +kernel
theorem dL_law_797 : decode cL_law 797 = .ok (.if_icmp .eq 124, 3) := by decide +kernel
theorem dL_law_800 : decode cL_law 800 = .ok (.iconst 0, 1) := by decide +kernel
theorem dL_law_801 : decode cL_law 801 = .ok (.ireturn, 1) := by decide +kernel
theorem dL_law_802 : decode cL_law 802 = .ok (.aload_n 1, 1) := by decide +kernel
theorem dL_law_803 : decode cL_law 803 = .ok (.aload_n 0, 1) := by decide +kernel
theorem dL_law_804 : decode cL_law 804 = .ok (.iload_n 3, 1) := by decide +kernel
theorem dL_law_805 : decode cL_law 805 = .ok (.iconst 1, 1) := by decide +kernel
theorem dL_law_806 : decode cL_law 806 = .ok (.iadd, 1) := by decide +kernel
theorem dL_law_807 : decode cL_law 807 = .ok (.iaload, 1) := by decide +kernel
theorem dL_law_808 : decode cL_law 808 = .ok (.aload_n 0, 1) := by decide +kernel
theorem dL_law_809 : decode cL_law 809 = .ok (.iload_n 3, 1) := by decide +kernel
theorem dL_law_810 : decode cL_law 810 = .ok (.iconst 2, 1) := by decide +kernel
theorem dL_law_811 : decode cL_law 811 = .ok (.iadd, 1) := by decide +kernel
theorem dL_law_812 : decode cL_law 812 = .ok (.iaload, 1) := by decide +kernel
theorem dL_law_813 : decode cL_law 813 = .ok (.aload_n 0, 1) := by decide +kernel
theorem dL_law_814 : decode cL_law 814 = .ok (.iload_n 3, 1) := by decide +kernel
theorem dL_law_815 : decode cL_law 815 = .ok (.iconst 3, 1) := by decide +kernel
theorem dL_law_816 : decode cL_law 816 = .ok (.iadd, 1) := by decide +kernel
theorem dL_law_817 : decode cL_law 817 = .ok (.iaload, 1) := by decide +kernel
theorem dL_law_818 : decode cL_law 818 = .ok (.invokevirtual 111, 3) := by decide +kernel
theorem dL_law_821 : decode cL_law 821 = .ok (.aload_n 2, 1) := by decide +kernel
theorem dL_law_822 : decode cL_law 822 = .ok (.aload_n 0, 1) := by decide +kernel
theorem dL_law_823 : decode cL_law 823 = .ok (.iload_n 3, 1) := by decide +kernel
theorem dL_law_824 : decode cL_law 824 = .ok (.iconst 1, 1) := by decide +kernel
theorem dL_law_825 : decode cL_law 825 = .ok (.iadd, 1) := by decide +kernel
theorem dL_law_826 : decode cL_law 826 = .ok (.iaload, 1) := by decide +kernel
theorem dL_law_827 : decode cL_law 827 = .ok (.aload_n 0, 1) := by decide +kernel
theorem dL_law_828 : decode cL_law 828 = .ok (.iload_n 3, 1) := by decide +kernel
theorem dL_law_829 : decode cL_law 829 = .ok (.iconst 2, 1) := by decide +kernel
theorem dL_law_830 : decode cL_law 830 = .ok (.iadd, 1) := by decide +kernel
theorem dL_law_831 : decode cL_law 831 = .ok (.iaload, 1) := by decide +kernel
theorem dL_law_832 : decode cL_law 832 = .ok (.aload_n 0, 1) := by decide +kernel
theorem dL_law_833 : decode cL_law 833 = .ok (.iload_n 3, 1) := by decide +kernel
theorem dL_law_834 : decode cL_law 834 = .ok (.iconst 3, 1) := by decide +kernel
theorem dL_law_835 : decode cL_law 835 = .ok (.iadd, 1) := by decide +kernel
theorem dL_law_836 : decode cL_law 836 = .ok (.iaload, 1) := by decide +kernel
theorem dL_law_837 : decode cL_law 837 = .ok (.invokevirtual 114, 3) := by decide +kernel
theorem dL_law_840 : decode cL_law 840 = .ok (.if_icmp .eq 81, 3) := by decide +kernel
theorem dL_law_843 : decode cL_law 843 = .ok (.iconst 0, 1) := by decide +kernel
theorem dL_law_844 : decode cL_law 844 = .ok (.ireturn, 1) := by decide +kernel
theorem dL_law_845 : decode cL_law 845 = .ok (.aload_n 1, 1) := by decide +kernel
theorem dL_law_846 : decode cL_law 846 = .ok (.aload_n 0, 1) := by decide +kernel
theorem dL_law_847 : decode cL_law 847 = .ok (.iload_n 3, 1) := by decide +kernel
theorem dL_law_848 : decode cL_law 848 = .ok (.iconst 1, 1) := by decide +kernel
theorem dL_law_849 : decode cL_law 849 = .ok (.iadd, 1) := by decide +kernel
theorem dL_law_850 : decode cL_law 850 = .ok (.iaload, 1) := by decide +kernel
theorem dL_law_851 : decode cL_law 851 = .ok (.aload_n 0, 1) := by decide +kernel
theorem dL_law_852 : decode cL_law 852 = .ok (.iload_n 3, 1) := by decide +kernel
theorem dL_law_853 : decode cL_law 853 = .ok (.iconst 2, 1) := by decide +kernel
theorem dL_law_854 : decode cL_law 854 = .ok (.iadd, 1) := by decide +kernel
theorem dL_law_855 : decode cL_law 855 = .ok (.iaload, 1) := by decide +kernel
theorem dL_law_856 : decode cL_law 856 = .ok (.aload_n 0, 1) := by decide +kernel
theorem dL_law_857 : decode cL_law 857 = .ok (.iload_n 3, 1) := by decide +kernel
theorem dL_law_858 : decode cL_law 858 = .ok (.iconst 3, 1) := by decide +kernel
theorem dL_law_859 : decode cL_law 859 = .ok (.iadd, 1) := by decide +kernel
theorem dL_law_860 : decode cL_law 860 = .ok (.iaload, 1) := by decide +kernel
theorem dL_law_861 : decode cL_law 861 = .ok (.aload_n 0, 1) := by decide +kernel
theorem dL_law_862 : decode cL_law 862 = .ok (.iload_n 3, 1) := by decide +kernel
theorem dL_law_863 : decode cL_law 863 = .ok (.iconst 4, 1) := by decide +kernel
theorem dL_law_864 : decode cL_law 864 = .ok (.iadd, 1) := by decide +kernel
theorem dL_law_865 : decode cL_law 865 = .ok (.iaload, 1) := by decide +kernel
theorem dL_law_866 : decode cL_law 866 = .ok (.invokevirtual 115, 3) := by decide +kernel
theorem dL_law_869 : decode cL_law 869 = .ok (.aload_n 2, 1) := by decide +kernel
theorem dL_law_870 : decode cL_law 870 = .ok (.aload_n 0, 1) := by decide +kernel
theorem dL_law_871 : decode cL_law 871 = .ok (.iload_n 3, 1) := by decide +kernel
theorem dL_law_872 : decode cL_law 872 = .ok (.iconst 1, 1) := by decide +kernel
theorem dL_law_873 : decode cL_law 873 = .ok (.iadd, 1) := by decide +kernel
theorem dL_law_874 : decode cL_law 874 = .ok (.iaload, 1) := by decide +kernel
theorem dL_law_875 : decode cL_law 875 = .ok (.aload_n 0, 1) := by decide +kernel
theorem dL_law_876 : decode cL_law 876 = .ok (.iload_n 3, 1) := by decide +kernel
theorem dL_law_877 : decode cL_law 877 = .ok (.iconst 2, 1) := by decide +kernel
theorem dL_law_878 : decode cL_law 878 = .ok (.iadd, 1) := by decide +kernel
theorem dL_law_879 : decode cL_law 879 = .ok (.iaload, 1) := by decide +kernel
theorem dL_law_880 : decode cL_law 880 = .ok (.aload_n 0, 1) := by decide +kernel
theorem dL_law_881 : decode cL_law 881 = .ok (.iload_n 3, 1) := by decide +kernel
theorem dL_law_882 : decode cL_law 882 = .ok (.iconst 3, 1) := by decide +kernel
theorem dL_law_883 : decode cL_law 883 = .ok (.iadd, 1) := by decide +kernel
theorem dL_law_884 : decode cL_law 884 = .ok (.iaload, 1) := by decide +kernel
theorem dL_law_885 : decode cL_law 885 = .ok (.aload_n 0, 1) := by decide +kernel
theorem dL_law_886 : decode cL_law 886 = .ok (.iload_n 3, 1) := by decide +kernel
theorem dL_law_887 : decode cL_law 887 = .ok (.iconst 4, 1) := by decide +kernel
theorem dL_law_888 : decode cL_law 888 = .ok (.iadd, 1) := by decide +kernel
theorem dL_law_889 : decode cL_law 889 = .ok (.iaload, 1) := by decide +kernel
theorem dL_law_890 : decode cL_law 890 = .ok (.invokevirtual 119, 3) := by decide +kernel
theorem dL_law_893 : decode cL_law 893 = .ok (.if_icmp .eq 28, 3) := by decide +kernel
theorem dL_law_896 : decode cL_law 896 = .ok (.iconst 0, 1) := by decide +kernel
theorem dL_law_897 : decode cL_law 897 = .ok (.ireturn, 1) := by decide +kernel
theorem dL_law_898 : decode cL_law 898 = .ok (.aload_n 1, 1) := by decide +kernel
theorem dL_law_899 : decode cL_law 899 = .ok (.aload_n 0, 1) := by decide +kernel
theorem dL_law_900 : decode cL_law 900 = .ok (.iload_n 3, 1) := by decide +kernel
theorem dL_law_901 : decode cL_law 901 = .ok (.iconst 1, 1) := by decide +kernel
theorem dL_law_902 : decode cL_law 902 = .ok (.iadd, 1) := by decide +kernel
theorem dL_law_903 : decode cL_law 903 = .ok (.iaload, 1) := by decide +kernel
theorem dL_law_904 : decode cL_law 904 = .ok (.invokevirtual 120, 3) := by decide +kernel
theorem dL_law_907 : decode cL_law 907 = .ok (.aload_n 2, 1) := by decide +kernel
theorem dL_law_908 : decode cL_law 908 = .ok (.aload_n 0, 1) := by decide +kernel
theorem dL_law_909 : decode cL_law 909 = .ok (.iload_n 3, 1) := by decide +kernel
theorem dL_law_910 : decode cL_law 910 = .ok (.iconst 1, 1) := by decide +kernel
theorem dL_law_911 : decode cL_law 911 = .ok (.iadd, 1) := by decide +kernel
theorem dL_law_912 : decode cL_law 912 = .ok (.iaload, 1) := by decide +kernel
theorem dL_law_913 : decode cL_law 913 = .ok (.invokevirtual 123, 3) := by decide +kernel
theorem dL_law_916 : decode cL_law 916 = .ok (.if_icmp .eq 5, 3) := by decide +kernel
theorem dL_law_919 : decode cL_law 919 = .ok (.iconst 0, 1) := by decide +kernel
theorem dL_law_920 : decode cL_law 920 = .ok (.ireturn, 1) := by decide +kernel
theorem dL_law_921 : decode cL_law 921 = .ok (.iinc 3 5, 3) := by decide +kernel
theorem dL_law_924 : decode cL_law 924 = .ok (.goto (-845), 3) := by decide +kernel
theorem dL_law_927 : decode cL_law 927 = .ok (.iconst 1, 1) := by decide +kernel
theorem dL_law_928 : decode cL_law 928 = .ok (.ireturn, 1) := by decide +kernel
end
section
/-! MY LAYER: the world by keys, the judgement XW over a predicate of the heap, its rows -/
abbrev Sg : Type := (Nat → Nat → Nat → Nat → Int32) × (Nat → Nat → Nat → Nat → Int64) × (Nat → Nat → Nat)
abbrev Tg : Type := (Nat → Nat → Int32) × (Nat → Nat → Int64)
abbrev xG : Type := va_G × (Nat → ClassId) × (Nat → Nat → Nat → Nat) × (Nat → Nat) × Nat × Nat × Cell
abbrev xD (G : xG) : va_G := G.1
abbrev xcA (G : xG) : Nat → ClassId := G.2.1
abbrev xad (G : xG) : Nat → Nat → Nat → Nat := G.2.2.1
abbrev xaM (G : xG) : Nat → Nat := G.2.2.2.1
abbrev xbs (G : xG) : Nat := G.2.2.2.2.1
abbrev xsb (G : xG) : Nat := G.2.2.2.2.2.1
abbrev xsc (G : xG) : Cell := G.2.2.2.2.2.2
def upI (σ : Sg) (f i j k : Nat) (v : Int32) : Sg := (fun f' i' j' k' => if f' = f ∧ i' = i ∧ j' = j ∧ k' = k then v else σ.1 f' i' j' k', σ.2)
def upL (σ : Sg) (f i j k : Nat) (v : Int64) : Sg := (σ.1, fun f' i' j' k' => if f' = f ∧ i' = i ∧ j' = j ∧ k' = k then v else σ.2.1 f' i' j' k', σ.2.2)
def upR (σ : Sg) (f k : Nat) (v : Nat) : Sg := (σ.1, σ.2.1, fun f' k' => if f' = f ∧ k' = k then v else σ.2.2 f' k')
def tpI (τ : Tg) (f k : Nat) (v : Int32) : Tg := (fun f' k' => if f' = f ∧ k' = k then v else τ.1 f' k', τ.2)
def tpL (τ : Tg) (f k : Nat) (v : Int64) : Tg := (τ.1, fun f' k' => if f' = f ∧ k' = k then v else τ.2 f' k')
def letv {α β : Type} (v : α) (K : α → β) : β := K v
def gdx {α : Type} (x : Int32) (n : Nat) (K : Nat → Option α) : Option α := if x < 0 ∨ n ≤ x.toNatClampNeg then none else K x.toNatClampNeg
def gnz {α : Type} (x : Int32) (K : Option α) : Option α := if x = 0 then none else K
def gdd {α : Type} (P : Prop) [Decidable P] (K : Option α) : Option α := if P then K else none
def xq (k : Nat → Nat) : (Nat → Int32) ⊕ (Nat → Int64) ⊕ (Nat → UInt32) ⊕ (Nat → UInt64) ⊕ (Nat → Option Nat) := .inr (.inr (.inr (.inr (fun j => some (k j)))))
def xCell (G : xG) (z : Nat → Nat) (f i j : Nat) (si : Nat → Int32) (sl : Nat → Int64) (sp : Nat → Nat) : va_E := match f with
  | 0 => .inr (9, [.ref (xad G 1 0 0), .ref (xad G 2 0 0), .ref (xad G 5 0 0), .ref (xad G 11 0 0), .ref (xad G 16 0 0), .ref (xad G 24 0 0), .int (si 6), .int (si 7)])
  | 1 => .inr (6, [.int (nI (z 0)), .int (nI (z 1)), .int (nI (z 2)), .int (nI (z 3)), .int (nI (z 4)), .int (nI (z 5))])
  | 2 => .inr (7, [.ref (xad G 3 0 0), .ref (xad G 4 0 0)])
  | 3 => .inl (xcA G 0, z 2, .inl si)
  | 4 => .inl (xcA G 0, z 2, .inl si)
  | 5 => .inr (1, [.ref (xad G 6 0 0), .ref (xad G 1 0 0), .ref (xad G 7 0 0), .ref (xad G 9 0 0)])
  | 6 => .inl (xcA G 1, z 3, .inr (.inl sl))
  | 7 => .inl (xcA G 3, z 2, xq (fun k => xad G 8 k 0))
  | 8 => .inl (xcA G 0, z 3, .inl si)
  | 9 => .inl (xcA G 4, z 2, xq (fun k => xad G 10 k 0))
  | 10 => .inl (xcA G 1, z 3, .inr (.inl sl))
  | 11 => .inr (4, [.ref (xad G 1 0 0), .ref (xad G 12 0 0), .ref (xad G 13 (z 4) 0), .ref (xad G 13 (sp 3) 0), .int (si 4), .int (si 5), .int (si 6)])
  | 12 => .inl (xcA G 5, z 4, xq (fun k => xad G 13 (sp k) 0))
  | 13 => .inr (3, [.int (si 0), .int (si 1), .int (si 2), .int (si 3), .int (si 4), .int (si 5), .int (si 6), .ref (xad G 14 i 0), .ref (xad G 15 i 0)])
  | 14 => .inl (xcA G 0, z 0, .inl si)
  | 15 => .inl (xcA G 0, z 0, .inl si)
  | 16 => .inl (xcA G 6, z 0, xq (fun k => xad G 17 k 0))
  | 17 => .inr (5, [.int (nI i), .ref (xad G 1 0 0), .ref (xad G 11 0 0), .ref (xad G 18 i 0), .int (si 4), .ref (xad G 21 i 0), .ref (xad G 5 0 0), .ref (xad G 22 i 0), .ref (xad G 23 i 0)])
  | 18 => .inr (2, [.ref (xad G 19 i 0), .int (si 1)])
  | 19 => .inl (xcA G 3, z 5, xq (fun k => xad G 20 i k))
  | 20 => .inl (xcA G 0, 4, .inl si)
  | 21 => .inl (xcA G 2, z 2, .inl si)
  | 22 => .inl (xcA G 0, z 2, .inl si)
  | 23 => .inl (xcA G 0, z 2, .inl si)
  | 24 => .inl (xcA G 7, z 1, xq (fun k => xad G 25 k 0))
  | 25 => .inr (0, [.int (nI (z 0 + i)), .ref (xad G 1 0 0), .ref (xad G 11 0 0), .ref (xad G 18 (z 0 + i) 0), .int (si 4), .ref (xad G 26 i 0), .int (nI i), .ref (xad G 2 0 0)])
  | 26 => .inl (xcA G 8, z 2, xq (fun k => xad G 27 i k))
  | 27 => .inr (8, [.int (if i = 0 then 0 else -1), .int (si 1), .int (si 2), .int (si 3), .int (si 4), .ref (xad G 28 i j), .ref (xad G 29 i j), .ref (xad G 30 i j), .ref (xad G 31 i j), .ref (xad G 32 i j), .ref (xad G 33 i j)])
  | _ => .inl (xcA G 0, z 0, .inl si)
def xbI (z : Nat → Nat) (f : Nat) : Nat := match f with
  | 8 => z 2 | 10 => z 2
  | 13 => z 4 + 2 | 14 => z 4 + 2 | 15 => z 4 + 2
  | 17 => z 0 | 21 => z 0 | 22 => z 0 | 23 => z 0
  | 18 => z 0 + z 1 | 19 => z 0 + z 1 | 20 => z 0 + z 1
  | 25 => z 1 | 26 => z 1 | 27 => z 1 | 28 => z 1 | 29 => z 1 | 30 => z 1 | 31 => z 1 | 32 => z 1 | 33 => z 1
  | _ => if f ≤ 33 then 1 else 0
def xbJ (z : Nat → Nat) (f : Nat) : Nat := match f with
  | 20 => z 5
  | 27 => z 2 | 28 => z 2 | 29 => z 2 | 30 => z 2 | 31 => z 2 | 32 => z 2 | 33 => z 2
  | _ => 1
def xdom (z : Nat → Nat) (f i j : Nat) : Prop := i < xbI z f ∧ j < xbJ z f
def mlen (f : Nat) : Nat := match f with
  | 6 => 9 | 7 => 9 | 8 => 7200 | 9 => 32 | 10 => 32 | 11 => 32 | 12 => 16 | 13 => 16 | 14 => 512 | 15 => 512 | 16 => 64 | 17 => 64 | 18 => 64
  | 19 => 80 | 20 => 80 | 21 => 80 | 22 => 80 | 23 => 320 | 24 => 320 | 25 => 320 | 26 => 320 | 27 => 320 | 28 => 320
  | 30 => 1400 | 31 => 1600 | 36 => 7 | 37 => 8 | _ => 0
def mB (f : Nat) : Bool := f == 0 || mlen f != 0
def mCell (G : xG) (z : Nat → Nat) (f : Nat) (ti : Nat → Int32) (tl : Nat → Int64) : va_E := match f with
  | 0 => .inr (10, [.int (nI (z 0)), .int (nI (z 1)), .int (nI (z 2)), .int (nI (z 3)), .int (nI (z 4)), .int (nI (z 5)),
      .ref (xaM G 6), .ref (xaM G 7), .ref (xaM G 8), .ref (xaM G 9), .ref (xaM G 10), .ref (xaM G 11), .ref (xaM G 12), .ref (xaM G 13), .ref (xaM G 14), .ref (xaM G 15), .ref (xaM G 16), .ref (xaM G 17), .ref (xaM G 18),
      .ref (xaM G 19), .ref (xaM G 20), .ref (xaM G 21), .ref (xaM G 22), .ref (xaM G 23), .ref (xaM G 24), .ref (xaM G 25), .ref (xaM G 26), .ref (xaM G 27), .ref (xaM G 28), .int (ti 29), .ref (xaM G 30), .ref (xaM G 31),
      .int (ti 32), .int (ti 33), .int (ti 34), .int (ti 35), .ref (xaM G 36), .ref (xaM G 37)])
  | 6 => .inl (xcA G 2, mlen 6, .inl ti)
  | 14 => .inl (xcA G 2, mlen 14, .inl ti)
  | 16 => .inl (xcA G 2, mlen 16, .inl ti)
  | 9 => .inl (xcA G 1, mlen 9, .inr (.inl tl))
  | 15 => .inl (xcA G 1, mlen 15, .inr (.inl tl))
  | f => .inl (xcA G 0, mlen f, .inl ti)
def xTys (cA : Nat → ClassId) : List (ClassId × FieldType) := [(cA 0, .int), (cA 1, .long), (cA 2, .boolean), (cA 3, .array .int), (cA 4, .array .long), (cA 5, .object RX3), (cA 6, .object RX6), (cA 7, .object RX0), (cA 8, .object RX9)]
def xInj (G : xG) (z : Nat → Nat) : Prop := (∀ f i j f' i' j', xdom z f i j → xdom z f' i' j' → xad G f i j = xad G f' i' j' → f' = f ∧ i' = i ∧ j' = j) ∧ (∀ f f', mB f = true → mB f' = true → xaM G f = xaM G f' → f' = f) ∧ ∀ f i j f', xdom z f i j → mB f' = true → xad G f i j ≠ xaM G f'
def xRep (G : xG) (z : Nat → Nat) (σ : Sg) (τ : Tg) (H : Heap) : Prop := (H[xsb G]? = some (xsc G) ∧ xsb G < xbs G ∧ xInj G z) ∧
  (∀ f i j, xdom z f i j → va_at (xD G) vwCl (xad G f i j, xCell G z f i j (σ.1 f i j) (σ.2.1 f i j) (σ.2.2 f)) H ∧ xbs G ≤ xad G f i j) ∧
  ∀ f, mB f = true → va_at (xD G) vwCl (xaM G f, mCell G z f (τ.1 f) (τ.2 f)) H ∧ xbs G ≤ xaM G f
def lw_g : List Cond := lw_tbl.filter goodWord
def yN_hear : MethodName := ⟨RX4, "hear", "(LCommitShards$Message;)Z"⟩
def yN_forget : MethodName := ⟨RX4, "forget", "()V"⟩
def yN_told : MethodName := ⟨RX4, "told", "(I)I"⟩
/-- what the tables hold besides the good words -/
def xEnv (D : va_G) (cA : Nat → ClassId) (U : State) : Prop := va_K D vwCl (xTys cA) U ∧ va_Nw (.declares yN_hear) U ∧ va_Nw (.declares yN_forget) U ∧ va_Nw (.declares yN_told) U
theorem xEnv.warm {D : va_G} {cA : Nat → ClassId} {s U : State} (hW : s.WarmedH U.vm) (h : xEnv D cA s) : xEnv D cA U := ⟨va_K.moved hW.alike h.1, va_Nw.warmD hW h.2.1, va_Nw.warmD hW h.2.2.1, va_Nw.warmD hW h.2.2.2⟩
theorem xEnv.call {D : va_G} {cA : Nat → ClassId} {U : State} {g : JFrame} {mk : MethodId} {a : Array Value} (h : xEnv D cA U) : xEnv D cA (U.calling g mk a) := ⟨va_K.moved (u := U) (U := U.calling g mk a) (Vm.Alike.refl U.vm) h.1, va_Nw.same (U := U.calling g mk a) rfl rfl h.2.1, va_Nw.same (U := U.calling g mk a) rfl rfl h.2.2.1, va_Nw.same (U := U.calling g mk a) rfl rfl h.2.2.2⟩
/-- a class of the world: its words, types, names, place -/
def xCls (ci : Nat) (C : String) (T : u_T) (N : Nat) (ty : Nat → FieldType) : Prop := (∀ w ∈ u_ws C T N, w ∈ lw_g) ∧ (∀ k, k < N → parseFieldDescriptor (T k).2.2.1 = some (ty k)) ∧ (∀ a, a < N → ∀ b, b < N → a ≠ b → (T a).2.1 ≠ (T b).2.1) ∧ vwCl[ci]? = some (C, T, N)
/-- a place of a constant pool that names a field -/
def xFl (own : String) (index : Nat) (T : u_T) (k : Nat) : Prop := ∃ ref : String, Cond.fieldLink own index ref (T k).2.1 (T k).2.2.1 ∈ lw_g ∧ (ref = (T k).1 ∨ Cond.sameField ref (T k).1 (T k).2.1 (T k).2.2.1 ∈ lw_g)
def xC (p : Program) (m : MethodId) (c : Code) (cc : ByteArray) (nL : Nat) (s : State) (args : Array Value) (own : String) (meth : Method) (R : Room) (cells slots : Nat) (D : va_G) (cA : Nat → ClassId) : Prop :=
  CallFix p m c cc nL s args lw_g own ∧ meth.locks = false ∧ (cells ≤ R.cells ∧ slots ≤ R.slots) ∧ xEnv D cA s
def XW (p : Program) (l : Launch) (e : Env) (R : Room) (s : State) (m : MethodId) (args : Array Value) (below : List Frame) (meth : Method) (c : Code) (cells slots nL bs : Nat) (Q : State → Prop) (Ω : Heap → Prop) (pc : Nat) (L : List (Nat × Value)) (st : List Value) : Prop :=
  ∀ (H : Heap) (locs : List Loc) (ls : Array Slot), Ω H → (∀ q ∈ locs, bs ≤ q.base) → lv_has ls nL L → W p l e R s m args below meth c H locs cells slots Q (F0 m pc ls st)
section XROWS
variable {p : Program} {l : Launch} {e : Env} {R : Room} {s : State} {m : MethodId} {args : Array Value} {below : List Frame} {meth : Method} {c : Code} {cells slots nL bs : Nat} {Q : State → Prop} {Ω : Heap → Prop}
variable {cc : ByteArray} {own : String} {D : va_G} {cA : Nat → ClassId} {pc : Nat} {L : List (Nat × Value)} {st : List Value} {ρ : Type} {rr : ρ}
theorem x_sub {L' : List (Nat × Value)} (ks : List Nat) (hl : lv_pick L ks = L') (kk : XW p l e R s m args below meth c cells slots nL bs Q Ω pc L' st) : XW p l e R s m args below meth c cells slots nL bs Q Ω pc L st := fun H locs ls hΩ hs hL => kk H locs ls hΩ hs (lv_sub hL ks hl)
theorem x_any (kk : ∀ H, Ω H → XW p l e R s m args below meth c cells slots nL bs Q Ω pc L st) : XW p l e R s m args below meth c cells slots nL bs Q Ω pc L st := fun H locs ls hΩ hs hL => kk H hΩ H locs ls hΩ hs hL
theorem x_imp {Ω' : Heap → Prop} (h : ∀ H, Ω H → Ω' H) (kk : XW p l e R s m args below meth c cells slots nL bs Q Ω' pc L st) : XW p l e R s m args below meth c cells slots nL bs Q Ω pc L st := fun H locs ls hΩ hs hL => kk H locs ls (h H hΩ) hs hL
theorem x_iload_n (C : xC p m c cc nL s args own meth R cells slots D cA) {k : Fin 4} {i q : Nat} {x : Int32} (hdg : decode cc pc = .ok (.iload_n k, 1)) (hi : (k : Nat) = i) (hl : L[q]? = some (i, .int x)) (kk : XW p l e R s m args below meth c cells slots nL bs Q Ω (pc + 1) L (.int x :: st)) : XW p l e R s m args below meth c cells slots nL bs Q Ω pc L st := fun H locs ls hΩ hs hL => lv_iload_n C.1.1 C.1.2.1 hdg hi (lv_at hL q hl) (kk H locs ls hΩ hs hL)
theorem x_lload_n (C : xC p m c cc nL s args own meth R cells slots D cA) {k : Fin 4} {i q : Nat} {x : Int64} (hdg : decode cc pc = .ok (.lload_n k, 1)) (hi : (k : Nat) = i) (hl : L[q]? = some (i, .long x)) (kk : XW p l e R s m args below meth c cells slots nL bs Q Ω (pc + 1) L (.long x :: st)) : XW p l e R s m args below meth c cells slots nL bs Q Ω pc L st := fun H locs ls hΩ hs hL => lv_lload_n C.1.1 C.1.2.1 hdg hi (lv_at hL q hl) (kk H locs ls hΩ hs hL)
theorem x_aload_n (C : xC p m c cc nL s args own meth R cells slots D cA) {k : Fin 4} {i q : Nat} {x : Nat} (hdg : decode cc pc = .ok (.aload_n k, 1)) (hi : (k : Nat) = i) (hl : L[q]? = some (i, .ref x)) (kk : XW p l e R s m args below meth c cells slots nL bs Q Ω (pc + 1) L (.ref x :: st)) : XW p l e R s m args below meth c cells slots nL bs Q Ω pc L st := fun H locs ls hΩ hs hL => lv_aload_n C.1.1 C.1.2.1 hdg hi (lv_at hL q hl) (kk H locs ls hΩ hs hL)
theorem x_iload (C : xC p m c cc nL s args own meth R cells slots D cA) {i q : Nat} {x : Int32} (hdg : decode cc pc = .ok (.iload i, 2)) (hl : L[q]? = some (i, .int x)) (kk : XW p l e R s m args below meth c cells slots nL bs Q Ω (pc + 2) L (.int x :: st)) : XW p l e R s m args below meth c cells slots nL bs Q Ω pc L st := fun H locs ls hΩ hs hL => lv_iload C.1.1 C.1.2.1 hdg (lv_at hL q hl) (kk H locs ls hΩ hs hL)
theorem x_lload (C : xC p m c cc nL s args own meth R cells slots D cA) {i q : Nat} {x : Int64} (hdg : decode cc pc = .ok (.lload i, 2)) (hl : L[q]? = some (i, .long x)) (kk : XW p l e R s m args below meth c cells slots nL bs Q Ω (pc + 2) L (.long x :: st)) : XW p l e R s m args below meth c cells slots nL bs Q Ω pc L st := fun H locs ls hΩ hs hL => lv_lload C.1.1 C.1.2.1 hdg (lv_at hL q hl) (kk H locs ls hΩ hs hL)
theorem x_aload (C : xC p m c cc nL s args own meth R cells slots D cA) {i q : Nat} {x : Nat} (hdg : decode cc pc = .ok (.aload i, 2)) (hl : L[q]? = some (i, .ref x)) (kk : XW p l e R s m args below meth c cells slots nL bs Q Ω (pc + 2) L (.ref x :: st)) : XW p l e R s m args below meth c cells slots nL bs Q Ω pc L st := fun H locs ls hΩ hs hL => lv_aload C.1.1 C.1.2.1 hdg (lv_at hL q hl) (kk H locs ls hΩ hs hL)
theorem x_aload_nN (C : xC p m c cc nL s args own meth R cells slots D cA) {k : Fin 4} {i q : Nat} (hdg : decode cc pc = .ok (.aload_n k, 1)) (hi : (k : Nat) = i) (hl : L[q]? = some (i, .null)) (kk : XW p l e R s m args below meth c cells slots nL bs Q Ω (pc + 1) L (.null :: st)) : XW p l e R s m args below meth c cells slots nL bs Q Ω pc L st := by
  intro H locs ls hΩ hs hL T hT X
  obtain ⟨t, a, b⟩ := kk H locs ls hΩ hs hL T hT X
  refine ⟨t, ?_, b⟩
  have h1 := C.1.1
  have h2 := C.1.2.1
  have h3 := lv_at hL q hl
  subst hi
  jvm_step X.here [X.here.top, h1, h2, hdg, h3, Value.isRef]
  exact a
theorem x_astore_nN (C : xC p m c cc nL s args own meth R cells slots D cA) {k : Fin 4} {i : Nat} {L' : List (Nat × Value)} (hdg : decode cc pc = .ok (.astore_n k, 1)) (hi : (k : Nat) = i) (hn : i < nL) (hl : (i, Value.null) :: L.filter (fun q => !(q.1 == i) && !(q.1 + 1 == i && q.2.category == 2)) = L') (kk : XW p l e R s m args below meth c cells slots nL bs Q Ω (pc + 1) L' st) : XW p l e R s m args below meth c cells slots nL bs Q Ω pc L (.null :: st) := by
  intro H locs ls hΩ hs hL T hT X
  subst hi
  obtain ⟨ls', e', h'⟩ := lv_store1 (v := .null) hL hn rfl
  obtain ⟨t, a, b⟩ := kk H locs ls' hΩ hs (hl ▸ h') T hT X
  refine ⟨t, ?_, b⟩
  have h1 := C.1.1
  have h2 := C.1.2.1
  jvm_step X.here [X.here.top, ↓top_set X.here.top, h1, h2, hdg, e', Value.isRef]
  exact a
theorem x_istore_n (C : xC p m c cc nL s args own meth R cells slots D cA) {k : Fin 4} {i : Nat} {x : Int32} {L' : List (Nat × Value)} (hdg : decode cc pc = .ok (.istore_n k, 1)) (hi : (k : Nat) = i) (hn : i < nL) (hl : (i, Value.int x) :: L.filter (fun q => !(q.1 == i) && !(q.1 + 1 == i && q.2.category == 2)) = L') (kk : XW p l e R s m args below meth c cells slots nL bs Q Ω (pc + 1) L' st) : XW p l e R s m args below meth c cells slots nL bs Q Ω pc L (.int x :: st) := fun H locs ls hΩ hs hL => lv_istore_n C.1.1 C.1.2.1 hdg hi hL hn hl (fun ls' hL' => kk H locs ls' hΩ hs hL')
theorem x_istore (C : xC p m c cc nL s args own meth R cells slots D cA) {i : Nat} {x : Int32} {L' : List (Nat × Value)} (hdg : decode cc pc = .ok (.istore i, 2)) (hn : i < nL) (hl : (i, Value.int x) :: L.filter (fun q => !(q.1 == i) && !(q.1 + 1 == i && q.2.category == 2)) = L') (kk : XW p l e R s m args below meth c cells slots nL bs Q Ω (pc + 2) L' st) : XW p l e R s m args below meth c cells slots nL bs Q Ω pc L (.int x :: st) := fun H locs ls hΩ hs hL => lv_istore C.1.1 C.1.2.1 hdg hL hn hl (fun ls' hL' => kk H locs ls' hΩ hs hL')
theorem x_astore_n (C : xC p m c cc nL s args own meth R cells slots D cA) {k : Fin 4} {i : Nat} {x : Nat} {L' : List (Nat × Value)} (hdg : decode cc pc = .ok (.astore_n k, 1)) (hi : (k : Nat) = i) (hn : i < nL) (hl : (i, Value.ref x) :: L.filter (fun q => !(q.1 == i) && !(q.1 + 1 == i && q.2.category == 2)) = L') (kk : XW p l e R s m args below meth c cells slots nL bs Q Ω (pc + 1) L' st) : XW p l e R s m args below meth c cells slots nL bs Q Ω pc L (.ref x :: st) := fun H locs ls hΩ hs hL => lv_astore_n C.1.1 C.1.2.1 hdg hi hL hn hl (fun ls' hL' => kk H locs ls' hΩ hs hL')
theorem x_astore (C : xC p m c cc nL s args own meth R cells slots D cA) {i : Nat} {x : Nat} {L' : List (Nat × Value)} (hdg : decode cc pc = .ok (.astore i, 2)) (hn : i < nL) (hl : (i, Value.ref x) :: L.filter (fun q => !(q.1 == i) && !(q.1 + 1 == i && q.2.category == 2)) = L') (kk : XW p l e R s m args below meth c cells slots nL bs Q Ω (pc + 2) L' st) : XW p l e R s m args below meth c cells slots nL bs Q Ω pc L (.ref x :: st) := fun H locs ls hΩ hs hL => lv_astore C.1.1 C.1.2.1 hdg hL hn hl (fun ls' hL' => kk H locs ls' hΩ hs hL')
theorem x_lstore_n (C : xC p m c cc nL s args own meth R cells slots D cA) {k : Fin 4} {i : Nat} {x : Int64} {L' : List (Nat × Value)} (hdg : decode cc pc = .ok (.lstore_n k, 1)) (hi : (k : Nat) = i) (hn : i + 1 < nL) (hl : (i, Value.long x) :: L.filter (fun q => !(q.1 == i) && (!(q.1 == i + 1) && !(q.1 + 1 == i && q.2.category == 2))) = L') (kk : XW p l e R s m args below meth c cells slots nL bs Q Ω (pc + 1) L' st) : XW p l e R s m args below meth c cells slots nL bs Q Ω pc L (.long x :: st) := fun H locs ls hΩ hs hL => lv_lstore_n C.1.1 C.1.2.1 hdg hi hL hn hl (fun ls' hL' => kk H locs ls' hΩ hs hL')
theorem x_lstore (C : xC p m c cc nL s args own meth R cells slots D cA) {i : Nat} {x : Int64} {L' : List (Nat × Value)} (hdg : decode cc pc = .ok (.lstore i, 2)) (hn : i + 1 < nL) (hl : (i, Value.long x) :: L.filter (fun q => !(q.1 == i) && (!(q.1 == i + 1) && !(q.1 + 1 == i && q.2.category == 2))) = L') (kk : XW p l e R s m args below meth c cells slots nL bs Q Ω (pc + 2) L' st) : XW p l e R s m args below meth c cells slots nL bs Q Ω pc L (.long x :: st) := fun H locs ls hΩ hs hL => lv_lstore C.1.1 C.1.2.1 hdg hL hn hl (fun ls' hL' => kk H locs ls' hΩ hs hL')
theorem x_iinc (C : xC p m c cc nL s args own meth R cells slots D cA) {i k : Nat} {n : Int} {x v : Int32} {L' : List (Nat × Value)} (hdg : decode cc pc = .ok (.iinc i n, 3)) (hk : L[k]? = some (i, .int x)) (hv : x + Int32.ofInt n = v) (hn : i < nL) (hl : (i, Value.int v) :: L.filter (fun q => !(q.1 == i) && !(q.1 + 1 == i && q.2.category == 2)) = L') (kk : XW p l e R s m args below meth c cells slots nL bs Q Ω (pc + 3) L' st) : XW p l e R s m args below meth c cells slots nL bs Q Ω pc L st :=
  fun H locs ls hΩ hs hL => lv_iinc C.1.1 C.1.2.1 hdg hL hk hv hn hl (fun ls' hL' => kk H locs ls' hΩ hs hL')
theorem x_iconst (C : xC p m c cc nL s args own meth R cells slots D cA) {n : Int} {v : Int32} (hdg : decode cc pc = .ok (.iconst n, 1)) (hv : Int32.ofInt n = v) (kk : XW p l e R s m args below meth c cells slots nL bs Q Ω (pc + 1) L (.int v :: st)) : XW p l e R s m args below meth c cells slots nL bs Q Ω pc L st := fun H locs ls hΩ hs hL => lv_iconst C.1.1 C.1.2.1 hdg hv (kk H locs ls hΩ hs hL)
theorem x_bipush (C : xC p m c cc nL s args own meth R cells slots D cA) {n : Int} {v : Int32} (hdg : decode cc pc = .ok (.bipush n, 2)) (hv : (Int8.ofInt n).toInt32 = v) (kk : XW p l e R s m args below meth c cells slots nL bs Q Ω (pc + 2) L (.int v :: st)) : XW p l e R s m args below meth c cells slots nL bs Q Ω pc L st := fun H locs ls hΩ hs hL => lv_bipush C.1.1 C.1.2.1 hdg hv (kk H locs ls hΩ hs hL)
theorem x_sipush (C : xC p m c cc nL s args own meth R cells slots D cA) {n : Int} {v : Int32} (hdg : decode cc pc = .ok (.sipush n, 3)) (hv : (Int16.ofInt n).toInt32 = v) (kk : XW p l e R s m args below meth c cells slots nL bs Q Ω (pc + 3) L (.int v :: st)) : XW p l e R s m args below meth c cells slots nL bs Q Ω pc L st := fun H locs ls hΩ hs hL => lv_sipush C.1.1 C.1.2.1 hdg hv (kk H locs ls hΩ hs hL)
theorem x_lconst (C : xC p m c cc nL s args own meth R cells slots D cA) {n : Fin 2} {v : Int64} (hdg : decode cc pc = .ok (.lconst n, 1)) (hv : Int64.ofNat (n : Nat) = v) (kk : XW p l e R s m args below meth c cells slots nL bs Q Ω (pc + 1) L (.long v :: st)) : XW p l e R s m args below meth c cells slots nL bs Q Ω pc L st := fun H locs ls hΩ hs hL => lv_lconst C.1.1 C.1.2.1 hdg hv (kk H locs ls hΩ hs hL)
theorem x_ldc (C : xC p m c cc nL s args own meth R cells slots D cA) {index : Nat} {v : Int32} (hw : Cond.constant own index v ∈ lw_g) (hdg : decode cc pc = .ok (.ldc index, 2)) (kk : XW p l e R s m args below meth c cells slots nL bs Q Ω (pc + 2) L (.int v :: st)) : XW p l e R s m args below meth c cells slots nL bs Q Ω pc L st := fun H locs ls hΩ hs hL => lv_ldc C.1.1 C.1.2.1 C.1.2.2.2.1 (C.1.2.2.2.2 _ hw) hdg (kk H locs ls hΩ hs hL)
theorem x_ldc_w (C : xC p m c cc nL s args own meth R cells slots D cA) {index : Nat} {v : Int32} (hw : Cond.constant own index v ∈ lw_g) (hdg : decode cc pc = .ok (.ldc_w index, 3)) (kk : XW p l e R s m args below meth c cells slots nL bs Q Ω (pc + 3) L (.int v :: st)) : XW p l e R s m args below meth c cells slots nL bs Q Ω pc L st := fun H locs ls hΩ hs hL => lv_ldcw C.1.1 C.1.2.1 C.1.2.2.2.1 (C.1.2.2.2.2 _ hw) hdg (kk H locs ls hΩ hs hL)
theorem x_ldc2_w (C : xC p m c cc nL s args own meth R cells slots D cA) {index : Nat} {v : Int64} (hw : Cond.constantLong own index v ∈ lw_g) (hdg : decode cc pc = .ok (.ldc2_w index, 3)) (kk : XW p l e R s m args below meth c cells slots nL bs Q Ω (pc + 3) L (.long v :: st)) : XW p l e R s m args below meth c cells slots nL bs Q Ω pc L st := fun H locs ls hΩ hs hL => lv_ldc2 C.1.1 C.1.2.1 C.1.2.2.2.1 (C.1.2.2.2.2 _ hw) hdg (kk H locs ls hΩ hs hL)
theorem x_aconst_null (C : xC p m c cc nL s args own meth R cells slots D cA) (hdg : decode cc pc = .ok (.aconst_null, 1)) (kk : XW p l e R s m args below meth c cells slots nL bs Q Ω (pc + 1) L (.null :: st)) : XW p l e R s m args below meth c cells slots nL bs Q Ω pc L st := fun H locs ls hΩ hs hL => lv_null C.1.1 C.1.2.1 hdg (kk H locs ls hΩ hs hL)
theorem x_iadd (C : xC p m c cc nL s args own meth R cells slots D cA) {x y : Int32} (hdg : decode cc pc = .ok (.iadd, 1)) (kk : XW p l e R s m args below meth c cells slots nL bs Q Ω (pc + 1) L (.int (x + y) :: st)) : XW p l e R s m args below meth c cells slots nL bs Q Ω pc L (.int y :: .int x :: st) := fun H locs ls hΩ hs hL => lv_iadd C.1.1 C.1.2.1 hdg (kk H locs ls hΩ hs hL)
theorem x_isub (C : xC p m c cc nL s args own meth R cells slots D cA) {x y : Int32} (hdg : decode cc pc = .ok (.isub, 1)) (kk : XW p l e R s m args below meth c cells slots nL bs Q Ω (pc + 1) L (.int (x - y) :: st)) : XW p l e R s m args below meth c cells slots nL bs Q Ω pc L (.int y :: .int x :: st) := fun H locs ls hΩ hs hL => lv_isub C.1.1 C.1.2.1 hdg (kk H locs ls hΩ hs hL)
theorem x_imul (C : xC p m c cc nL s args own meth R cells slots D cA) {x y : Int32} (hdg : decode cc pc = .ok (.imul, 1)) (kk : XW p l e R s m args below meth c cells slots nL bs Q Ω (pc + 1) L (.int (x * y) :: st)) : XW p l e R s m args below meth c cells slots nL bs Q Ω pc L (.int y :: .int x :: st) := fun H locs ls hΩ hs hL => lv_imul C.1.1 C.1.2.1 hdg (kk H locs ls hΩ hs hL)
theorem x_iand (C : xC p m c cc nL s args own meth R cells slots D cA) {x y : Int32} (hdg : decode cc pc = .ok (.iand, 1)) (kk : XW p l e R s m args below meth c cells slots nL bs Q Ω (pc + 1) L (.int (x &&& y) :: st)) : XW p l e R s m args below meth c cells slots nL bs Q Ω pc L (.int y :: .int x :: st) := fun H locs ls hΩ hs hL => lv_iand C.1.1 C.1.2.1 hdg (kk H locs ls hΩ hs hL)
theorem x_ior (C : xC p m c cc nL s args own meth R cells slots D cA) {x y : Int32} (hdg : decode cc pc = .ok (.ior, 1)) (kk : XW p l e R s m args below meth c cells slots nL bs Q Ω (pc + 1) L (.int (x ||| y) :: st)) : XW p l e R s m args below meth c cells slots nL bs Q Ω pc L (.int y :: .int x :: st) := fun H locs ls hΩ hs hL => lv_ior C.1.1 C.1.2.1 hdg (kk H locs ls hΩ hs hL)
theorem x_ixor (C : xC p m c cc nL s args own meth R cells slots D cA) {x y : Int32} (hdg : decode cc pc = .ok (.ixor, 1)) (kk : XW p l e R s m args below meth c cells slots nL bs Q Ω (pc + 1) L (.int (x ^^^ y) :: st)) : XW p l e R s m args below meth c cells slots nL bs Q Ω pc L (.int y :: .int x :: st) := fun H locs ls hΩ hs hL => lv_ixor C.1.1 C.1.2.1 hdg (kk H locs ls hΩ hs hL)
theorem x_ishl (C : xC p m c cc nL s args own meth R cells slots D cA) {x y : Int32} (hdg : decode cc pc = .ok (.ishl, 1)) (kk : XW p l e R s m args below meth c cells slots nL bs Q Ω (pc + 1) L (.int (x <<< (y &&& 31)) :: st)) : XW p l e R s m args below meth c cells slots nL bs Q Ω pc L (.int y :: .int x :: st) := fun H locs ls hΩ hs hL => lv_ishl C.1.1 C.1.2.1 hdg (kk H locs ls hΩ hs hL)
theorem x_ishr (C : xC p m c cc nL s args own meth R cells slots D cA) {x y : Int32} (hdg : decode cc pc = .ok (.ishr, 1)) (kk : XW p l e R s m args below meth c cells slots nL bs Q Ω (pc + 1) L (.int (x >>> (y &&& 31)) :: st)) : XW p l e R s m args below meth c cells slots nL bs Q Ω pc L (.int y :: .int x :: st) := fun H locs ls hΩ hs hL => lv_ishr C.1.1 C.1.2.1 hdg (kk H locs ls hΩ hs hL)
theorem x_ladd (C : xC p m c cc nL s args own meth R cells slots D cA) {x y : Int64} (hdg : decode cc pc = .ok (.ladd, 1)) (kk : XW p l e R s m args below meth c cells slots nL bs Q Ω (pc + 1) L (.long (x + y) :: st)) : XW p l e R s m args below meth c cells slots nL bs Q Ω pc L (.long y :: .long x :: st) := fun H locs ls hΩ hs hL => lv_ladd C.1.1 C.1.2.1 hdg (kk H locs ls hΩ hs hL)
theorem x_lmul (C : xC p m c cc nL s args own meth R cells slots D cA) {x y : Int64} (hdg : decode cc pc = .ok (.lmul, 1)) (kk : XW p l e R s m args below meth c cells slots nL bs Q Ω (pc + 1) L (.long (x * y) :: st)) : XW p l e R s m args below meth c cells slots nL bs Q Ω pc L (.long y :: .long x :: st) := fun H locs ls hΩ hs hL => lv_lmul C.1.1 C.1.2.1 hdg (kk H locs ls hΩ hs hL)
theorem x_land (C : xC p m c cc nL s args own meth R cells slots D cA) {x y : Int64} (hdg : decode cc pc = .ok (.land, 1)) (kk : XW p l e R s m args below meth c cells slots nL bs Q Ω (pc + 1) L (.long (x &&& y) :: st)) : XW p l e R s m args below meth c cells slots nL bs Q Ω pc L (.long y :: .long x :: st) := fun H locs ls hΩ hs hL => lv_land C.1.1 C.1.2.1 hdg (kk H locs ls hΩ hs hL)
theorem x_lor (C : xC p m c cc nL s args own meth R cells slots D cA) {x y : Int64} (hdg : decode cc pc = .ok (.lor, 1)) (kk : XW p l e R s m args below meth c cells slots nL bs Q Ω (pc + 1) L (.long (x ||| y) :: st)) : XW p l e R s m args below meth c cells slots nL bs Q Ω pc L (.long y :: .long x :: st) := fun H locs ls hΩ hs hL => lv_lor C.1.1 C.1.2.1 hdg (kk H locs ls hΩ hs hL)
theorem x_iushr (C : xC p m c cc nL s args own meth R cells slots D cA) {x y v : Int32} (hdg : decode cc pc = .ok (.iushr, 1)) (hv : (x.toUInt32 >>> (y.toUInt32 &&& Int32.toUInt32 31)).toInt32 = v) (kk : XW p l e R s m args below meth c cells slots nL bs Q Ω (pc + 1) L (.int v :: st)) : XW p l e R s m args below meth c cells slots nL bs Q Ω pc L (.int y :: .int x :: st) := fun H locs ls hΩ hs hL => lv_iushr C.1.1 C.1.2.1 hdg hv (kk H locs ls hΩ hs hL)
theorem x_lushr (C : xC p m c cc nL s args own meth R cells slots D cA) {x v : Int64} {y : Int32} (hdg : decode cc pc = .ok (.lushr, 1)) (hv : (x.toUInt64 >>> (y.toInt64.toUInt64 &&& Int64.toUInt64 63)).toInt64 = v) (kk : XW p l e R s m args below meth c cells slots nL bs Q Ω (pc + 1) L (.long v :: st)) : XW p l e R s m args below meth c cells slots nL bs Q Ω pc L (.int y :: .long x :: st) := fun H locs ls hΩ hs hL => lv_lushr C.1.1 C.1.2.1 hdg hv (kk H locs ls hΩ hs hL)
theorem x_lshl (C : xC p m c cc nL s args own meth R cells slots D cA) {x v : Int64} {y : Int32} (hdg : decode cc pc = .ok (.lshl, 1)) (hv : x <<< (y.toInt64 &&& 63) = v) (kk : XW p l e R s m args below meth c cells slots nL bs Q Ω (pc + 1) L (.long v :: st)) : XW p l e R s m args below meth c cells slots nL bs Q Ω pc L (.int y :: .long x :: st) := fun H locs ls hΩ hs hL => lv_lshl C.1.1 C.1.2.1 hdg hv (kk H locs ls hΩ hs hL)
theorem x_i2l (C : xC p m c cc nL s args own meth R cells slots D cA) {x : Int32} (hdg : decode cc pc = .ok (.i2l, 1)) (kk : XW p l e R s m args below meth c cells slots nL bs Q Ω (pc + 1) L (.long x.toInt64 :: st)) : XW p l e R s m args below meth c cells slots nL bs Q Ω pc L (.int x :: st) := fun H locs ls hΩ hs hL => lv_i2l C.1.1 C.1.2.1 hdg rfl (kk H locs ls hΩ hs hL)
theorem x_l2i (C : xC p m c cc nL s args own meth R cells slots D cA) {x : Int64} (hdg : decode cc pc = .ok (.l2i, 1)) (kk : XW p l e R s m args below meth c cells slots nL bs Q Ω (pc + 1) L (.int x.toInt32 :: st)) : XW p l e R s m args below meth c cells slots nL bs Q Ω pc L (.long x :: st) := fun H locs ls hΩ hs hL => lv_l2i C.1.1 C.1.2.1 hdg rfl (kk H locs ls hΩ hs hL)
theorem x_lcmp (C : xC p m c cc nL s args own meth R cells slots D cA) {x y : Int64} (hdg : decode cc pc = .ok (.lcmp, 1)) (kk : XW p l e R s m args below meth c cells slots nL bs Q Ω (pc + 1) L (.int (lg_cmp x y) :: st)) : XW p l e R s m args below meth c cells slots nL bs Q Ω pc L (.long y :: .long x :: st) := fun H locs ls hΩ hs hL => W.lcmp C.1.1 C.1.2.1 hdg (kk H locs ls hΩ hs hL)
theorem x_idiv (C : xC p m c cc nL s args own meth R cells slots D cA) {x y : Int32} {K : Option ρ} (hdg : decode cc pc = .ok (.idiv, 1)) (h : gnz y K = some rr) (kk : K = some rr → XW p l e R s m args below meth c cells slots nL bs Q Ω (pc + 1) L (.int (x / y) :: st)) : XW p l e R s m args below meth c cells slots nL bs Q Ω pc L (.int y :: .int x :: st) := by
  unfold gnz at h
  split at h
  · cases h
  next hy => exact fun H locs ls hΩ hs hL => lv_idiv C.1.1 C.1.2.1 hdg hy (kk h H locs ls hΩ hs hL)
theorem x_irem (C : xC p m c cc nL s args own meth R cells slots D cA) {x y : Int32} {K : Option ρ} (hdg : decode cc pc = .ok (.irem, 1)) (h : gnz y K = some rr) (kk : K = some rr → XW p l e R s m args below meth c cells slots nL bs Q Ω (pc + 1) L (.int (x - x / y * y) :: st)) : XW p l e R s m args below meth c cells slots nL bs Q Ω pc L (.int y :: .int x :: st) := by
  unfold gnz at h
  split at h
  · cases h
  next hy => exact fun H locs ls hΩ hs hL => lv_irem C.1.1 C.1.2.1 hdg hy (kk h H locs ls hΩ hs hL)
theorem x_goto (C : xC p m c cc nL s args own meth R cells slots D cA) {off : Int} {tgt : Nat} (hdg : decode cc pc = .ok (.goto off, 3)) (ht : (pc : Int) + off = (tgt : Int)) (kk : XW p l e R s m args below meth c cells slots nL bs Q Ω tgt L st) : XW p l e R s m args below meth c cells slots nL bs Q Ω pc L st := fun H locs ls hΩ hs hL => lv_goto C.1.1 C.1.2.1 hdg ht (kk H locs ls hΩ hs hL)
theorem x_dup (C : xC p m c cc nL s args own meth R cells slots D cA) {v : Value} (hdg : decode cc pc = .ok (.dup, 1)) (hv : v.category = 1) (kk : XW p l e R s m args below meth c cells slots nL bs Q Ω (pc + 1) L (v :: v :: st)) : XW p l e R s m args below meth c cells slots nL bs Q Ω pc L (v :: st) := fun H locs ls hΩ hs hL => lv_dup C.1.1 C.1.2.1 hdg hv (kk H locs ls hΩ hs hL)
theorem x_dup2 (C : xC p m c cc nL s args own meth R cells slots D cA) {v w : Value} (hdg : decode cc pc = .ok (.dup2, 1)) (hv : v.category = 1) (hw : w.category = 1) (kk : XW p l e R s m args below meth c cells slots nL bs Q Ω (pc + 1) L (v :: w :: v :: w :: st)) : XW p l e R s m args below meth c cells slots nL bs Q Ω pc L (v :: w :: st) := fun H locs ls hΩ hs hL => lv_dup2_11 C.1.1 C.1.2.1 hdg hv hw (kk H locs ls hΩ hs hL)
theorem x_pop (C : xC p m c cc nL s args own meth R cells slots D cA) {v : Value} (hdg : decode cc pc = .ok (.pop, 1)) (hv : v.category = 1) (kk : XW p l e R s m args below meth c cells slots nL bs Q Ω (pc + 1) L st) : XW p l e R s m args below meth c cells slots nL bs Q Ω pc L (v :: st) := fun H locs ls hΩ hs hL => lv_pop C.1.1 C.1.2.1 hdg hv (kk H locs ls hΩ hs hL)
theorem x_if_eq (C : xC p m c cc nL s args own meth R cells slots D cA) {x : Int32} {off : Int} {tgt : Nat} {A B : Option ρ} (hdg : decode cc pc = .ok (.ifCond .eq off, 3)) (ht : (pc : Int) + off = (tgt : Int)) (h : (if x = 0 then A else B) = some rr) (kt : x = 0 → A = some rr → XW p l e R s m args below meth c cells slots nL bs Q Ω tgt L st) (kf : ¬ x = 0 → B = some rr → XW p l e R s m args below meth c cells slots nL bs Q Ω (pc + 3) L st) : XW p l e R s m args below meth c cells slots nL bs Q Ω pc L (.int x :: st) := fun H locs ls hΩ hs hL => lv_if_eq C.1.1 C.1.2.1 hdg ht (fun hc => kt hc (by rwa [if_pos hc] at h) H locs ls hΩ hs hL) (fun hc => kf hc (by rwa [if_neg hc] at h) H locs ls hΩ hs hL)
theorem x_if_ne (C : xC p m c cc nL s args own meth R cells slots D cA) {x : Int32} {off : Int} {tgt : Nat} {A B : Option ρ} (hdg : decode cc pc = .ok (.ifCond .ne off, 3)) (ht : (pc : Int) + off = (tgt : Int)) (h : (if x = 0 then A else B) = some rr) (kt : ¬ x = 0 → B = some rr → XW p l e R s m args below meth c cells slots nL bs Q Ω tgt L st) (kf : x = 0 → A = some rr → XW p l e R s m args below meth c cells slots nL bs Q Ω (pc + 3) L st) : XW p l e R s m args below meth c cells slots nL bs Q Ω pc L (.int x :: st) := fun H locs ls hΩ hs hL => lv_if_ne C.1.1 C.1.2.1 hdg ht (fun hc => kt hc (by rwa [if_neg hc] at h) H locs ls hΩ hs hL) (fun hc => kf hc (by rwa [if_pos hc] at h) H locs ls hΩ hs hL)
theorem x_if_lt (C : xC p m c cc nL s args own meth R cells slots D cA) {x : Int32} {off : Int} {tgt : Nat} {A B : Option ρ} (hdg : decode cc pc = .ok (.ifCond .lt off, 3)) (ht : (pc : Int) + off = (tgt : Int)) (h : (if x < 0 then A else B) = some rr) (kt : x < 0 → A = some rr → XW p l e R s m args below meth c cells slots nL bs Q Ω tgt L st) (kf : ¬ x < 0 → B = some rr → XW p l e R s m args below meth c cells slots nL bs Q Ω (pc + 3) L st) : XW p l e R s m args below meth c cells slots nL bs Q Ω pc L (.int x :: st) := fun H locs ls hΩ hs hL => lv_if_lt C.1.1 C.1.2.1 hdg ht (fun hc => kt hc (by rwa [if_pos hc] at h) H locs ls hΩ hs hL) (fun hc => kf hc (by rwa [if_neg hc] at h) H locs ls hΩ hs hL)
theorem x_if_ge (C : xC p m c cc nL s args own meth R cells slots D cA) {x : Int32} {off : Int} {tgt : Nat} {A B : Option ρ} (hdg : decode cc pc = .ok (.ifCond .ge off, 3)) (ht : (pc : Int) + off = (tgt : Int)) (h : (if 0 ≤ x then A else B) = some rr) (kt : 0 ≤ x → A = some rr → XW p l e R s m args below meth c cells slots nL bs Q Ω tgt L st) (kf : ¬ 0 ≤ x → B = some rr → XW p l e R s m args below meth c cells slots nL bs Q Ω (pc + 3) L st) : XW p l e R s m args below meth c cells slots nL bs Q Ω pc L (.int x :: st) := fun H locs ls hΩ hs hL => lv_if_ge C.1.1 C.1.2.1 hdg ht (fun hc => kt hc (by rwa [if_pos hc] at h) H locs ls hΩ hs hL) (fun hc => kf hc (by rwa [if_neg hc] at h) H locs ls hΩ hs hL)
theorem x_if_gt (C : xC p m c cc nL s args own meth R cells slots D cA) {x : Int32} {off : Int} {tgt : Nat} {A B : Option ρ} (hdg : decode cc pc = .ok (.ifCond .gt off, 3)) (ht : (pc : Int) + off = (tgt : Int)) (h : (if 0 < x then A else B) = some rr) (kt : 0 < x → A = some rr → XW p l e R s m args below meth c cells slots nL bs Q Ω tgt L st) (kf : ¬ 0 < x → B = some rr → XW p l e R s m args below meth c cells slots nL bs Q Ω (pc + 3) L st) : XW p l e R s m args below meth c cells slots nL bs Q Ω pc L (.int x :: st) := fun H locs ls hΩ hs hL => lv_if_gt C.1.1 C.1.2.1 hdg ht (fun hc => kt hc (by rwa [if_pos hc] at h) H locs ls hΩ hs hL) (fun hc => kf hc (by rwa [if_neg hc] at h) H locs ls hΩ hs hL)
theorem x_if_le (C : xC p m c cc nL s args own meth R cells slots D cA) {x : Int32} {off : Int} {tgt : Nat} {A B : Option ρ} (hdg : decode cc pc = .ok (.ifCond .le off, 3)) (ht : (pc : Int) + off = (tgt : Int)) (h : (if x ≤ 0 then A else B) = some rr) (kt : x ≤ 0 → A = some rr → XW p l e R s m args below meth c cells slots nL bs Q Ω tgt L st) (kf : ¬ x ≤ 0 → B = some rr → XW p l e R s m args below meth c cells slots nL bs Q Ω (pc + 3) L st) : XW p l e R s m args below meth c cells slots nL bs Q Ω pc L (.int x :: st) := fun H locs ls hΩ hs hL => lv_if_le C.1.1 C.1.2.1 hdg ht (fun hc => kt hc (by rwa [if_pos hc] at h) H locs ls hΩ hs hL) (fun hc => kf hc (by rwa [if_neg hc] at h) H locs ls hΩ hs hL)
theorem x_icmp_eq (C : xC p m c cc nL s args own meth R cells slots D cA) {x y : Int32} {off : Int} {tgt : Nat} {A B : Option ρ} (hdg : decode cc pc = .ok (.if_icmp .eq off, 3)) (ht : (pc : Int) + off = (tgt : Int)) (h : (if x = y then A else B) = some rr) (kt : x = y → A = some rr → XW p l e R s m args below meth c cells slots nL bs Q Ω tgt L st) (kf : ¬ x = y → B = some rr → XW p l e R s m args below meth c cells slots nL bs Q Ω (pc + 3) L st) : XW p l e R s m args below meth c cells slots nL bs Q Ω pc L (.int y :: .int x :: st) := fun H locs ls hΩ hs hL => lv_icmp_eq C.1.1 C.1.2.1 hdg ht (fun hc => kt hc (by rwa [if_pos hc] at h) H locs ls hΩ hs hL) (fun hc => kf hc (by rwa [if_neg hc] at h) H locs ls hΩ hs hL)
theorem x_icmp_ne (C : xC p m c cc nL s args own meth R cells slots D cA) {x y : Int32} {off : Int} {tgt : Nat} {A B : Option ρ} (hdg : decode cc pc = .ok (.if_icmp .ne off, 3)) (ht : (pc : Int) + off = (tgt : Int)) (h : (if x = y then A else B) = some rr) (kt : ¬ x = y → B = some rr → XW p l e R s m args below meth c cells slots nL bs Q Ω tgt L st) (kf : x = y → A = some rr → XW p l e R s m args below meth c cells slots nL bs Q Ω (pc + 3) L st) : XW p l e R s m args below meth c cells slots nL bs Q Ω pc L (.int y :: .int x :: st) := fun H locs ls hΩ hs hL => lv_icmp_ne C.1.1 C.1.2.1 hdg ht (fun hc => kt hc (by rwa [if_neg hc] at h) H locs ls hΩ hs hL) (fun hc => kf hc (by rwa [if_pos hc] at h) H locs ls hΩ hs hL)
theorem x_icmp_lt (C : xC p m c cc nL s args own meth R cells slots D cA) {x y : Int32} {off : Int} {tgt : Nat} {A B : Option ρ} (hdg : decode cc pc = .ok (.if_icmp .lt off, 3)) (ht : (pc : Int) + off = (tgt : Int)) (h : (if x < y then A else B) = some rr) (kt : x < y → A = some rr → XW p l e R s m args below meth c cells slots nL bs Q Ω tgt L st) (kf : ¬ x < y → B = some rr → XW p l e R s m args below meth c cells slots nL bs Q Ω (pc + 3) L st) : XW p l e R s m args below meth c cells slots nL bs Q Ω pc L (.int y :: .int x :: st) := fun H locs ls hΩ hs hL => lv_icmp_lt C.1.1 C.1.2.1 hdg ht (fun hc => kt hc (by rwa [if_pos hc] at h) H locs ls hΩ hs hL) (fun hc => kf hc (by rwa [if_neg hc] at h) H locs ls hΩ hs hL)
theorem x_icmp_ge (C : xC p m c cc nL s args own meth R cells slots D cA) {x y : Int32} {off : Int} {tgt : Nat} {A B : Option ρ} (hdg : decode cc pc = .ok (.if_icmp .ge off, 3)) (ht : (pc : Int) + off = (tgt : Int)) (h : (if y ≤ x then A else B) = some rr) (kt : y ≤ x → A = some rr → XW p l e R s m args below meth c cells slots nL bs Q Ω tgt L st) (kf : ¬ y ≤ x → B = some rr → XW p l e R s m args below meth c cells slots nL bs Q Ω (pc + 3) L st) : XW p l e R s m args below meth c cells slots nL bs Q Ω pc L (.int y :: .int x :: st) := fun H locs ls hΩ hs hL => lv_icmp_ge C.1.1 C.1.2.1 hdg ht (fun hc => kt hc (by rwa [if_pos hc] at h) H locs ls hΩ hs hL) (fun hc => kf hc (by rwa [if_neg hc] at h) H locs ls hΩ hs hL)
theorem x_icmp_gt (C : xC p m c cc nL s args own meth R cells slots D cA) {x y : Int32} {off : Int} {tgt : Nat} {A B : Option ρ} (hdg : decode cc pc = .ok (.if_icmp .gt off, 3)) (ht : (pc : Int) + off = (tgt : Int)) (h : (if y < x then A else B) = some rr) (kt : y < x → A = some rr → XW p l e R s m args below meth c cells slots nL bs Q Ω tgt L st) (kf : ¬ y < x → B = some rr → XW p l e R s m args below meth c cells slots nL bs Q Ω (pc + 3) L st) : XW p l e R s m args below meth c cells slots nL bs Q Ω pc L (.int y :: .int x :: st) := fun H locs ls hΩ hs hL => lv_icmp_gt C.1.1 C.1.2.1 hdg ht (fun hc => kt hc (by rwa [if_pos hc] at h) H locs ls hΩ hs hL) (fun hc => kf hc (by rwa [if_neg hc] at h) H locs ls hΩ hs hL)
theorem x_icmp_le (C : xC p m c cc nL s args own meth R cells slots D cA) {x y : Int32} {off : Int} {tgt : Nat} {A B : Option ρ} (hdg : decode cc pc = .ok (.if_icmp .le off, 3)) (ht : (pc : Int) + off = (tgt : Int)) (h : (if x ≤ y then A else B) = some rr) (kt : x ≤ y → A = some rr → XW p l e R s m args below meth c cells slots nL bs Q Ω tgt L st) (kf : ¬ x ≤ y → B = some rr → XW p l e R s m args below meth c cells slots nL bs Q Ω (pc + 3) L st) : XW p l e R s m args below meth c cells slots nL bs Q Ω pc L (.int y :: .int x :: st) := fun H locs ls hΩ hs hL => lv_icmp_le C.1.1 C.1.2.1 hdg ht (fun hc => kt hc (by rwa [if_pos hc] at h) H locs ls hΩ hs hL) (fun hc => kf hc (by rwa [if_neg hc] at h) H locs ls hΩ hs hL)
theorem x_ifnonnull (C : xC p m c cc nL s args own meth R cells slots D cA) {x : Nat} {off : Int} {tgt : Nat} (hdg : decode cc pc = .ok (.ifnonnull off, 3)) (ht : (pc : Int) + off = (tgt : Int)) (kk : XW p l e R s m args below meth c cells slots nL bs Q Ω tgt L st) : XW p l e R s m args below meth c cells slots nL bs Q Ω pc L (.ref x :: st) := fun H locs ls hΩ hs hL => lv_ifnonnull C.1.1 C.1.2.1 hdg ht (kk H locs ls hΩ hs hL)
theorem x_ifnull (C : xC p m c cc nL s args own meth R cells slots D cA) {x : Nat} {off : Int} (hdg : decode cc pc = .ok (.ifnull off, 3)) (kk : XW p l e R s m args below meth c cells slots nL bs Q Ω (pc + 3) L st) : XW p l e R s m args below meth c cells slots nL bs Q Ω pc L (.ref x :: st) := fun H locs ls hΩ hs hL => lv_ifnull C.1.1 C.1.2.1 hdg (kk H locs ls hΩ hs hL)
theorem x_ifnullN (C : xC p m c cc nL s args own meth R cells slots D cA) {off : Int} {tgt : Nat} (hdg : decode cc pc = .ok (.ifnull off, 3)) (ht : (pc : Int) + off = (tgt : Int)) (kk : XW p l e R s m args below meth c cells slots nL bs Q Ω tgt L st) : XW p l e R s m args below meth c cells slots nL bs Q Ω pc L (.null :: st) := fun H locs ls hΩ hs hL => lv_ifnullN C.1.1 C.1.2.1 hdg ht (kk H locs ls hΩ hs hL)
theorem x_ifnonnullN (C : xC p m c cc nL s args own meth R cells slots D cA) {off : Int} (hdg : decode cc pc = .ok (.ifnonnull off, 3)) (kk : XW p l e R s m args below meth c cells slots nL bs Q Ω (pc + 3) L st) : XW p l e R s m args below meth c cells slots nL bs Q Ω pc L (.null :: st) := fun H locs ls hΩ hs hL => lv_ifnonnullN C.1.1 C.1.2.1 hdg (kk H locs ls hΩ hs hL)
theorem x_tableIn (C : xC p m c cc nL s args own meth R cells slots D cA) {dflt lo hi : Int} {offs : Array Int} {len : Nat} {x : Int32} {off : Int} {tgt : Nat} (hdg : decode cc pc = .ok (.tableswitch dflt lo hi offs, len)) (v : Int32) (hx : x = v) (h1 : ¬ v.toInt < lo) (h2 : ¬ hi < v.toInt) (ho : offs[(v.toInt - lo).toNat]? = some off) (ht : (pc : Int) + off = (tgt : Int)) (kk : XW p l e R s m args below meth c cells slots nL bs Q Ω tgt L st) : XW p l e R s m args below meth c cells slots nL bs Q Ω pc L (.int x :: st) := by
  subst hx
  exact fun H locs ls hΩ hs hL => lv_tableIn C.1.1 C.1.2.1 hdg h1 h2 ho ht (kk H locs ls hΩ hs hL)
theorem x_tableOut (C : xC p m c cc nL s args own meth R cells slots D cA) {dflt lo hi : Int} {offs : Array Int} {len : Nat} {x : Int32} {tgt : Nat} (hdg : decode cc pc = .ok (.tableswitch dflt lo hi offs, len)) (h : x.toInt < lo ∨ hi < x.toInt) (ht : (pc : Int) + dflt = (tgt : Int)) (kk : XW p l e R s m args below meth c cells slots nL bs Q Ω tgt L st) : XW p l e R s m args below meth c cells slots nL bs Q Ω pc L (.int x :: st) := fun H locs ls hΩ hs hL => lv_tableOut C.1.1 C.1.2.1 hdg h ht (kk H locs ls hΩ hs hL)
theorem x_lookup (C : xC p m c cc nL s args own meth R cells slots D cA) {dflt : Int} {ps : Array (Int × Int)} {len : Nat} {x : Int32} {off : Int} {tgt : Nat} (hdg : decode cc pc = .ok (.lookupswitch dflt ps, len)) (hp : (ps.toList.zip (ps.toList.drop 1)).all (fun (a, next) => a.1 < next.1) = true) (ho : Op.lookupswitch.offset ps.toList dflt x.toInt = off) (ht : (pc : Int) + off = (tgt : Int)) (kk : XW p l e R s m args below meth c cells slots nL bs Q Ω tgt L st) : XW p l e R s m args below meth c cells slots nL bs Q Ω pc L (.int x :: st) := fun H locs ls hΩ hs hL => lv_lookup C.1.1 C.1.2.1 hdg hp ho ht (kk H locs ls hΩ hs hL)
theorem x_letI {x : Int32} {K : Int32 → Option ρ} (h : letv x K = some rr) (kk : ∀ v, K v = some rr → XW p l e R s m args below meth c cells slots nL bs Q Ω pc L (.int v :: st)) : XW p l e R s m args below meth c cells slots nL bs Q Ω pc L (.int x :: st) := kk x h
theorem x_letL {x : Int64} {K : Int64 → Option ρ} (h : letv x K = some rr) (kk : ∀ v, K v = some rr → XW p l e R s m args below meth c cells slots nL bs Q Ω pc L (.long v :: st)) : XW p l e R s m args below meth c cells slots nL bs Q Ω pc L (.long x :: st) := kk x h
end XROWS
end
section
/-! the world's rows: fields, arrays, calls, ends -/
theorem va_P1 {D : va_G} {cl : List vw_C} {q : Nat × va_E} {H : Heap} (h : va_at D cl q H) : va_P D cl [q] H := by
  intro k q' hk
  cases k with
  | zero => cases hk; exact h
  | succ k => simp at hk
theorem upI_at (σ : Sg) (f i j k : Nat) (v : Int32) : (upI σ f i j k v).1 f i j = fun k' => if k' = k then v else σ.1 f i j k' := by
  funext k'
  simp [upI]
theorem upI_off (σ : Sg) (f i j k : Nat) (v : Int32) {f' i' j' : Nat} (h : ¬ (f' = f ∧ i' = i ∧ j' = j)) : (upI σ f i j k v).1 f' i' j' = σ.1 f' i' j' := by
  funext k'
  simp only [upI]
  rw [if_neg (fun q => h ⟨q.1, q.2.1, q.2.2.1⟩)]
theorem upL_at (σ : Sg) (f i j k : Nat) (v : Int64) : (upL σ f i j k v).2.1 f i j = fun k' => if k' = k then v else σ.2.1 f i j k' := by
  funext k'
  simp [upL]
theorem upL_off (σ : Sg) (f i j k : Nat) (v : Int64) {f' i' j' : Nat} (h : ¬ (f' = f ∧ i' = i ∧ j' = j)) : (upL σ f i j k v).2.1 f' i' j' = σ.2.1 f' i' j' := by
  funext k'
  simp only [upL]
  rw [if_neg (fun q => h ⟨q.1, q.2.1, q.2.2.1⟩)]
theorem upR_at (σ : Sg) (f k v : Nat) : (upR σ f k v).2.2 f = fun k' => if k' = k then v else σ.2.2 f k' := by
  funext k'
  simp [upR]
theorem upR_off (σ : Sg) (f k v : Nat) {f' : Nat} (h : ¬ f' = f) : (upR σ f k v).2.2 f' = σ.2.2 f' := by
  funext k'
  simp only [upR]
  rw [if_neg (fun q => h q.1)]
theorem tpI_at (τ : Tg) (f k : Nat) (v : Int32) : (tpI τ f k v).1 f = fun k' => if k' = k then v else τ.1 f k' := by
  funext k'
  simp [tpI]
theorem tpI_off (τ : Tg) (f k : Nat) (v : Int32) {f' : Nat} (h : ¬ f' = f) : (tpI τ f k v).1 f' = τ.1 f' := by
  funext k'
  simp only [tpI]
  rw [if_neg (fun q => h q.1)]
theorem tpL_at (τ : Tg) (f k : Nat) (v : Int64) : (tpL τ f k v).2 f = fun k' => if k' = k then v else τ.2 f k' := by
  funext k'
  simp [tpL]
theorem tpL_off (τ : Tg) (f k : Nat) (v : Int64) {f' : Nat} (h : ¬ f' = f) : (tpL τ f k v).2 f' = τ.2 f' := by
  funext k'
  simp only [tpL]
  rw [if_neg (fun q => h q.1)]
section XREP
variable {G : xG} {z : Nat → Nat} {σ : Sg} {τ : Tg} {H H1 : Heap}
/-- one cell of the system changes -/
theorem xRep.setX (hΩ : xRep G z σ τ H) {σ' : Sg} {f i j : Nat} (hd : xdom z f i j) (hat : va_at (xD G) vwCl (xad G f i j, xCell G z f i j (σ'.1 f i j) (σ'.2.1 f i j) (σ'.2.2 f)) H1) (oq : ∀ q : Nat, q ≠ xad G f i j → H1[q]? = H[q]?)
    (off : ∀ f' i' j', xdom z f' i' j' → ¬ (f' = f ∧ i' = i ∧ j' = j) → σ'.1 f' i' j' = σ.1 f' i' j' ∧ σ'.2.1 f' i' j' = σ.2.1 f' i' j' ∧ σ'.2.2 f' = σ.2.2 f') : xRep G z σ' τ H1 := by
  obtain ⟨⟨h1, h2, h3⟩, h4, h5⟩ := hΩ
  have hb := (h4 f i j hd).2
  refine ⟨⟨by rw [oq _ (fun q => by omega)]; exact h1, h2, h3⟩, fun f' i' j' hd' => ?_, fun f' hf' => ?_⟩
  · by_cases hq : f' = f ∧ i' = i ∧ j' = j
    · obtain ⟨rfl, rfl, rfl⟩ := hq
      exact ⟨hat, hb⟩
    · obtain ⟨e1, e2, e3⟩ := off f' i' j' hd' hq
      rw [e1, e2, e3]
      exact ⟨(h4 f' i' j' hd').1.kept (oq _ (fun q => hq (h3.1 f i j f' i' j' hd hd' q.symm))), (h4 f' i' j' hd').2⟩
  · exact ⟨(h5 f' hf').1.kept (oq _ (fun q => h3.2.2 f i j f' hd hf' q.symm)), (h5 f' hf').2⟩
theorem xRep.setM (hΩ : xRep G z σ τ H) {τ' : Tg} {f : Nat} (hd : mB f = true) (hat : va_at (xD G) vwCl (xaM G f, mCell G z f (τ'.1 f) (τ'.2 f)) H1) (oq : ∀ q : Nat, q ≠ xaM G f → H1[q]? = H[q]?)
    (off : ∀ f', ¬ f' = f → τ'.1 f' = τ.1 f' ∧ τ'.2 f' = τ.2 f') : xRep G z σ τ' H1 := by
  obtain ⟨⟨h1, h2, h3⟩, h4, h5⟩ := hΩ
  have hb := (h5 f hd).2
  refine ⟨⟨by rw [oq _ (fun q => by omega)]; exact h1, h2, h3⟩, fun f' i' j' hd' => ?_, fun f' hf' => ?_⟩
  · exact ⟨(h4 f' i' j' hd').1.kept (oq _ (fun q => h3.2.2 f' i' j' f hd' hd q)), (h4 f' i' j' hd').2⟩
  · by_cases hq : f' = f
    · subst hq
      exact ⟨hat, hb⟩
    · obtain ⟨e1, e2⟩ := off f' hq
      rw [e1, e2]
      exact ⟨(h5 f' hf').1.kept (oq _ (fun q => hq (h3.2.1 f f' hd hf' q.symm))), (h5 f' hf').2⟩
end XREP
theorem xa_setI {cA : ClassId} {n k : Nat} {g : Nat → Int32} {v : Int32} : (vp_cell cA (n, .inl g)).setSlot k (.int v) = vp_cell cA (n, .inl (fun k' => if k' = k then v else g k')) := by
  rw [vp_cell_i, vp_cell_i, arrV_store]
  congr 1
  funext q
  by_cases hq : q = k
  · subst hq; simp [updV]
  · simp [updV, hq]
theorem xa_setL {cA : ClassId} {n k : Nat} {g : Nat → Int64} {v : Int64} : (vp_cell cA (n, .inr (.inl g))).setSlot k (.long v) = vp_cell cA (n, .inr (.inl (fun k' => if k' = k then v else g k'))) := by
  rw [vp_cell_l, vp_cell_l, arrV_store]
  congr 1
  funext q
  by_cases hq : q = k
  · subst hq; simp [updV]
  · simp [updV, hq]
theorem xa_setQ {cA : ClassId} {n k v : Nat} {g : Nat → Nat} : (vp_cell cA (n, xq g)).setSlot k (.ref v) = vp_cell cA (n, xq (fun k' => if k' = k then v else g k')) := by
  unfold xq
  rw [vp_cell_q, vp_cell_q, arrV_store]
  congr 1
  funext q
  by_cases hq : q = k
  · subst hq; simp [updV, va_rf]
  · simp [updV, hq]
section HROWS
variable {p : Program} {l : Launch} {e : Env} {R : Room} {s : State} {m : MethodId} {args : Array Value} {below : List Frame} {meth : Method} {c : Code} {cells slots nL bs : Nat} {Q : State → Prop} {Ω : Heap → Prop}
variable {cc : ByteArray} {own : String} {D : va_G} {cA : Nat → ClassId} {pc : Nat} {L : List (Nat × Value)} {st : List Value} {ρ : Type} {rr : ρ}
variable {H : Heap} {locs : List Loc} {ls : Array Slot}
theorem xFl.same {index : Nat} {T : u_T} {k : Nat} (hts : ∀ w ∈ lw_g, w.before args s = true) (h : xFl own index T k) : ∃ ref : String, (Cond.fieldLink own index ref (T k).2.1 (T k).2.2.1).before args s = true ∧ ∀ x, s.fieldFound? (T k).1 (T k).2.1 (T k).2.2.1 = some x → s.fieldFound? ref (T k).2.1 (T k).2.2.1 = some x := by
  obtain ⟨ref, h1, h2⟩ := h
  refine ⟨ref, hts _ h1, fun x hx => ?_⟩
  rcases h2 with h2 | h2
  · rw [h2]; exact hx
  · exact u_same (hts _ h2) x hx
/-- getfield, of a cell at an address -/
theorem r_get (C : xC p m c cc nL s args own meth R cells slots D cA) {ci k idx N a : Nat} {CC : String} {T : u_T} {ty : Nat → FieldType} {fs : List Value} {v : Value} (K : xCls ci CC T N ty) (hat : va_at D vwCl (a, .inr (ci, fs)) H) (hk : k < N) (hfl : xFl own idx T k) (hv : fs[k]? = some v) (hdg : decode cc pc = .ok (.getfield idx, 3))
    (kk : W p l e R s m args below meth c H locs cells slots Q (F0 m (pc + 3) ls (v :: st))) : W p l e R s m args below meth c H locs cells slots Q (F0 m pc ls (.ref a :: st)) := by
  obtain ⟨ref, h1, h2⟩ := hfl.same C.1.2.2.2.2
  exact va_get C.1.1 C.1.2.1 C.1.2.2.2.2 K.1 C.1.2.2.2.1 C.2.2.2.1 (va_P1 hat) 0 rfl K.2.2.2 k hk h1 h2 hv hdg kk
/-- putfield of a field that isn't final -/
theorem r_put (C : xC p m c cc nL s args own meth R cells slots D cA) {ci k idx N a : Nat} {CC : String} {T : u_T} {ty : Nat → FieldType} {fs : List Value} {v : Value} (K : xCls ci CC T N ty) (hat : va_at D vwCl (a, .inr (ci, fs)) H) (hk : k < N) (hfl : xFl own idx T k) (hfin : (T k).2.2.2 = false) (hn : narrow (ty k) v = v) (hfit : fits (ty k) v = true) (hl : k < fs.length) (hdg : decode cc pc = .ok (.putfield idx, 3))
    (kk : ∀ (H1 : Heap) (sl : Nat), va_at D vwCl (a, .inr (ci, fs.set k v)) H1 → H1.size = H.size → (∀ q : Nat, q ≠ a → H1[q]? = H[q]?) → W p l e R s m args below meth c H1 (locs ++ [⟨a, sl⟩]) cells slots Q (F0 m (pc + 3) ls st)) : W p l e R s m args below meth c H locs cells slots Q (F0 m pc ls (v :: .ref a :: st)) := by
  obtain ⟨ref, h1, h2⟩ := hfl.same C.1.2.2.2.2
  have hts := C.1.2.2.2.2
  have hap := va_apart (own := own) hts K.1 ty K.2.1 K.2.2.1 C.2.2.2.1 K.2.2.2
  obtain ⟨r, hr, cell, q1, q2, q3, q4⟩ := hat
  have hr : r = (CC, T, N) := Option.some.inj (hr.symm.trans K.2.2.2)
  subst hr
  obtain ⟨hS, hfc, kC, hkC, hkind⟩ := C.2.2.2.1.1 ci _ K.2.2.2
  obtain ⟨cf, kf, fi, f, hi, hsl⟩ := hS k hk
  have hlay := hts _ (K.1 _ (u_in_lay hk))
  unfold u_lay at hlay
  rw [if_neg (by rw [hfin]; decide)] at hlay
  have hst := (u_facts hfc hkC (u_lays hts K.1 hk) hi).1
  have h6 := u_store hfc hkC hkind hlay hi (K.2.1 k hk) hn hfit
  refine W.putK C.1.1 C.1.2.1 (f := f) ⟨C.1.2.2.2.1, h1, ⟨_, _, _, h2 _ hi⟩, hst⟩ (by rw [q2]; exact h6) q1 q3 (by rw [hsl]; exact k2_hasslot (q4 k hk)) rfl rfl hdg fun H' e1 e2 e3 => ?_
  rw [hsl] at e1 ⊢
  exact kk H' _ ⟨_, K.2.2.2, t_OB.to (V := updV (vp_V fs) k v) ⟨_, e1, q2, q3, t_set q4 hap hk v⟩ (fun j _ => vp_updV_set hl v j)⟩ e2 e3
/-- putfield of a final field, in its class's own constructor -/
theorem r_putF (C : xC p m c cc nL s args own meth R cells slots D cA) {ci k idx N a : Nat} {CC : String} {T : u_T} {ty : Nat → FieldType} {fs : List Value} {v : Value} (K : xCls ci CC T N ty) (hat : va_at D vwCl (a, .inr (ci, fs)) H) (hk : k < N) (hfl : xFl own idx T k) (hfin : (T k).2.2.2 = true) (hin : meth.name = "<init>") (hdecl : (T k).1 = own) (hn : narrow (ty k) v = v) (hfit : fits (ty k) v = true) (hl : k < fs.length) (hdg : decode cc pc = .ok (.putfield idx, 3))
    (kk : ∀ (H1 : Heap) (sl : Nat), va_at D vwCl (a, .inr (ci, fs.set k v)) H1 → H1.size = H.size → (∀ q : Nat, q ≠ a → H1[q]? = H[q]?) → W p l e R s m args below meth c H1 (locs ++ [⟨a, sl⟩]) cells slots Q (F0 m (pc + 3) ls st)) : W p l e R s m args below meth c H locs cells slots Q (F0 m pc ls (v :: .ref a :: st)) := by
  obtain ⟨ref, h1, h2⟩ := hfl.same C.1.2.2.2.2
  have hts := C.1.2.2.2.2
  have hap := va_apart (own := own) hts K.1 ty K.2.1 K.2.2.1 C.2.2.2.1 K.2.2.2
  obtain ⟨r, hr, cell, q1, q2, q3, q4⟩ := hat
  have hr : r = (CC, T, N) := Option.some.inj (hr.symm.trans K.2.2.2)
  subst hr
  obtain ⟨hS, hfc, kC, hkC, hkind⟩ := C.2.2.2.1.1 ci _ K.2.2.2
  obtain ⟨cf, kf, fi, f, hi, hsl⟩ := hS k hk
  have hlay := hts _ (K.1 _ (u_in_lay hk))
  unfold u_lay at hlay
  rw [if_pos hfin] at hlay
  have hst := (u_facts hfc hkC (u_lays hts K.1 hk) hi).1
  have hcf : m.cls = cf := by
    obtain ⟨_, _, c', _, _, _, -, -, hf', -, -, -, hown2, -⟩ := Cond.laysFinal_spec hlay
    have e1 : c' = cf := by have := hi.symm.trans hf'; simp at this; exact this.1.symm
    rw [hdecl] at hown2
    rw [← e1]; exact Option.some.inj (C.1.2.2.2.1.symm.trans hown2)
  have h6 := u_fits hfc hkC hkind (Or.inr hlay) hi (K.2.1 k hk) hn hfit
  refine W.putFinK C.1.1 C.1.2.1 C.1.2.2.2.1 h1 (h2 _ hi) hst hcf hin (by rw [q2]; exact h6) q1 q3 (by rw [hsl]; exact k2_hasslot (q4 k hk)) rfl rfl hdg fun H' e1 e2 e3 => ?_
  rw [hsl] at e1 ⊢
  exact kk H' _ ⟨_, K.2.2.2, t_OB.to (V := updV (vp_V fs) k v) ⟨_, e1, q2, q3, t_set q4 hap hk v⟩ (fun j _ => vp_updV_set hl v j)⟩ e2 e3
theorem r_in {i : Int32} {cA' : ClassId} {x : vp_A} (hin : ¬ (i < 0 ∨ x.1 ≤ i.toNatClampNeg)) : ¬ (i < 0 ∨ (vp_cell cA' x).slots.size ≤ i.toNatClampNeg) := by
  obtain ⟨n, f | f | f | f | f⟩ := x <;> simpa [vp_cell, arrV_size] using hin
theorem r_isa (hK : va_K D vwCl (xTys cA) s) {t0 : Nat} {cA' : ClassId} {ty : FieldType} (ht : (xTys cA)[t0]? = some (cA', ty)) (x : vp_A) : s.isArrayOf (vp_cell cA' x) ty := by
  obtain ⟨n, f | f | f | f | f⟩ := x
  · exact (hK.2 t0 _ ht).1 n (fun j => .int (f j))
  · exact (hK.2 t0 _ ht).1 n (fun j => .long (f j))
  · exact (hK.2 t0 _ ht).1 n (fun j => .float (f j))
  · exact (hK.2 t0 _ ht).1 n (fun j => .double (f j))
  · exact (hK.2 t0 _ ht).1 n (fun j => va_rf (f j))
theorem r_kn {cA' : ClassId} (x : vp_A) : (vp_cell cA' x).vm ≠ .unknown := by
  obtain ⟨n, f | f | f | f | f⟩ := x <;> exact fun q => by cases q
end HROWS
section XHEAP
variable {p : Program} {l : Launch} {e : Env} {R : Room} {s : State} {m : MethodId} {args : Array Value} {below : List Frame} {meth : Method} {c : Code} {cells slots nL bs : Nat} {Q : State → Prop} {Ω Ω' : Heap → Prop}
variable {cc : ByteArray} {own : String} {pc : Nat} {L : List (Nat × Value)} {st : List Value} {ρ : Type} {rr : ρ}
variable {G : xG} {z : Nat → Nat} {σ : Sg} {τ : Tg} {f i j k : Nat}
theorem gdx_some {x : Int32} {n : Nat} {K : Nat → Option ρ} (h : gdx x n K = some rr) : ¬ (x < 0 ∨ n ≤ x.toNatClampNeg) ∧ x.toNatClampNeg < n ∧ K x.toNatClampNeg = some rr := by
  unfold gdx at h
  split at h
  · cases h
  next hin => exact ⟨hin, Nat.not_le.mp fun q => hin (Or.inr q), h⟩
/-- getfield of the system's object -/
theorem x_get (C : xC p m c cc nL s args own meth R cells slots (xD G) (xcA G)) {ci idx N : Nat} {CC : String} {T : u_T} {ty : Nat → FieldType} {fs : List Value} {v : Value} (K : xCls ci CC T N ty) (k : Nat) (hk : k < N) (hfl : xFl own idx T k) (hd : xdom z f i j) (hc : xCell G z f i j (σ.1 f i j) (σ.2.1 f i j) (σ.2.2 f) = .inr (ci, fs)) (hv : fs[k]? = some v) (hdg : decode cc pc = .ok (.getfield idx, 3))
    (kk : XW p l e R s m args below meth c cells slots nL (xbs G) Q (xRep G z σ τ) (pc + 3) L (v :: st)) : XW p l e R s m args below meth c cells slots nL (xbs G) Q (xRep G z σ τ) pc L (.ref (xad G f i j) :: st) := by
  intro H locs ls hΩ hs hL
  have hat := (hΩ.2.1 f i j hd).1
  rw [hc] at hat
  exact r_get C K hat hk hfl hv hdg (kk H locs ls hΩ hs hL)
theorem m_get (C : xC p m c cc nL s args own meth R cells slots (xD G) (xcA G)) {idx N ci : Nat} {CC : String} {T : u_T} {ty : Nat → FieldType} {fs : List Value} {v : Value} (K : xCls ci CC T N ty) (k : Nat) (hk : k < N) (hfl : xFl own idx T k) (hc : mCell G z 0 (τ.1 0) (τ.2 0) = .inr (ci, fs)) (hv : fs[k]? = some v) (hdg : decode cc pc = .ok (.getfield idx, 3))
    (kk : XW p l e R s m args below meth c cells slots nL (xbs G) Q (xRep G z σ τ) (pc + 3) L (v :: st)) : XW p l e R s m args below meth c cells slots nL (xbs G) Q (xRep G z σ τ) pc L (.ref (xaM G 0) :: st) := by
  intro H locs ls hΩ hs hL
  have hat := (hΩ.2.2 0 rfl).1
  rw [hc] at hat
  exact r_get C K hat hk hfl hv hdg (kk H locs ls hΩ hs hL)
theorem x_putI (C : xC p m c cc nL s args own meth R cells slots (xD G) (xcA G)) {ci idx N : Nat} {CC : String} {T : u_T} {ty : Nat → FieldType} {F : (Nat → Int32) → (Nat → Int64) → (Nat → Nat) → List Value} {v : Int32} {K : Sg → Option ρ} (K0 : xCls ci CC T N ty) (k : Nat) (hk : k < N) (hfl : xFl own idx T k) (hfin : (T k).2.2.2 = false) (hd : xdom z f i j) (hc : ∀ si sl sp, xCell G z f i j si sl sp = .inr (ci, F si sl sp)) (hset : ∀ si sl sp, F (fun k' => if k' = k then v else si k') sl sp = (F si sl sp).set k (.int v)) (hlen : ∀ si sl sp, k < (F si sl sp).length) (hn : narrow (ty k) (.int v) = .int v) (hfit : fits (ty k) (.int v) = true) (hdg : decode cc pc = .ok (.putfield idx, 3))
    (h : letv (upI σ f i j k v) K = some rr) (kk : ∀ σ', K σ' = some rr → XW p l e R s m args below meth c cells slots nL (xbs G) Q (xRep G z σ' τ) (pc + 3) L st) : XW p l e R s m args below meth c cells slots nL (xbs G) Q (xRep G z σ τ) pc L (.int v :: .ref (xad G f i j) :: st) := by
  intro H locs ls hΩ hs hL
  have hat := (hΩ.2.1 f i j hd).1
  have hb := (hΩ.2.1 f i j hd).2
  rw [hc] at hat
  refine r_put C K0 hat hk hfl hfin hn hfit (hlen _ _ _) hdg fun H1 sl h1 h2 h3 => ?_
  refine kk _ h H1 _ ls (hΩ.setX hd ?_ h3 (fun f' i' j' _ hq => ⟨upI_off _ _ _ _ _ _ hq, rfl, rfl⟩)) (fun q hq => ?_) hL
  · rw [hc, upI_at]
    show va_at _ _ (_, .inr (ci, F _ (σ.2.1 f i j) (σ.2.2 f))) _
    rw [hset]
    exact h1
  · rcases List.mem_append.mp hq with hq | hq
    · exact hs q hq
    · rw [List.mem_singleton.mp hq]; exact hb
theorem x_putR (C : xC p m c cc nL s args own meth R cells slots (xD G) (xcA G)) {ci idx N a : Nat} {CC : String} {T : u_T} {ty : Nat → FieldType} {F : (Nat → Int32) → (Nat → Int64) → (Nat → Nat) → List Value} {v : Nat} {K : Sg → Option ρ} (K0 : xCls ci CC T N ty) (k : Nat) (hk : k < N) (hfl : xFl own idx T k) (hfin : (T k).2.2.2 = false) (hd : xdom z f i j) (hone : ∀ i' j', xdom z f i' j' → i' = i ∧ j' = j) (hc : ∀ si sl sp, xCell G z f i j si sl sp = .inr (ci, F si sl sp)) (hset : ∀ si sl sp, F si sl (fun k' => if k' = k then v else sp k') = (F si sl sp).set k (.ref a)) (hlen : ∀ si sl sp, k < (F si sl sp).length) (hn : narrow (ty k) (.ref a) = .ref a) (hfit : fits (ty k) (.ref a) = true) (hdg : decode cc pc = .ok (.putfield idx, 3))
    (h : letv (upR σ f k v) K = some rr) (kk : ∀ σ', K σ' = some rr → XW p l e R s m args below meth c cells slots nL (xbs G) Q (xRep G z σ' τ) (pc + 3) L st) : XW p l e R s m args below meth c cells slots nL (xbs G) Q (xRep G z σ τ) pc L (.ref a :: .ref (xad G f i j) :: st) := by
  intro H locs ls hΩ hs hL
  have hat := (hΩ.2.1 f i j hd).1
  have hb := (hΩ.2.1 f i j hd).2
  rw [hc] at hat
  refine r_put C K0 hat hk hfl hfin hn hfit (hlen _ _ _) hdg fun H1 sl h1 h2 h3 => ?_
  refine kk _ h H1 _ ls (hΩ.setX hd ?_ h3 (fun f' i' j' hd' hq => ⟨rfl, rfl, upR_off _ _ _ _ (fun q => hq (by subst q; exact ⟨rfl, hone _ _ hd'⟩))⟩)) (fun q hq => ?_) hL
  · rw [hc, upR_at]
    show va_at _ _ (_, .inr (ci, F (σ.1 f i j) (σ.2.1 f i j) _)) _
    rw [hset]
    exact h1
  · rcases List.mem_append.mp hq with hq | hq
    · exact hs q hq
    · rw [List.mem_singleton.mp hq]; exact hb
theorem m_putI (C : xC p m c cc nL s args own meth R cells slots (xD G) (xcA G)) {ci idx N : Nat} {CC : String} {T : u_T} {ty : Nat → FieldType} {F : (Nat → Int32) → (Nat → Int64) → List Value} {v : Int32} {K : Tg → Option ρ} (K0 : xCls ci CC T N ty) (k : Nat) (hk : k < N) (hfl : xFl own idx T k) (hfin : (T k).2.2.2 = false) (hc : ∀ ti tl, mCell G z 0 ti tl = .inr (ci, F ti tl)) (hset : ∀ ti tl, F (fun k' => if k' = k then v else ti k') tl = (F ti tl).set k (.int v)) (hlen : ∀ ti tl, k < (F ti tl).length) (hn : narrow (ty k) (.int v) = .int v) (hfit : fits (ty k) (.int v) = true) (hdg : decode cc pc = .ok (.putfield idx, 3))
    (h : letv (tpI τ 0 k v) K = some rr) (kk : ∀ τ', K τ' = some rr → XW p l e R s m args below meth c cells slots nL (xbs G) Q (xRep G z σ τ') (pc + 3) L st) : XW p l e R s m args below meth c cells slots nL (xbs G) Q (xRep G z σ τ) pc L (.int v :: .ref (xaM G 0) :: st) := by
  intro H locs ls hΩ hs hL
  have hat := (hΩ.2.2 0 rfl).1
  have hb := (hΩ.2.2 0 rfl).2
  rw [hc] at hat
  refine r_put C K0 hat hk hfl hfin hn hfit (hlen _ _) hdg fun H1 sl h1 h2 h3 => ?_
  refine kk _ h H1 _ ls (hΩ.setM rfl ?_ h3 (fun f' hq => ⟨tpI_off _ _ _ _ hq, rfl⟩)) (fun q hq => ?_) hL
  · rw [hc, tpI_at]
    show va_at _ _ (_, .inr (ci, F _ (τ.2 0))) _
    rw [hset]
    exact h1
  · rcases List.mem_append.mp hq with hq | hq
    · exact hs q hq
    · rw [List.mem_singleton.mp hq]; exact hb
theorem x_iald (C : xC p m c cc nL s args own meth R cells slots (xD G) (xcA G)) {n : Nat} {x : Int32} {K : Nat → Option ρ} (hd : xdom z f i j) (hc : ∀ si sl sp, xCell G z f i j si sl sp = .inl (xcA G 0, n, (.inl si))) (hdg : decode cc pc = .ok (.iaload, 1)) (h : gdx x n K = some rr)
    (kk : ∀ k, k < n → K k = some rr → XW p l e R s m args below meth c cells slots nL (xbs G) Q (xRep G z σ τ) (pc + 1) L (.int (σ.1 f i j k) :: st)) : XW p l e R s m args below meth c cells slots nL (xbs G) Q (xRep G z σ τ) pc L (.int x :: .ref (xad G f i j) :: st) := by
  obtain ⟨hin, hlt, h⟩ := gdx_some h
  intro H locs ls hΩ hs hL
  have hat := (hΩ.2.1 f i j hd).1
  rw [hc] at hat
  exact va_iald C.1.1 C.1.2.1 C.2.2.2.1 (va_P1 hat) 0 0 rfl rfl hin hdg (kk _ hlt h H locs ls hΩ hs hL)
theorem x_bald (C : xC p m c cc nL s args own meth R cells slots (xD G) (xcA G)) {n : Nat} {x : Int32} {K : Nat → Option ρ} (hd : xdom z f i j) (hc : ∀ si sl sp, xCell G z f i j si sl sp = .inl (xcA G 2, n, (.inl si))) (hdg : decode cc pc = .ok (.baload, 1)) (h : gdx x n K = some rr)
    (kk : ∀ k, k < n → K k = some rr → XW p l e R s m args below meth c cells slots nL (xbs G) Q (xRep G z σ τ) (pc + 1) L (.int (σ.1 f i j k) :: st)) : XW p l e R s m args below meth c cells slots nL (xbs G) Q (xRep G z σ τ) pc L (.int x :: .ref (xad G f i j) :: st) := by
  obtain ⟨hin, hlt, h⟩ := gdx_some h
  intro H locs ls hΩ hs hL
  have hat := (hΩ.2.1 f i j hd).1
  rw [hc] at hat
  exact va_zald C.1.1 C.1.2.1 C.2.2.2.1 (va_P1 hat) 0 2 rfl rfl hin hdg (kk _ hlt h H locs ls hΩ hs hL)
theorem x_lald (C : xC p m c cc nL s args own meth R cells slots (xD G) (xcA G)) {n : Nat} {x : Int32} {K : Nat → Option ρ} (hd : xdom z f i j) (hc : ∀ si sl sp, xCell G z f i j si sl sp = .inl (xcA G 1, n, (.inr (.inl sl)))) (hdg : decode cc pc = .ok (.laload, 1)) (h : gdx x n K = some rr)
    (kk : ∀ k, k < n → K k = some rr → XW p l e R s m args below meth c cells slots nL (xbs G) Q (xRep G z σ τ) (pc + 1) L (.long (σ.2.1 f i j k) :: st)) : XW p l e R s m args below meth c cells slots nL (xbs G) Q (xRep G z σ τ) pc L (.int x :: .ref (xad G f i j) :: st) := by
  obtain ⟨hin, hlt, h⟩ := gdx_some h
  intro H locs ls hΩ hs hL
  have hat := (hΩ.2.1 f i j hd).1
  rw [hc] at hat
  exact va_lald C.1.1 C.1.2.1 C.2.2.2.1 (va_P1 hat) 0 1 rfl rfl hin hdg (kk _ hlt h H locs ls hΩ hs hL)
theorem x_iast (C : xC p m c cc nL s args own meth R cells slots (xD G) (xcA G)) {n : Nat} {x : Int32} {x9 : Int32} {K : Nat → Option ρ} (hd : xdom z f i j) (hc : ∀ si sl sp, xCell G z f i j si sl sp = .inl (xcA G 0, n, (.inl si))) (hdg : decode cc pc = .ok (.iastore, 1)) (h : gdx x n K = some rr)
    (kk : ∀ k, k < n → K k = some rr → XW p l e R s m args below meth c cells slots nL (xbs G) Q (xRep G z (upI σ f i j k x9) τ) (pc + 1) L st) : XW p l e R s m args below meth c cells slots nL (xbs G) Q (xRep G z σ τ) pc L (.int x9 :: .int x :: .ref (xad G f i j) :: st) := by
  obtain ⟨hin, hlt, h⟩ := gdx_some h
  intro H locs ls hΩ hs hL
  have hat := (hΩ.2.1 f i j hd).1
  have hb := (hΩ.2.1 f i j hd).2
  rw [hc] at hat
  refine W.iast C.1.1 C.1.2.1 hat (r_isa C.2.2.2.1 (t0 := 0) rfl _) (r_kn _) (r_in hin) rfl rfl hdg fun H1 h1 h2 h3 => ?_
  refine kk _ hlt h H1 _ ls (hΩ.setX hd ?_ h3 (fun f' i' j' _ hq => ⟨upI_off _ _ _ _ _ _ hq, rfl, rfl⟩)) (fun q hq => ?_) hL
  · rw [hc, upI_at]
    show H1[_]? = some (vp_cell _ _)
    rw [h1, xa_setI]
  · rcases List.mem_append.mp hq with hq | hq
    · exact hs q hq
    · rw [List.mem_singleton.mp hq]; exact hb
theorem x_bast (C : xC p m c cc nL s args own meth R cells slots (xD G) (xcA G)) {n : Nat} {x : Int32} {x9 : Int32} {K : Nat → Option ρ} (hx : x9 = 0 ∨ x9 = 1) (hd : xdom z f i j) (hc : ∀ si sl sp, xCell G z f i j si sl sp = .inl (xcA G 2, n, (.inl si))) (hdg : decode cc pc = .ok (.bastore, 1)) (h : gdx x n K = some rr)
    (kk : ∀ k, k < n → K k = some rr → XW p l e R s m args below meth c cells slots nL (xbs G) Q (xRep G z (upI σ f i j k x9) τ) (pc + 1) L st) : XW p l e R s m args below meth c cells slots nL (xbs G) Q (xRep G z σ τ) pc L (.int x9 :: .int x :: .ref (xad G f i j) :: st) := by
  obtain ⟨hin, hlt, h⟩ := gdx_some h
  intro H locs ls hΩ hs hL
  have hat := (hΩ.2.1 f i j hd).1
  have hb := (hΩ.2.1 f i j hd).2
  rw [hc] at hat
  refine W.zast C.1.1 C.1.2.1 hat (r_isa C.2.2.2.1 (t0 := 2) rfl _) (r_kn _) (r_in hin) rfl rfl hdg fun H1 h1 h2 h3 => ?_
  refine kk _ hlt h H1 _ ls (hΩ.setX hd ?_ h3 (fun f' i' j' _ hq => ⟨upI_off _ _ _ _ _ _ hq, rfl, rfl⟩)) (fun q hq => ?_) hL
  · rw [hc, upI_at]
    show H1[_]? = some (vp_cell _ _)
    rw [h1, show narrow .boolean (.int x9) = .int x9 from by rcases hx with rfl | rfl <;> rfl, xa_setI]
  · rcases List.mem_append.mp hq with hq | hq
    · exact hs q hq
    · rw [List.mem_singleton.mp hq]; exact hb
theorem x_last (C : xC p m c cc nL s args own meth R cells slots (xD G) (xcA G)) {n : Nat} {x : Int32} {x9 : Int64} {K : Nat → Option ρ} (hd : xdom z f i j) (hc : ∀ si sl sp, xCell G z f i j si sl sp = .inl (xcA G 1, n, (.inr (.inl sl)))) (hdg : decode cc pc = .ok (.lastore, 1)) (h : gdx x n K = some rr)
    (kk : ∀ k, k < n → K k = some rr → XW p l e R s m args below meth c cells slots nL (xbs G) Q (xRep G z (upL σ f i j k x9) τ) (pc + 1) L st) : XW p l e R s m args below meth c cells slots nL (xbs G) Q (xRep G z σ τ) pc L (.long x9 :: .int x :: .ref (xad G f i j) :: st) := by
  obtain ⟨hin, hlt, h⟩ := gdx_some h
  intro H locs ls hΩ hs hL
  have hat := (hΩ.2.1 f i j hd).1
  have hb := (hΩ.2.1 f i j hd).2
  rw [hc] at hat
  refine W.last C.1.1 C.1.2.1 hat (r_isa C.2.2.2.1 (t0 := 1) rfl _) (r_kn _) (r_in hin) rfl rfl hdg fun H1 h1 h2 h3 => ?_
  refine kk _ hlt h H1 _ ls (hΩ.setX hd ?_ h3 (fun f' i' j' _ hq => ⟨rfl, upL_off _ _ _ _ _ _ hq, rfl⟩)) (fun q hq => ?_) hL
  · rw [hc, upL_at]
    show H1[_]? = some (vp_cell _ _)
    rw [h1, xa_setL]
  · rcases List.mem_append.mp hq with hq | hq
    · exact hs q hq
    · rw [List.mem_singleton.mp hq]; exact hb
theorem m_iald (C : xC p m c cc nL s args own meth R cells slots (xD G) (xcA G)) {n : Nat} {x : Int32} {K : Nat → Option ρ} (hd : mB f = true) (hc : ∀ ti tl, mCell G z f ti tl = .inl (xcA G 0, n, (.inl ti))) (hdg : decode cc pc = .ok (.iaload, 1)) (h : gdx x n K = some rr)
    (kk : ∀ k, k < n → K k = some rr → XW p l e R s m args below meth c cells slots nL (xbs G) Q (xRep G z σ τ) (pc + 1) L (.int (τ.1 f k) :: st)) : XW p l e R s m args below meth c cells slots nL (xbs G) Q (xRep G z σ τ) pc L (.int x :: .ref (xaM G f) :: st) := by
  obtain ⟨hin, hlt, h⟩ := gdx_some h
  intro H locs ls hΩ hs hL
  have hat := (hΩ.2.2 f hd).1
  rw [hc] at hat
  exact va_iald C.1.1 C.1.2.1 C.2.2.2.1 (va_P1 hat) 0 0 rfl rfl hin hdg (kk _ hlt h H locs ls hΩ hs hL)
theorem m_bald (C : xC p m c cc nL s args own meth R cells slots (xD G) (xcA G)) {n : Nat} {x : Int32} {K : Nat → Option ρ} (hd : mB f = true) (hc : ∀ ti tl, mCell G z f ti tl = .inl (xcA G 2, n, (.inl ti))) (hdg : decode cc pc = .ok (.baload, 1)) (h : gdx x n K = some rr)
    (kk : ∀ k, k < n → K k = some rr → XW p l e R s m args below meth c cells slots nL (xbs G) Q (xRep G z σ τ) (pc + 1) L (.int (τ.1 f k) :: st)) : XW p l e R s m args below meth c cells slots nL (xbs G) Q (xRep G z σ τ) pc L (.int x :: .ref (xaM G f) :: st) := by
  obtain ⟨hin, hlt, h⟩ := gdx_some h
  intro H locs ls hΩ hs hL
  have hat := (hΩ.2.2 f hd).1
  rw [hc] at hat
  exact va_zald C.1.1 C.1.2.1 C.2.2.2.1 (va_P1 hat) 0 2 rfl rfl hin hdg (kk _ hlt h H locs ls hΩ hs hL)
theorem m_lald (C : xC p m c cc nL s args own meth R cells slots (xD G) (xcA G)) {n : Nat} {x : Int32} {K : Nat → Option ρ} (hd : mB f = true) (hc : ∀ ti tl, mCell G z f ti tl = .inl (xcA G 1, n, (.inr (.inl tl)))) (hdg : decode cc pc = .ok (.laload, 1)) (h : gdx x n K = some rr)
    (kk : ∀ k, k < n → K k = some rr → XW p l e R s m args below meth c cells slots nL (xbs G) Q (xRep G z σ τ) (pc + 1) L (.long (τ.2 f k) :: st)) : XW p l e R s m args below meth c cells slots nL (xbs G) Q (xRep G z σ τ) pc L (.int x :: .ref (xaM G f) :: st) := by
  obtain ⟨hin, hlt, h⟩ := gdx_some h
  intro H locs ls hΩ hs hL
  have hat := (hΩ.2.2 f hd).1
  rw [hc] at hat
  exact va_lald C.1.1 C.1.2.1 C.2.2.2.1 (va_P1 hat) 0 1 rfl rfl hin hdg (kk _ hlt h H locs ls hΩ hs hL)
theorem m_iast (C : xC p m c cc nL s args own meth R cells slots (xD G) (xcA G)) {n : Nat} {x : Int32} {x9 : Int32} {K : Nat → Option ρ} (hd : mB f = true) (hc : ∀ ti tl, mCell G z f ti tl = .inl (xcA G 0, n, (.inl ti))) (hdg : decode cc pc = .ok (.iastore, 1)) (h : gdx x n K = some rr)
    (kk : ∀ k, k < n → K k = some rr → XW p l e R s m args below meth c cells slots nL (xbs G) Q (xRep G z σ (tpI τ f k x9)) (pc + 1) L st) : XW p l e R s m args below meth c cells slots nL (xbs G) Q (xRep G z σ τ) pc L (.int x9 :: .int x :: .ref (xaM G f) :: st) := by
  obtain ⟨hin, hlt, h⟩ := gdx_some h
  intro H locs ls hΩ hs hL
  have hat := (hΩ.2.2 f hd).1
  have hb := (hΩ.2.2 f hd).2
  rw [hc] at hat
  refine W.iast C.1.1 C.1.2.1 hat (r_isa C.2.2.2.1 (t0 := 0) rfl _) (r_kn _) (r_in hin) rfl rfl hdg fun H1 h1 h2 h3 => ?_
  refine kk _ hlt h H1 _ ls (hΩ.setM hd ?_ h3 (fun f' hq => ⟨tpI_off _ _ _ _ hq, rfl⟩)) (fun q hq => ?_) hL
  · rw [hc, tpI_at]
    show H1[_]? = some (vp_cell _ _)
    rw [h1, xa_setI]
  · rcases List.mem_append.mp hq with hq | hq
    · exact hs q hq
    · rw [List.mem_singleton.mp hq]; exact hb
theorem m_bast (C : xC p m c cc nL s args own meth R cells slots (xD G) (xcA G)) {n : Nat} {x : Int32} {x9 : Int32} {K : Nat → Option ρ} (hx : x9 = 0 ∨ x9 = 1) (hd : mB f = true) (hc : ∀ ti tl, mCell G z f ti tl = .inl (xcA G 2, n, (.inl ti))) (hdg : decode cc pc = .ok (.bastore, 1)) (h : gdx x n K = some rr)
    (kk : ∀ k, k < n → K k = some rr → XW p l e R s m args below meth c cells slots nL (xbs G) Q (xRep G z σ (tpI τ f k x9)) (pc + 1) L st) : XW p l e R s m args below meth c cells slots nL (xbs G) Q (xRep G z σ τ) pc L (.int x9 :: .int x :: .ref (xaM G f) :: st) := by
  obtain ⟨hin, hlt, h⟩ := gdx_some h
  intro H locs ls hΩ hs hL
  have hat := (hΩ.2.2 f hd).1
  have hb := (hΩ.2.2 f hd).2
  rw [hc] at hat
  refine W.zast C.1.1 C.1.2.1 hat (r_isa C.2.2.2.1 (t0 := 2) rfl _) (r_kn _) (r_in hin) rfl rfl hdg fun H1 h1 h2 h3 => ?_
  refine kk _ hlt h H1 _ ls (hΩ.setM hd ?_ h3 (fun f' hq => ⟨tpI_off _ _ _ _ hq, rfl⟩)) (fun q hq => ?_) hL
  · rw [hc, tpI_at]
    show H1[_]? = some (vp_cell _ _)
    rw [h1, show narrow .boolean (.int x9) = .int x9 from by rcases hx with rfl | rfl <;> rfl, xa_setI]
  · rcases List.mem_append.mp hq with hq | hq
    · exact hs q hq
    · rw [List.mem_singleton.mp hq]; exact hb
theorem m_last (C : xC p m c cc nL s args own meth R cells slots (xD G) (xcA G)) {n : Nat} {x : Int32} {x9 : Int64} {K : Nat → Option ρ} (hd : mB f = true) (hc : ∀ ti tl, mCell G z f ti tl = .inl (xcA G 1, n, (.inr (.inl tl)))) (hdg : decode cc pc = .ok (.lastore, 1)) (h : gdx x n K = some rr)
    (kk : ∀ k, k < n → K k = some rr → XW p l e R s m args below meth c cells slots nL (xbs G) Q (xRep G z σ (tpL τ f k x9)) (pc + 1) L st) : XW p l e R s m args below meth c cells slots nL (xbs G) Q (xRep G z σ τ) pc L (.long x9 :: .int x :: .ref (xaM G f) :: st) := by
  obtain ⟨hin, hlt, h⟩ := gdx_some h
  intro H locs ls hΩ hs hL
  have hat := (hΩ.2.2 f hd).1
  have hb := (hΩ.2.2 f hd).2
  rw [hc] at hat
  refine W.last C.1.1 C.1.2.1 hat (r_isa C.2.2.2.1 (t0 := 1) rfl _) (r_kn _) (r_in hin) rfl rfl hdg fun H1 h1 h2 h3 => ?_
  refine kk _ hlt h H1 _ ls (hΩ.setM hd ?_ h3 (fun f' hq => ⟨rfl, tpL_off _ _ _ _ hq⟩)) (fun q hq => ?_) hL
  · rw [hc, tpL_at]
    show H1[_]? = some (vp_cell _ _)
    rw [h1, xa_setL]
  · rcases List.mem_append.mp hq with hq | hq
    · exact hs q hq
    · rw [List.mem_singleton.mp hq]; exact hb
/-- a reference out of an array of references -/
theorem x_aald (C : xC p m c cc nL s args own meth R cells slots (xD G) (xcA G)) {n : Nat} {g : Nat → Nat} {cA' : ClassId} {ty : FieldType} {x : Int32} {K : Nat → Option ρ} (t0 : Nat) (ht : (xTys (xcA G))[t0]? = some (cA', ty)) (href : ty.isReference = true) (hd : xdom z f i j) (hc : xCell G z f i j (σ.1 f i j) (σ.2.1 f i j) (σ.2.2 f) = .inl (cA', n, xq g)) (hdg : decode cc pc = .ok (.aaload, 1)) (h : gdx x n K = some rr)
    (kk : ∀ k, k < n → K k = some rr → XW p l e R s m args below meth c cells slots nL (xbs G) Q (xRep G z σ τ) (pc + 1) L (.ref (g k) :: st)) : XW p l e R s m args below meth c cells slots nL (xbs G) Q (xRep G z σ τ) pc L (.int x :: .ref (xad G f i j) :: st) := by
  obtain ⟨hin, hlt, h⟩ := gdx_some h
  intro H locs ls hΩ hs hL
  have hat := (hΩ.2.1 f i j hd).1
  rw [hc] at hat
  exact W.aald C.1.1 C.1.2.1 hat (r_isa C.2.2.2.1 ht _) href (r_kn _) (r_in hin) (by show (arrV _ _ _).slots[_]? = _; rw [arrV_read _ _ hlt]; rfl) rfl rfl hdg (kk _ hlt h H locs ls hΩ hs hL)
/-- the length of an array -/
theorem x_alen (C : xC p m c cc nL s args own meth R cells slots (xD G) (xcA G)) {cA' : ClassId} {a : vp_A} {ty : FieldType} (t0 : Nat) (ht : (xTys (xcA G))[t0]? = some (cA', ty)) (hd : xdom z f i j) (hc : xCell G z f i j (σ.1 f i j) (σ.2.1 f i j) (σ.2.2 f) = .inl (cA', a)) (hdg : decode cc pc = .ok (.arraylength, 1))
    (kk : XW p l e R s m args below meth c cells slots nL (xbs G) Q (xRep G z σ τ) (pc + 1) L (.int (nI a.1) :: st)) : XW p l e R s m args below meth c cells slots nL (xbs G) Q (xRep G z σ τ) pc L (.ref (xad G f i j) :: st) := by
  intro H locs ls hΩ hs hL
  have hat := (hΩ.2.1 f i j hd).1
  rw [hc] at hat
  exact va_alen C.1.1 C.1.2.1 C.2.2.2.1 (va_P1 hat) 0 t0 rfl ht rfl hdg (kk H locs ls hΩ hs hL)
/-- queue[x] = a message -/
theorem x_aastQ (C : xC p m c cc nL s args own meth R cells slots (xD G) (xcA G)) {x : Int32} {b : Nat} {K : Nat → Option ρ} (hd : xdom z 12 0 0) (hb : b < z 4 + 2) (hdg : decode cc pc = .ok (.aastore, 1)) (h : gdx x (z 4) K = some rr)
    (kk : ∀ k, k < z 4 → K k = some rr → XW p l e R s m args below meth c cells slots nL (xbs G) Q (xRep G z (upR σ 12 k b) τ) (pc + 1) L st) : XW p l e R s m args below meth c cells slots nL (xbs G) Q (xRep G z σ τ) pc L (.ref (xad G 13 b 0) :: .int x :: .ref (xad G 12 0 0) :: st) := by
  obtain ⟨hin, hlt, h⟩ := gdx_some h
  intro H locs ls hΩ hs hL
  have hat : H[xad G 12 0 0]? = some (vp_cell (xcA G 5) (z 4, xq (fun k => xad G 13 (σ.2.2 12 k) 0))) := (hΩ.2.1 12 0 0 hd).1
  have hbb := (hΩ.2.1 12 0 0 hd).2
  obtain ⟨r', hr', cellV, g1, g2, g3, -⟩ := (hΩ.2.1 13 b 0 ⟨hb, Nat.one_pos⟩).1
  have hcls := (C.2.2.2.1.1 3 (RX3, TX3, 9) rfl).2
  obtain ⟨kA, comp, k1, k2, k3, -⟩ := (C.2.2.2.1.2 5 (xcA G 5, .object RX3) rfl).2
  have hcomp : comp = (xD G).1 3 := Option.some.inj (k3.symm.trans hcls.1)
  subst hcomp
  obtain ⟨kC, hkC, -⟩ := hcls.2
  refine W.aast C.1.1 C.1.2.1 hat (fun q h => by cases h) (fun h => by cases h) k1 k2 rfl hkC ⟨fun q => hin (Or.inl q), by show _ < (arrV _ _ _).slots.size; rw [arrV_size]; exact hlt⟩ g1 (fun q h => by rw [g3] at h; cases h) (by rw [g2]; exact hkC) (by rw [g2]; exact va_assign hcls) rfl rfl hdg fun H1 h1 h2 h3 => ?_
  refine kk _ hlt h H1 _ ls (hΩ.setX hd ?_ h3 (fun f' i' j' hd' hq => ⟨rfl, rfl, upR_off _ _ _ _ (fun q => hq (by subst q; exact ⟨rfl, Nat.lt_one_iff.mp hd'.1, Nat.lt_one_iff.mp hd'.2⟩))⟩)) (fun q hq => ?_) hL
  · rw [upR_at]
    show H1[xad G 12 0 0]? = some (vp_cell (xcA G 5) (z 4, xq (fun k => xad G 13 ((fun k' => if k' = x.toNatClampNeg then b else σ.2.2 12 k') k) 0)))
    rw [h1, xa_setQ]
    congr 4
    funext k'
    show (if _ then _ else _) = xad G 13 (if _ then _ else _) 0
    split <;> rfl
  · rcases List.mem_append.mp hq with hq | hq
    · exact hs q hq
    · rw [List.mem_singleton.mp hq]; exact hbb
theorem x_letS {K : Sg → Option ρ} (h : letv σ K = some rr) (kk : ∀ σ', K σ' = some rr → XW p l e R s m args below meth c cells slots nL (xbs G) Q (xRep G z σ' τ) pc L st) : XW p l e R s m args below meth c cells slots nL (xbs G) Q (xRep G z σ τ) pc L st := kk σ h
theorem m_letS {K : Tg → Option ρ} (h : letv τ K = some rr) (kk : ∀ τ', K τ' = some rr → XW p l e R s m args below meth c cells slots nL (xbs G) Q (xRep G z σ τ') pc L st) : XW p l e R s m args below meth c cells slots nL (xbs G) Q (xRep G z σ τ) pc L st := kk τ h
end XHEAP
end
section
/-! contracts, calls, ends -/
def xMet (l : Launch) (D : va_G) (cA : Nat → ClassId) (bs : Nat) (y : MethodName) (code : ByteArray) (nL : Nat) (ret : Option FieldType) (rm : Room) (avs : List Value) (Ω Ω' : Heap → Prop) (rv : Option Value) (mc ms : Nat) : Prop :=
  Met l y (Cond.code y code nL ret :: lw_g) rm (va_Pc avs (fun U => xEnv D cA U ∧ Ω U.heap)) (fun _ _ oc t => oc = .returned rv ∧ Ω' t.heap) mc ms (fun q => bs ≤ q)
abbrev xQ (below : List Frame) (args : Array Value) (s : State) (bs : Nat) (rv : Option Value) (Ω' : Heap → Prop) (mc ms : Nat) : State → Prop := MQ below (fun _ _ oc t => oc = .returned rv ∧ Ω' t.heap) args s mc ms (fun q => bs ≤ q)
theorem x_ofWF {l : Launch} {y : MethodName} {ws ws' : List Cond} {rm : Room} {Pc : Array Value → State → Prop} {Qc : Array Value → State → Outcome → State → Prop} {mc ms : Nat} {free : Addr → Prop} {cc : ByteArray} {maxL : Nat} {ret : Option FieldType}
    (hy : plainFor y = true) (hw : ws = Cond.code y cc maxL ret :: ws')
    (body : ∀ p e s m args below meth c s₁, BodyLoose p l y (headSpec ws rm) cc maxL ret e s m args below meth c s₁ → c.maxLocals = maxL → Pc args s →
      W p l e (headSpec ws rm).room s m args below meth c s.heap [] 0 0 (MQ below Qc args s mc ms free) (entryFrame m args maxL)) : Met l y ws rm Pc Qc mc ms free := by
  refine MetFree.of_bodySF (code := cc) (maxLocals := maxL) (ret := ret) hy ?_ ?_
  · intro args s m h hn
    obtain ⟨meth, c, h1, h2, h3, h4, h5, h6, -, -⟩ := Cond.code_spec hn (atoms_spec (ws := ws) h _ (by rw [hw]; exact List.mem_cons_self))
    exact ⟨meth, c, h1, h2, h3, h4, h5, h6⟩
  · intro p e s m args below meth c s₁ B hml hP _
    have hh0 : s₁.heap = s.heap := by rw [B.state]; rfl
    obtain ⟨t, a1, o, b1, b2, b3⟩ := body p e s m args below meth c s₁ B hml hP s₁ hh0 (Stand.of_body B)
    exact ⟨t, o, a1, b1, b2, ⟨b3.1, b3.2⟩⟩
theorem xMet.of {l : Launch} {D : va_G} {cA : Nat → ClassId} {bs : Nat} {y : MethodName} {code : ByteArray} {nL : Nat} {ret : Option FieldType} {rm : Room} {avs : List Value} {Ω Ω' : Heap → Prop} {rv : Option Value} {mc ms : Nat} (own : String) (ho : y.cls = own) (hy : plainFor y = true) (hlen : (lg_sl avs).length ≤ nL)
    (body : ∀ (p : Program) (e : Env) (s : State) (m : MethodId) (args : Array Value) (below : List Frame) (meth : Method) (c : Code), xC p m c code nL s args own meth rm 0 0 D cA → meth.sig.returnType = ret → meth.name = y.name → XW p l e rm s m args below meth c 0 0 nL bs (xQ below args s bs rv Ω' mc ms) Ω 0 (lv_args 0 avs) []) : xMet l D cA bs y code nL ret rm avs Ω Ω' rv mc ms := by
  refine x_ofWF (cc := code) (maxL := nL) (ret := ret) hy rfl ?_
  intro p e s m args below meth c s₁ B hml hv
  obtain ⟨rfl, hE, hΩ⟩ := hv
  have hts := atoms_spec (ws := Cond.code y code nL ret :: lw_g) B.pre
  have hown : s.vm.findClass own = some m.cls := by rw [← ho]; exact findClass_of_methodNamed B.named
  rw [lg_entry_eq]
  exact body p e s m _ below meth c ⟨⟨B.exec, B.bytes, hml, hown, fun w hw => hts w (List.mem_cons_of_mem _ hw)⟩, B.notSynchronized, ⟨Nat.zero_le _, Nat.zero_le _⟩, hE⟩ B.returns (name_of_methodNamed B.named B.method).1 s.heap [] _ hΩ (fun q h => by cases h) (lv_entry avs hlen)
abbrev xHd (y : MethodName) (n : Nat) : Prop := y.cls ≠ "java/lang/invoke/MethodHandle" ∧ y.cls ≠ "java/lang/invoke/VarHandle" ∧ (parseMethodDescriptor y.desc).map (fun d => d.parameters.length) = some n
def xWV (own : String) (idx : Nat) (y : MethodName) (code : ByteArray) (nL : Nat) (ret : Option FieldType) (n : Nat) : Prop := Cond.methodLink own idx y ∈ lw_g ∧ Cond.instanceMethod y ∈ lw_g ∧ Cond.selects y.cls y y ∈ lw_g ∧ Cond.initialized y.cls ∈ lw_g ∧ Cond.code y code nL ret ∈ lw_g ∧ xHd y n
def xWS (own : String) (idx : Nat) (y : MethodName) (code : ByteArray) (nL : Nat) (ret : Option FieldType) (n : Nat) : Prop := Cond.methodLink own idx y ∈ lw_g ∧ Cond.static y ∈ lw_g ∧ Cond.initialized y.cls ∈ lw_g ∧ Cond.code y code nL ret ∈ lw_g ∧ xHd y n
def xWI (own : String) (idx : Nat) (y : MethodName) (code : ByteArray) (nL : Nat) (n : Nat) : Prop := Cond.methodLink own idx y ∈ lw_g ∧ Cond.instanceMethod y ∈ lw_g ∧ Cond.initialized y.cls ∈ lw_g ∧ Cond.code y code nL none ∈ lw_g ∧ y.name = "<init>" ∧ xHd y n
def xWU (own : String) (idx : Nat) (CC : String) (x y : MethodName) (code : ByteArray) (nL : Nat) (ret : Option FieldType) (n : Nat) : Prop := Cond.methodLink own idx x ∈ lw_g ∧ Cond.sameMethod x.cls RX4 x.name x.desc ∈ lw_g ∧ Cond.selects CC x y ∈ lw_g ∧ Cond.instanceMethod y ∈ lw_g ∧ Cond.initialized y.cls ∈ lw_g ∧ Cond.code y code nL ret ∈ lw_g ∧ (RX4 ≠ "java/lang/invoke/MethodHandle" ∧ RX4 ≠ "java/lang/invoke/VarHandle" ∧ (parseMethodDescriptor x.desc).map (fun d => d.parameters.length) = some n) ∧ (MethodName.mk RX4 x.name x.desc = yN_hear ∨ MethodName.mk RX4 x.name x.desc = yN_forget ∨ MethodName.mk RX4 x.name x.desc = yN_told)
theorem lw_g_good {ws : List Cond} (h : ∀ w ∈ ws, w ∈ lw_g) : GoodIn lw_g ws := fun w hw => ⟨h w hw, good_of_word (List.mem_filter.mp (h w hw)).2⟩
section XCALLS
variable {p : Program} {l : Launch} {e : Env} {R : Room} {s : State} {m : MethodId} {args : Array Value} {below : List Frame} {meth : Method} {c : Code} {cells slots nL bs : Nat} {Q : State → Prop} {Ω Ω' : Heap → Prop}
variable {cc : ByteArray} {own : String} {D : va_G} {cA : Nat → ClassId} {pc : Nat} {L : List (Nat × Value)} {st stk As : List Value}
variable {y : MethodName} {code : ByteArray} {nL' mc ms idx n b : Nat} {ret : Option FieldType} {rm : Room} {rv : Option Value}
theorem xP_blind {avs : List Value} : FrameBlind (va_Pc avs (fun U => xEnv D cA U ∧ Ω U.heap)) := fun a U g mk q => ⟨q.1, xEnv.call q.2.1, q.2.2⟩
abbrev xRm (R rm : Room) (nL' mc ms : Nat) : Prop := (rm.cells = mc ∧ rm.slots = ms) ∧ rm.frames + 1 ≤ R.frames ∧ 8 + (nL' + 11) + rm.locals ≤ R.locals
theorem x_run {L' : List Loc} (hs : ∀ q ∈ L', bs ≤ q.base) {H : Heap} {ls : Array Slot} {Qa : State → Outcome → State → Prop} (hL : lv_has ls nL L) (hQ : ∀ st0 v t, Qa st0 (.returned v) t → v = rv ∧ Ω' t.heap) (hr : va_Run p l e R s m args below meth c H L' cells slots mc ms (F0 m pc ls stk) st Qa (fun q => bs ≤ q))
    (kk : XW p l e R s m args below meth c (cells + mc) (slots + ms) nL bs Q Ω' (pc + 3) L (rv.toList ++ st)) : W p l e R s m args below meth c H L' cells slots Q (F0 m pc ls stk) := by
  intro T hT X
  obtain ⟨v, st₀, t, T', Lx, h0, X', hLx, e1, e2, hq, stp⟩ := hr T hT X
  obtain ⟨rfl, hΩ⟩ := hQ _ _ _ hq
  obtain ⟨t2, a1, b1⟩ := kk T'.heap (L' ++ Lx) ls (by rw [e1]; exact hΩ) (fun q hq => by
    rcases List.mem_append.mp hq with h | h
    · exact hs q h
    · exact hLx q h) hL T' rfl X'
  exact ⟨t2, stp t2 a1, b1⟩
abbrev xRecv (s : State) (Ω : Heap → Prop) (CC : String) (b : Nat) : Prop := ∀ H, Ω H → ∃ cellB : Cell, H[b]? = some cellB ∧ cellB.vm.isStatics = false ∧ s.vm.findClass CC = some cellB.cls
theorem x_callV (C : xC p m c cc nL s args own meth R cells slots D cA) (hM : xMet l D cA bs y code nL' ret rm (.ref b :: As) Ω Ω' rv mc ms) (hw : xWV own idx y code nL' ret n) (hrecv : xRecv s Ω y.cls b) (hn : As.length = n) (hst : (st.map fun v => v.category).sum ≤ 8) (hrm : xRm R rm nL' mc ms) (hdg : decode cc pc = .ok (.invokevirtual idx, 3)) (hf : cells + mc ≤ R.cells ∧ slots + ms ≤ R.slots) (hstk : As.reverse ++ .ref b :: st = stk)
    (kk : XW p l e R s m args below meth c (cells + mc) (slots + ms) nL bs Q Ω' (pc + 3) L (rv.toList ++ st)) : XW p l e R s m args below meth c cells slots nL bs Q Ω pc L stk := by
  intro H locs ls hΩ hs hL
  obtain ⟨w1, w2, w3, w4, w5, w6⟩ := hw
  have hts := C.1.2.2.2.2
  have hG : GoodIn lw_g (wsV own idx y.cls y (Cond.code y code nL' ret :: lw_g)) := lw_g_good (fun w hw => by
    rcases List.mem_append.mp hw with hw | hw
    · simp only [List.mem_cons, List.not_mem_nil, or_false] at hw
      rcases hw with rfl | rfl | rfl | rfl <;> assumption
    · rcases List.mem_cons.mp hw with rfl | hw <;> assumption)
  refine x_run hs hL (fun _ _ _ q => ⟨by simpa using q.1, q.2⟩) (va_runV C.1 hM (cwV n hts hG rfl hrm.1.1 hrm.1.2 ⟨rfl, w6.1, w6.2.1, w6.2.2⟩ hrm.2) ⟨xP_blind, hrecv H hΩ, fun U hU hW => ⟨rfl, C.2.2.2.warm hW, by rw [hU]; exact hΩ⟩⟩ rfl hn hL.1 hstk.symm (lv_room hst) hdg hf) kk
theorem x_callS (C : xC p m c cc nL s args own meth R cells slots D cA) (hM : xMet l D cA bs y code nL' ret rm As Ω Ω' rv mc ms) (hw : xWS own idx y code nL' ret n) (hn : As.length = n) (hst : (st.map fun v => v.category).sum ≤ 8) (hrm : xRm R rm nL' mc ms) (hdg : decode cc pc = .ok (.invokestatic idx, 3)) (hf : cells + mc ≤ R.cells ∧ slots + ms ≤ R.slots) (hstk : As.reverse ++ st = stk)
    (kk : XW p l e R s m args below meth c (cells + mc) (slots + ms) nL bs Q Ω' (pc + 3) L (rv.toList ++ st)) : XW p l e R s m args below meth c cells slots nL bs Q Ω pc L stk := by
  intro H locs ls hΩ hs hL
  obtain ⟨w1, w2, w4, w5, w6⟩ := hw
  have hts := C.1.2.2.2.2
  have hG : GoodIn lw_g (Cond.code y code nL' ret :: lw_g) := lw_g_good (fun w hw => by
    rcases List.mem_cons.mp hw with rfl | hw <;> assumption)
  exact x_run hs hL (fun _ _ _ q => ⟨by simpa using q.1, q.2⟩) (va_runS C.1 hM ⟨callB_of n hts hG rfl hrm.1.1 hrm.1.2 (hts _ w4) (hts _ w1) w6 hrm.2, hts _ w2⟩ ⟨xP_blind, fun U hU hW => ⟨rfl, C.2.2.2.warm hW, by rw [hU]; exact hΩ⟩⟩ rfl hn hL.1 hstk.symm (lv_room hst) hdg hf) kk
theorem x_callI (C : xC p m c cc nL s args own meth R cells slots D cA) (hM : xMet l D cA bs y code nL' none rm (.ref b :: As) Ω Ω' rv mc ms) (hw : xWI own idx y code nL' n) (hn : As.length = n) (hst : (st.map fun v => v.category).sum ≤ 8) (hrm : xRm R rm nL' mc ms) (hdg : decode cc pc = .ok (.invokespecial idx, 3)) (hf : cells + mc ≤ R.cells ∧ slots + ms ≤ R.slots) (hstk : As.reverse ++ .ref b :: st = stk)
    (kk : XW p l e R s m args below meth c (cells + mc) (slots + ms) nL bs Q Ω' (pc + 3) L (rv.toList ++ st)) : XW p l e R s m args below meth c cells slots nL bs Q Ω pc L stk := by
  intro H locs ls hΩ hs hL
  obtain ⟨w1, w2, w4, w5, w7, w6⟩ := hw
  have hts := C.1.2.2.2.2
  have hG : GoodIn lw_g (Cond.code y code nL' none :: lw_g) := lw_g_good (fun w hw => by
    rcases List.mem_cons.mp hw with rfl | hw <;> assumption)
  exact x_run hs hL (fun _ _ _ q => ⟨by simpa using q.1, q.2⟩) (va_runI C.1 hM (cwI n hts hG rfl hrm.1.1 hrm.1.2 (hts _ w4) (hts _ w1) (hts _ w2) w7 w6 hrm.2) ⟨xP_blind, fun U hU hW => ⟨rfl, C.2.2.2.warm hW, by rw [hU]; exact hΩ⟩⟩ rfl hn hL.1 hstk.symm (lv_room hst) hdg hf) kk
theorem x_callU {x : MethodName} {CC : String} (C : xC p m c cc nL s args own meth R cells slots D cA) (hM : xMet l D cA bs y code nL' ret rm (.ref b :: As) Ω Ω' rv mc ms) (hw : xWU own idx CC x y code nL' ret n) (hrecv : xRecv s Ω CC b) (hn : As.length = n) (hst : (st.map fun v => v.category).sum ≤ 8) (hrm : xRm R rm nL' mc ms) (hdg : decode cc pc = .ok (.invokevirtual idx, 3)) (hf : cells + mc ≤ R.cells ∧ slots + ms ≤ R.slots) (hstk : As.reverse ++ .ref b :: st = stk)
    (kk : XW p l e R s m args below meth c (cells + mc) (slots + ms) nL bs Q Ω' (pc + 3) L (rv.toList ++ st)) : XW p l e R s m args below meth c cells slots nL bs Q Ω pc L stk := by
  intro H locs ls hΩ hs hL
  obtain ⟨w1, w2, w3, w4, w5, w6, w7, w8⟩ := hw
  have hts := C.1.2.2.2.2
  have hE := C.2.2.2
  have hG : GoodIn lw_g (va_wsU own idx CC RX4 x y (Cond.code y code nL' ret :: lw_g)) := lw_g_good (fun w hw => by
    rcases List.mem_append.mp hw with hw | hw
    · simp only [List.mem_cons, List.not_mem_nil, or_false] at hw
      rcases hw with rfl | rfl | rfl | rfl | rfl <;> assumption
    · rcases List.mem_cons.mp hw with rfl | hw <;> assumption)
  have hz : va_Nw (.declares ⟨RX4, x.name, x.desc⟩) s := by
    rcases w8 with w8 | w8 | w8 <;> rw [w8]
    · exact hE.2.1
    · exact hE.2.2.1
    · exact hE.2.2.2
  exact x_run hs hL (fun _ _ _ q => ⟨by simpa using q.1, q.2⟩) (va_runU C.1 hM (va_cwA n hts hG rfl hrm.1.1 hrm.1.2 hz w7 hrm.2) ⟨xP_blind, hrecv H hΩ, fun U hU hW => ⟨rfl, C.2.2.2.warm hW, by rw [hU]; exact hΩ⟩⟩ rfl hn hL.1 hstk.symm (lv_room hst) hdg hf) kk
theorem xr_i {x : Int32} (C : xC p m c cc nL s args own meth R cells slots D cA) (hr : meth.sig.returnType = some .int) (hdg : decode cc pc = .ok (.ireturn, 1)) (he : ∀ H, Ω H → Ω' H) : XW p l e R s m args below meth c cells slots nL bs (xQ below args s bs (some (.int x)) Ω' cells slots) Ω pc L [.int x] :=
  fun H locs ls hΩ hs hL => W.iret C.1.1 C.1.2.1 hr (fun t ht _ => ⟨rfl, by rw [ht]; exact he H hΩ⟩) hs hdg (hlocks := C.2.1)
theorem xr_z {x : Int32} (C : xC p m c cc nL s args own meth R cells slots D cA) (hx : x = 0 ∨ x = 1) (hr : meth.sig.returnType = some .boolean) (hdg : decode cc pc = .ok (.ireturn, 1)) (he : ∀ H, Ω H → Ω' H) : XW p l e R s m args below meth c cells slots nL bs (xQ below args s bs (some (.int x)) Ω' cells slots) Ω pc L [.int x] :=
  fun H locs ls hΩ hs hL => W.zret C.1.1 C.1.2.1 hr (by rcases hx with rfl | rfl <;> rfl) (fun t ht _ => ⟨rfl, by rw [ht]; exact he H hΩ⟩) hs hdg (hlocks := C.2.1)
theorem xr_l {x : Int64} (C : xC p m c cc nL s args own meth R cells slots D cA) (hr : meth.sig.returnType = some .long) (hdg : decode cc pc = .ok (.lreturn, 1)) (he : ∀ H, Ω H → Ω' H) : XW p l e R s m args below meth c cells slots nL bs (xQ below args s bs (some (.long x)) Ω' cells slots) Ω pc L [.long x] :=
  fun H locs ls hΩ hs hL => W.lret C.1.1 C.1.2.1 hr (fun t ht _ => ⟨rfl, by rw [ht]; exact he H hΩ⟩) hs hdg (hlocks := C.2.1)
theorem xr_v (C : xC p m c cc nL s args own meth R cells slots D cA) (hr : meth.sig.returnType = none) (hdg : decode cc pc = .ok (.return_, 1)) (he : ∀ H, Ω H → Ω' H) : XW p l e R s m args below meth c cells slots nL bs (xQ below args s bs none Ω' cells slots) Ω pc L [] :=
  fun H locs ls hΩ hs hL => W.vret C.1.1 C.1.2.1 hr (fun t ht _ => ⟨rfl, by rw [ht]; exact he H hΩ⟩) hs hdg (hlocks := C.2.1)
theorem xr_a {x : Nat} {nm : String} (C : xC p m c cc nL s args own meth R cells slots D cA) (hr : meth.sig.returnType = some (.object nm)) (hdg : decode cc pc = .ok (.areturn, 1)) (he : ∀ H, Ω H → Ω' H) : XW p l e R s m args below meth c cells slots nL bs (xQ below args s bs (some (.ref x)) Ω' cells slots) Ω pc L [.ref x] :=
  fun H locs ls hΩ hs hL => W.aret C.1.1 C.1.2.1 hr (Or.inl ⟨_, rfl⟩) (Or.inr ⟨_, rfl⟩) (fun t ht _ => ⟨rfl, by rw [ht]; exact he H hΩ⟩) hs hdg (hlocks := C.2.1)
theorem xr_n {nm : String} (C : xC p m c cc nL s args own meth R cells slots D cA) (hr : meth.sig.returnType = some (.object nm)) (hdg : decode cc pc = .ok (.areturn, 1)) (he : ∀ H, Ω H → Ω' H) : XW p l e R s m args below meth c cells slots nL bs (xQ below args s bs (some .null) Ω' cells slots) Ω pc L [.null] :=
  fun H locs ls hΩ hs hL => W.aret C.1.1 C.1.2.1 hr (Or.inl ⟨_, rfl⟩) (Or.inl rfl) (fun t ht _ => ⟨rfl, by rw [ht]; exact he H hΩ⟩) hs hdg (hlocks := C.2.1)
end XCALLS
section XRECV
variable {s : State} {G : xG} {z : Nat → Nat} {σ : Sg} {τ : Tg}
theorem x_recv {f i j ci N : Nat} {CC : String} {T : u_T} {ty : Nat → FieldType} {fs : List Value} (hE : xEnv (xD G) (xcA G) s) (K : xCls ci CC T N ty) (hd : xdom z f i j) (hc : xCell G z f i j (σ.1 f i j) (σ.2.1 f i j) (σ.2.2 f) = .inr (ci, fs)) : xRecv s (xRep G z σ τ) CC (xad G f i j) := fun H hΩ => by
  have hat := (hΩ.2.1 f i j hd).1
  rw [hc] at hat
  exact va_recv (q0 := 0) (q := (CC, T, N)) hE.1 (va_P1 hat) K.2.2.2 rfl
theorem m_recv {ci N : Nat} {CC : String} {T : u_T} {ty : Nat → FieldType} {fs : List Value} (hE : xEnv (xD G) (xcA G) s) (K : xCls ci CC T N ty) (hc : mCell G z 0 (τ.1 0) (τ.2 0) = .inr (ci, fs)) : xRecv s (xRep G z σ τ) CC (xaM G 0) := fun H hΩ => by
  have hat := (hΩ.2.2 0 rfl).1
  rw [hc] at hat
  exact va_recv (q0 := 0) (q := (CC, T, N)) hE.1 (va_P1 hat) K.2.2.2 rfl
end XRECV
def FU : Nat := 100000
def bnd1 {α γ : Type} (o : Option α) (K : α → Option γ) : Option γ := o.bind K
def bnd2 {α β γ : Type} (o : Option (α × β)) (K : α → β → Option γ) : Option γ := o.bind fun q => K q.1 q.2
def bnd3 {α β δ γ : Type} (o : Option (α × β × δ)) (K : α → β → δ → Option γ) : Option γ := o.bind fun q => K q.1 q.2.1 q.2.2
def bnd4 {α β δ ε γ : Type} (o : Option (α × β × δ × ε)) (K : α → β → δ → ε → Option γ) : Option γ := o.bind fun q => K q.1 q.2.1 q.2.2.1 q.2.2.2
def gdr {γ : Type} (v n : Nat) (K : Nat → Option γ) : Option γ := if v < n then K v else none
/-- a boolean answer: 0 or 1 -/
def gdb {γ : Type} (x : Int32) (K : Option γ) : Option γ := if x = 0 ∨ x = 1 then K else none
theorem bnd1_some {α γ : Type} {o : Option α} {K : α → Option γ} {r : γ} (h : bnd1 o K = some r) : ∃ a, o = some a ∧ K a = some r := by
  cases o with
  | none => cases h
  | some a => exact ⟨a, rfl, h⟩
theorem bnd2_some {α β γ : Type} {o : Option (α × β)} {K : α → β → Option γ} {r : γ} (h : bnd2 o K = some r) : ∃ a b, o = some (a, b) ∧ K a b = some r := by
  cases o with
  | none => cases h
  | some a => exact ⟨a.1, a.2, rfl, h⟩
theorem bnd3_some {α β δ γ : Type} {o : Option (α × β × δ)} {K : α → β → δ → Option γ} {r : γ} (h : bnd3 o K = some r) : ∃ a b d, o = some (a, b, d) ∧ K a b d = some r := by
  cases o with
  | none => cases h
  | some a => exact ⟨a.1, a.2.1, a.2.2, rfl, h⟩
theorem bnd4_some {α β δ ε γ : Type} {o : Option (α × β × δ × ε)} {K : α → β → δ → ε → Option γ} {r : γ} (h : bnd4 o K = some r) : ∃ a b d e, o = some (a, b, d, e) ∧ K a b d e = some r := by
  cases o with
  | none => cases h
  | some a => exact ⟨a.1, a.2.1, a.2.2.1, a.2.2.2, rfl, h⟩
theorem gdb_some {γ : Type} {x : Int32} {K : Option γ} {r : γ} (h : gdb x K = some r) : (x = 0 ∨ x = 1) ∧ K = some r := by
  unfold gdb at h
  split at h
  next hx => exact ⟨hx, h⟩
  · cases h
theorem gdr_some {γ : Type} {v n : Nat} {K : Nat → Option γ} {r : γ} (h : gdr v n K = some r) : v < n ∧ K v = some r := by
  unfold gdr at h
  split at h
  next hx => exact ⟨hx, h⟩
  · cases h
theorem xI_ne {x : Int32} {k : Int} (v : Int32) (hv : v.toInt = k) (h : ¬ x = v) : ¬ x.toInt = k := fun q => h (Int32.toInt_inj.mp (q.trans hv.symm))
section XMORE
variable {p : Program} {l : Launch} {e : Env} {R : Room} {s : State} {m : MethodId} {args : Array Value} {below : List Frame} {meth : Method} {c : Code} {cells slots nL bs : Nat} {Q : State → Prop} {Ω Ω' : Heap → Prop}
variable {cc : ByteArray} {own : String} {D : va_G} {cA : Nat → ClassId} {pc : Nat} {L : List (Nat × Value)} {st stk As : List Value} {ρ : Type} {rr : ρ}
variable {y : MethodName} {code : ByteArray} {nL' idx n b : Nat} {ret : Option FieldType} {rm : Room}
theorem x_join {Ω' : Heap → Prop} {pc' : Nat} {L' : List (Nat × Value)} {st' : List Value} (k : XW p l e R s m args below meth c cells slots nL bs Q Ω' pc' L' st') (kk : XW p l e R s m args below meth c cells slots nL bs Q Ω' pc' L' st' → XW p l e R s m args below meth c cells slots nL bs Q Ω pc L st) : XW p l e R s m args below meth c cells slots nL bs Q Ω pc L st := kk k
theorem x_iincL (C : xC p m c cc nL s args own meth R cells slots D cA) {i k : Nat} {n : Int} {x w : Int32} {L' : Int32 → List (Nat × Value)} {K : Int32 → Option ρ} (hdg : decode cc pc = .ok (.iinc i n, 3)) (hk : L[k]? = some (i, .int x)) (hn : i < nL) (hw : Int32.ofInt n = w) (hl : ∀ v, (i, Value.int v) :: L.filter (fun q => !(q.1 == i) && !(q.1 + 1 == i && q.2.category == 2)) = L' v) (h : letv (x + w) K = some rr) (kk : ∀ v, K v = some rr → XW p l e R s m args below meth c cells slots nL bs Q Ω (pc + 3) (L' v) st) : XW p l e R s m args below meth c cells slots nL bs Q Ω pc L st :=
  x_iinc C hdg hk (by rw [hw]) hn (hl (x + w)) (kk _ h)
theorem x_gdr {G : xG} {v n : Nat} {K : Nat → Option ρ} (h : gdr v n K = some rr) (kk : ∀ v, v < n → K v = some rr → XW p l e R s m args below meth c cells slots nL bs Q Ω pc L (.ref (xad G 13 v 0) :: st)) : XW p l e R s m args below meth c cells slots nL bs Q Ω pc L (.ref (xad G 13 v 0) :: st) := kk v (gdr_some h).1 (gdr_some h).2
theorem x_callV_i (C : xC p m c cc nL s args own meth R cells slots D cA) {r : Int32} (hM : xMet l D cA bs y code nL' ret rm (.ref b :: As) Ω Ω' (some (.int r)) 0 0) (hw : xWV own idx y code nL' ret n) (hrecv : xRecv s Ω y.cls b) (hn : As.length = n) (hst : (st.map fun v => v.category).sum ≤ 8) (hrm : xRm R rm nL' 0 0) (hdg : decode cc pc = .ok (.invokevirtual idx, 3)) (hstk : As.reverse ++ .ref b :: st = stk) (kk : XW p l e R s m args below meth c cells slots nL bs Q Ω' (pc + 3) L (.int r :: st)) : XW p l e R s m args below meth c cells slots nL bs Q Ω pc L stk := x_callV C hM hw hrecv hn hst hrm hdg C.2.2.1 hstk kk
theorem x_callV_l (C : xC p m c cc nL s args own meth R cells slots D cA) {r : Int64} (hM : xMet l D cA bs y code nL' ret rm (.ref b :: As) Ω Ω' (some (.long r)) 0 0) (hw : xWV own idx y code nL' ret n) (hrecv : xRecv s Ω y.cls b) (hn : As.length = n) (hst : (st.map fun v => v.category).sum ≤ 8) (hrm : xRm R rm nL' 0 0) (hdg : decode cc pc = .ok (.invokevirtual idx, 3)) (hstk : As.reverse ++ .ref b :: st = stk) (kk : XW p l e R s m args below meth c cells slots nL bs Q Ω' (pc + 3) L (.long r :: st)) : XW p l e R s m args below meth c cells slots nL bs Q Ω pc L stk := x_callV C hM hw hrecv hn hst hrm hdg C.2.2.1 hstk kk
theorem x_callV_v (C : xC p m c cc nL s args own meth R cells slots D cA)  (hM : xMet l D cA bs y code nL' ret rm (.ref b :: As) Ω Ω' none 0 0) (hw : xWV own idx y code nL' ret n) (hrecv : xRecv s Ω y.cls b) (hn : As.length = n) (hst : (st.map fun v => v.category).sum ≤ 8) (hrm : xRm R rm nL' 0 0) (hdg : decode cc pc = .ok (.invokevirtual idx, 3)) (hstk : As.reverse ++ .ref b :: st = stk) (kk : XW p l e R s m args below meth c cells slots nL bs Q Ω' (pc + 3) L st) : XW p l e R s m args below meth c cells slots nL bs Q Ω pc L stk := x_callV C hM hw hrecv hn hst hrm hdg C.2.2.1 hstk kk
theorem x_callV_a (C : xC p m c cc nL s args own meth R cells slots D cA) {r : Nat} (hM : xMet l D cA bs y code nL' ret rm (.ref b :: As) Ω Ω' (some (.ref r)) 0 0) (hw : xWV own idx y code nL' ret n) (hrecv : xRecv s Ω y.cls b) (hn : As.length = n) (hst : (st.map fun v => v.category).sum ≤ 8) (hrm : xRm R rm nL' 0 0) (hdg : decode cc pc = .ok (.invokevirtual idx, 3)) (hstk : As.reverse ++ .ref b :: st = stk) (kk : XW p l e R s m args below meth c cells slots nL bs Q Ω' (pc + 3) L (.ref r :: st)) : XW p l e R s m args below meth c cells slots nL bs Q Ω pc L stk := x_callV C hM hw hrecv hn hst hrm hdg C.2.2.1 hstk kk
theorem x_callV_n (C : xC p m c cc nL s args own meth R cells slots D cA)  (hM : xMet l D cA bs y code nL' ret rm (.ref b :: As) Ω Ω' (some .null) 0 0) (hw : xWV own idx y code nL' ret n) (hrecv : xRecv s Ω y.cls b) (hn : As.length = n) (hst : (st.map fun v => v.category).sum ≤ 8) (hrm : xRm R rm nL' 0 0) (hdg : decode cc pc = .ok (.invokevirtual idx, 3)) (hstk : As.reverse ++ .ref b :: st = stk) (kk : XW p l e R s m args below meth c cells slots nL bs Q Ω' (pc + 3) L (.null :: st)) : XW p l e R s m args below meth c cells slots nL bs Q Ω pc L stk := x_callV C hM hw hrecv hn hst hrm hdg C.2.2.1 hstk kk
theorem x_callS_i (C : xC p m c cc nL s args own meth R cells slots D cA) {r : Int32} (hM : xMet l D cA bs y code nL' ret rm As Ω Ω' (some (.int r)) 0 0) (hw : xWS own idx y code nL' ret n) (hn : As.length = n) (hst : (st.map fun v => v.category).sum ≤ 8) (hrm : xRm R rm nL' 0 0) (hdg : decode cc pc = .ok (.invokestatic idx, 3)) (hstk : As.reverse ++ st = stk) (kk : XW p l e R s m args below meth c cells slots nL bs Q Ω' (pc + 3) L (.int r :: st)) : XW p l e R s m args below meth c cells slots nL bs Q Ω pc L stk := x_callS C hM hw hn hst hrm hdg C.2.2.1 hstk kk
theorem x_callS_l (C : xC p m c cc nL s args own meth R cells slots D cA) {r : Int64} (hM : xMet l D cA bs y code nL' ret rm As Ω Ω' (some (.long r)) 0 0) (hw : xWS own idx y code nL' ret n) (hn : As.length = n) (hst : (st.map fun v => v.category).sum ≤ 8) (hrm : xRm R rm nL' 0 0) (hdg : decode cc pc = .ok (.invokestatic idx, 3)) (hstk : As.reverse ++ st = stk) (kk : XW p l e R s m args below meth c cells slots nL bs Q Ω' (pc + 3) L (.long r :: st)) : XW p l e R s m args below meth c cells slots nL bs Q Ω pc L stk := x_callS C hM hw hn hst hrm hdg C.2.2.1 hstk kk
theorem x_callS_v (C : xC p m c cc nL s args own meth R cells slots D cA)  (hM : xMet l D cA bs y code nL' ret rm As Ω Ω' none 0 0) (hw : xWS own idx y code nL' ret n) (hn : As.length = n) (hst : (st.map fun v => v.category).sum ≤ 8) (hrm : xRm R rm nL' 0 0) (hdg : decode cc pc = .ok (.invokestatic idx, 3)) (hstk : As.reverse ++ st = stk) (kk : XW p l e R s m args below meth c cells slots nL bs Q Ω' (pc + 3) L st) : XW p l e R s m args below meth c cells slots nL bs Q Ω pc L stk := x_callS C hM hw hn hst hrm hdg C.2.2.1 hstk kk
theorem x_callS_a (C : xC p m c cc nL s args own meth R cells slots D cA) {r : Nat} (hM : xMet l D cA bs y code nL' ret rm As Ω Ω' (some (.ref r)) 0 0) (hw : xWS own idx y code nL' ret n) (hn : As.length = n) (hst : (st.map fun v => v.category).sum ≤ 8) (hrm : xRm R rm nL' 0 0) (hdg : decode cc pc = .ok (.invokestatic idx, 3)) (hstk : As.reverse ++ st = stk) (kk : XW p l e R s m args below meth c cells slots nL bs Q Ω' (pc + 3) L (.ref r :: st)) : XW p l e R s m args below meth c cells slots nL bs Q Ω pc L stk := x_callS C hM hw hn hst hrm hdg C.2.2.1 hstk kk
theorem x_callS_n (C : xC p m c cc nL s args own meth R cells slots D cA)  (hM : xMet l D cA bs y code nL' ret rm As Ω Ω' (some .null) 0 0) (hw : xWS own idx y code nL' ret n) (hn : As.length = n) (hst : (st.map fun v => v.category).sum ≤ 8) (hrm : xRm R rm nL' 0 0) (hdg : decode cc pc = .ok (.invokestatic idx, 3)) (hstk : As.reverse ++ st = stk) (kk : XW p l e R s m args below meth c cells slots nL bs Q Ω' (pc + 3) L (.null :: st)) : XW p l e R s m args below meth c cells slots nL bs Q Ω pc L stk := x_callS C hM hw hn hst hrm hdg C.2.2.1 hstk kk
theorem x_callU_i (C : xC p m c cc nL s args own meth R cells slots D cA) {r : Int32} (hM : xMet l D cA bs y code nL' ret rm (.ref b :: As) Ω Ω' (some (.int r)) 0 0) {x : MethodName} {CC : String} (hw : xWU own idx CC x y code nL' ret n) (hrecv : xRecv s Ω CC b) (hn : As.length = n) (hst : (st.map fun v => v.category).sum ≤ 8) (hrm : xRm R rm nL' 0 0) (hdg : decode cc pc = .ok (.invokevirtual idx, 3)) (hstk : As.reverse ++ .ref b :: st = stk) (kk : XW p l e R s m args below meth c cells slots nL bs Q Ω' (pc + 3) L (.int r :: st)) : XW p l e R s m args below meth c cells slots nL bs Q Ω pc L stk := x_callU C hM hw hrecv hn hst hrm hdg C.2.2.1 hstk kk
theorem x_callU_l (C : xC p m c cc nL s args own meth R cells slots D cA) {r : Int64} (hM : xMet l D cA bs y code nL' ret rm (.ref b :: As) Ω Ω' (some (.long r)) 0 0) {x : MethodName} {CC : String} (hw : xWU own idx CC x y code nL' ret n) (hrecv : xRecv s Ω CC b) (hn : As.length = n) (hst : (st.map fun v => v.category).sum ≤ 8) (hrm : xRm R rm nL' 0 0) (hdg : decode cc pc = .ok (.invokevirtual idx, 3)) (hstk : As.reverse ++ .ref b :: st = stk) (kk : XW p l e R s m args below meth c cells slots nL bs Q Ω' (pc + 3) L (.long r :: st)) : XW p l e R s m args below meth c cells slots nL bs Q Ω pc L stk := x_callU C hM hw hrecv hn hst hrm hdg C.2.2.1 hstk kk
theorem x_callU_v (C : xC p m c cc nL s args own meth R cells slots D cA)  (hM : xMet l D cA bs y code nL' ret rm (.ref b :: As) Ω Ω' none 0 0) {x : MethodName} {CC : String} (hw : xWU own idx CC x y code nL' ret n) (hrecv : xRecv s Ω CC b) (hn : As.length = n) (hst : (st.map fun v => v.category).sum ≤ 8) (hrm : xRm R rm nL' 0 0) (hdg : decode cc pc = .ok (.invokevirtual idx, 3)) (hstk : As.reverse ++ .ref b :: st = stk) (kk : XW p l e R s m args below meth c cells slots nL bs Q Ω' (pc + 3) L st) : XW p l e R s m args below meth c cells slots nL bs Q Ω pc L stk := x_callU C hM hw hrecv hn hst hrm hdg C.2.2.1 hstk kk
theorem x_callU_a (C : xC p m c cc nL s args own meth R cells slots D cA) {r : Nat} (hM : xMet l D cA bs y code nL' ret rm (.ref b :: As) Ω Ω' (some (.ref r)) 0 0) {x : MethodName} {CC : String} (hw : xWU own idx CC x y code nL' ret n) (hrecv : xRecv s Ω CC b) (hn : As.length = n) (hst : (st.map fun v => v.category).sum ≤ 8) (hrm : xRm R rm nL' 0 0) (hdg : decode cc pc = .ok (.invokevirtual idx, 3)) (hstk : As.reverse ++ .ref b :: st = stk) (kk : XW p l e R s m args below meth c cells slots nL bs Q Ω' (pc + 3) L (.ref r :: st)) : XW p l e R s m args below meth c cells slots nL bs Q Ω pc L stk := x_callU C hM hw hrecv hn hst hrm hdg C.2.2.1 hstk kk
theorem x_callU_n (C : xC p m c cc nL s args own meth R cells slots D cA)  (hM : xMet l D cA bs y code nL' ret rm (.ref b :: As) Ω Ω' (some .null) 0 0) {x : MethodName} {CC : String} (hw : xWU own idx CC x y code nL' ret n) (hrecv : xRecv s Ω CC b) (hn : As.length = n) (hst : (st.map fun v => v.category).sum ≤ 8) (hrm : xRm R rm nL' 0 0) (hdg : decode cc pc = .ok (.invokevirtual idx, 3)) (hstk : As.reverse ++ .ref b :: st = stk) (kk : XW p l e R s m args below meth c cells slots nL bs Q Ω' (pc + 3) L (.null :: st)) : XW p l e R s m args below meth c cells slots nL bs Q Ω pc L stk := x_callU C hM hw hrecv hn hst hrm hdg C.2.2.1 hstk kk
end XMORE
theorem xb_s {a b n : Nat} (h : n < a) : n < a + b := Nat.lt_add_right b h
theorem xb_a {a b n : Nat} (h : n < b) : a + n < a + b := Nat.add_lt_add_left h a
theorem xb_d {n : Nat} : n < n + 2 := Nat.lt_add_of_pos_right (by decide)
theorem dm_0 (z : Nat → Nat) : xdom z 0 0 0 := ⟨Nat.one_pos, Nat.one_pos⟩
theorem dm_1 (z : Nat → Nat) : xdom z 1 0 0 := ⟨Nat.one_pos, Nat.one_pos⟩
theorem dm_2 (z : Nat → Nat) : xdom z 2 0 0 := ⟨Nat.one_pos, Nat.one_pos⟩
theorem dm_3 (z : Nat → Nat) : xdom z 3 0 0 := ⟨Nat.one_pos, Nat.one_pos⟩
theorem dm_4 (z : Nat → Nat) : xdom z 4 0 0 := ⟨Nat.one_pos, Nat.one_pos⟩
theorem dm_5 (z : Nat → Nat) : xdom z 5 0 0 := ⟨Nat.one_pos, Nat.one_pos⟩
theorem dm_6 (z : Nat → Nat) : xdom z 6 0 0 := ⟨Nat.one_pos, Nat.one_pos⟩
theorem dm_7 (z : Nat → Nat) : xdom z 7 0 0 := ⟨Nat.one_pos, Nat.one_pos⟩
theorem dm_9 (z : Nat → Nat) : xdom z 9 0 0 := ⟨Nat.one_pos, Nat.one_pos⟩
theorem dm_11 (z : Nat → Nat) : xdom z 11 0 0 := ⟨Nat.one_pos, Nat.one_pos⟩
theorem dm_12 (z : Nat → Nat) : xdom z 12 0 0 := ⟨Nat.one_pos, Nat.one_pos⟩
theorem dm_16 (z : Nat → Nat) : xdom z 16 0 0 := ⟨Nat.one_pos, Nat.one_pos⟩
theorem dm_24 (z : Nat → Nat) : xdom z 24 0 0 := ⟨Nat.one_pos, Nat.one_pos⟩
theorem dm_8 {z : Nat → Nat} {t : Nat} (h : t < z 2) : xdom z 8 t 0 := ⟨h, Nat.one_pos⟩
theorem dm_10 {z : Nat → Nat} {t : Nat} (h : t < z 2) : xdom z 10 t 0 := ⟨h, Nat.one_pos⟩
theorem dm_13 {z : Nat → Nat} {i : Nat} (h : i < z 4 + 2) : xdom z 13 i 0 := ⟨h, Nat.one_pos⟩
theorem dm_14 {z : Nat → Nat} {i : Nat} (h : i < z 4 + 2) : xdom z 14 i 0 := ⟨h, Nat.one_pos⟩
theorem dm_15 {z : Nat → Nat} {i : Nat} (h : i < z 4 + 2) : xdom z 15 i 0 := ⟨h, Nat.one_pos⟩
theorem dm_17 {z : Nat → Nat} {i : Nat} (h : i < z 0) : xdom z 17 i 0 := ⟨h, Nat.one_pos⟩
theorem dm_21 {z : Nat → Nat} {i : Nat} (h : i < z 0) : xdom z 21 i 0 := ⟨h, Nat.one_pos⟩
theorem dm_22 {z : Nat → Nat} {i : Nat} (h : i < z 0) : xdom z 22 i 0 := ⟨h, Nat.one_pos⟩
theorem dm_23 {z : Nat → Nat} {i : Nat} (h : i < z 0) : xdom z 23 i 0 := ⟨h, Nat.one_pos⟩
theorem dm_18 {z : Nat → Nat} {i : Nat} (h : i < z 0 + z 1) : xdom z 18 i 0 := ⟨h, Nat.one_pos⟩
theorem dm_19 {z : Nat → Nat} {i : Nat} (h : i < z 0 + z 1) : xdom z 19 i 0 := ⟨h, Nat.one_pos⟩
theorem dm_20 {z : Nat → Nat} {i j : Nat} (h : i < z 0 + z 1) (hj : j < z 5) : xdom z 20 i j := ⟨h, hj⟩
theorem dm_25 {z : Nat → Nat} {i : Nat} (h : i < z 1) : xdom z 25 i 0 := ⟨h, Nat.one_pos⟩
theorem dm_26 {z : Nat → Nat} {i : Nat} (h : i < z 1) : xdom z 26 i 0 := ⟨h, Nat.one_pos⟩
theorem dm_27 {z : Nat → Nat} {i j : Nat} (h : i < z 1) (hj : j < z 2) : xdom z 27 i j := ⟨h, hj⟩
theorem dm_28 {z : Nat → Nat} {i j : Nat} (h : i < z 1) (hj : j < z 2) : xdom z 28 i j := ⟨h, hj⟩
theorem dm_29 {z : Nat → Nat} {i j : Nat} (h : i < z 1) (hj : j < z 2) : xdom z 29 i j := ⟨h, hj⟩
theorem dm_30 {z : Nat → Nat} {i j : Nat} (h : i < z 1) (hj : j < z 2) : xdom z 30 i j := ⟨h, hj⟩
theorem dm_31 {z : Nat → Nat} {i j : Nat} (h : i < z 1) (hj : j < z 2) : xdom z 31 i j := ⟨h, hj⟩
theorem dm_32 {z : Nat → Nat} {i j : Nat} (h : i < z 1) (hj : j < z 2) : xdom z 32 i j := ⟨h, hj⟩
theorem dm_33 {z : Nat → Nat} {i j : Nat} (h : i < z 1) (hj : j < z 2) : xdom z 33 i j := ⟨h, hj⟩
end
section
/-! words: classes, fields, calls, by their places in the tables -/
theorem cl_X0 : xCls 0 RX0 TX0 8 tyX0 := ⟨by decide +kernel, tyX0_ok, nmX0, rfl⟩
theorem cl_X1 : xCls 1 RX1 TX1 4 tyX1 := ⟨by decide +kernel, tyX1_ok, nmX1, rfl⟩
theorem cl_X2 : xCls 2 RX2 TX2 2 tyX2 := ⟨by decide +kernel, tyX2_ok, nmX2, rfl⟩
theorem cl_X3 : xCls 3 RX3 TX3 9 tyX3 := ⟨by decide +kernel, tyX3_ok, nmX3, rfl⟩
theorem cl_X5 : xCls 4 RX5 TX5 7 tyX5 := ⟨by decide +kernel, tyX5_ok, nmX5, rfl⟩
theorem cl_X6 : xCls 5 RX6 TX6 9 tyX6 := ⟨by decide +kernel, tyX6_ok, nmX6, rfl⟩
theorem cl_X7 : xCls 6 RX7 TX7 6 tyX7 := ⟨by decide +kernel, tyX7_ok, nmX7, rfl⟩
theorem cl_X8 : xCls 7 RX8 TX8 2 tyX8 := ⟨by decide +kernel, tyX8_ok, nmX8, rfl⟩
theorem cl_X9 : xCls 8 RX9 TX9 11 tyX9 := ⟨by decide +kernel, tyX9_ok, nmX9, rfl⟩
theorem cl_X10 : xCls 9 RX10 TX10 8 tyX10 := ⟨by decide +kernel, tyX10_ok, nmX10, rfl⟩
theorem cl_X11 : xCls 10 RX11 TX11 38 tyX11 := ⟨by decide +kernel, tyX11_ok, nmX11, rfl⟩
theorem fl_X10_12_X10 : xFl RX10 12 TX10 0 := ⟨"CommitShards", List.mem_filter.mpr ⟨List.mem_of_getElem? (i := 400) (by decide +kernel), rfl⟩, Or.inl rfl⟩
theorem fl_X10_23_X10 : xFl RX10 23 TX10 1 := ⟨"CommitShards", List.mem_filter.mpr ⟨List.mem_of_getElem? (i := 401) (by decide +kernel), rfl⟩, Or.inl rfl⟩
theorem fl_X10_30_X10 : xFl RX10 30 TX10 2 := ⟨"CommitShards", List.mem_filter.mpr ⟨List.mem_of_getElem? (i := 402) (by decide +kernel), rfl⟩, Or.inl rfl⟩
theorem fl_X10_37_X10 : xFl RX10 37 TX10 3 := ⟨"CommitShards", List.mem_filter.mpr ⟨List.mem_of_getElem? (i := 403) (by decide +kernel), rfl⟩, Or.inl rfl⟩
theorem fl_X10_41_X7 : xFl RX10 41 TX7 0 := ⟨"CommitShards$Sizes", List.mem_filter.mpr ⟨List.mem_of_getElem? (i := 88) (by decide +kernel), rfl⟩, Or.inl rfl⟩
theorem fl_X10_47_X10 : xFl RX10 47 TX10 4 := ⟨"CommitShards", List.mem_filter.mpr ⟨List.mem_of_getElem? (i := 404) (by decide +kernel), rfl⟩, Or.inl rfl⟩
theorem fl_X10_54_X7 : xFl RX10 54 TX7 1 := ⟨"CommitShards$Sizes", List.mem_filter.mpr ⟨List.mem_of_getElem? (i := 90) (by decide +kernel), rfl⟩, Or.inl rfl⟩
theorem fl_X10_59_X10 : xFl RX10 59 TX10 5 := ⟨"CommitShards", List.mem_filter.mpr ⟨List.mem_of_getElem? (i := 405) (by decide +kernel), rfl⟩, Or.inl rfl⟩
theorem fl_X10_70_X8 : xFl RX10 70 TX8 0 := ⟨"CommitShards$Txns", List.mem_filter.mpr ⟨List.mem_of_getElem? (i := 126) (by decide +kernel), rfl⟩, Or.inl rfl⟩
theorem fl_X10_78_X10 : xFl RX10 78 TX10 6 := ⟨"CommitShards", List.mem_filter.mpr ⟨List.mem_of_getElem? (i := 406) (by decide +kernel), rfl⟩, Or.inl rfl⟩
theorem fl_X10_104_X5 : xFl RX10 104 TX5 2 := ⟨"CommitShards$Pool", List.mem_filter.mpr ⟨List.mem_of_getElem? (i := 226) (by decide +kernel), rfl⟩, Or.inl rfl⟩
theorem fl_X10_112_X6 : xFl RX10 112 TX6 4 := ⟨"CommitShards$Shard", List.mem_filter.mpr ⟨List.mem_of_getElem? (i := 300) (by decide +kernel), rfl⟩, Or.inr (List.mem_filter.mpr ⟨List.mem_of_getElem? (i := 301) (by decide +kernel), rfl⟩)⟩
theorem fl_X10_123_X1 : xFl RX10 123 TX1 0 := ⟨"CommitShards$Keys", List.mem_filter.mpr ⟨List.mem_of_getElem? (i := 145) (by decide +kernel), rfl⟩, Or.inl rfl⟩
theorem fl_X10_138_X3 : xFl RX10 138 TX3 0 := ⟨"CommitShards$Message", List.mem_filter.mpr ⟨List.mem_of_getElem? (i := 176) (by decide +kernel), rfl⟩, Or.inl rfl⟩
theorem fl_X10_143_X5 : xFl RX10 143 TX5 1 := ⟨"CommitShards$Pool", List.mem_filter.mpr ⟨List.mem_of_getElem? (i := 223) (by decide +kernel), rfl⟩, Or.inl rfl⟩
theorem fl_X10_147_X3 : xFl RX10 147 TX3 1 := ⟨"CommitShards$Message", List.mem_filter.mpr ⟨List.mem_of_getElem? (i := 178) (by decide +kernel), rfl⟩, Or.inl rfl⟩
theorem fl_X10_150_X5 : xFl RX10 150 TX5 4 := ⟨"CommitShards$Pool", List.mem_filter.mpr ⟨List.mem_of_getElem? (i := 229) (by decide +kernel), rfl⟩, Or.inl rfl⟩
theorem fl_X10_164_X0 : xFl RX10 164 TX0 4 := ⟨"CommitShards$Node", List.mem_filter.mpr ⟨List.mem_of_getElem? (i := 304) (by decide +kernel), rfl⟩, Or.inl rfl⟩
theorem fl_X10_164_X6 : xFl RX10 164 TX6 4 := ⟨"CommitShards$Node", List.mem_filter.mpr ⟨List.mem_of_getElem? (i := 304) (by decide +kernel), rfl⟩, Or.inl rfl⟩
theorem fl_X10_187_X0 : xFl RX10 187 TX0 3 := ⟨"CommitShards$Node", List.mem_filter.mpr ⟨List.mem_of_getElem? (i := 298) (by decide +kernel), rfl⟩, Or.inl rfl⟩
theorem fl_X10_187_X6 : xFl RX10 187 TX6 3 := ⟨"CommitShards$Node", List.mem_filter.mpr ⟨List.mem_of_getElem? (i := 298) (by decide +kernel), rfl⟩, Or.inl rfl⟩
theorem fl_X10_191_X2 : xFl RX10 191 TX2 1 := ⟨"CommitShards$Log", List.mem_filter.mpr ⟨List.mem_of_getElem? (i := 268) (by decide +kernel), rfl⟩, Or.inl rfl⟩
theorem fl_X10_200_X0 : xFl RX10 200 TX0 5 := ⟨"CommitShards$Acceptor", List.mem_filter.mpr ⟨List.mem_of_getElem? (i := 385) (by decide +kernel), rfl⟩, Or.inl rfl⟩
theorem fl_X10_212_X5 : xFl RX10 212 TX5 5 := ⟨"CommitShards$Pool", List.mem_filter.mpr ⟨List.mem_of_getElem? (i := 231) (by decide +kernel), rfl⟩, Or.inl rfl⟩
theorem fl_X10_215_X5 : xFl RX10 215 TX5 6 := ⟨"CommitShards$Pool", List.mem_filter.mpr ⟨List.mem_of_getElem? (i := 233) (by decide +kernel), rfl⟩, Or.inl rfl⟩
theorem fl_X10_218_X10 : xFl RX10 218 TX10 7 := ⟨"CommitShards", List.mem_filter.mpr ⟨List.mem_of_getElem? (i := 407) (by decide +kernel), rfl⟩, Or.inl rfl⟩
theorem fl_X10_224_X7 : xFl RX10 224 TX7 2 := ⟨"CommitShards$Sizes", List.mem_filter.mpr ⟨List.mem_of_getElem? (i := 98) (by decide +kernel), rfl⟩, Or.inl rfl⟩
theorem fl_X10_226_X7 : xFl RX10 226 TX7 3 := ⟨"CommitShards$Sizes", List.mem_filter.mpr ⟨List.mem_of_getElem? (i := 101) (by decide +kernel), rfl⟩, Or.inl rfl⟩
theorem fl_X10_231_X6 : xFl RX10 231 TX6 0 := ⟨"CommitShards$Shard", List.mem_filter.mpr ⟨List.mem_of_getElem? (i := 284) (by decide +kernel), rfl⟩, Or.inr (List.mem_filter.mpr ⟨List.mem_of_getElem? (i := 281) (by decide +kernel), rfl⟩)⟩
theorem fl_X10_234_X6 : xFl RX10 234 TX6 5 := ⟨"CommitShards$Shard", List.mem_filter.mpr ⟨List.mem_of_getElem? (i := 275) (by decide +kernel), rfl⟩, Or.inl rfl⟩
theorem fl_X10_249_X3 : xFl RX10 249 TX3 2 := ⟨"CommitShards$Message", List.mem_filter.mpr ⟨List.mem_of_getElem? (i := 183) (by decide +kernel), rfl⟩, Or.inl rfl⟩
theorem fl_X10_252_X3 : xFl RX10 252 TX3 5 := ⟨"CommitShards$Message", List.mem_filter.mpr ⟨List.mem_of_getElem? (i := 194) (by decide +kernel), rfl⟩, Or.inl rfl⟩
theorem fl_X0_3_X7 : xFl RX0 3 TX7 0 := ⟨"CommitShards$Sizes", List.mem_filter.mpr ⟨List.mem_of_getElem? (i := 85) (by decide +kernel), rfl⟩, Or.inl rfl⟩
theorem fl_X0_15_X0 : xFl RX0 15 TX0 6 := ⟨"CommitShards$Acceptor", List.mem_filter.mpr ⟨List.mem_of_getElem? (i := 386) (by decide +kernel), rfl⟩, Or.inl rfl⟩
theorem fl_X0_20_X0 : xFl RX0 20 TX0 7 := ⟨"CommitShards$Acceptor", List.mem_filter.mpr ⟨List.mem_of_getElem? (i := 387) (by decide +kernel), rfl⟩, Or.inl rfl⟩
theorem fl_X0_24_X7 : xFl RX0 24 TX7 2 := ⟨"CommitShards$Sizes", List.mem_filter.mpr ⟨List.mem_of_getElem? (i := 96) (by decide +kernel), rfl⟩, Or.inl rfl⟩
theorem fl_X0_28_X0 : xFl RX0 28 TX0 5 := ⟨"CommitShards$Acceptor", List.mem_filter.mpr ⟨List.mem_of_getElem? (i := 384) (by decide +kernel), rfl⟩, Or.inl rfl⟩
theorem fl_X0_35_X3 : xFl RX0 35 TX3 2 := ⟨"CommitShards$Message", List.mem_filter.mpr ⟨List.mem_of_getElem? (i := 179) (by decide +kernel), rfl⟩, Or.inl rfl⟩
theorem fl_X0_40_X3 : xFl RX0 40 TX3 0 := ⟨"CommitShards$Message", List.mem_filter.mpr ⟨List.mem_of_getElem? (i := 174) (by decide +kernel), rfl⟩, Or.inl rfl⟩
theorem fl_X0_57_X3 : xFl RX0 57 TX3 3 := ⟨"CommitShards$Message", List.mem_filter.mpr ⟨List.mem_of_getElem? (i := 185) (by decide +kernel), rfl⟩, Or.inl rfl⟩
theorem fl_X0_60_X9 : xFl RX0 60 TX9 1 := ⟨"CommitShards$View", List.mem_filter.mpr ⟨List.mem_of_getElem? (i := 343) (by decide +kernel), rfl⟩, Or.inl rfl⟩
theorem fl_X0_63_X3 : xFl RX0 63 TX3 4 := ⟨"CommitShards$Message", List.mem_filter.mpr ⟨List.mem_of_getElem? (i := 188) (by decide +kernel), rfl⟩, Or.inl rfl⟩
theorem fl_X0_66_X3 : xFl RX0 66 TX3 5 := ⟨"CommitShards$Message", List.mem_filter.mpr ⟨List.mem_of_getElem? (i := 192) (by decide +kernel), rfl⟩, Or.inl rfl⟩
theorem fl_X0_73_X0 : xFl RX0 73 TX0 3 := ⟨"CommitShards$Acceptor", List.mem_filter.mpr ⟨List.mem_of_getElem? (i := 296) (by decide +kernel), rfl⟩, Or.inr (List.mem_filter.mpr ⟨List.mem_of_getElem? (i := 297) (by decide +kernel), rfl⟩)⟩
theorem fl_X0_91_X0 : xFl RX0 91 TX0 2 := ⟨"CommitShards$Acceptor", List.mem_filter.mpr ⟨List.mem_of_getElem? (i := 291) (by decide +kernel), rfl⟩, Or.inr (List.mem_filter.mpr ⟨List.mem_of_getElem? (i := 292) (by decide +kernel), rfl⟩)⟩
theorem fl_X0_95_X0 : xFl RX0 95 TX0 0 := ⟨"CommitShards$Acceptor", List.mem_filter.mpr ⟨List.mem_of_getElem? (i := 282) (by decide +kernel), rfl⟩, Or.inr (List.mem_filter.mpr ⟨List.mem_of_getElem? (i := 283) (by decide +kernel), rfl⟩)⟩
theorem fl_X0_104_X5 : xFl RX0 104 TX5 2 := ⟨"CommitShards$Pool", List.mem_filter.mpr ⟨List.mem_of_getElem? (i := 225) (by decide +kernel), rfl⟩, Or.inl rfl⟩
theorem fl_X0_108_X0 : xFl RX0 108 TX0 1 := ⟨"CommitShards$Acceptor", List.mem_filter.mpr ⟨List.mem_of_getElem? (i := 286) (by decide +kernel), rfl⟩, Or.inr (List.mem_filter.mpr ⟨List.mem_of_getElem? (i := 287) (by decide +kernel), rfl⟩)⟩
theorem fl_X0_124_X3 : xFl RX0 124 TX3 6 := ⟨"CommitShards$Message", List.mem_filter.mpr ⟨List.mem_of_getElem? (i := 197) (by decide +kernel), rfl⟩, Or.inl rfl⟩
theorem fl_X0_137_X9 : xFl RX0 137 TX9 3 := ⟨"CommitShards$View", List.mem_filter.mpr ⟨List.mem_of_getElem? (i := 348) (by decide +kernel), rfl⟩, Or.inl rfl⟩
theorem fl_X0_149_X9 : xFl RX0 149 TX9 10 := ⟨"CommitShards$View", List.mem_filter.mpr ⟨List.mem_of_getElem? (i := 360) (by decide +kernel), rfl⟩, Or.inl rfl⟩
theorem fl_X0_156_X9 : xFl RX0 156 TX9 9 := ⟨"CommitShards$View", List.mem_filter.mpr ⟨List.mem_of_getElem? (i := 358) (by decide +kernel), rfl⟩, Or.inl rfl⟩
theorem fl_X0_169_X9 : xFl RX0 169 TX9 5 := ⟨"CommitShards$View", List.mem_filter.mpr ⟨List.mem_of_getElem? (i := 352) (by decide +kernel), rfl⟩, Or.inl rfl⟩
theorem fl_X0_172_X9 : xFl RX0 172 TX9 6 := ⟨"CommitShards$View", List.mem_filter.mpr ⟨List.mem_of_getElem? (i := 354) (by decide +kernel), rfl⟩, Or.inl rfl⟩
theorem fl_X0_179_X9 : xFl RX0 179 TX9 4 := ⟨"CommitShards$View", List.mem_filter.mpr ⟨List.mem_of_getElem? (i := 350) (by decide +kernel), rfl⟩, Or.inl rfl⟩
theorem fl_X0_182_X3 : xFl RX0 182 TX3 7 := ⟨"CommitShards$Message", List.mem_filter.mpr ⟨List.mem_of_getElem? (i := 199) (by decide +kernel), rfl⟩, Or.inl rfl⟩
theorem fl_X0_185_X3 : xFl RX0 185 TX3 8 := ⟨"CommitShards$Message", List.mem_filter.mpr ⟨List.mem_of_getElem? (i := 201) (by decide +kernel), rfl⟩, Or.inl rfl⟩
theorem fl_X0_198_X0 : xFl RX0 198 TX0 4 := ⟨"CommitShards$Acceptor", List.mem_filter.mpr ⟨List.mem_of_getElem? (i := 302) (by decide +kernel), rfl⟩, Or.inr (List.mem_filter.mpr ⟨List.mem_of_getElem? (i := 303) (by decide +kernel), rfl⟩)⟩
theorem fl_X0_202_X9 : xFl RX0 202 TX9 2 := ⟨"CommitShards$View", List.mem_filter.mpr ⟨List.mem_of_getElem? (i := 346) (by decide +kernel), rfl⟩, Or.inl rfl⟩
theorem fl_X0_218_X7 : xFl RX0 218 TX7 1 := ⟨"CommitShards$Sizes", List.mem_filter.mpr ⟨List.mem_of_getElem? (i := 92) (by decide +kernel), rfl⟩, Or.inl rfl⟩
theorem fl_X1_9_X1 : xFl RX1 9 TX1 1 := ⟨"CommitShards$Keys", List.mem_filter.mpr ⟨List.mem_of_getElem? (i := 146) (by decide +kernel), rfl⟩, Or.inl rfl⟩
theorem fl_X1_15_X7 : xFl RX1 15 TX7 3 := ⟨"CommitShards$Sizes", List.mem_filter.mpr ⟨List.mem_of_getElem? (i := 99) (by decide +kernel), rfl⟩, Or.inl rfl⟩
theorem fl_X1_21_X1 : xFl RX1 21 TX1 0 := ⟨"CommitShards$Keys", List.mem_filter.mpr ⟨List.mem_of_getElem? (i := 144) (by decide +kernel), rfl⟩, Or.inl rfl⟩
theorem fl_X1_25_X7 : xFl RX1 25 TX7 2 := ⟨"CommitShards$Sizes", List.mem_filter.mpr ⟨List.mem_of_getElem? (i := 95) (by decide +kernel), rfl⟩, Or.inl rfl⟩
theorem fl_X1_30_X1 : xFl RX1 30 TX1 2 := ⟨"CommitShards$Keys", List.mem_filter.mpr ⟨List.mem_of_getElem? (i := 147) (by decide +kernel), rfl⟩, Or.inl rfl⟩
theorem fl_X1_35_X1 : xFl RX1 35 TX1 3 := ⟨"CommitShards$Keys", List.mem_filter.mpr ⟨List.mem_of_getElem? (i := 148) (by decide +kernel), rfl⟩, Or.inl rfl⟩
theorem fl_X2_11_X2 : xFl RX2 11 TX2 0 := ⟨"CommitShards$Log", List.mem_filter.mpr ⟨List.mem_of_getElem? (i := 266) (by decide +kernel), rfl⟩, Or.inl rfl⟩
theorem fl_X2_16_X2 : xFl RX2 16 TX2 1 := ⟨"CommitShards$Log", List.mem_filter.mpr ⟨List.mem_of_getElem? (i := 267) (by decide +kernel), rfl⟩, Or.inl rfl⟩
theorem fl_X3_9_X3 : xFl RX3 9 TX3 7 := ⟨"CommitShards$Message", List.mem_filter.mpr ⟨List.mem_of_getElem? (i := 198) (by decide +kernel), rfl⟩, Or.inl rfl⟩
theorem fl_X3_15_X3 : xFl RX3 15 TX3 8 := ⟨"CommitShards$Message", List.mem_filter.mpr ⟨List.mem_of_getElem? (i := 200) (by decide +kernel), rfl⟩, Or.inl rfl⟩
theorem fl_X3_18_X3 : xFl RX3 18 TX3 0 := ⟨"CommitShards$Message", List.mem_filter.mpr ⟨List.mem_of_getElem? (i := 173) (by decide +kernel), rfl⟩, Or.inl rfl⟩
theorem fl_X3_22_X3 : xFl RX3 22 TX3 1 := ⟨"CommitShards$Message", List.mem_filter.mpr ⟨List.mem_of_getElem? (i := 177) (by decide +kernel), rfl⟩, Or.inl rfl⟩
theorem fl_X3_25_X3 : xFl RX3 25 TX3 2 := ⟨"CommitShards$Message", List.mem_filter.mpr ⟨List.mem_of_getElem? (i := 180) (by decide +kernel), rfl⟩, Or.inl rfl⟩
theorem fl_X3_28_X3 : xFl RX3 28 TX3 3 := ⟨"CommitShards$Message", List.mem_filter.mpr ⟨List.mem_of_getElem? (i := 184) (by decide +kernel), rfl⟩, Or.inl rfl⟩
theorem fl_X3_31_X3 : xFl RX3 31 TX3 4 := ⟨"CommitShards$Message", List.mem_filter.mpr ⟨List.mem_of_getElem? (i := 187) (by decide +kernel), rfl⟩, Or.inl rfl⟩
theorem fl_X3_34_X3 : xFl RX3 34 TX3 5 := ⟨"CommitShards$Message", List.mem_filter.mpr ⟨List.mem_of_getElem? (i := 190) (by decide +kernel), rfl⟩, Or.inl rfl⟩
theorem fl_X3_37_X3 : xFl RX3 37 TX3 6 := ⟨"CommitShards$Message", List.mem_filter.mpr ⟨List.mem_of_getElem? (i := 195) (by decide +kernel), rfl⟩, Or.inl rfl⟩
theorem fl_X4_7_X0 : xFl RX4 7 TX0 4 := ⟨"CommitShards$Node", List.mem_filter.mpr ⟨List.mem_of_getElem? (i := 299) (by decide +kernel), rfl⟩, Or.inl rfl⟩
theorem fl_X4_7_X6 : xFl RX4 7 TX6 4 := ⟨"CommitShards$Node", List.mem_filter.mpr ⟨List.mem_of_getElem? (i := 299) (by decide +kernel), rfl⟩, Or.inl rfl⟩
theorem fl_X4_13_X0 : xFl RX4 13 TX0 0 := ⟨"CommitShards$Node", List.mem_filter.mpr ⟨List.mem_of_getElem? (i := 279) (by decide +kernel), rfl⟩, Or.inl rfl⟩
theorem fl_X4_13_X6 : xFl RX4 13 TX6 0 := ⟨"CommitShards$Node", List.mem_filter.mpr ⟨List.mem_of_getElem? (i := 279) (by decide +kernel), rfl⟩, Or.inl rfl⟩
theorem fl_X4_17_X0 : xFl RX4 17 TX0 1 := ⟨"CommitShards$Node", List.mem_filter.mpr ⟨List.mem_of_getElem? (i := 285) (by decide +kernel), rfl⟩, Or.inl rfl⟩
theorem fl_X4_17_X6 : xFl RX4 17 TX6 1 := ⟨"CommitShards$Node", List.mem_filter.mpr ⟨List.mem_of_getElem? (i := 285) (by decide +kernel), rfl⟩, Or.inl rfl⟩
theorem fl_X4_21_X0 : xFl RX4 21 TX0 2 := ⟨"CommitShards$Node", List.mem_filter.mpr ⟨List.mem_of_getElem? (i := 288) (by decide +kernel), rfl⟩, Or.inl rfl⟩
theorem fl_X4_21_X6 : xFl RX4 21 TX6 2 := ⟨"CommitShards$Node", List.mem_filter.mpr ⟨List.mem_of_getElem? (i := 288) (by decide +kernel), rfl⟩, Or.inl rfl⟩
theorem fl_X4_27_X7 : xFl RX4 27 TX7 5 := ⟨"CommitShards$Sizes", List.mem_filter.mpr ⟨List.mem_of_getElem? (i := 104) (by decide +kernel), rfl⟩, Or.inl rfl⟩
theorem fl_X4_35_X0 : xFl RX4 35 TX0 3 := ⟨"CommitShards$Node", List.mem_filter.mpr ⟨List.mem_of_getElem? (i := 293) (by decide +kernel), rfl⟩, Or.inl rfl⟩
theorem fl_X4_35_X6 : xFl RX4 35 TX6 3 := ⟨"CommitShards$Node", List.mem_filter.mpr ⟨List.mem_of_getElem? (i := 293) (by decide +kernel), rfl⟩, Or.inl rfl⟩
theorem fl_X5_7_X5 : xFl RX5 7 TX5 0 := ⟨"CommitShards$Pool", List.mem_filter.mpr ⟨List.mem_of_getElem? (i := 221) (by decide +kernel), rfl⟩, Or.inl rfl⟩
theorem fl_X5_13_X7 : xFl RX5 13 TX7 4 := ⟨"CommitShards$Sizes", List.mem_filter.mpr ⟨List.mem_of_getElem? (i := 102) (by decide +kernel), rfl⟩, Or.inl rfl⟩
theorem fl_X5_21_X5 : xFl RX5 21 TX5 1 := ⟨"CommitShards$Pool", List.mem_filter.mpr ⟨List.mem_of_getElem? (i := 222) (by decide +kernel), rfl⟩, Or.inl rfl⟩
theorem fl_X5_25_X7 : xFl RX5 25 TX7 0 := ⟨"CommitShards$Sizes", List.mem_filter.mpr ⟨List.mem_of_getElem? (i := 87) (by decide +kernel), rfl⟩, Or.inl rfl⟩
theorem fl_X5_31_X5 : xFl RX5 31 TX5 2 := ⟨"CommitShards$Pool", List.mem_filter.mpr ⟨List.mem_of_getElem? (i := 224) (by decide +kernel), rfl⟩, Or.inl rfl⟩
theorem fl_X5_35_X5 : xFl RX5 35 TX5 3 := ⟨"CommitShards$Pool", List.mem_filter.mpr ⟨List.mem_of_getElem? (i := 227) (by decide +kernel), rfl⟩, Or.inl rfl⟩
theorem fl_X5_38_X5 : xFl RX5 38 TX5 4 := ⟨"CommitShards$Pool", List.mem_filter.mpr ⟨List.mem_of_getElem? (i := 228) (by decide +kernel), rfl⟩, Or.inl rfl⟩
theorem fl_X5_41_X3 : xFl RX5 41 TX3 0 := ⟨"CommitShards$Message", List.mem_filter.mpr ⟨List.mem_of_getElem? (i := 175) (by decide +kernel), rfl⟩, Or.inl rfl⟩
theorem fl_X5_44_X3 : xFl RX5 44 TX3 2 := ⟨"CommitShards$Message", List.mem_filter.mpr ⟨List.mem_of_getElem? (i := 182) (by decide +kernel), rfl⟩, Or.inl rfl⟩
theorem fl_X5_47_X3 : xFl RX5 47 TX3 6 := ⟨"CommitShards$Message", List.mem_filter.mpr ⟨List.mem_of_getElem? (i := 196) (by decide +kernel), rfl⟩, Or.inl rfl⟩
theorem fl_X5_50_X3 : xFl RX5 50 TX3 3 := ⟨"CommitShards$Message", List.mem_filter.mpr ⟨List.mem_of_getElem? (i := 186) (by decide +kernel), rfl⟩, Or.inl rfl⟩
theorem fl_X5_53_X3 : xFl RX5 53 TX3 4 := ⟨"CommitShards$Message", List.mem_filter.mpr ⟨List.mem_of_getElem? (i := 189) (by decide +kernel), rfl⟩, Or.inl rfl⟩
theorem fl_X5_56_X3 : xFl RX5 56 TX3 5 := ⟨"CommitShards$Message", List.mem_filter.mpr ⟨List.mem_of_getElem? (i := 193) (by decide +kernel), rfl⟩, Or.inl rfl⟩
theorem fl_X5_63_X7 : xFl RX5 63 TX7 1 := ⟨"CommitShards$Sizes", List.mem_filter.mpr ⟨List.mem_of_getElem? (i := 91) (by decide +kernel), rfl⟩, Or.inl rfl⟩
theorem fl_X5_70_X5 : xFl RX5 70 TX5 5 := ⟨"CommitShards$Pool", List.mem_filter.mpr ⟨List.mem_of_getElem? (i := 230) (by decide +kernel), rfl⟩, Or.inl rfl⟩
theorem fl_X5_73_X5 : xFl RX5 73 TX5 6 := ⟨"CommitShards$Pool", List.mem_filter.mpr ⟨List.mem_of_getElem? (i := 232) (by decide +kernel), rfl⟩, Or.inl rfl⟩
theorem fl_X6_9_X6 : xFl RX6 9 TX6 6 := ⟨"CommitShards$Shard", List.mem_filter.mpr ⟨List.mem_of_getElem? (i := 276) (by decide +kernel), rfl⟩, Or.inl rfl⟩
theorem fl_X6_15_X7 : xFl RX6 15 TX7 2 := ⟨"CommitShards$Sizes", List.mem_filter.mpr ⟨List.mem_of_getElem? (i := 94) (by decide +kernel), rfl⟩, Or.inl rfl⟩
theorem fl_X6_21_X6 : xFl RX6 21 TX6 5 := ⟨"CommitShards$Shard", List.mem_filter.mpr ⟨List.mem_of_getElem? (i := 274) (by decide +kernel), rfl⟩, Or.inl rfl⟩
theorem fl_X6_25_X6 : xFl RX6 25 TX6 7 := ⟨"CommitShards$Shard", List.mem_filter.mpr ⟨List.mem_of_getElem? (i := 277) (by decide +kernel), rfl⟩, Or.inl rfl⟩
theorem fl_X6_29_X6 : xFl RX6 29 TX6 8 := ⟨"CommitShards$Shard", List.mem_filter.mpr ⟨List.mem_of_getElem? (i := 278) (by decide +kernel), rfl⟩, Or.inl rfl⟩
theorem fl_X6_32_X3 : xFl RX6 32 TX3 0 := ⟨"CommitShards$Message", List.mem_filter.mpr ⟨List.mem_of_getElem? (i := 172) (by decide +kernel), rfl⟩, Or.inl rfl⟩
theorem fl_X6_37_X3 : xFl RX6 37 TX3 2 := ⟨"CommitShards$Message", List.mem_filter.mpr ⟨List.mem_of_getElem? (i := 181) (by decide +kernel), rfl⟩, Or.inl rfl⟩
theorem fl_X6_44_X3 : xFl RX6 44 TX3 5 := ⟨"CommitShards$Message", List.mem_filter.mpr ⟨List.mem_of_getElem? (i := 191) (by decide +kernel), rfl⟩, Or.inl rfl⟩
theorem fl_X6_51_X6 : xFl RX6 51 TX6 3 := ⟨"CommitShards$Shard", List.mem_filter.mpr ⟨List.mem_of_getElem? (i := 294) (by decide +kernel), rfl⟩, Or.inr (List.mem_filter.mpr ⟨List.mem_of_getElem? (i := 295) (by decide +kernel), rfl⟩)⟩
theorem fl_X6_64_X6 : xFl RX6 64 TX6 2 := ⟨"CommitShards$Shard", List.mem_filter.mpr ⟨List.mem_of_getElem? (i := 289) (by decide +kernel), rfl⟩, Or.inr (List.mem_filter.mpr ⟨List.mem_of_getElem? (i := 290) (by decide +kernel), rfl⟩)⟩
theorem fl_X6_68_X6 : xFl RX6 68 TX6 0 := ⟨"CommitShards$Shard", List.mem_filter.mpr ⟨List.mem_of_getElem? (i := 280) (by decide +kernel), rfl⟩, Or.inr (List.mem_filter.mpr ⟨List.mem_of_getElem? (i := 281) (by decide +kernel), rfl⟩)⟩
theorem fl_X7_13_X7 : xFl RX7 13 TX7 0 := ⟨"CommitShards$Sizes", List.mem_filter.mpr ⟨List.mem_of_getElem? (i := 86) (by decide +kernel), rfl⟩, Or.inl rfl⟩
theorem fl_X7_21_X7 : xFl RX7 21 TX7 1 := ⟨"CommitShards$Sizes", List.mem_filter.mpr ⟨List.mem_of_getElem? (i := 89) (by decide +kernel), rfl⟩, Or.inl rfl⟩
theorem fl_X7_24_X7 : xFl RX7 24 TX7 2 := ⟨"CommitShards$Sizes", List.mem_filter.mpr ⟨List.mem_of_getElem? (i := 97) (by decide +kernel), rfl⟩, Or.inl rfl⟩
theorem fl_X7_27_X7 : xFl RX7 27 TX7 3 := ⟨"CommitShards$Sizes", List.mem_filter.mpr ⟨List.mem_of_getElem? (i := 100) (by decide +kernel), rfl⟩, Or.inl rfl⟩
theorem fl_X7_30_X7 : xFl RX7 30 TX7 4 := ⟨"CommitShards$Sizes", List.mem_filter.mpr ⟨List.mem_of_getElem? (i := 103) (by decide +kernel), rfl⟩, Or.inl rfl⟩
theorem fl_X7_33_X7 : xFl RX7 33 TX7 5 := ⟨"CommitShards$Sizes", List.mem_filter.mpr ⟨List.mem_of_getElem? (i := 105) (by decide +kernel), rfl⟩, Or.inl rfl⟩
theorem fl_X8_9_X7 : xFl RX8 9 TX7 2 := ⟨"CommitShards$Sizes", List.mem_filter.mpr ⟨List.mem_of_getElem? (i := 93) (by decide +kernel), rfl⟩, Or.inl rfl⟩
theorem fl_X8_15_X8 : xFl RX8 15 TX8 0 := ⟨"CommitShards$Txns", List.mem_filter.mpr ⟨List.mem_of_getElem? (i := 125) (by decide +kernel), rfl⟩, Or.inl rfl⟩
theorem fl_X8_21_X8 : xFl RX8 21 TX8 1 := ⟨"CommitShards$Txns", List.mem_filter.mpr ⟨List.mem_of_getElem? (i := 127) (by decide +kernel), rfl⟩, Or.inl rfl⟩
theorem fl_X9_9_X9 : xFl RX9 9 TX9 0 := ⟨"CommitShards$View", List.mem_filter.mpr ⟨List.mem_of_getElem? (i := 342) (by decide +kernel), rfl⟩, Or.inl rfl⟩
theorem fl_X9_15_X9 : xFl RX9 15 TX9 2 := ⟨"CommitShards$View", List.mem_filter.mpr ⟨List.mem_of_getElem? (i := 345) (by decide +kernel), rfl⟩, Or.inl rfl⟩
theorem fl_X9_18_X9 : xFl RX9 18 TX9 5 := ⟨"CommitShards$View", List.mem_filter.mpr ⟨List.mem_of_getElem? (i := 351) (by decide +kernel), rfl⟩, Or.inl rfl⟩
theorem fl_X9_22_X9 : xFl RX9 22 TX9 6 := ⟨"CommitShards$View", List.mem_filter.mpr ⟨List.mem_of_getElem? (i := 353) (by decide +kernel), rfl⟩, Or.inl rfl⟩
theorem fl_X9_25_X9 : xFl RX9 25 TX9 7 := ⟨"CommitShards$View", List.mem_filter.mpr ⟨List.mem_of_getElem? (i := 355) (by decide +kernel), rfl⟩, Or.inl rfl⟩
theorem fl_X9_28_X9 : xFl RX9 28 TX9 8 := ⟨"CommitShards$View", List.mem_filter.mpr ⟨List.mem_of_getElem? (i := 356) (by decide +kernel), rfl⟩, Or.inl rfl⟩
theorem fl_X9_31_X9 : xFl RX9 31 TX9 9 := ⟨"CommitShards$View", List.mem_filter.mpr ⟨List.mem_of_getElem? (i := 357) (by decide +kernel), rfl⟩, Or.inl rfl⟩
theorem fl_X9_34_X9 : xFl RX9 34 TX9 10 := ⟨"CommitShards$View", List.mem_filter.mpr ⟨List.mem_of_getElem? (i := 359) (by decide +kernel), rfl⟩, Or.inl rfl⟩
theorem fl_X9_43_X9 : xFl RX9 43 TX9 4 := ⟨"CommitShards$View", List.mem_filter.mpr ⟨List.mem_of_getElem? (i := 349) (by decide +kernel), rfl⟩, Or.inl rfl⟩
theorem fl_X9_46_X9 : xFl RX9 46 TX9 3 := ⟨"CommitShards$View", List.mem_filter.mpr ⟨List.mem_of_getElem? (i := 347) (by decide +kernel), rfl⟩, Or.inl rfl⟩
theorem fl_X9_53_X9 : xFl RX9 53 TX9 1 := ⟨"CommitShards$View", List.mem_filter.mpr ⟨List.mem_of_getElem? (i := 344) (by decide +kernel), rfl⟩, Or.inl rfl⟩
theorem fl_X11_7_X11 : xFl RX11 7 TX11 6 := ⟨"CommitShardsModel", List.mem_filter.mpr ⟨List.mem_of_getElem? (i := 856) (by decide +kernel), rfl⟩, Or.inl rfl⟩
theorem fl_X11_13_X11 : xFl RX11 13 TX11 7 := ⟨"CommitShardsModel", List.mem_filter.mpr ⟨List.mem_of_getElem? (i := 857) (by decide +kernel), rfl⟩, Or.inl rfl⟩
theorem fl_X11_17_X11 : xFl RX11 17 TX11 8 := ⟨"CommitShardsModel", List.mem_filter.mpr ⟨List.mem_of_getElem? (i := 858) (by decide +kernel), rfl⟩, Or.inl rfl⟩
theorem fl_X11_20_X11 : xFl RX11 20 TX11 9 := ⟨"CommitShardsModel", List.mem_filter.mpr ⟨List.mem_of_getElem? (i := 859) (by decide +kernel), rfl⟩, Or.inl rfl⟩
theorem fl_X11_24_X11 : xFl RX11 24 TX11 10 := ⟨"CommitShardsModel", List.mem_filter.mpr ⟨List.mem_of_getElem? (i := 860) (by decide +kernel), rfl⟩, Or.inl rfl⟩
theorem fl_X11_27_X11 : xFl RX11 27 TX11 11 := ⟨"CommitShardsModel", List.mem_filter.mpr ⟨List.mem_of_getElem? (i := 861) (by decide +kernel), rfl⟩, Or.inl rfl⟩
theorem fl_X11_30_X11 : xFl RX11 30 TX11 12 := ⟨"CommitShardsModel", List.mem_filter.mpr ⟨List.mem_of_getElem? (i := 862) (by decide +kernel), rfl⟩, Or.inl rfl⟩
theorem fl_X11_33_X11 : xFl RX11 33 TX11 13 := ⟨"CommitShardsModel", List.mem_filter.mpr ⟨List.mem_of_getElem? (i := 863) (by decide +kernel), rfl⟩, Or.inl rfl⟩
theorem fl_X11_36_X11 : xFl RX11 36 TX11 14 := ⟨"CommitShardsModel", List.mem_filter.mpr ⟨List.mem_of_getElem? (i := 864) (by decide +kernel), rfl⟩, Or.inl rfl⟩
theorem fl_X11_39_X11 : xFl RX11 39 TX11 15 := ⟨"CommitShardsModel", List.mem_filter.mpr ⟨List.mem_of_getElem? (i := 865) (by decide +kernel), rfl⟩, Or.inl rfl⟩
theorem fl_X11_42_X11 : xFl RX11 42 TX11 16 := ⟨"CommitShardsModel", List.mem_filter.mpr ⟨List.mem_of_getElem? (i := 866) (by decide +kernel), rfl⟩, Or.inl rfl⟩
theorem fl_X11_45_X11 : xFl RX11 45 TX11 17 := ⟨"CommitShardsModel", List.mem_filter.mpr ⟨List.mem_of_getElem? (i := 867) (by decide +kernel), rfl⟩, Or.inl rfl⟩
theorem fl_X11_48_X11 : xFl RX11 48 TX11 18 := ⟨"CommitShardsModel", List.mem_filter.mpr ⟨List.mem_of_getElem? (i := 868) (by decide +kernel), rfl⟩, Or.inl rfl⟩
theorem fl_X11_51_X11 : xFl RX11 51 TX11 19 := ⟨"CommitShardsModel", List.mem_filter.mpr ⟨List.mem_of_getElem? (i := 869) (by decide +kernel), rfl⟩, Or.inl rfl⟩
theorem fl_X11_54_X11 : xFl RX11 54 TX11 20 := ⟨"CommitShardsModel", List.mem_filter.mpr ⟨List.mem_of_getElem? (i := 870) (by decide +kernel), rfl⟩, Or.inl rfl⟩
theorem fl_X11_57_X11 : xFl RX11 57 TX11 21 := ⟨"CommitShardsModel", List.mem_filter.mpr ⟨List.mem_of_getElem? (i := 871) (by decide +kernel), rfl⟩, Or.inl rfl⟩
theorem fl_X11_60_X11 : xFl RX11 60 TX11 22 := ⟨"CommitShardsModel", List.mem_filter.mpr ⟨List.mem_of_getElem? (i := 872) (by decide +kernel), rfl⟩, Or.inl rfl⟩
theorem fl_X11_63_X11 : xFl RX11 63 TX11 23 := ⟨"CommitShardsModel", List.mem_filter.mpr ⟨List.mem_of_getElem? (i := 873) (by decide +kernel), rfl⟩, Or.inl rfl⟩
theorem fl_X11_66_X11 : xFl RX11 66 TX11 24 := ⟨"CommitShardsModel", List.mem_filter.mpr ⟨List.mem_of_getElem? (i := 874) (by decide +kernel), rfl⟩, Or.inl rfl⟩
theorem fl_X11_69_X11 : xFl RX11 69 TX11 25 := ⟨"CommitShardsModel", List.mem_filter.mpr ⟨List.mem_of_getElem? (i := 875) (by decide +kernel), rfl⟩, Or.inl rfl⟩
theorem fl_X11_72_X11 : xFl RX11 72 TX11 26 := ⟨"CommitShardsModel", List.mem_filter.mpr ⟨List.mem_of_getElem? (i := 876) (by decide +kernel), rfl⟩, Or.inl rfl⟩
theorem fl_X11_75_X11 : xFl RX11 75 TX11 27 := ⟨"CommitShardsModel", List.mem_filter.mpr ⟨List.mem_of_getElem? (i := 877) (by decide +kernel), rfl⟩, Or.inl rfl⟩
theorem fl_X11_78_X11 : xFl RX11 78 TX11 28 := ⟨"CommitShardsModel", List.mem_filter.mpr ⟨List.mem_of_getElem? (i := 878) (by decide +kernel), rfl⟩, Or.inl rfl⟩
theorem fl_X11_81_X11 : xFl RX11 81 TX11 30 := ⟨"CommitShardsModel", List.mem_filter.mpr ⟨List.mem_of_getElem? (i := 880) (by decide +kernel), rfl⟩, Or.inl rfl⟩
theorem fl_X11_84_X11 : xFl RX11 84 TX11 31 := ⟨"CommitShardsModel", List.mem_filter.mpr ⟨List.mem_of_getElem? (i := 881) (by decide +kernel), rfl⟩, Or.inl rfl⟩
theorem fl_X11_87_X11 : xFl RX11 87 TX11 36 := ⟨"CommitShardsModel", List.mem_filter.mpr ⟨List.mem_of_getElem? (i := 886) (by decide +kernel), rfl⟩, Or.inl rfl⟩
theorem fl_X11_90_X11 : xFl RX11 90 TX11 37 := ⟨"CommitShardsModel", List.mem_filter.mpr ⟨List.mem_of_getElem? (i := 887) (by decide +kernel), rfl⟩, Or.inl rfl⟩
theorem fl_X11_97_X11 : xFl RX11 97 TX11 0 := ⟨"CommitShardsModel", List.mem_filter.mpr ⟨List.mem_of_getElem? (i := 850) (by decide +kernel), rfl⟩, Or.inl rfl⟩
theorem fl_X11_101_X11 : xFl RX11 101 TX11 1 := ⟨"CommitShardsModel", List.mem_filter.mpr ⟨List.mem_of_getElem? (i := 851) (by decide +kernel), rfl⟩, Or.inl rfl⟩
theorem fl_X11_104_X11 : xFl RX11 104 TX11 2 := ⟨"CommitShardsModel", List.mem_filter.mpr ⟨List.mem_of_getElem? (i := 852) (by decide +kernel), rfl⟩, Or.inl rfl⟩
theorem fl_X11_107_X11 : xFl RX11 107 TX11 3 := ⟨"CommitShardsModel", List.mem_filter.mpr ⟨List.mem_of_getElem? (i := 853) (by decide +kernel), rfl⟩, Or.inl rfl⟩
theorem fl_X11_110_X11 : xFl RX11 110 TX11 4 := ⟨"CommitShardsModel", List.mem_filter.mpr ⟨List.mem_of_getElem? (i := 854) (by decide +kernel), rfl⟩, Or.inl rfl⟩
theorem fl_X11_113_X11 : xFl RX11 113 TX11 5 := ⟨"CommitShardsModel", List.mem_filter.mpr ⟨List.mem_of_getElem? (i := 855) (by decide +kernel), rfl⟩, Or.inl rfl⟩
theorem fl_X11_139_X11 : xFl RX11 139 TX11 35 := ⟨"CommitShardsModel", List.mem_filter.mpr ⟨List.mem_of_getElem? (i := 885) (by decide +kernel), rfl⟩, Or.inl rfl⟩
theorem fl_X11_154_X11 : xFl RX11 154 TX11 32 := ⟨"CommitShardsModel", List.mem_filter.mpr ⟨List.mem_of_getElem? (i := 882) (by decide +kernel), rfl⟩, Or.inl rfl⟩
theorem fl_X11_157_X11 : xFl RX11 157 TX11 29 := ⟨"CommitShardsModel", List.mem_filter.mpr ⟨List.mem_of_getElem? (i := 879) (by decide +kernel), rfl⟩, Or.inl rfl⟩
theorem fl_X11_160_X11 : xFl RX11 160 TX11 33 := ⟨"CommitShardsModel", List.mem_filter.mpr ⟨List.mem_of_getElem? (i := 883) (by decide +kernel), rfl⟩, Or.inl rfl⟩
theorem fl_X11_169_X11 : xFl RX11 169 TX11 34 := ⟨"CommitShardsModel", List.mem_filter.mpr ⟨List.mem_of_getElem? (i := 884) (by decide +kernel), rfl⟩, Or.inl rfl⟩
theorem wi_X10_9 : xWI RX10 9 yX7_init cX7_init 7 6 := ⟨List.mem_filter.mpr ⟨List.mem_of_getElem? (i := 69) (by decide +kernel), rfl⟩, List.mem_filter.mpr ⟨List.mem_of_getElem? (i := 70) (by decide +kernel), rfl⟩, List.mem_filter.mpr ⟨List.mem_of_getElem? (i := 45) (by decide +kernel), rfl⟩, List.mem_filter.mpr ⟨List.mem_of_getElem? (i := 71) (by decide +kernel), rfl⟩, rfl, ⟨by decide +kernel, by decide +kernel, by decide +kernel⟩⟩
theorem wi_X10_20 : xWI RX10 20 yX8_init cX8_init 2 1 := ⟨List.mem_filter.mpr ⟨List.mem_of_getElem? (i := 121) (by decide +kernel), rfl⟩, List.mem_filter.mpr ⟨List.mem_of_getElem? (i := 122) (by decide +kernel), rfl⟩, List.mem_filter.mpr ⟨List.mem_of_getElem? (i := 47) (by decide +kernel), rfl⟩, List.mem_filter.mpr ⟨List.mem_of_getElem? (i := 123) (by decide +kernel), rfl⟩, rfl, ⟨by decide +kernel, by decide +kernel, by decide +kernel⟩⟩
theorem wi_X10_29 : xWI RX10 29 yX1_init cX1_init 2 1 := ⟨List.mem_filter.mpr ⟨List.mem_of_getElem? (i := 136) (by decide +kernel), rfl⟩, List.mem_filter.mpr ⟨List.mem_of_getElem? (i := 137) (by decide +kernel), rfl⟩, List.mem_filter.mpr ⟨List.mem_of_getElem? (i := 48) (by decide +kernel), rfl⟩, List.mem_filter.mpr ⟨List.mem_of_getElem? (i := 138) (by decide +kernel), rfl⟩, rfl, ⟨by decide +kernel, by decide +kernel, by decide +kernel⟩⟩
theorem wi_X10_36 : xWI RX10 36 yX5_init cX5_init 3 1 := ⟨List.mem_filter.mpr ⟨List.mem_of_getElem? (i := 161) (by decide +kernel), rfl⟩, List.mem_filter.mpr ⟨List.mem_of_getElem? (i := 162) (by decide +kernel), rfl⟩, List.mem_filter.mpr ⟨List.mem_of_getElem? (i := 49) (by decide +kernel), rfl⟩, List.mem_filter.mpr ⟨List.mem_of_getElem? (i := 163) (by decide +kernel), rfl⟩, rfl, ⟨by decide +kernel, by decide +kernel, by decide +kernel⟩⟩
theorem wi_X10_51 : xWI RX10 51 yX6_init cX6_init 5 4 := ⟨List.mem_filter.mpr ⟨List.mem_of_getElem? (i := 252) (by decide +kernel), rfl⟩, List.mem_filter.mpr ⟨List.mem_of_getElem? (i := 253) (by decide +kernel), rfl⟩, List.mem_filter.mpr ⟨List.mem_of_getElem? (i := 52) (by decide +kernel), rfl⟩, List.mem_filter.mpr ⟨List.mem_of_getElem? (i := 254) (by decide +kernel), rfl⟩, rfl, ⟨by decide +kernel, by decide +kernel, by decide +kernel⟩⟩
theorem wi_X10_63 : xWI RX10 63 yX0_init cX0_init 6 4 := ⟨List.mem_filter.mpr ⟨List.mem_of_getElem? (i := 328) (by decide +kernel), rfl⟩, List.mem_filter.mpr ⟨List.mem_of_getElem? (i := 329) (by decide +kernel), rfl⟩, List.mem_filter.mpr ⟨List.mem_of_getElem? (i := 54) (by decide +kernel), rfl⟩, List.mem_filter.mpr ⟨List.mem_of_getElem? (i := 330) (by decide +kernel), rfl⟩, rfl, ⟨by decide +kernel, by decide +kernel, by decide +kernel⟩⟩
theorem wv_X10_66 : xWV RX10 66 yX10_isTxn cX10_isTxn 2 (Option.some Jvm.ClassFile.FieldType.boolean) 1 := ⟨List.mem_filter.mpr ⟨List.mem_of_getElem? (i := 429) (by decide +kernel), rfl⟩, List.mem_filter.mpr ⟨List.mem_of_getElem? (i := 431) (by decide +kernel), rfl⟩, List.mem_filter.mpr ⟨List.mem_of_getElem? (i := 0) (by decide +kernel), rfl⟩, List.mem_filter.mpr ⟨List.mem_of_getElem? (i := 44) (by decide +kernel), rfl⟩, List.mem_filter.mpr ⟨List.mem_of_getElem? (i := 432) (by decide +kernel), rfl⟩, ⟨by decide +kernel, by decide +kernel, by decide +kernel⟩⟩
theorem wv_X10_74 : xWV RX10 74 yX10_access cX10_access 5 (Option.some Jvm.ClassFile.FieldType.int) 3 := ⟨List.mem_filter.mpr ⟨List.mem_of_getElem? (i := 437) (by decide +kernel), rfl⟩, List.mem_filter.mpr ⟨List.mem_of_getElem? (i := 439) (by decide +kernel), rfl⟩, List.mem_filter.mpr ⟨List.mem_of_getElem? (i := 1) (by decide +kernel), rfl⟩, List.mem_filter.mpr ⟨List.mem_of_getElem? (i := 44) (by decide +kernel), rfl⟩, List.mem_filter.mpr ⟨List.mem_of_getElem? (i := 440) (by decide +kernel), rfl⟩, ⟨by decide +kernel, by decide +kernel, by decide +kernel⟩⟩
theorem wv_X10_81 : xWV RX10 81 yX1_seenBy cX1_seenBy 3 (Option.some Jvm.ClassFile.FieldType.long) 2 := ⟨List.mem_filter.mpr ⟨List.mem_of_getElem? (i := 466) (by decide +kernel), rfl⟩, List.mem_filter.mpr ⟨List.mem_of_getElem? (i := 467) (by decide +kernel), rfl⟩, List.mem_filter.mpr ⟨List.mem_of_getElem? (i := 468) (by decide +kernel), rfl⟩, List.mem_filter.mpr ⟨List.mem_of_getElem? (i := 48) (by decide +kernel), rfl⟩, List.mem_filter.mpr ⟨List.mem_of_getElem? (i := 469) (by decide +kernel), rfl⟩, ⟨by decide +kernel, by decide +kernel, by decide +kernel⟩⟩
theorem wv_X10_85 : xWV RX10 85 yX1_renew cX1_renew 5 (Option.none : Option Jvm.ClassFile.FieldType) 3 := ⟨List.mem_filter.mpr ⟨List.mem_of_getElem? (i := 478) (by decide +kernel), rfl⟩, List.mem_filter.mpr ⟨List.mem_of_getElem? (i := 479) (by decide +kernel), rfl⟩, List.mem_filter.mpr ⟨List.mem_of_getElem? (i := 480) (by decide +kernel), rfl⟩, List.mem_filter.mpr ⟨List.mem_of_getElem? (i := 48) (by decide +kernel), rfl⟩, List.mem_filter.mpr ⟨List.mem_of_getElem? (i := 481) (by decide +kernel), rfl⟩, ⟨by decide +kernel, by decide +kernel, by decide +kernel⟩⟩
theorem wv_X10_89 : xWV RX10 89 yX8_touchesNone cX8_touchesNone 2 (Option.some Jvm.ClassFile.FieldType.boolean) 1 := ⟨List.mem_filter.mpr ⟨List.mem_of_getElem? (i := 486) (by decide +kernel), rfl⟩, List.mem_filter.mpr ⟨List.mem_of_getElem? (i := 487) (by decide +kernel), rfl⟩, List.mem_filter.mpr ⟨List.mem_of_getElem? (i := 488) (by decide +kernel), rfl⟩, List.mem_filter.mpr ⟨List.mem_of_getElem? (i := 47) (by decide +kernel), rfl⟩, List.mem_filter.mpr ⟨List.mem_of_getElem? (i := 489) (by decide +kernel), rfl⟩, ⟨by decide +kernel, by decide +kernel, by decide +kernel⟩⟩
theorem wv_X10_92 : xWV RX10 92 yX7_client cX7_client 1 (Option.some Jvm.ClassFile.FieldType.int) 0 := ⟨List.mem_filter.mpr ⟨List.mem_of_getElem? (i := 490) (by decide +kernel), rfl⟩, List.mem_filter.mpr ⟨List.mem_of_getElem? (i := 491) (by decide +kernel), rfl⟩, List.mem_filter.mpr ⟨List.mem_of_getElem? (i := 492) (by decide +kernel), rfl⟩, List.mem_filter.mpr ⟨List.mem_of_getElem? (i := 45) (by decide +kernel), rfl⟩, List.mem_filter.mpr ⟨List.mem_of_getElem? (i := 493) (by decide +kernel), rfl⟩, ⟨by decide +kernel, by decide +kernel, by decide +kernel⟩⟩
theorem wv_X10_96 : xWV RX10 96 yX5_startDraft cX5_startDraft 4 (Option.none : Option Jvm.ClassFile.FieldType) 3 := ⟨List.mem_filter.mpr ⟨List.mem_of_getElem? (i := 494) (by decide +kernel), rfl⟩, List.mem_filter.mpr ⟨List.mem_of_getElem? (i := 495) (by decide +kernel), rfl⟩, List.mem_filter.mpr ⟨List.mem_of_getElem? (i := 496) (by decide +kernel), rfl⟩, List.mem_filter.mpr ⟨List.mem_of_getElem? (i := 49) (by decide +kernel), rfl⟩, List.mem_filter.mpr ⟨List.mem_of_getElem? (i := 497) (by decide +kernel), rfl⟩, ⟨by decide +kernel, by decide +kernel, by decide +kernel⟩⟩
theorem wv_X10_100 : xWV RX10 100 yX8_touches cX8_touches 3 (Option.some Jvm.ClassFile.FieldType.boolean) 2 := ⟨List.mem_filter.mpr ⟨List.mem_of_getElem? (i := 449) (by decide +kernel), rfl⟩, List.mem_filter.mpr ⟨List.mem_of_getElem? (i := 450) (by decide +kernel), rfl⟩, List.mem_filter.mpr ⟨List.mem_of_getElem? (i := 451) (by decide +kernel), rfl⟩, List.mem_filter.mpr ⟨List.mem_of_getElem? (i := 47) (by decide +kernel), rfl⟩, List.mem_filter.mpr ⟨List.mem_of_getElem? (i := 452) (by decide +kernel), rfl⟩, ⟨by decide +kernel, by decide +kernel, by decide +kernel⟩⟩
theorem wv_X10_108 : xWV RX10 108 yX5_post cX5_post 3 (Option.some Jvm.ClassFile.FieldType.boolean) 2 := ⟨List.mem_filter.mpr ⟨List.mem_of_getElem? (i := 498) (by decide +kernel), rfl⟩, List.mem_filter.mpr ⟨List.mem_of_getElem? (i := 499) (by decide +kernel), rfl⟩, List.mem_filter.mpr ⟨List.mem_of_getElem? (i := 500) (by decide +kernel), rfl⟩, List.mem_filter.mpr ⟨List.mem_of_getElem? (i := 49) (by decide +kernel), rfl⟩, List.mem_filter.mpr ⟨List.mem_of_getElem? (i := 501) (by decide +kernel), rfl⟩, ⟨by decide +kernel, by decide +kernel, by decide +kernel⟩⟩
theorem wv_X10_116 : xWV RX10 116 yX6_endSession cX6_endSession 2 (Option.none : Option Jvm.ClassFile.FieldType) 1 := ⟨List.mem_filter.mpr ⟨List.mem_of_getElem? (i := 510) (by decide +kernel), rfl⟩, List.mem_filter.mpr ⟨List.mem_of_getElem? (i := 511) (by decide +kernel), rfl⟩, List.mem_filter.mpr ⟨List.mem_of_getElem? (i := 512) (by decide +kernel), rfl⟩, List.mem_filter.mpr ⟨List.mem_of_getElem? (i := 52) (by decide +kernel), rfl⟩, List.mem_filter.mpr ⟨List.mem_of_getElem? (i := 513) (by decide +kernel), rfl⟩, ⟨by decide +kernel, by decide +kernel, by decide +kernel⟩⟩
theorem wv_X10_120 : xWV RX10 120 yX10_isKey cX10_isKey 2 (Option.some Jvm.ClassFile.FieldType.boolean) 1 := ⟨List.mem_filter.mpr ⟨List.mem_of_getElem? (i := 441) (by decide +kernel), rfl⟩, List.mem_filter.mpr ⟨List.mem_of_getElem? (i := 443) (by decide +kernel), rfl⟩, List.mem_filter.mpr ⟨List.mem_of_getElem? (i := 2) (by decide +kernel), rfl⟩, List.mem_filter.mpr ⟨List.mem_of_getElem? (i := 44) (by decide +kernel), rfl⟩, List.mem_filter.mpr ⟨List.mem_of_getElem? (i := 444) (by decide +kernel), rfl⟩, ⟨by decide +kernel, by decide +kernel, by decide +kernel⟩⟩
theorem wv_X10_127 : xWV RX10 127 yX5_has cX5_has 2 (Option.some Jvm.ClassFile.FieldType.boolean) 1 := ⟨List.mem_filter.mpr ⟨List.mem_of_getElem? (i := 531) (by decide +kernel), rfl⟩, List.mem_filter.mpr ⟨List.mem_of_getElem? (i := 532) (by decide +kernel), rfl⟩, List.mem_filter.mpr ⟨List.mem_of_getElem? (i := 533) (by decide +kernel), rfl⟩, List.mem_filter.mpr ⟨List.mem_of_getElem? (i := 49) (by decide +kernel), rfl⟩, List.mem_filter.mpr ⟨List.mem_of_getElem? (i := 534) (by decide +kernel), rfl⟩, ⟨by decide +kernel, by decide +kernel, by decide +kernel⟩⟩
theorem wv_X10_130 : xWV RX10 130 yX10_handOver cX10_handOver 4 (Option.some Jvm.ClassFile.FieldType.int) 1 := ⟨List.mem_filter.mpr ⟨List.mem_of_getElem? (i := 535) (by decide +kernel), rfl⟩, List.mem_filter.mpr ⟨List.mem_of_getElem? (i := 537) (by decide +kernel), rfl⟩, List.mem_filter.mpr ⟨List.mem_of_getElem? (i := 3) (by decide +kernel), rfl⟩, List.mem_filter.mpr ⟨List.mem_of_getElem? (i := 44) (by decide +kernel), rfl⟩, List.mem_filter.mpr ⟨List.mem_of_getElem? (i := 538) (by decide +kernel), rfl⟩, ⟨by decide +kernel, by decide +kernel, by decide +kernel⟩⟩
theorem wv_X10_134 : xWV RX10 134 yX5_take cX5_take 4 (Option.some (Jvm.ClassFile.FieldType.object "CommitShards$Message")) 1 := ⟨List.mem_filter.mpr ⟨List.mem_of_getElem? (i := 539) (by decide +kernel), rfl⟩, List.mem_filter.mpr ⟨List.mem_of_getElem? (i := 540) (by decide +kernel), rfl⟩, List.mem_filter.mpr ⟨List.mem_of_getElem? (i := 541) (by decide +kernel), rfl⟩, List.mem_filter.mpr ⟨List.mem_of_getElem? (i := 49) (by decide +kernel), rfl⟩, List.mem_filter.mpr ⟨List.mem_of_getElem? (i := 542) (by decide +kernel), rfl⟩, ⟨by decide +kernel, by decide +kernel, by decide +kernel⟩⟩
theorem wv_X10_153 : xWV RX10 153 yX10_acceptorAt cX10_acceptorAt 2 (Option.some (Jvm.ClassFile.FieldType.object "CommitShards$Acceptor")) 1 := ⟨List.mem_filter.mpr ⟨List.mem_of_getElem? (i := 551) (by decide +kernel), rfl⟩, List.mem_filter.mpr ⟨List.mem_of_getElem? (i := 553) (by decide +kernel), rfl⟩, List.mem_filter.mpr ⟨List.mem_of_getElem? (i := 5) (by decide +kernel), rfl⟩, List.mem_filter.mpr ⟨List.mem_of_getElem? (i := 44) (by decide +kernel), rfl⟩, List.mem_filter.mpr ⟨List.mem_of_getElem? (i := 554) (by decide +kernel), rfl⟩, ⟨by decide +kernel, by decide +kernel, by decide +kernel⟩⟩
theorem wv_X10_157 : xWV RX10 157 yX0_takeOver cX0_takeOver 4 (Option.some Jvm.ClassFile.FieldType.int) 1 := ⟨List.mem_filter.mpr ⟨List.mem_of_getElem? (i := 699) (by decide +kernel), rfl⟩, List.mem_filter.mpr ⟨List.mem_of_getElem? (i := 700) (by decide +kernel), rfl⟩, List.mem_filter.mpr ⟨List.mem_of_getElem? (i := 701) (by decide +kernel), rfl⟩, List.mem_filter.mpr ⟨List.mem_of_getElem? (i := 54) (by decide +kernel), rfl⟩, List.mem_filter.mpr ⟨List.mem_of_getElem? (i := 702) (by decide +kernel), rfl⟩, ⟨by decide +kernel, by decide +kernel, by decide +kernel⟩⟩
theorem wv_X10_160 : xWV RX10 160 yX10_nodeAt cX10_nodeAt 2 (Option.some (Jvm.ClassFile.FieldType.object "CommitShards$Node")) 1 := ⟨List.mem_filter.mpr ⟨List.mem_of_getElem? (i := 547) (by decide +kernel), rfl⟩, List.mem_filter.mpr ⟨List.mem_of_getElem? (i := 549) (by decide +kernel), rfl⟩, List.mem_filter.mpr ⟨List.mem_of_getElem? (i := 4) (by decide +kernel), rfl⟩, List.mem_filter.mpr ⟨List.mem_of_getElem? (i := 44) (by decide +kernel), rfl⟩, List.mem_filter.mpr ⟨List.mem_of_getElem? (i := 550) (by decide +kernel), rfl⟩, ⟨by decide +kernel, by decide +kernel, by decide +kernel⟩⟩
theorem wu_X10_167_X6 : xWU RX10 167 RX6 yN_forget yX6_forget cX6_forget 3 (Option.none : Option Jvm.ClassFile.FieldType) 0 := ⟨List.mem_filter.mpr ⟨List.mem_of_getElem? (i := 719) (by decide +kernel), rfl⟩, List.mem_filter.mpr ⟨List.mem_of_getElem? (i := 721) (by decide +kernel), rfl⟩, List.mem_filter.mpr ⟨List.mem_of_getElem? (i := 730) (by decide +kernel), rfl⟩, List.mem_filter.mpr ⟨List.mem_of_getElem? (i := 731) (by decide +kernel), rfl⟩, List.mem_filter.mpr ⟨List.mem_of_getElem? (i := 52) (by decide +kernel), rfl⟩, List.mem_filter.mpr ⟨List.mem_of_getElem? (i := 732) (by decide +kernel), rfl⟩, ⟨by decide +kernel, by decide +kernel, by decide +kernel⟩, by decide +kernel⟩
theorem wu_X10_167_X0 : xWU RX10 167 RX0 yN_forget yX0_forget cX0_forget 5 (Option.none : Option Jvm.ClassFile.FieldType) 0 := ⟨List.mem_filter.mpr ⟨List.mem_of_getElem? (i := 719) (by decide +kernel), rfl⟩, List.mem_filter.mpr ⟨List.mem_of_getElem? (i := 721) (by decide +kernel), rfl⟩, List.mem_filter.mpr ⟨List.mem_of_getElem? (i := 722) (by decide +kernel), rfl⟩, List.mem_filter.mpr ⟨List.mem_of_getElem? (i := 723) (by decide +kernel), rfl⟩, List.mem_filter.mpr ⟨List.mem_of_getElem? (i := 54) (by decide +kernel), rfl⟩, List.mem_filter.mpr ⟨List.mem_of_getElem? (i := 724) (by decide +kernel), rfl⟩, ⟨by decide +kernel, by decide +kernel, by decide +kernel⟩, by decide +kernel⟩
theorem wv_X10_175 : xWV RX10 175 yX3_told cX3_told 2 (Option.some Jvm.ClassFile.FieldType.int) 1 := ⟨List.mem_filter.mpr ⟨List.mem_of_getElem? (i := 752) (by decide +kernel), rfl⟩, List.mem_filter.mpr ⟨List.mem_of_getElem? (i := 753) (by decide +kernel), rfl⟩, List.mem_filter.mpr ⟨List.mem_of_getElem? (i := 754) (by decide +kernel), rfl⟩, List.mem_filter.mpr ⟨List.mem_of_getElem? (i := 50) (by decide +kernel), rfl⟩, List.mem_filter.mpr ⟨List.mem_of_getElem? (i := 755) (by decide +kernel), rfl⟩, ⟨by decide +kernel, by decide +kernel, by decide +kernel⟩⟩
theorem wv_X10_178 : xWV RX10 178 yX1_holders cX1_holders 4 (Option.some Jvm.ClassFile.FieldType.int) 1 := ⟨List.mem_filter.mpr ⟨List.mem_of_getElem? (i := 760) (by decide +kernel), rfl⟩, List.mem_filter.mpr ⟨List.mem_of_getElem? (i := 761) (by decide +kernel), rfl⟩, List.mem_filter.mpr ⟨List.mem_of_getElem? (i := 762) (by decide +kernel), rfl⟩, List.mem_filter.mpr ⟨List.mem_of_getElem? (i := 48) (by decide +kernel), rfl⟩, List.mem_filter.mpr ⟨List.mem_of_getElem? (i := 763) (by decide +kernel), rfl⟩, ⟨by decide +kernel, by decide +kernel, by decide +kernel⟩⟩
theorem wv_X10_181 : xWV RX10 181 yX1_leastHolder cX1_leastHolder 3 (Option.some Jvm.ClassFile.FieldType.int) 1 := ⟨List.mem_filter.mpr ⟨List.mem_of_getElem? (i := 764) (by decide +kernel), rfl⟩, List.mem_filter.mpr ⟨List.mem_of_getElem? (i := 765) (by decide +kernel), rfl⟩, List.mem_filter.mpr ⟨List.mem_of_getElem? (i := 766) (by decide +kernel), rfl⟩, List.mem_filter.mpr ⟨List.mem_of_getElem? (i := 48) (by decide +kernel), rfl⟩, List.mem_filter.mpr ⟨List.mem_of_getElem? (i := 767) (by decide +kernel), rfl⟩, ⟨by decide +kernel, by decide +kernel, by decide +kernel⟩⟩
theorem wv_X10_184 : xWV RX10 184 yX1_isExclusive cX1_isExclusive 3 (Option.some Jvm.ClassFile.FieldType.boolean) 1 := ⟨List.mem_filter.mpr ⟨List.mem_of_getElem? (i := 768) (by decide +kernel), rfl⟩, List.mem_filter.mpr ⟨List.mem_of_getElem? (i := 769) (by decide +kernel), rfl⟩, List.mem_filter.mpr ⟨List.mem_of_getElem? (i := 770) (by decide +kernel), rfl⟩, List.mem_filter.mpr ⟨List.mem_of_getElem? (i := 48) (by decide +kernel), rfl⟩, List.mem_filter.mpr ⟨List.mem_of_getElem? (i := 771) (by decide +kernel), rfl⟩, ⟨by decide +kernel, by decide +kernel, by decide +kernel⟩⟩
theorem wu_X10_196_X6 : xWU RX10 196 RX6 yN_told yX6_told cX6_told 2 (Option.some Jvm.ClassFile.FieldType.int) 1 := ⟨List.mem_filter.mpr ⟨List.mem_of_getElem? (i := 776) (by decide +kernel), rfl⟩, List.mem_filter.mpr ⟨List.mem_of_getElem? (i := 778) (by decide +kernel), rfl⟩, List.mem_filter.mpr ⟨List.mem_of_getElem? (i := 790) (by decide +kernel), rfl⟩, List.mem_filter.mpr ⟨List.mem_of_getElem? (i := 791) (by decide +kernel), rfl⟩, List.mem_filter.mpr ⟨List.mem_of_getElem? (i := 52) (by decide +kernel), rfl⟩, List.mem_filter.mpr ⟨List.mem_of_getElem? (i := 792) (by decide +kernel), rfl⟩, ⟨by decide +kernel, by decide +kernel, by decide +kernel⟩, by decide +kernel⟩
theorem wu_X10_196_X0 : xWU RX10 196 RX0 yN_told yX0_told cX0_told 2 (Option.some Jvm.ClassFile.FieldType.int) 1 := ⟨List.mem_filter.mpr ⟨List.mem_of_getElem? (i := 776) (by decide +kernel), rfl⟩, List.mem_filter.mpr ⟨List.mem_of_getElem? (i := 778) (by decide +kernel), rfl⟩, List.mem_filter.mpr ⟨List.mem_of_getElem? (i := 779) (by decide +kernel), rfl⟩, List.mem_filter.mpr ⟨List.mem_of_getElem? (i := 780) (by decide +kernel), rfl⟩, List.mem_filter.mpr ⟨List.mem_of_getElem? (i := 54) (by decide +kernel), rfl⟩, List.mem_filter.mpr ⟨List.mem_of_getElem? (i := 781) (by decide +kernel), rfl⟩, ⟨by decide +kernel, by decide +kernel, by decide +kernel⟩, by decide +kernel⟩
theorem wv_X10_197 : xWV RX10 197 yX2_told cX2_told 3 (Option.some Jvm.ClassFile.FieldType.int) 2 := ⟨List.mem_filter.mpr ⟨List.mem_of_getElem? (i := 801) (by decide +kernel), rfl⟩, List.mem_filter.mpr ⟨List.mem_of_getElem? (i := 802) (by decide +kernel), rfl⟩, List.mem_filter.mpr ⟨List.mem_of_getElem? (i := 803) (by decide +kernel), rfl⟩, List.mem_filter.mpr ⟨List.mem_of_getElem? (i := 53) (by decide +kernel), rfl⟩, List.mem_filter.mpr ⟨List.mem_of_getElem? (i := 804) (by decide +kernel), rfl⟩, ⟨by decide +kernel, by decide +kernel, by decide +kernel⟩⟩
theorem wv_X10_204 : xWV RX10 204 yX9_toldOfBallot cX9_toldOfBallot 2 (Option.some Jvm.ClassFile.FieldType.int) 1 := ⟨List.mem_filter.mpr ⟨List.mem_of_getElem? (i := 809) (by decide +kernel), rfl⟩, List.mem_filter.mpr ⟨List.mem_of_getElem? (i := 810) (by decide +kernel), rfl⟩, List.mem_filter.mpr ⟨List.mem_of_getElem? (i := 811) (by decide +kernel), rfl⟩, List.mem_filter.mpr ⟨List.mem_of_getElem? (i := 55) (by decide +kernel), rfl⟩, List.mem_filter.mpr ⟨List.mem_of_getElem? (i := 812) (by decide +kernel), rfl⟩, ⟨by decide +kernel, by decide +kernel, by decide +kernel⟩⟩
theorem wv_X10_209 : xWV RX10 209 yX9_toldOfShard cX9_toldOfShard 3 (Option.some Jvm.ClassFile.FieldType.int) 2 := ⟨List.mem_filter.mpr ⟨List.mem_of_getElem? (i := 818) (by decide +kernel), rfl⟩, List.mem_filter.mpr ⟨List.mem_of_getElem? (i := 819) (by decide +kernel), rfl⟩, List.mem_filter.mpr ⟨List.mem_of_getElem? (i := 820) (by decide +kernel), rfl⟩, List.mem_filter.mpr ⟨List.mem_of_getElem? (i := 55) (by decide +kernel), rfl⟩, List.mem_filter.mpr ⟨List.mem_of_getElem? (i := 821) (by decide +kernel), rfl⟩, ⟨by decide +kernel, by decide +kernel, by decide +kernel⟩⟩
theorem wv_X10_221 : xWV RX10 221 yX8_in cX8_in 7 (Option.some Jvm.ClassFile.FieldType.int) 1 := ⟨List.mem_filter.mpr ⟨List.mem_of_getElem? (i := 826) (by decide +kernel), rfl⟩, List.mem_filter.mpr ⟨List.mem_of_getElem? (i := 827) (by decide +kernel), rfl⟩, List.mem_filter.mpr ⟨List.mem_of_getElem? (i := 828) (by decide +kernel), rfl⟩, List.mem_filter.mpr ⟨List.mem_of_getElem? (i := 47) (by decide +kernel), rfl⟩, List.mem_filter.mpr ⟨List.mem_of_getElem? (i := 829) (by decide +kernel), rfl⟩, ⟨by decide +kernel, by decide +kernel, by decide +kernel⟩⟩
theorem wv_X10_228 : xWV RX10 228 yX7_shardOf cX7_shardOf 2 (Option.some Jvm.ClassFile.FieldType.int) 1 := ⟨List.mem_filter.mpr ⟨List.mem_of_getElem? (i := 445) (by decide +kernel), rfl⟩, List.mem_filter.mpr ⟨List.mem_of_getElem? (i := 446) (by decide +kernel), rfl⟩, List.mem_filter.mpr ⟨List.mem_of_getElem? (i := 447) (by decide +kernel), rfl⟩, List.mem_filter.mpr ⟨List.mem_of_getElem? (i := 45) (by decide +kernel), rfl⟩, List.mem_filter.mpr ⟨List.mem_of_getElem? (i := 448) (by decide +kernel), rfl⟩, ⟨by decide +kernel, by decide +kernel, by decide +kernel⟩⟩
theorem wv_X10_238 : xWV RX10 238 yX1_canGrant cX1_canGrant 6 (Option.some Jvm.ClassFile.FieldType.boolean) 3 := ⟨List.mem_filter.mpr ⟨List.mem_of_getElem? (i := 453) (by decide +kernel), rfl⟩, List.mem_filter.mpr ⟨List.mem_of_getElem? (i := 454) (by decide +kernel), rfl⟩, List.mem_filter.mpr ⟨List.mem_of_getElem? (i := 455) (by decide +kernel), rfl⟩, List.mem_filter.mpr ⟨List.mem_of_getElem? (i := 48) (by decide +kernel), rfl⟩, List.mem_filter.mpr ⟨List.mem_of_getElem? (i := 456) (by decide +kernel), rfl⟩, ⟨by decide +kernel, by decide +kernel, by decide +kernel⟩⟩
theorem wv_X10_242 : xWV RX10 242 yX1_grant cX1_grant 4 (Option.none : Option Jvm.ClassFile.FieldType) 3 := ⟨List.mem_filter.mpr ⟨List.mem_of_getElem? (i := 457) (by decide +kernel), rfl⟩, List.mem_filter.mpr ⟨List.mem_of_getElem? (i := 458) (by decide +kernel), rfl⟩, List.mem_filter.mpr ⟨List.mem_of_getElem? (i := 459) (by decide +kernel), rfl⟩, List.mem_filter.mpr ⟨List.mem_of_getElem? (i := 48) (by decide +kernel), rfl⟩, List.mem_filter.mpr ⟨List.mem_of_getElem? (i := 460) (by decide +kernel), rfl⟩, ⟨by decide +kernel, by decide +kernel, by decide +kernel⟩⟩
theorem wv_X10_245 : xWV RX10 245 yX8_touch cX8_touch 3 (Option.none : Option Jvm.ClassFile.FieldType) 2 := ⟨List.mem_filter.mpr ⟨List.mem_of_getElem? (i := 462) (by decide +kernel), rfl⟩, List.mem_filter.mpr ⟨List.mem_of_getElem? (i := 463) (by decide +kernel), rfl⟩, List.mem_filter.mpr ⟨List.mem_of_getElem? (i := 464) (by decide +kernel), rfl⟩, List.mem_filter.mpr ⟨List.mem_of_getElem? (i := 47) (by decide +kernel), rfl⟩, List.mem_filter.mpr ⟨List.mem_of_getElem? (i := 465) (by decide +kernel), rfl⟩, ⟨by decide +kernel, by decide +kernel, by decide +kernel⟩⟩
theorem wv_X10_255 : xWV RX10 255 yX8_hearEnd cX8_hearEnd 3 (Option.none : Option Jvm.ClassFile.FieldType) 2 := ⟨List.mem_filter.mpr ⟨List.mem_of_getElem? (i := 543) (by decide +kernel), rfl⟩, List.mem_filter.mpr ⟨List.mem_of_getElem? (i := 544) (by decide +kernel), rfl⟩, List.mem_filter.mpr ⟨List.mem_of_getElem? (i := 545) (by decide +kernel), rfl⟩, List.mem_filter.mpr ⟨List.mem_of_getElem? (i := 47) (by decide +kernel), rfl⟩, List.mem_filter.mpr ⟨List.mem_of_getElem? (i := 546) (by decide +kernel), rfl⟩, ⟨by decide +kernel, by decide +kernel, by decide +kernel⟩⟩
theorem wu_X10_258_X6 : xWU RX10 258 RX6 yN_hear yX6_hear cX6_hear 2 (Option.some Jvm.ClassFile.FieldType.boolean) 1 := ⟨List.mem_filter.mpr ⟨List.mem_of_getElem? (i := 555) (by decide +kernel), rfl⟩, List.mem_filter.mpr ⟨List.mem_of_getElem? (i := 557) (by decide +kernel), rfl⟩, List.mem_filter.mpr ⟨List.mem_of_getElem? (i := 658) (by decide +kernel), rfl⟩, List.mem_filter.mpr ⟨List.mem_of_getElem? (i := 659) (by decide +kernel), rfl⟩, List.mem_filter.mpr ⟨List.mem_of_getElem? (i := 52) (by decide +kernel), rfl⟩, List.mem_filter.mpr ⟨List.mem_of_getElem? (i := 660) (by decide +kernel), rfl⟩, ⟨by decide +kernel, by decide +kernel, by decide +kernel⟩, by decide +kernel⟩
theorem wu_X10_258_X0 : xWU RX10 258 RX0 yN_hear yX0_hear cX0_hear 3 (Option.some Jvm.ClassFile.FieldType.boolean) 1 := ⟨List.mem_filter.mpr ⟨List.mem_of_getElem? (i := 555) (by decide +kernel), rfl⟩, List.mem_filter.mpr ⟨List.mem_of_getElem? (i := 557) (by decide +kernel), rfl⟩, List.mem_filter.mpr ⟨List.mem_of_getElem? (i := 558) (by decide +kernel), rfl⟩, List.mem_filter.mpr ⟨List.mem_of_getElem? (i := 559) (by decide +kernel), rfl⟩, List.mem_filter.mpr ⟨List.mem_of_getElem? (i := 54) (by decide +kernel), rfl⟩, List.mem_filter.mpr ⟨List.mem_of_getElem? (i := 560) (by decide +kernel), rfl⟩, ⟨by decide +kernel, by decide +kernel, by decide +kernel⟩, by decide +kernel⟩
theorem wi_X0_9 : xWI RX0 9 yX4_init cX4_init 4 3 := ⟨List.mem_filter.mpr ⟨List.mem_of_getElem? (i := 331) (by decide +kernel), rfl⟩, List.mem_filter.mpr ⟨List.mem_of_getElem? (i := 256) (by decide +kernel), rfl⟩, List.mem_filter.mpr ⟨List.mem_of_getElem? (i := 51) (by decide +kernel), rfl⟩, List.mem_filter.mpr ⟨List.mem_of_getElem? (i := 257) (by decide +kernel), rfl⟩, rfl, ⟨by decide +kernel, by decide +kernel, by decide +kernel⟩⟩
theorem wi_X0_32 : xWI RX0 32 yX9_init cX9_init 3 2 := ⟨List.mem_filter.mpr ⟨List.mem_of_getElem? (i := 335) (by decide +kernel), rfl⟩, List.mem_filter.mpr ⟨List.mem_of_getElem? (i := 336) (by decide +kernel), rfl⟩, List.mem_filter.mpr ⟨List.mem_of_getElem? (i := 55) (by decide +kernel), rfl⟩, List.mem_filter.mpr ⟨List.mem_of_getElem? (i := 337) (by decide +kernel), rfl⟩, rfl, ⟨by decide +kernel, by decide +kernel, by decide +kernel⟩⟩
theorem wv_X0_43 : xWV RX0 43 yX0_hearVote cX0_hearVote 3 (Option.some Jvm.ClassFile.FieldType.boolean) 2 := ⟨List.mem_filter.mpr ⟨List.mem_of_getElem? (i := 561) (by decide +kernel), rfl⟩, List.mem_filter.mpr ⟨List.mem_of_getElem? (i := 563) (by decide +kernel), rfl⟩, List.mem_filter.mpr ⟨List.mem_of_getElem? (i := 6) (by decide +kernel), rfl⟩, List.mem_filter.mpr ⟨List.mem_of_getElem? (i := 54) (by decide +kernel), rfl⟩, List.mem_filter.mpr ⟨List.mem_of_getElem? (i := 564) (by decide +kernel), rfl⟩, ⟨by decide +kernel, by decide +kernel, by decide +kernel⟩⟩
theorem wv_X0_47 : xWV RX0 47 yX0_hearAccepted cX0_hearAccepted 4 (Option.none : Option Jvm.ClassFile.FieldType) 2 := ⟨List.mem_filter.mpr ⟨List.mem_of_getElem? (i := 592) (by decide +kernel), rfl⟩, List.mem_filter.mpr ⟨List.mem_of_getElem? (i := 594) (by decide +kernel), rfl⟩, List.mem_filter.mpr ⟨List.mem_of_getElem? (i := 7) (by decide +kernel), rfl⟩, List.mem_filter.mpr ⟨List.mem_of_getElem? (i := 54) (by decide +kernel), rfl⟩, List.mem_filter.mpr ⟨List.mem_of_getElem? (i := 595) (by decide +kernel), rfl⟩, ⟨by decide +kernel, by decide +kernel, by decide +kernel⟩⟩
theorem wv_X0_51 : xWV RX0 51 yX0_hearAsk cX0_hearAsk 3 (Option.some Jvm.ClassFile.FieldType.boolean) 2 := ⟨List.mem_filter.mpr ⟨List.mem_of_getElem? (i := 629) (by decide +kernel), rfl⟩, List.mem_filter.mpr ⟨List.mem_of_getElem? (i := 631) (by decide +kernel), rfl⟩, List.mem_filter.mpr ⟨List.mem_of_getElem? (i := 11) (by decide +kernel), rfl⟩, List.mem_filter.mpr ⟨List.mem_of_getElem? (i := 54) (by decide +kernel), rfl⟩, List.mem_filter.mpr ⟨List.mem_of_getElem? (i := 632) (by decide +kernel), rfl⟩, ⟨by decide +kernel, by decide +kernel, by decide +kernel⟩⟩
theorem wv_X0_54 : xWV RX0 54 yX0_hearPromise cX0_hearPromise 4 (Option.none : Option Jvm.ClassFile.FieldType) 2 := ⟨List.mem_filter.mpr ⟨List.mem_of_getElem? (i := 641) (by decide +kernel), rfl⟩, List.mem_filter.mpr ⟨List.mem_of_getElem? (i := 643) (by decide +kernel), rfl⟩, List.mem_filter.mpr ⟨List.mem_of_getElem? (i := 13) (by decide +kernel), rfl⟩, List.mem_filter.mpr ⟨List.mem_of_getElem? (i := 54) (by decide +kernel), rfl⟩, List.mem_filter.mpr ⟨List.mem_of_getElem? (i := 644) (by decide +kernel), rfl⟩, ⟨by decide +kernel, by decide +kernel, by decide +kernel⟩⟩
theorem wv_X0_69 : xWV RX0 69 yX9_hasAccepted cX9_hasAccepted 4 (Option.some Jvm.ClassFile.FieldType.boolean) 3 := ⟨List.mem_filter.mpr ⟨List.mem_of_getElem? (i := 565) (by decide +kernel), rfl⟩, List.mem_filter.mpr ⟨List.mem_of_getElem? (i := 566) (by decide +kernel), rfl⟩, List.mem_filter.mpr ⟨List.mem_of_getElem? (i := 567) (by decide +kernel), rfl⟩, List.mem_filter.mpr ⟨List.mem_of_getElem? (i := 55) (by decide +kernel), rfl⟩, List.mem_filter.mpr ⟨List.mem_of_getElem? (i := 568) (by decide +kernel), rfl⟩, ⟨by decide +kernel, by decide +kernel, by decide +kernel⟩⟩
theorem wv_X0_77 : xWV RX0 77 yX2_isFull cX2_isFull 1 (Option.some Jvm.ClassFile.FieldType.boolean) 0 := ⟨List.mem_filter.mpr ⟨List.mem_of_getElem? (i := 569) (by decide +kernel), rfl⟩, List.mem_filter.mpr ⟨List.mem_of_getElem? (i := 570) (by decide +kernel), rfl⟩, List.mem_filter.mpr ⟨List.mem_of_getElem? (i := 571) (by decide +kernel), rfl⟩, List.mem_filter.mpr ⟨List.mem_of_getElem? (i := 53) (by decide +kernel), rfl⟩, List.mem_filter.mpr ⟨List.mem_of_getElem? (i := 572) (by decide +kernel), rfl⟩, ⟨by decide +kernel, by decide +kernel, by decide +kernel⟩⟩
theorem wv_X0_83 : xWV RX0 83 yX2_put cX2_put 5 (Option.none : Option Jvm.ClassFile.FieldType) 4 := ⟨List.mem_filter.mpr ⟨List.mem_of_getElem? (i := 573) (by decide +kernel), rfl⟩, List.mem_filter.mpr ⟨List.mem_of_getElem? (i := 574) (by decide +kernel), rfl⟩, List.mem_filter.mpr ⟨List.mem_of_getElem? (i := 575) (by decide +kernel), rfl⟩, List.mem_filter.mpr ⟨List.mem_of_getElem? (i := 53) (by decide +kernel), rfl⟩, List.mem_filter.mpr ⟨List.mem_of_getElem? (i := 576) (by decide +kernel), rfl⟩, ⟨by decide +kernel, by decide +kernel, by decide +kernel⟩⟩
theorem wv_X0_87 : xWV RX0 87 yX9_take cX9_take 4 (Option.none : Option Jvm.ClassFile.FieldType) 3 := ⟨List.mem_filter.mpr ⟨List.mem_of_getElem? (i := 578) (by decide +kernel), rfl⟩, List.mem_filter.mpr ⟨List.mem_of_getElem? (i := 579) (by decide +kernel), rfl⟩, List.mem_filter.mpr ⟨List.mem_of_getElem? (i := 580) (by decide +kernel), rfl⟩, List.mem_filter.mpr ⟨List.mem_of_getElem? (i := 55) (by decide +kernel), rfl⟩, List.mem_filter.mpr ⟨List.mem_of_getElem? (i := 581) (by decide +kernel), rfl⟩, ⟨by decide +kernel, by decide +kernel, by decide +kernel⟩⟩
theorem wv_X0_98 : xWV RX0 98 yX5_startDraftOfVote cX5_startDraftOfVote 7 (Option.none : Option Jvm.ClassFile.FieldType) 6 := ⟨List.mem_filter.mpr ⟨List.mem_of_getElem? (i := 582) (by decide +kernel), rfl⟩, List.mem_filter.mpr ⟨List.mem_of_getElem? (i := 583) (by decide +kernel), rfl⟩, List.mem_filter.mpr ⟨List.mem_of_getElem? (i := 584) (by decide +kernel), rfl⟩, List.mem_filter.mpr ⟨List.mem_of_getElem? (i := 49) (by decide +kernel), rfl⟩, List.mem_filter.mpr ⟨List.mem_of_getElem? (i := 585) (by decide +kernel), rfl⟩, ⟨by decide +kernel, by decide +kernel, by decide +kernel⟩⟩
theorem wv_X0_112 : xWV RX0 112 yX7_acceptorOf cX7_acceptorOf 2 (Option.some Jvm.ClassFile.FieldType.int) 1 := ⟨List.mem_filter.mpr ⟨List.mem_of_getElem? (i := 587) (by decide +kernel), rfl⟩, List.mem_filter.mpr ⟨List.mem_of_getElem? (i := 588) (by decide +kernel), rfl⟩, List.mem_filter.mpr ⟨List.mem_of_getElem? (i := 589) (by decide +kernel), rfl⟩, List.mem_filter.mpr ⟨List.mem_of_getElem? (i := 45) (by decide +kernel), rfl⟩, List.mem_filter.mpr ⟨List.mem_of_getElem? (i := 590) (by decide +kernel), rfl⟩, ⟨by decide +kernel, by decide +kernel, by decide +kernel⟩⟩
theorem wv_X0_116 : xWV RX0 116 yX5_post cX5_post 3 (Option.some Jvm.ClassFile.FieldType.boolean) 2 := ⟨List.mem_filter.mpr ⟨List.mem_of_getElem? (i := 591) (by decide +kernel), rfl⟩, List.mem_filter.mpr ⟨List.mem_of_getElem? (i := 499) (by decide +kernel), rfl⟩, List.mem_filter.mpr ⟨List.mem_of_getElem? (i := 500) (by decide +kernel), rfl⟩, List.mem_filter.mpr ⟨List.mem_of_getElem? (i := 49) (by decide +kernel), rfl⟩, List.mem_filter.mpr ⟨List.mem_of_getElem? (i := 501) (by decide +kernel), rfl⟩, ⟨by decide +kernel, by decide +kernel, by decide +kernel⟩⟩
theorem wv_X0_120 : xWV RX0 120 yX9_listensFor cX9_listensFor 2 (Option.some Jvm.ClassFile.FieldType.boolean) 1 := ⟨List.mem_filter.mpr ⟨List.mem_of_getElem? (i := 596) (by decide +kernel), rfl⟩, List.mem_filter.mpr ⟨List.mem_of_getElem? (i := 597) (by decide +kernel), rfl⟩, List.mem_filter.mpr ⟨List.mem_of_getElem? (i := 598) (by decide +kernel), rfl⟩, List.mem_filter.mpr ⟨List.mem_of_getElem? (i := 55) (by decide +kernel), rfl⟩, List.mem_filter.mpr ⟨List.mem_of_getElem? (i := 599) (by decide +kernel), rfl⟩, ⟨by decide +kernel, by decide +kernel, by decide +kernel⟩⟩
theorem wv_X0_127 : xWV RX0 127 yX0_bitOf cX0_bitOf 2 (Option.some Jvm.ClassFile.FieldType.int) 1 := ⟨List.mem_filter.mpr ⟨List.mem_of_getElem? (i := 600) (by decide +kernel), rfl⟩, List.mem_filter.mpr ⟨List.mem_of_getElem? (i := 602) (by decide +kernel), rfl⟩, List.mem_filter.mpr ⟨List.mem_of_getElem? (i := 8) (by decide +kernel), rfl⟩, List.mem_filter.mpr ⟨List.mem_of_getElem? (i := 54) (by decide +kernel), rfl⟩, List.mem_filter.mpr ⟨List.mem_of_getElem? (i := 603) (by decide +kernel), rfl⟩, ⟨by decide +kernel, by decide +kernel, by decide +kernel⟩⟩
theorem wv_X0_130 : xWV RX0 130 yX9_countVoter cX9_countVoter 4 (Option.none : Option Jvm.ClassFile.FieldType) 3 := ⟨List.mem_filter.mpr ⟨List.mem_of_getElem? (i := 604) (by decide +kernel), rfl⟩, List.mem_filter.mpr ⟨List.mem_of_getElem? (i := 605) (by decide +kernel), rfl⟩, List.mem_filter.mpr ⟨List.mem_of_getElem? (i := 606) (by decide +kernel), rfl⟩, List.mem_filter.mpr ⟨List.mem_of_getElem? (i := 55) (by decide +kernel), rfl⟩, List.mem_filter.mpr ⟨List.mem_of_getElem? (i := 607) (by decide +kernel), rfl⟩, ⟨by decide +kernel, by decide +kernel, by decide +kernel⟩⟩
theorem wv_X0_133 : xWV RX0 133 yX0_endOf cX0_endOf 5 (Option.some Jvm.ClassFile.FieldType.int) 2 := ⟨List.mem_filter.mpr ⟨List.mem_of_getElem? (i := 608) (by decide +kernel), rfl⟩, List.mem_filter.mpr ⟨List.mem_of_getElem? (i := 610) (by decide +kernel), rfl⟩, List.mem_filter.mpr ⟨List.mem_of_getElem? (i := 9) (by decide +kernel), rfl⟩, List.mem_filter.mpr ⟨List.mem_of_getElem? (i := 54) (by decide +kernel), rfl⟩, List.mem_filter.mpr ⟨List.mem_of_getElem? (i := 611) (by decide +kernel), rfl⟩, ⟨by decide +kernel, by decide +kernel, by decide +kernel⟩⟩
theorem wv_X0_140 : xWV RX0 140 yX0_postEnd cX0_postEnd 4 (Option.none : Option Jvm.ClassFile.FieldType) 2 := ⟨List.mem_filter.mpr ⟨List.mem_of_getElem? (i := 623) (by decide +kernel), rfl⟩, List.mem_filter.mpr ⟨List.mem_of_getElem? (i := 625) (by decide +kernel), rfl⟩, List.mem_filter.mpr ⟨List.mem_of_getElem? (i := 10) (by decide +kernel), rfl⟩, List.mem_filter.mpr ⟨List.mem_of_getElem? (i := 54) (by decide +kernel), rfl⟩, List.mem_filter.mpr ⟨List.mem_of_getElem? (i := 626) (by decide +kernel), rfl⟩, ⟨by decide +kernel, by decide +kernel, by decide +kernel⟩⟩
theorem wv_X0_143 : xWV RX0 143 yX8_touches cX8_touches 3 (Option.some Jvm.ClassFile.FieldType.boolean) 2 := ⟨List.mem_filter.mpr ⟨List.mem_of_getElem? (i := 612) (by decide +kernel), rfl⟩, List.mem_filter.mpr ⟨List.mem_of_getElem? (i := 450) (by decide +kernel), rfl⟩, List.mem_filter.mpr ⟨List.mem_of_getElem? (i := 451) (by decide +kernel), rfl⟩, List.mem_filter.mpr ⟨List.mem_of_getElem? (i := 47) (by decide +kernel), rfl⟩, List.mem_filter.mpr ⟨List.mem_of_getElem? (i := 452) (by decide +kernel), rfl⟩, ⟨by decide +kernel, by decide +kernel, by decide +kernel⟩⟩
theorem wv_X0_153 : xWV RX0 153 yX7_isMajority cX7_isMajority 2 (Option.some Jvm.ClassFile.FieldType.boolean) 1 := ⟨List.mem_filter.mpr ⟨List.mem_of_getElem? (i := 613) (by decide +kernel), rfl⟩, List.mem_filter.mpr ⟨List.mem_of_getElem? (i := 614) (by decide +kernel), rfl⟩, List.mem_filter.mpr ⟨List.mem_of_getElem? (i := 615) (by decide +kernel), rfl⟩, List.mem_filter.mpr ⟨List.mem_of_getElem? (i := 45) (by decide +kernel), rfl⟩, List.mem_filter.mpr ⟨List.mem_of_getElem? (i := 616) (by decide +kernel), rfl⟩, ⟨by decide +kernel, by decide +kernel, by decide +kernel⟩⟩
theorem wv_X0_159 : xWV RX0 159 yX5_startDraft cX5_startDraft 4 (Option.none : Option Jvm.ClassFile.FieldType) 3 := ⟨List.mem_filter.mpr ⟨List.mem_of_getElem? (i := 627) (by decide +kernel), rfl⟩, List.mem_filter.mpr ⟨List.mem_of_getElem? (i := 495) (by decide +kernel), rfl⟩, List.mem_filter.mpr ⟨List.mem_of_getElem? (i := 496) (by decide +kernel), rfl⟩, List.mem_filter.mpr ⟨List.mem_of_getElem? (i := 49) (by decide +kernel), rfl⟩, List.mem_filter.mpr ⟨List.mem_of_getElem? (i := 497) (by decide +kernel), rfl⟩, ⟨by decide +kernel, by decide +kernel, by decide +kernel⟩⟩
theorem wv_X0_162 : xWV RX0 162 yX7_client cX7_client 1 (Option.some Jvm.ClassFile.FieldType.int) 0 := ⟨List.mem_filter.mpr ⟨List.mem_of_getElem? (i := 628) (by decide +kernel), rfl⟩, List.mem_filter.mpr ⟨List.mem_of_getElem? (i := 491) (by decide +kernel), rfl⟩, List.mem_filter.mpr ⟨List.mem_of_getElem? (i := 492) (by decide +kernel), rfl⟩, List.mem_filter.mpr ⟨List.mem_of_getElem? (i := 45) (by decide +kernel), rfl⟩, List.mem_filter.mpr ⟨List.mem_of_getElem? (i := 493) (by decide +kernel), rfl⟩, ⟨by decide +kernel, by decide +kernel, by decide +kernel⟩⟩
theorem wv_X0_166 : xWV RX0 166 yX0_promise cX0_promise 3 (Option.none : Option Jvm.ClassFile.FieldType) 2 := ⟨List.mem_filter.mpr ⟨List.mem_of_getElem? (i := 633) (by decide +kernel), rfl⟩, List.mem_filter.mpr ⟨List.mem_of_getElem? (i := 635) (by decide +kernel), rfl⟩, List.mem_filter.mpr ⟨List.mem_of_getElem? (i := 12) (by decide +kernel), rfl⟩, List.mem_filter.mpr ⟨List.mem_of_getElem? (i := 54) (by decide +kernel), rfl⟩, List.mem_filter.mpr ⟨List.mem_of_getElem? (i := 636) (by decide +kernel), rfl⟩, ⟨by decide +kernel, by decide +kernel, by decide +kernel⟩⟩
theorem wv_X0_175 : xWV RX0 175 yX3_tell cX3_tell 4 (Option.none : Option Jvm.ClassFile.FieldType) 2 := ⟨List.mem_filter.mpr ⟨List.mem_of_getElem? (i := 637) (by decide +kernel), rfl⟩, List.mem_filter.mpr ⟨List.mem_of_getElem? (i := 638) (by decide +kernel), rfl⟩, List.mem_filter.mpr ⟨List.mem_of_getElem? (i := 639) (by decide +kernel), rfl⟩, List.mem_filter.mpr ⟨List.mem_of_getElem? (i := 50) (by decide +kernel), rfl⟩, List.mem_filter.mpr ⟨List.mem_of_getElem? (i := 640) (by decide +kernel), rfl⟩, ⟨by decide +kernel, by decide +kernel, by decide +kernel⟩⟩
theorem wv_X0_188 : xWV RX0 188 yX9_keepGreatest cX9_keepGreatest 4 (Option.none : Option Jvm.ClassFile.FieldType) 2 := ⟨List.mem_filter.mpr ⟨List.mem_of_getElem? (i := 645) (by decide +kernel), rfl⟩, List.mem_filter.mpr ⟨List.mem_of_getElem? (i := 646) (by decide +kernel), rfl⟩, List.mem_filter.mpr ⟨List.mem_of_getElem? (i := 647) (by decide +kernel), rfl⟩, List.mem_filter.mpr ⟨List.mem_of_getElem? (i := 55) (by decide +kernel), rfl⟩, List.mem_filter.mpr ⟨List.mem_of_getElem? (i := 648) (by decide +kernel), rfl⟩, ⟨by decide +kernel, by decide +kernel, by decide +kernel⟩⟩
theorem wv_X0_191 : xWV RX0 191 yX9_keptOrNo cX9_keptOrNo 2 (Option.some Jvm.ClassFile.FieldType.int) 1 := ⟨List.mem_filter.mpr ⟨List.mem_of_getElem? (i := 649) (by decide +kernel), rfl⟩, List.mem_filter.mpr ⟨List.mem_of_getElem? (i := 650) (by decide +kernel), rfl⟩, List.mem_filter.mpr ⟨List.mem_of_getElem? (i := 651) (by decide +kernel), rfl⟩, List.mem_filter.mpr ⟨List.mem_of_getElem? (i := 55) (by decide +kernel), rfl⟩, List.mem_filter.mpr ⟨List.mem_of_getElem? (i := 652) (by decide +kernel), rfl⟩, ⟨by decide +kernel, by decide +kernel, by decide +kernel⟩⟩
theorem wv_X0_194 : xWV RX0 194 yX5_postDraftToAcceptors cX5_postDraftToAcceptors 2 (Option.none : Option Jvm.ClassFile.FieldType) 0 := ⟨List.mem_filter.mpr ⟨List.mem_of_getElem? (i := 653) (by decide +kernel), rfl⟩, List.mem_filter.mpr ⟨List.mem_of_getElem? (i := 654) (by decide +kernel), rfl⟩, List.mem_filter.mpr ⟨List.mem_of_getElem? (i := 655) (by decide +kernel), rfl⟩, List.mem_filter.mpr ⟨List.mem_of_getElem? (i := 49) (by decide +kernel), rfl⟩, List.mem_filter.mpr ⟨List.mem_of_getElem? (i := 656) (by decide +kernel), rfl⟩, ⟨by decide +kernel, by decide +kernel, by decide +kernel⟩⟩
theorem ws_X0_205 : xWS RX0 205 yJ9_max_7cf53 cJ9_max_7cf53 2 (Option.some Jvm.ClassFile.FieldType.int) 2 := ⟨List.mem_filter.mpr ⟨List.mem_of_getElem? (i := 703) (by decide +kernel), rfl⟩, List.mem_filter.mpr ⟨List.mem_of_getElem? (i := 80) (by decide +kernel), rfl⟩, List.mem_filter.mpr ⟨List.mem_of_getElem? (i := 46) (by decide +kernel), rfl⟩, List.mem_filter.mpr ⟨List.mem_of_getElem? (i := 81) (by decide +kernel), rfl⟩, ⟨by decide +kernel, by decide +kernel, by decide +kernel⟩⟩
theorem wv_X0_211 : xWV RX0 211 yX0_nextOwn cX0_nextOwn 3 (Option.some Jvm.ClassFile.FieldType.int) 1 := ⟨List.mem_filter.mpr ⟨List.mem_of_getElem? (i := 704) (by decide +kernel), rfl⟩, List.mem_filter.mpr ⟨List.mem_of_getElem? (i := 706) (by decide +kernel), rfl⟩, List.mem_filter.mpr ⟨List.mem_of_getElem? (i := 17) (by decide +kernel), rfl⟩, List.mem_filter.mpr ⟨List.mem_of_getElem? (i := 54) (by decide +kernel), rfl⟩, List.mem_filter.mpr ⟨List.mem_of_getElem? (i := 707) (by decide +kernel), rfl⟩, ⟨by decide +kernel, by decide +kernel, by decide +kernel⟩⟩
theorem wv_X0_214 : xWV RX0 214 yX9_lead cX9_lead 2 (Option.none : Option Jvm.ClassFile.FieldType) 1 := ⟨List.mem_filter.mpr ⟨List.mem_of_getElem? (i := 711) (by decide +kernel), rfl⟩, List.mem_filter.mpr ⟨List.mem_of_getElem? (i := 712) (by decide +kernel), rfl⟩, List.mem_filter.mpr ⟨List.mem_of_getElem? (i := 713) (by decide +kernel), rfl⟩, List.mem_filter.mpr ⟨List.mem_of_getElem? (i := 55) (by decide +kernel), rfl⟩, List.mem_filter.mpr ⟨List.mem_of_getElem? (i := 714) (by decide +kernel), rfl⟩, ⟨by decide +kernel, by decide +kernel, by decide +kernel⟩⟩
theorem ws_X0_221 : xWS RX0 221 yJ9_floorMod_7cf53 cJ9_floorMod_7cf53 3 (Option.some Jvm.ClassFile.FieldType.int) 2 := ⟨List.mem_filter.mpr ⟨List.mem_of_getElem? (i := 708) (by decide +kernel), rfl⟩, List.mem_filter.mpr ⟨List.mem_of_getElem? (i := 709) (by decide +kernel), rfl⟩, List.mem_filter.mpr ⟨List.mem_of_getElem? (i := 46) (by decide +kernel), rfl⟩, List.mem_filter.mpr ⟨List.mem_of_getElem? (i := 710) (by decide +kernel), rfl⟩, ⟨by decide +kernel, by decide +kernel, by decide +kernel⟩⟩
theorem wv_X0_224 : xWV RX0 224 yX9_forget cX9_forget 1 (Option.none : Option Jvm.ClassFile.FieldType) 0 := ⟨List.mem_filter.mpr ⟨List.mem_of_getElem? (i := 725) (by decide +kernel), rfl⟩, List.mem_filter.mpr ⟨List.mem_of_getElem? (i := 726) (by decide +kernel), rfl⟩, List.mem_filter.mpr ⟨List.mem_of_getElem? (i := 727) (by decide +kernel), rfl⟩, List.mem_filter.mpr ⟨List.mem_of_getElem? (i := 55) (by decide +kernel), rfl⟩, List.mem_filter.mpr ⟨List.mem_of_getElem? (i := 728) (by decide +kernel), rfl⟩, ⟨by decide +kernel, by decide +kernel, by decide +kernel⟩⟩
theorem wv_X0_227 : xWV RX0 227 yX0_unpromised cX0_unpromised 6 (Option.some Jvm.ClassFile.FieldType.int) 0 := ⟨List.mem_filter.mpr ⟨List.mem_of_getElem? (i := 782) (by decide +kernel), rfl⟩, List.mem_filter.mpr ⟨List.mem_of_getElem? (i := 784) (by decide +kernel), rfl⟩, List.mem_filter.mpr ⟨List.mem_of_getElem? (i := 18) (by decide +kernel), rfl⟩, List.mem_filter.mpr ⟨List.mem_of_getElem? (i := 54) (by decide +kernel), rfl⟩, List.mem_filter.mpr ⟨List.mem_of_getElem? (i := 785) (by decide +kernel), rfl⟩, ⟨by decide +kernel, by decide +kernel, by decide +kernel⟩⟩
theorem wv_X0_230 : xWV RX0 230 yX0_ended cX0_ended 6 (Option.some Jvm.ClassFile.FieldType.int) 0 := ⟨List.mem_filter.mpr ⟨List.mem_of_getElem? (i := 786) (by decide +kernel), rfl⟩, List.mem_filter.mpr ⟨List.mem_of_getElem? (i := 788) (by decide +kernel), rfl⟩, List.mem_filter.mpr ⟨List.mem_of_getElem? (i := 19) (by decide +kernel), rfl⟩, List.mem_filter.mpr ⟨List.mem_of_getElem? (i := 54) (by decide +kernel), rfl⟩, List.mem_filter.mpr ⟨List.mem_of_getElem? (i := 789) (by decide +kernel), rfl⟩, ⟨by decide +kernel, by decide +kernel, by decide +kernel⟩⟩
theorem ws_X1_38 : xWS RX1 38 yJ9_max_7cf53 cJ9_max_7cf53 2 (Option.some Jvm.ClassFile.FieldType.int) 2 := ⟨List.mem_filter.mpr ⟨List.mem_of_getElem? (i := 461) (by decide +kernel), rfl⟩, List.mem_filter.mpr ⟨List.mem_of_getElem? (i := 80) (by decide +kernel), rfl⟩, List.mem_filter.mpr ⟨List.mem_of_getElem? (i := 46) (by decide +kernel), rfl⟩, List.mem_filter.mpr ⟨List.mem_of_getElem? (i := 81) (by decide +kernel), rfl⟩, ⟨by decide +kernel, by decide +kernel, by decide +kernel⟩⟩
theorem wv_X1_44 : xWV RX1 44 yX7_shardOf cX7_shardOf 2 (Option.some Jvm.ClassFile.FieldType.int) 1 := ⟨List.mem_filter.mpr ⟨List.mem_of_getElem? (i := 518) (by decide +kernel), rfl⟩, List.mem_filter.mpr ⟨List.mem_of_getElem? (i := 446) (by decide +kernel), rfl⟩, List.mem_filter.mpr ⟨List.mem_of_getElem? (i := 447) (by decide +kernel), rfl⟩, List.mem_filter.mpr ⟨List.mem_of_getElem? (i := 45) (by decide +kernel), rfl⟩, List.mem_filter.mpr ⟨List.mem_of_getElem? (i := 448) (by decide +kernel), rfl⟩, ⟨by decide +kernel, by decide +kernel, by decide +kernel⟩⟩
theorem wv_X1_48 : xWV RX1 48 yX1_seenBy cX1_seenBy 3 (Option.some Jvm.ClassFile.FieldType.long) 2 := ⟨List.mem_filter.mpr ⟨List.mem_of_getElem? (i := 685) (by decide +kernel), rfl⟩, List.mem_filter.mpr ⟨List.mem_of_getElem? (i := 467) (by decide +kernel), rfl⟩, List.mem_filter.mpr ⟨List.mem_of_getElem? (i := 468) (by decide +kernel), rfl⟩, List.mem_filter.mpr ⟨List.mem_of_getElem? (i := 48) (by decide +kernel), rfl⟩, List.mem_filter.mpr ⟨List.mem_of_getElem? (i := 469) (by decide +kernel), rfl⟩, ⟨by decide +kernel, by decide +kernel, by decide +kernel⟩⟩
theorem wv_X2_20 : xWV RX2 20 yX2_isFull cX2_isFull 1 (Option.some Jvm.ClassFile.FieldType.boolean) 0 := ⟨List.mem_filter.mpr ⟨List.mem_of_getElem? (i := 577) (by decide +kernel), rfl⟩, List.mem_filter.mpr ⟨List.mem_of_getElem? (i := 570) (by decide +kernel), rfl⟩, List.mem_filter.mpr ⟨List.mem_of_getElem? (i := 571) (by decide +kernel), rfl⟩, List.mem_filter.mpr ⟨List.mem_of_getElem? (i := 53) (by decide +kernel), rfl⟩, List.mem_filter.mpr ⟨List.mem_of_getElem? (i := 572) (by decide +kernel), rfl⟩, ⟨by decide +kernel, by decide +kernel, by decide +kernel⟩⟩
theorem wi_X4_32 : xWI RX4 32 yX2_init cX2_init 2 1 := ⟨List.mem_filter.mpr ⟨List.mem_of_getElem? (i := 261) (by decide +kernel), rfl⟩, List.mem_filter.mpr ⟨List.mem_of_getElem? (i := 262) (by decide +kernel), rfl⟩, List.mem_filter.mpr ⟨List.mem_of_getElem? (i := 53) (by decide +kernel), rfl⟩, List.mem_filter.mpr ⟨List.mem_of_getElem? (i := 263) (by decide +kernel), rfl⟩, rfl, ⟨by decide +kernel, by decide +kernel, by decide +kernel⟩⟩
theorem wi_X5_28 : xWI RX5 28 yX3_init cX3_init 2 1 := ⟨List.mem_filter.mpr ⟨List.mem_of_getElem? (i := 168) (by decide +kernel), rfl⟩, List.mem_filter.mpr ⟨List.mem_of_getElem? (i := 169) (by decide +kernel), rfl⟩, List.mem_filter.mpr ⟨List.mem_of_getElem? (i := 50) (by decide +kernel), rfl⟩, List.mem_filter.mpr ⟨List.mem_of_getElem? (i := 170) (by decide +kernel), rfl⟩, rfl, ⟨by decide +kernel, by decide +kernel, by decide +kernel⟩⟩
theorem wv_X5_59 : xWV RX5 59 yX5_startDraft cX5_startDraft 4 (Option.none : Option Jvm.ClassFile.FieldType) 3 := ⟨List.mem_filter.mpr ⟨List.mem_of_getElem? (i := 586) (by decide +kernel), rfl⟩, List.mem_filter.mpr ⟨List.mem_of_getElem? (i := 495) (by decide +kernel), rfl⟩, List.mem_filter.mpr ⟨List.mem_of_getElem? (i := 496) (by decide +kernel), rfl⟩, List.mem_filter.mpr ⟨List.mem_of_getElem? (i := 49) (by decide +kernel), rfl⟩, List.mem_filter.mpr ⟨List.mem_of_getElem? (i := 497) (by decide +kernel), rfl⟩, ⟨by decide +kernel, by decide +kernel, by decide +kernel⟩⟩
theorem wv_X5_66 : xWV RX5 66 yX5_post cX5_post 3 (Option.some Jvm.ClassFile.FieldType.boolean) 2 := ⟨List.mem_filter.mpr ⟨List.mem_of_getElem? (i := 657) (by decide +kernel), rfl⟩, List.mem_filter.mpr ⟨List.mem_of_getElem? (i := 499) (by decide +kernel), rfl⟩, List.mem_filter.mpr ⟨List.mem_of_getElem? (i := 500) (by decide +kernel), rfl⟩, List.mem_filter.mpr ⟨List.mem_of_getElem? (i := 49) (by decide +kernel), rfl⟩, List.mem_filter.mpr ⟨List.mem_of_getElem? (i := 501) (by decide +kernel), rfl⟩, ⟨by decide +kernel, by decide +kernel, by decide +kernel⟩⟩
theorem wv_X5_76 : xWV RX5 76 yX3_copyFrom cX3_copyFrom 4 (Option.none : Option Jvm.ClassFile.FieldType) 2 := ⟨List.mem_filter.mpr ⟨List.mem_of_getElem? (i := 502) (by decide +kernel), rfl⟩, List.mem_filter.mpr ⟨List.mem_of_getElem? (i := 503) (by decide +kernel), rfl⟩, List.mem_filter.mpr ⟨List.mem_of_getElem? (i := 504) (by decide +kernel), rfl⟩, List.mem_filter.mpr ⟨List.mem_of_getElem? (i := 50) (by decide +kernel), rfl⟩, List.mem_filter.mpr ⟨List.mem_of_getElem? (i := 505) (by decide +kernel), rfl⟩, ⟨by decide +kernel, by decide +kernel, by decide +kernel⟩⟩
theorem wi_X6_3 : xWI RX6 3 yX4_init cX4_init 4 3 := ⟨List.mem_filter.mpr ⟨List.mem_of_getElem? (i := 255) (by decide +kernel), rfl⟩, List.mem_filter.mpr ⟨List.mem_of_getElem? (i := 256) (by decide +kernel), rfl⟩, List.mem_filter.mpr ⟨List.mem_of_getElem? (i := 51) (by decide +kernel), rfl⟩, List.mem_filter.mpr ⟨List.mem_of_getElem? (i := 257) (by decide +kernel), rfl⟩, rfl, ⟨by decide +kernel, by decide +kernel, by decide +kernel⟩⟩
theorem wv_X6_40 : xWV RX6 40 yX6_hearPrepare cX6_hearPrepare 2 (Option.some Jvm.ClassFile.FieldType.boolean) 1 := ⟨List.mem_filter.mpr ⟨List.mem_of_getElem? (i := 661) (by decide +kernel), rfl⟩, List.mem_filter.mpr ⟨List.mem_of_getElem? (i := 663) (by decide +kernel), rfl⟩, List.mem_filter.mpr ⟨List.mem_of_getElem? (i := 14) (by decide +kernel), rfl⟩, List.mem_filter.mpr ⟨List.mem_of_getElem? (i := 52) (by decide +kernel), rfl⟩, List.mem_filter.mpr ⟨List.mem_of_getElem? (i := 664) (by decide +kernel), rfl⟩, ⟨by decide +kernel, by decide +kernel, by decide +kernel⟩⟩
theorem wv_X6_47 : xWV RX6 47 yX6_hearEnd cX6_hearEnd 3 (Option.some Jvm.ClassFile.FieldType.boolean) 2 := ⟨List.mem_filter.mpr ⟨List.mem_of_getElem? (i := 677) (by decide +kernel), rfl⟩, List.mem_filter.mpr ⟨List.mem_of_getElem? (i := 679) (by decide +kernel), rfl⟩, List.mem_filter.mpr ⟨List.mem_of_getElem? (i := 16) (by decide +kernel), rfl⟩, List.mem_filter.mpr ⟨List.mem_of_getElem? (i := 52) (by decide +kernel), rfl⟩, List.mem_filter.mpr ⟨List.mem_of_getElem? (i := 680) (by decide +kernel), rfl⟩, ⟨by decide +kernel, by decide +kernel, by decide +kernel⟩⟩
theorem wv_X6_55 : xWV RX6 55 yX2_isFull cX2_isFull 1 (Option.some Jvm.ClassFile.FieldType.boolean) 0 := ⟨List.mem_filter.mpr ⟨List.mem_of_getElem? (i := 665) (by decide +kernel), rfl⟩, List.mem_filter.mpr ⟨List.mem_of_getElem? (i := 570) (by decide +kernel), rfl⟩, List.mem_filter.mpr ⟨List.mem_of_getElem? (i := 571) (by decide +kernel), rfl⟩, List.mem_filter.mpr ⟨List.mem_of_getElem? (i := 53) (by decide +kernel), rfl⟩, List.mem_filter.mpr ⟨List.mem_of_getElem? (i := 572) (by decide +kernel), rfl⟩, ⟨by decide +kernel, by decide +kernel, by decide +kernel⟩⟩
theorem wv_X6_61 : xWV RX6 61 yX6_vote cX6_vote 2 (Option.none : Option Jvm.ClassFile.FieldType) 1 := ⟨List.mem_filter.mpr ⟨List.mem_of_getElem? (i := 666) (by decide +kernel), rfl⟩, List.mem_filter.mpr ⟨List.mem_of_getElem? (i := 668) (by decide +kernel), rfl⟩, List.mem_filter.mpr ⟨List.mem_of_getElem? (i := 15) (by decide +kernel), rfl⟩, List.mem_filter.mpr ⟨List.mem_of_getElem? (i := 52) (by decide +kernel), rfl⟩, List.mem_filter.mpr ⟨List.mem_of_getElem? (i := 669) (by decide +kernel), rfl⟩, ⟨by decide +kernel, by decide +kernel, by decide +kernel⟩⟩
theorem wv_X6_71 : xWV RX6 71 yX5_startDraftOfVote cX5_startDraftOfVote 7 (Option.none : Option Jvm.ClassFile.FieldType) 6 := ⟨List.mem_filter.mpr ⟨List.mem_of_getElem? (i := 675) (by decide +kernel), rfl⟩, List.mem_filter.mpr ⟨List.mem_of_getElem? (i := 583) (by decide +kernel), rfl⟩, List.mem_filter.mpr ⟨List.mem_of_getElem? (i := 584) (by decide +kernel), rfl⟩, List.mem_filter.mpr ⟨List.mem_of_getElem? (i := 49) (by decide +kernel), rfl⟩, List.mem_filter.mpr ⟨List.mem_of_getElem? (i := 585) (by decide +kernel), rfl⟩, ⟨by decide +kernel, by decide +kernel, by decide +kernel⟩⟩
theorem wv_X6_77 : xWV RX6 77 yX5_postDraftToAcceptors cX5_postDraftToAcceptors 2 (Option.none : Option Jvm.ClassFile.FieldType) 0 := ⟨List.mem_filter.mpr ⟨List.mem_of_getElem? (i := 676) (by decide +kernel), rfl⟩, List.mem_filter.mpr ⟨List.mem_of_getElem? (i := 654) (by decide +kernel), rfl⟩, List.mem_filter.mpr ⟨List.mem_of_getElem? (i := 655) (by decide +kernel), rfl⟩, List.mem_filter.mpr ⟨List.mem_of_getElem? (i := 49) (by decide +kernel), rfl⟩, List.mem_filter.mpr ⟨List.mem_of_getElem? (i := 656) (by decide +kernel), rfl⟩, ⟨by decide +kernel, by decide +kernel, by decide +kernel⟩⟩
theorem wv_X6_81 : xWV RX6 81 yX2_put cX2_put 5 (Option.none : Option Jvm.ClassFile.FieldType) 4 := ⟨List.mem_filter.mpr ⟨List.mem_of_getElem? (i := 670) (by decide +kernel), rfl⟩, List.mem_filter.mpr ⟨List.mem_of_getElem? (i := 574) (by decide +kernel), rfl⟩, List.mem_filter.mpr ⟨List.mem_of_getElem? (i := 575) (by decide +kernel), rfl⟩, List.mem_filter.mpr ⟨List.mem_of_getElem? (i := 53) (by decide +kernel), rfl⟩, List.mem_filter.mpr ⟨List.mem_of_getElem? (i := 576) (by decide +kernel), rfl⟩, ⟨by decide +kernel, by decide +kernel, by decide +kernel⟩⟩
theorem wv_X6_85 : xWV RX6 85 yX1_dropShared cX1_dropShared 4 (Option.none : Option Jvm.ClassFile.FieldType) 2 := ⟨List.mem_filter.mpr ⟨List.mem_of_getElem? (i := 671) (by decide +kernel), rfl⟩, List.mem_filter.mpr ⟨List.mem_of_getElem? (i := 672) (by decide +kernel), rfl⟩, List.mem_filter.mpr ⟨List.mem_of_getElem? (i := 673) (by decide +kernel), rfl⟩, List.mem_filter.mpr ⟨List.mem_of_getElem? (i := 48) (by decide +kernel), rfl⟩, List.mem_filter.mpr ⟨List.mem_of_getElem? (i := 674) (by decide +kernel), rfl⟩, ⟨by decide +kernel, by decide +kernel, by decide +kernel⟩⟩
theorem wv_X6_91 : xWV RX6 91 yX1_install cX1_install 4 (Option.none : Option Jvm.ClassFile.FieldType) 2 := ⟨List.mem_filter.mpr ⟨List.mem_of_getElem? (i := 681) (by decide +kernel), rfl⟩, List.mem_filter.mpr ⟨List.mem_of_getElem? (i := 682) (by decide +kernel), rfl⟩, List.mem_filter.mpr ⟨List.mem_of_getElem? (i := 683) (by decide +kernel), rfl⟩, List.mem_filter.mpr ⟨List.mem_of_getElem? (i := 48) (by decide +kernel), rfl⟩, List.mem_filter.mpr ⟨List.mem_of_getElem? (i := 684) (by decide +kernel), rfl⟩, ⟨by decide +kernel, by decide +kernel, by decide +kernel⟩⟩
theorem wv_X6_94 : xWV RX6 94 yX6_endSession cX6_endSession 2 (Option.none : Option Jvm.ClassFile.FieldType) 1 := ⟨List.mem_filter.mpr ⟨List.mem_of_getElem? (i := 686) (by decide +kernel), rfl⟩, List.mem_filter.mpr ⟨List.mem_of_getElem? (i := 511) (by decide +kernel), rfl⟩, List.mem_filter.mpr ⟨List.mem_of_getElem? (i := 512) (by decide +kernel), rfl⟩, List.mem_filter.mpr ⟨List.mem_of_getElem? (i := 52) (by decide +kernel), rfl⟩, List.mem_filter.mpr ⟨List.mem_of_getElem? (i := 513) (by decide +kernel), rfl⟩, ⟨by decide +kernel, by decide +kernel, by decide +kernel⟩⟩
theorem wv_X6_97 : xWV RX6 97 yX1_dropAll cX1_dropAll 4 (Option.none : Option Jvm.ClassFile.FieldType) 2 := ⟨List.mem_filter.mpr ⟨List.mem_of_getElem? (i := 514) (by decide +kernel), rfl⟩, List.mem_filter.mpr ⟨List.mem_of_getElem? (i := 515) (by decide +kernel), rfl⟩, List.mem_filter.mpr ⟨List.mem_of_getElem? (i := 516) (by decide +kernel), rfl⟩, List.mem_filter.mpr ⟨List.mem_of_getElem? (i := 48) (by decide +kernel), rfl⟩, List.mem_filter.mpr ⟨List.mem_of_getElem? (i := 517) (by decide +kernel), rfl⟩, ⟨by decide +kernel, by decide +kernel, by decide +kernel⟩⟩
theorem wv_X6_100 : xWV RX6 100 yX6_openSessions cX6_openSessions 6 (Option.some Jvm.ClassFile.FieldType.int) 0 := ⟨List.mem_filter.mpr ⟨List.mem_of_getElem? (i := 793) (by decide +kernel), rfl⟩, List.mem_filter.mpr ⟨List.mem_of_getElem? (i := 795) (by decide +kernel), rfl⟩, List.mem_filter.mpr ⟨List.mem_of_getElem? (i := 20) (by decide +kernel), rfl⟩, List.mem_filter.mpr ⟨List.mem_of_getElem? (i := 52) (by decide +kernel), rfl⟩, List.mem_filter.mpr ⟨List.mem_of_getElem? (i := 796) (by decide +kernel), rfl⟩, ⟨by decide +kernel, by decide +kernel, by decide +kernel⟩⟩
theorem ws_X7_7 : xWS RX7 7 yX7_nearest cX7_nearest 2 (Option.some Jvm.ClassFile.FieldType.int) 2 := ⟨List.mem_filter.mpr ⟨List.mem_of_getElem? (i := 73) (by decide +kernel), rfl⟩, List.mem_filter.mpr ⟨List.mem_of_getElem? (i := 74) (by decide +kernel), rfl⟩, List.mem_filter.mpr ⟨List.mem_of_getElem? (i := 45) (by decide +kernel), rfl⟩, List.mem_filter.mpr ⟨List.mem_of_getElem? (i := 75) (by decide +kernel), rfl⟩, ⟨by decide +kernel, by decide +kernel, by decide +kernel⟩⟩
theorem ws_X7_17 : xWS RX7 17 yX7_nearestOdd cX7_nearestOdd 1 (Option.some Jvm.ClassFile.FieldType.int) 1 := ⟨List.mem_filter.mpr ⟨List.mem_of_getElem? (i := 82) (by decide +kernel), rfl⟩, List.mem_filter.mpr ⟨List.mem_of_getElem? (i := 83) (by decide +kernel), rfl⟩, List.mem_filter.mpr ⟨List.mem_of_getElem? (i := 45) (by decide +kernel), rfl⟩, List.mem_filter.mpr ⟨List.mem_of_getElem? (i := 84) (by decide +kernel), rfl⟩, ⟨by decide +kernel, by decide +kernel, by decide +kernel⟩⟩
theorem ws_X7_36 : xWS RX7 36 yJ9_min_7cf53 cJ9_min_7cf53 2 (Option.some Jvm.ClassFile.FieldType.int) 2 := ⟨List.mem_filter.mpr ⟨List.mem_of_getElem? (i := 76) (by decide +kernel), rfl⟩, List.mem_filter.mpr ⟨List.mem_of_getElem? (i := 77) (by decide +kernel), rfl⟩, List.mem_filter.mpr ⟨List.mem_of_getElem? (i := 46) (by decide +kernel), rfl⟩, List.mem_filter.mpr ⟨List.mem_of_getElem? (i := 78) (by decide +kernel), rfl⟩, ⟨by decide +kernel, by decide +kernel, by decide +kernel⟩⟩
theorem ws_X7_41 : xWS RX7 41 yJ9_max_7cf53 cJ9_max_7cf53 2 (Option.some Jvm.ClassFile.FieldType.int) 2 := ⟨List.mem_filter.mpr ⟨List.mem_of_getElem? (i := 79) (by decide +kernel), rfl⟩, List.mem_filter.mpr ⟨List.mem_of_getElem? (i := 80) (by decide +kernel), rfl⟩, List.mem_filter.mpr ⟨List.mem_of_getElem? (i := 46) (by decide +kernel), rfl⟩, List.mem_filter.mpr ⟨List.mem_of_getElem? (i := 81) (by decide +kernel), rfl⟩, ⟨by decide +kernel, by decide +kernel, by decide +kernel⟩⟩
theorem ws_X7_44 : xWS RX7 44 yJ6_bitCount_0f7a4 cJ6_bitCount_0f7a4 1 (Option.some Jvm.ClassFile.FieldType.int) 1 := ⟨List.mem_filter.mpr ⟨List.mem_of_getElem? (i := 617) (by decide +kernel), rfl⟩, List.mem_filter.mpr ⟨List.mem_of_getElem? (i := 618) (by decide +kernel), rfl⟩, List.mem_filter.mpr ⟨List.mem_of_getElem? (i := 58) (by decide +kernel), rfl⟩, List.mem_filter.mpr ⟨List.mem_of_getElem? (i := 619) (by decide +kernel), rfl⟩, ⟨by decide +kernel, by decide +kernel, by decide +kernel⟩⟩
theorem ws_X9_37 : xWS RX9 37 yJ7_fill_53178 cJ7_fill_53178 4 (Option.none : Option Jvm.ClassFile.FieldType) 2 := ⟨List.mem_filter.mpr ⟨List.mem_of_getElem? (i := 339) (by decide +kernel), rfl⟩, List.mem_filter.mpr ⟨List.mem_of_getElem? (i := 340) (by decide +kernel), rfl⟩, List.mem_filter.mpr ⟨List.mem_of_getElem? (i := 56) (by decide +kernel), rfl⟩, List.mem_filter.mpr ⟨List.mem_of_getElem? (i := 341) (by decide +kernel), rfl⟩, ⟨by decide +kernel, by decide +kernel, by decide +kernel⟩⟩
theorem wv_X9_49 : xWV RX9 49 yX9_lead cX9_lead 2 (Option.none : Option Jvm.ClassFile.FieldType) 1 := ⟨List.mem_filter.mpr ⟨List.mem_of_getElem? (i := 729) (by decide +kernel), rfl⟩, List.mem_filter.mpr ⟨List.mem_of_getElem? (i := 712) (by decide +kernel), rfl⟩, List.mem_filter.mpr ⟨List.mem_of_getElem? (i := 713) (by decide +kernel), rfl⟩, List.mem_filter.mpr ⟨List.mem_of_getElem? (i := 55) (by decide +kernel), rfl⟩, List.mem_filter.mpr ⟨List.mem_of_getElem? (i := 714) (by decide +kernel), rfl⟩, ⟨by decide +kernel, by decide +kernel, by decide +kernel⟩⟩
theorem ws_X9_56 : xWS RX9 56 yJ6_bitCount_0f7a4 cJ6_bitCount_0f7a4 1 (Option.some Jvm.ClassFile.FieldType.int) 1 := ⟨List.mem_filter.mpr ⟨List.mem_of_getElem? (i := 813) (by decide +kernel), rfl⟩, List.mem_filter.mpr ⟨List.mem_of_getElem? (i := 618) (by decide +kernel), rfl⟩, List.mem_filter.mpr ⟨List.mem_of_getElem? (i := 58) (by decide +kernel), rfl⟩, List.mem_filter.mpr ⟨List.mem_of_getElem? (i := 619) (by decide +kernel), rfl⟩, ⟨by decide +kernel, by decide +kernel, by decide +kernel⟩⟩
theorem ws_L_9 : xWS RL 9 yL_cell cL_cell 2 (Option.some Jvm.ClassFile.FieldType.int) 2 := ⟨List.mem_filter.mpr ⟨List.mem_of_getElem? (i := 830) (by decide +kernel), rfl⟩, List.mem_filter.mpr ⟨List.mem_of_getElem? (i := 831) (by decide +kernel), rfl⟩, List.mem_filter.mpr ⟨List.mem_of_getElem? (i := 43) (by decide +kernel), rfl⟩, List.mem_filter.mpr ⟨List.mem_of_getElem? (i := 832) (by decide +kernel), rfl⟩, ⟨by decide +kernel, by decide +kernel, by decide +kernel⟩⟩
theorem wi_L_15 : xWI RL 15 yX10_init cX10_init 8 6 := ⟨List.mem_filter.mpr ⟨List.mem_of_getElem? (i := 61) (by decide +kernel), rfl⟩, List.mem_filter.mpr ⟨List.mem_of_getElem? (i := 62) (by decide +kernel), rfl⟩, List.mem_filter.mpr ⟨List.mem_of_getElem? (i := 44) (by decide +kernel), rfl⟩, List.mem_filter.mpr ⟨List.mem_of_getElem? (i := 63) (by decide +kernel), rfl⟩, rfl, ⟨by decide +kernel, by decide +kernel, by decide +kernel⟩⟩
theorem wi_L_20 : xWI RL 20 yX11_init cX11_init 8 6 := ⟨List.mem_filter.mpr ⟨List.mem_of_getElem? (i := 835) (by decide +kernel), rfl⟩, List.mem_filter.mpr ⟨List.mem_of_getElem? (i := 836) (by decide +kernel), rfl⟩, List.mem_filter.mpr ⟨List.mem_of_getElem? (i := 57) (by decide +kernel), rfl⟩, List.mem_filter.mpr ⟨List.mem_of_getElem? (i := 837) (by decide +kernel), rfl⟩, rfl, ⟨by decide +kernel, by decide +kernel, by decide +kernel⟩⟩
theorem wv_L_21 : xWV RL 21 yX10_begin cX10_begin 2 (Option.some Jvm.ClassFile.FieldType.int) 1 := ⟨List.mem_filter.mpr ⟨List.mem_of_getElem? (i := 425) (by decide +kernel), rfl⟩, List.mem_filter.mpr ⟨List.mem_of_getElem? (i := 426) (by decide +kernel), rfl⟩, List.mem_filter.mpr ⟨List.mem_of_getElem? (i := 427) (by decide +kernel), rfl⟩, List.mem_filter.mpr ⟨List.mem_of_getElem? (i := 44) (by decide +kernel), rfl⟩, List.mem_filter.mpr ⟨List.mem_of_getElem? (i := 428) (by decide +kernel), rfl⟩, ⟨by decide +kernel, by decide +kernel, by decide +kernel⟩⟩
theorem wv_L_25 : xWV RL 25 yX11_begin cX11_begin 2 (Option.some Jvm.ClassFile.FieldType.int) 1 := ⟨List.mem_filter.mpr ⟨List.mem_of_getElem? (i := 965) (by decide +kernel), rfl⟩, List.mem_filter.mpr ⟨List.mem_of_getElem? (i := 966) (by decide +kernel), rfl⟩, List.mem_filter.mpr ⟨List.mem_of_getElem? (i := 967) (by decide +kernel), rfl⟩, List.mem_filter.mpr ⟨List.mem_of_getElem? (i := 57) (by decide +kernel), rfl⟩, List.mem_filter.mpr ⟨List.mem_of_getElem? (i := 968) (by decide +kernel), rfl⟩, ⟨by decide +kernel, by decide +kernel, by decide +kernel⟩⟩
theorem wv_L_26 : xWV RL 26 yX10_read cX10_read 3 (Option.some Jvm.ClassFile.FieldType.long) 2 := ⟨List.mem_filter.mpr ⟨List.mem_of_getElem? (i := 433) (by decide +kernel), rfl⟩, List.mem_filter.mpr ⟨List.mem_of_getElem? (i := 434) (by decide +kernel), rfl⟩, List.mem_filter.mpr ⟨List.mem_of_getElem? (i := 435) (by decide +kernel), rfl⟩, List.mem_filter.mpr ⟨List.mem_of_getElem? (i := 44) (by decide +kernel), rfl⟩, List.mem_filter.mpr ⟨List.mem_of_getElem? (i := 436) (by decide +kernel), rfl⟩, ⟨by decide +kernel, by decide +kernel, by decide +kernel⟩⟩
theorem wv_L_30 : xWV RL 30 yX11_read cX11_read 3 (Option.some Jvm.ClassFile.FieldType.long) 2 := ⟨List.mem_filter.mpr ⟨List.mem_of_getElem? (i := 976) (by decide +kernel), rfl⟩, List.mem_filter.mpr ⟨List.mem_of_getElem? (i := 977) (by decide +kernel), rfl⟩, List.mem_filter.mpr ⟨List.mem_of_getElem? (i := 978) (by decide +kernel), rfl⟩, List.mem_filter.mpr ⟨List.mem_of_getElem? (i := 57) (by decide +kernel), rfl⟩, List.mem_filter.mpr ⟨List.mem_of_getElem? (i := 979) (by decide +kernel), rfl⟩, ⟨by decide +kernel, by decide +kernel, by decide +kernel⟩⟩
theorem wv_L_31 : xWV RL 31 yX10_readStatus cX10_readStatus 1 (Option.some Jvm.ClassFile.FieldType.int) 0 := ⟨List.mem_filter.mpr ⟨List.mem_of_getElem? (i := 470) (by decide +kernel), rfl⟩, List.mem_filter.mpr ⟨List.mem_of_getElem? (i := 471) (by decide +kernel), rfl⟩, List.mem_filter.mpr ⟨List.mem_of_getElem? (i := 472) (by decide +kernel), rfl⟩, List.mem_filter.mpr ⟨List.mem_of_getElem? (i := 44) (by decide +kernel), rfl⟩, List.mem_filter.mpr ⟨List.mem_of_getElem? (i := 473) (by decide +kernel), rfl⟩, ⟨by decide +kernel, by decide +kernel, by decide +kernel⟩⟩
theorem wv_L_35 : xWV RL 35 yX11_readStatus cX11_readStatus 1 (Option.some Jvm.ClassFile.FieldType.int) 0 := ⟨List.mem_filter.mpr ⟨List.mem_of_getElem? (i := 992) (by decide +kernel), rfl⟩, List.mem_filter.mpr ⟨List.mem_of_getElem? (i := 993) (by decide +kernel), rfl⟩, List.mem_filter.mpr ⟨List.mem_of_getElem? (i := 994) (by decide +kernel), rfl⟩, List.mem_filter.mpr ⟨List.mem_of_getElem? (i := 57) (by decide +kernel), rfl⟩, List.mem_filter.mpr ⟨List.mem_of_getElem? (i := 995) (by decide +kernel), rfl⟩, ⟨by decide +kernel, by decide +kernel, by decide +kernel⟩⟩
theorem wv_L_38 : xWV RL 38 yX10_write cX10_write 6 (Option.some Jvm.ClassFile.FieldType.int) 3 := ⟨List.mem_filter.mpr ⟨List.mem_of_getElem? (i := 474) (by decide +kernel), rfl⟩, List.mem_filter.mpr ⟨List.mem_of_getElem? (i := 475) (by decide +kernel), rfl⟩, List.mem_filter.mpr ⟨List.mem_of_getElem? (i := 476) (by decide +kernel), rfl⟩, List.mem_filter.mpr ⟨List.mem_of_getElem? (i := 44) (by decide +kernel), rfl⟩, List.mem_filter.mpr ⟨List.mem_of_getElem? (i := 477) (by decide +kernel), rfl⟩, ⟨by decide +kernel, by decide +kernel, by decide +kernel⟩⟩
theorem wv_L_42 : xWV RL 42 yX11_write cX11_write 6 (Option.some Jvm.ClassFile.FieldType.int) 3 := ⟨List.mem_filter.mpr ⟨List.mem_of_getElem? (i := 996) (by decide +kernel), rfl⟩, List.mem_filter.mpr ⟨List.mem_of_getElem? (i := 997) (by decide +kernel), rfl⟩, List.mem_filter.mpr ⟨List.mem_of_getElem? (i := 998) (by decide +kernel), rfl⟩, List.mem_filter.mpr ⟨List.mem_of_getElem? (i := 57) (by decide +kernel), rfl⟩, List.mem_filter.mpr ⟨List.mem_of_getElem? (i := 999) (by decide +kernel), rfl⟩, ⟨by decide +kernel, by decide +kernel, by decide +kernel⟩⟩
theorem wv_L_43 : xWV RL 43 yX10_requestCommit cX10_requestCommit 4 (Option.some Jvm.ClassFile.FieldType.int) 1 := ⟨List.mem_filter.mpr ⟨List.mem_of_getElem? (i := 482) (by decide +kernel), rfl⟩, List.mem_filter.mpr ⟨List.mem_of_getElem? (i := 483) (by decide +kernel), rfl⟩, List.mem_filter.mpr ⟨List.mem_of_getElem? (i := 484) (by decide +kernel), rfl⟩, List.mem_filter.mpr ⟨List.mem_of_getElem? (i := 44) (by decide +kernel), rfl⟩, List.mem_filter.mpr ⟨List.mem_of_getElem? (i := 485) (by decide +kernel), rfl⟩, ⟨by decide +kernel, by decide +kernel, by decide +kernel⟩⟩
theorem wv_L_46 : xWV RL 46 yX11_requestCommit cX11_requestCommit 4 (Option.some Jvm.ClassFile.FieldType.int) 1 := ⟨List.mem_filter.mpr ⟨List.mem_of_getElem? (i := 1000) (by decide +kernel), rfl⟩, List.mem_filter.mpr ⟨List.mem_of_getElem? (i := 1001) (by decide +kernel), rfl⟩, List.mem_filter.mpr ⟨List.mem_of_getElem? (i := 1002) (by decide +kernel), rfl⟩, List.mem_filter.mpr ⟨List.mem_of_getElem? (i := 57) (by decide +kernel), rfl⟩, List.mem_filter.mpr ⟨List.mem_of_getElem? (i := 1003) (by decide +kernel), rfl⟩, ⟨by decide +kernel, by decide +kernel, by decide +kernel⟩⟩
theorem wv_L_47 : xWV RL 47 yX10_abort cX10_abort 6 (Option.some Jvm.ClassFile.FieldType.int) 1 := ⟨List.mem_filter.mpr ⟨List.mem_of_getElem? (i := 506) (by decide +kernel), rfl⟩, List.mem_filter.mpr ⟨List.mem_of_getElem? (i := 507) (by decide +kernel), rfl⟩, List.mem_filter.mpr ⟨List.mem_of_getElem? (i := 508) (by decide +kernel), rfl⟩, List.mem_filter.mpr ⟨List.mem_of_getElem? (i := 44) (by decide +kernel), rfl⟩, List.mem_filter.mpr ⟨List.mem_of_getElem? (i := 509) (by decide +kernel), rfl⟩, ⟨by decide +kernel, by decide +kernel, by decide +kernel⟩⟩
theorem wv_L_50 : xWV RL 50 yX11_abort cX11_abort 3 (Option.some Jvm.ClassFile.FieldType.int) 1 := ⟨List.mem_filter.mpr ⟨List.mem_of_getElem? (i := 1008) (by decide +kernel), rfl⟩, List.mem_filter.mpr ⟨List.mem_of_getElem? (i := 1009) (by decide +kernel), rfl⟩, List.mem_filter.mpr ⟨List.mem_of_getElem? (i := 1010) (by decide +kernel), rfl⟩, List.mem_filter.mpr ⟨List.mem_of_getElem? (i := 57) (by decide +kernel), rfl⟩, List.mem_filter.mpr ⟨List.mem_of_getElem? (i := 1011) (by decide +kernel), rfl⟩, ⟨by decide +kernel, by decide +kernel, by decide +kernel⟩⟩
theorem wv_L_51 : xWV RL 51 yX10_outcome cX10_outcome 2 (Option.some Jvm.ClassFile.FieldType.int) 1 := ⟨List.mem_filter.mpr ⟨List.mem_of_getElem? (i := 519) (by decide +kernel), rfl⟩, List.mem_filter.mpr ⟨List.mem_of_getElem? (i := 520) (by decide +kernel), rfl⟩, List.mem_filter.mpr ⟨List.mem_of_getElem? (i := 521) (by decide +kernel), rfl⟩, List.mem_filter.mpr ⟨List.mem_of_getElem? (i := 44) (by decide +kernel), rfl⟩, List.mem_filter.mpr ⟨List.mem_of_getElem? (i := 522) (by decide +kernel), rfl⟩, ⟨by decide +kernel, by decide +kernel, by decide +kernel⟩⟩
theorem wv_L_54 : xWV RL 54 yX11_outcome cX11_outcome 2 (Option.some Jvm.ClassFile.FieldType.int) 1 := ⟨List.mem_filter.mpr ⟨List.mem_of_getElem? (i := 1016) (by decide +kernel), rfl⟩, List.mem_filter.mpr ⟨List.mem_of_getElem? (i := 1017) (by decide +kernel), rfl⟩, List.mem_filter.mpr ⟨List.mem_of_getElem? (i := 1018) (by decide +kernel), rfl⟩, List.mem_filter.mpr ⟨List.mem_of_getElem? (i := 57) (by decide +kernel), rfl⟩, List.mem_filter.mpr ⟨List.mem_of_getElem? (i := 1019) (by decide +kernel), rfl⟩, ⟨by decide +kernel, by decide +kernel, by decide +kernel⟩⟩
theorem wv_L_55 : xWV RL 55 yX10_committedValue cX10_committedValue 2 (Option.some Jvm.ClassFile.FieldType.long) 1 := ⟨List.mem_filter.mpr ⟨List.mem_of_getElem? (i := 523) (by decide +kernel), rfl⟩, List.mem_filter.mpr ⟨List.mem_of_getElem? (i := 524) (by decide +kernel), rfl⟩, List.mem_filter.mpr ⟨List.mem_of_getElem? (i := 525) (by decide +kernel), rfl⟩, List.mem_filter.mpr ⟨List.mem_of_getElem? (i := 44) (by decide +kernel), rfl⟩, List.mem_filter.mpr ⟨List.mem_of_getElem? (i := 526) (by decide +kernel), rfl⟩, ⟨by decide +kernel, by decide +kernel, by decide +kernel⟩⟩
theorem wv_L_59 : xWV RL 59 yX11_committedValue cX11_committedValue 2 (Option.some Jvm.ClassFile.FieldType.long) 1 := ⟨List.mem_filter.mpr ⟨List.mem_of_getElem? (i := 1020) (by decide +kernel), rfl⟩, List.mem_filter.mpr ⟨List.mem_of_getElem? (i := 1021) (by decide +kernel), rfl⟩, List.mem_filter.mpr ⟨List.mem_of_getElem? (i := 1022) (by decide +kernel), rfl⟩, List.mem_filter.mpr ⟨List.mem_of_getElem? (i := 57) (by decide +kernel), rfl⟩, List.mem_filter.mpr ⟨List.mem_of_getElem? (i := 1023) (by decide +kernel), rfl⟩, ⟨by decide +kernel, by decide +kernel, by decide +kernel⟩⟩
theorem wv_L_60 : xWV RL 60 yX10_deliver cX10_deliver 2 (Option.some Jvm.ClassFile.FieldType.int) 1 := ⟨List.mem_filter.mpr ⟨List.mem_of_getElem? (i := 527) (by decide +kernel), rfl⟩, List.mem_filter.mpr ⟨List.mem_of_getElem? (i := 528) (by decide +kernel), rfl⟩, List.mem_filter.mpr ⟨List.mem_of_getElem? (i := 529) (by decide +kernel), rfl⟩, List.mem_filter.mpr ⟨List.mem_of_getElem? (i := 44) (by decide +kernel), rfl⟩, List.mem_filter.mpr ⟨List.mem_of_getElem? (i := 530) (by decide +kernel), rfl⟩, ⟨by decide +kernel, by decide +kernel, by decide +kernel⟩⟩
theorem wv_L_63 : xWV RL 63 yX11_deliver cX11_deliver 3 (Option.some Jvm.ClassFile.FieldType.int) 1 := ⟨List.mem_filter.mpr ⟨List.mem_of_getElem? (i := 1024) (by decide +kernel), rfl⟩, List.mem_filter.mpr ⟨List.mem_of_getElem? (i := 1025) (by decide +kernel), rfl⟩, List.mem_filter.mpr ⟨List.mem_of_getElem? (i := 1026) (by decide +kernel), rfl⟩, List.mem_filter.mpr ⟨List.mem_of_getElem? (i := 57) (by decide +kernel), rfl⟩, List.mem_filter.mpr ⟨List.mem_of_getElem? (i := 1027) (by decide +kernel), rfl⟩, ⟨by decide +kernel, by decide +kernel, by decide +kernel⟩⟩
theorem wv_L_64 : xWV RL 64 yX10_drop cX10_drop 2 (Option.some Jvm.ClassFile.FieldType.int) 1 := ⟨List.mem_filter.mpr ⟨List.mem_of_getElem? (i := 687) (by decide +kernel), rfl⟩, List.mem_filter.mpr ⟨List.mem_of_getElem? (i := 688) (by decide +kernel), rfl⟩, List.mem_filter.mpr ⟨List.mem_of_getElem? (i := 689) (by decide +kernel), rfl⟩, List.mem_filter.mpr ⟨List.mem_of_getElem? (i := 44) (by decide +kernel), rfl⟩, List.mem_filter.mpr ⟨List.mem_of_getElem? (i := 690) (by decide +kernel), rfl⟩, ⟨by decide +kernel, by decide +kernel, by decide +kernel⟩⟩
theorem wv_L_67 : xWV RL 67 yX11_drop cX11_drop 2 (Option.some Jvm.ClassFile.FieldType.int) 1 := ⟨List.mem_filter.mpr ⟨List.mem_of_getElem? (i := 1079) (by decide +kernel), rfl⟩, List.mem_filter.mpr ⟨List.mem_of_getElem? (i := 1080) (by decide +kernel), rfl⟩, List.mem_filter.mpr ⟨List.mem_of_getElem? (i := 1081) (by decide +kernel), rfl⟩, List.mem_filter.mpr ⟨List.mem_of_getElem? (i := 57) (by decide +kernel), rfl⟩, List.mem_filter.mpr ⟨List.mem_of_getElem? (i := 1082) (by decide +kernel), rfl⟩, ⟨by decide +kernel, by decide +kernel, by decide +kernel⟩⟩
theorem wv_L_68 : xWV RL 68 yX10_twice cX10_twice 3 (Option.some Jvm.ClassFile.FieldType.int) 1 := ⟨List.mem_filter.mpr ⟨List.mem_of_getElem? (i := 691) (by decide +kernel), rfl⟩, List.mem_filter.mpr ⟨List.mem_of_getElem? (i := 692) (by decide +kernel), rfl⟩, List.mem_filter.mpr ⟨List.mem_of_getElem? (i := 693) (by decide +kernel), rfl⟩, List.mem_filter.mpr ⟨List.mem_of_getElem? (i := 44) (by decide +kernel), rfl⟩, List.mem_filter.mpr ⟨List.mem_of_getElem? (i := 694) (by decide +kernel), rfl⟩, ⟨by decide +kernel, by decide +kernel, by decide +kernel⟩⟩
theorem wv_L_71 : xWV RL 71 yX11_twice cX11_twice 5 (Option.some Jvm.ClassFile.FieldType.int) 1 := ⟨List.mem_filter.mpr ⟨List.mem_of_getElem? (i := 1083) (by decide +kernel), rfl⟩, List.mem_filter.mpr ⟨List.mem_of_getElem? (i := 1084) (by decide +kernel), rfl⟩, List.mem_filter.mpr ⟨List.mem_of_getElem? (i := 1085) (by decide +kernel), rfl⟩, List.mem_filter.mpr ⟨List.mem_of_getElem? (i := 57) (by decide +kernel), rfl⟩, List.mem_filter.mpr ⟨List.mem_of_getElem? (i := 1086) (by decide +kernel), rfl⟩, ⟨by decide +kernel, by decide +kernel, by decide +kernel⟩⟩
theorem wv_L_72 : xWV RL 72 yX10_timeout cX10_timeout 5 (Option.some Jvm.ClassFile.FieldType.int) 2 := ⟨List.mem_filter.mpr ⟨List.mem_of_getElem? (i := 695) (by decide +kernel), rfl⟩, List.mem_filter.mpr ⟨List.mem_of_getElem? (i := 696) (by decide +kernel), rfl⟩, List.mem_filter.mpr ⟨List.mem_of_getElem? (i := 697) (by decide +kernel), rfl⟩, List.mem_filter.mpr ⟨List.mem_of_getElem? (i := 44) (by decide +kernel), rfl⟩, List.mem_filter.mpr ⟨List.mem_of_getElem? (i := 698) (by decide +kernel), rfl⟩, ⟨by decide +kernel, by decide +kernel, by decide +kernel⟩⟩
theorem wv_L_76 : xWV RL 76 yX11_timeout cX11_timeout 6 (Option.some Jvm.ClassFile.FieldType.int) 2 := ⟨List.mem_filter.mpr ⟨List.mem_of_getElem? (i := 1087) (by decide +kernel), rfl⟩, List.mem_filter.mpr ⟨List.mem_of_getElem? (i := 1088) (by decide +kernel), rfl⟩, List.mem_filter.mpr ⟨List.mem_of_getElem? (i := 1089) (by decide +kernel), rfl⟩, List.mem_filter.mpr ⟨List.mem_of_getElem? (i := 57) (by decide +kernel), rfl⟩, List.mem_filter.mpr ⟨List.mem_of_getElem? (i := 1090) (by decide +kernel), rfl⟩, ⟨by decide +kernel, by decide +kernel, by decide +kernel⟩⟩
theorem wv_L_77 : xWV RL 77 yX10_crash cX10_crash 3 (Option.some Jvm.ClassFile.FieldType.int) 1 := ⟨List.mem_filter.mpr ⟨List.mem_of_getElem? (i := 715) (by decide +kernel), rfl⟩, List.mem_filter.mpr ⟨List.mem_of_getElem? (i := 716) (by decide +kernel), rfl⟩, List.mem_filter.mpr ⟨List.mem_of_getElem? (i := 717) (by decide +kernel), rfl⟩, List.mem_filter.mpr ⟨List.mem_of_getElem? (i := 44) (by decide +kernel), rfl⟩, List.mem_filter.mpr ⟨List.mem_of_getElem? (i := 718) (by decide +kernel), rfl⟩, ⟨by decide +kernel, by decide +kernel, by decide +kernel⟩⟩
theorem wv_L_80 : xWV RL 80 yX11_crash cX11_crash 4 (Option.some Jvm.ClassFile.FieldType.int) 1 := ⟨List.mem_filter.mpr ⟨List.mem_of_getElem? (i := 1095) (by decide +kernel), rfl⟩, List.mem_filter.mpr ⟨List.mem_of_getElem? (i := 1096) (by decide +kernel), rfl⟩, List.mem_filter.mpr ⟨List.mem_of_getElem? (i := 1097) (by decide +kernel), rfl⟩, List.mem_filter.mpr ⟨List.mem_of_getElem? (i := 57) (by decide +kernel), rfl⟩, List.mem_filter.mpr ⟨List.mem_of_getElem? (i := 1098) (by decide +kernel), rfl⟩, ⟨by decide +kernel, by decide +kernel, by decide +kernel⟩⟩
theorem wv_L_81 : xWV RL 81 yX10_restart cX10_restart 3 (Option.some Jvm.ClassFile.FieldType.int) 1 := ⟨List.mem_filter.mpr ⟨List.mem_of_getElem? (i := 733) (by decide +kernel), rfl⟩, List.mem_filter.mpr ⟨List.mem_of_getElem? (i := 734) (by decide +kernel), rfl⟩, List.mem_filter.mpr ⟨List.mem_of_getElem? (i := 735) (by decide +kernel), rfl⟩, List.mem_filter.mpr ⟨List.mem_of_getElem? (i := 44) (by decide +kernel), rfl⟩, List.mem_filter.mpr ⟨List.mem_of_getElem? (i := 736) (by decide +kernel), rfl⟩, ⟨by decide +kernel, by decide +kernel, by decide +kernel⟩⟩
theorem wv_L_84 : xWV RL 84 yX11_restart cX11_restart 3 (Option.some Jvm.ClassFile.FieldType.int) 1 := ⟨List.mem_filter.mpr ⟨List.mem_of_getElem? (i := 1103) (by decide +kernel), rfl⟩, List.mem_filter.mpr ⟨List.mem_of_getElem? (i := 1104) (by decide +kernel), rfl⟩, List.mem_filter.mpr ⟨List.mem_of_getElem? (i := 1105) (by decide +kernel), rfl⟩, List.mem_filter.mpr ⟨List.mem_of_getElem? (i := 57) (by decide +kernel), rfl⟩, List.mem_filter.mpr ⟨List.mem_of_getElem? (i := 1106) (by decide +kernel), rfl⟩, ⟨by decide +kernel, by decide +kernel, by decide +kernel⟩⟩
theorem wv_L_85 : xWV RL 85 yX10_pending cX10_pending 1 (Option.some Jvm.ClassFile.FieldType.int) 0 := ⟨List.mem_filter.mpr ⟨List.mem_of_getElem? (i := 737) (by decide +kernel), rfl⟩, List.mem_filter.mpr ⟨List.mem_of_getElem? (i := 738) (by decide +kernel), rfl⟩, List.mem_filter.mpr ⟨List.mem_of_getElem? (i := 739) (by decide +kernel), rfl⟩, List.mem_filter.mpr ⟨List.mem_of_getElem? (i := 44) (by decide +kernel), rfl⟩, List.mem_filter.mpr ⟨List.mem_of_getElem? (i := 740) (by decide +kernel), rfl⟩, ⟨by decide +kernel, by decide +kernel, by decide +kernel⟩⟩
theorem wv_L_88 : xWV RL 88 yX11_pending cX11_pending 1 (Option.some Jvm.ClassFile.FieldType.int) 0 := ⟨List.mem_filter.mpr ⟨List.mem_of_getElem? (i := 1107) (by decide +kernel), rfl⟩, List.mem_filter.mpr ⟨List.mem_of_getElem? (i := 1108) (by decide +kernel), rfl⟩, List.mem_filter.mpr ⟨List.mem_of_getElem? (i := 1109) (by decide +kernel), rfl⟩, List.mem_filter.mpr ⟨List.mem_of_getElem? (i := 57) (by decide +kernel), rfl⟩, List.mem_filter.mpr ⟨List.mem_of_getElem? (i := 1110) (by decide +kernel), rfl⟩, ⟨by decide +kernel, by decide +kernel, by decide +kernel⟩⟩
theorem wv_L_89 : xWV RL 89 yX10_play cX10_play 8 (Option.some Jvm.ClassFile.FieldType.int) 2 := ⟨List.mem_filter.mpr ⟨List.mem_of_getElem? (i := 741) (by decide +kernel), rfl⟩, List.mem_filter.mpr ⟨List.mem_of_getElem? (i := 742) (by decide +kernel), rfl⟩, List.mem_filter.mpr ⟨List.mem_of_getElem? (i := 743) (by decide +kernel), rfl⟩, List.mem_filter.mpr ⟨List.mem_of_getElem? (i := 44) (by decide +kernel), rfl⟩, List.mem_filter.mpr ⟨List.mem_of_getElem? (i := 744) (by decide +kernel), rfl⟩, ⟨by decide +kernel, by decide +kernel, by decide +kernel⟩⟩
theorem wv_L_93 : xWV RL 93 yX11_play cX11_play 9 (Option.some Jvm.ClassFile.FieldType.int) 2 := ⟨List.mem_filter.mpr ⟨List.mem_of_getElem? (i := 1111) (by decide +kernel), rfl⟩, List.mem_filter.mpr ⟨List.mem_of_getElem? (i := 1112) (by decide +kernel), rfl⟩, List.mem_filter.mpr ⟨List.mem_of_getElem? (i := 1113) (by decide +kernel), rfl⟩, List.mem_filter.mpr ⟨List.mem_of_getElem? (i := 57) (by decide +kernel), rfl⟩, List.mem_filter.mpr ⟨List.mem_of_getElem? (i := 1114) (by decide +kernel), rfl⟩, ⟨by decide +kernel, by decide +kernel, by decide +kernel⟩⟩
theorem wv_L_94 : xWV RL 94 yX10_message cX10_message 3 (Option.some Jvm.ClassFile.FieldType.int) 2 := ⟨List.mem_filter.mpr ⟨List.mem_of_getElem? (i := 748) (by decide +kernel), rfl⟩, List.mem_filter.mpr ⟨List.mem_of_getElem? (i := 749) (by decide +kernel), rfl⟩, List.mem_filter.mpr ⟨List.mem_of_getElem? (i := 750) (by decide +kernel), rfl⟩, List.mem_filter.mpr ⟨List.mem_of_getElem? (i := 44) (by decide +kernel), rfl⟩, List.mem_filter.mpr ⟨List.mem_of_getElem? (i := 751) (by decide +kernel), rfl⟩, ⟨by decide +kernel, by decide +kernel, by decide +kernel⟩⟩
theorem wv_L_97 : xWV RL 97 yX11_message cX11_message 3 (Option.some Jvm.ClassFile.FieldType.int) 2 := ⟨List.mem_filter.mpr ⟨List.mem_of_getElem? (i := 1119) (by decide +kernel), rfl⟩, List.mem_filter.mpr ⟨List.mem_of_getElem? (i := 1120) (by decide +kernel), rfl⟩, List.mem_filter.mpr ⟨List.mem_of_getElem? (i := 1121) (by decide +kernel), rfl⟩, List.mem_filter.mpr ⟨List.mem_of_getElem? (i := 57) (by decide +kernel), rfl⟩, List.mem_filter.mpr ⟨List.mem_of_getElem? (i := 1122) (by decide +kernel), rfl⟩, ⟨by decide +kernel, by decide +kernel, by decide +kernel⟩⟩
theorem wv_L_98 : xWV RL 98 yX10_lock cX10_lock 3 (Option.some Jvm.ClassFile.FieldType.int) 2 := ⟨List.mem_filter.mpr ⟨List.mem_of_getElem? (i := 756) (by decide +kernel), rfl⟩, List.mem_filter.mpr ⟨List.mem_of_getElem? (i := 757) (by decide +kernel), rfl⟩, List.mem_filter.mpr ⟨List.mem_of_getElem? (i := 758) (by decide +kernel), rfl⟩, List.mem_filter.mpr ⟨List.mem_of_getElem? (i := 44) (by decide +kernel), rfl⟩, List.mem_filter.mpr ⟨List.mem_of_getElem? (i := 759) (by decide +kernel), rfl⟩, ⟨by decide +kernel, by decide +kernel, by decide +kernel⟩⟩
theorem wv_L_101 : xWV RL 101 yX11_lock cX11_lock 4 (Option.some Jvm.ClassFile.FieldType.int) 2 := ⟨List.mem_filter.mpr ⟨List.mem_of_getElem? (i := 1123) (by decide +kernel), rfl⟩, List.mem_filter.mpr ⟨List.mem_of_getElem? (i := 1124) (by decide +kernel), rfl⟩, List.mem_filter.mpr ⟨List.mem_of_getElem? (i := 1125) (by decide +kernel), rfl⟩, List.mem_filter.mpr ⟨List.mem_of_getElem? (i := 57) (by decide +kernel), rfl⟩, List.mem_filter.mpr ⟨List.mem_of_getElem? (i := 1126) (by decide +kernel), rfl⟩, ⟨by decide +kernel, by decide +kernel, by decide +kernel⟩⟩
theorem wv_L_102 : xWV RL 102 yX10_node cX10_node 4 (Option.some Jvm.ClassFile.FieldType.int) 2 := ⟨List.mem_filter.mpr ⟨List.mem_of_getElem? (i := 772) (by decide +kernel), rfl⟩, List.mem_filter.mpr ⟨List.mem_of_getElem? (i := 773) (by decide +kernel), rfl⟩, List.mem_filter.mpr ⟨List.mem_of_getElem? (i := 774) (by decide +kernel), rfl⟩, List.mem_filter.mpr ⟨List.mem_of_getElem? (i := 44) (by decide +kernel), rfl⟩, List.mem_filter.mpr ⟨List.mem_of_getElem? (i := 775) (by decide +kernel), rfl⟩, ⟨by decide +kernel, by decide +kernel, by decide +kernel⟩⟩
theorem wv_L_105 : xWV RL 105 yX11_node cX11_node 6 (Option.some Jvm.ClassFile.FieldType.int) 2 := ⟨List.mem_filter.mpr ⟨List.mem_of_getElem? (i := 1127) (by decide +kernel), rfl⟩, List.mem_filter.mpr ⟨List.mem_of_getElem? (i := 1128) (by decide +kernel), rfl⟩, List.mem_filter.mpr ⟨List.mem_of_getElem? (i := 1129) (by decide +kernel), rfl⟩, List.mem_filter.mpr ⟨List.mem_of_getElem? (i := 57) (by decide +kernel), rfl⟩, List.mem_filter.mpr ⟨List.mem_of_getElem? (i := 1130) (by decide +kernel), rfl⟩, ⟨by decide +kernel, by decide +kernel, by decide +kernel⟩⟩
theorem wv_L_106 : xWV RL 106 yX10_entry cX10_entry 5 (Option.some Jvm.ClassFile.FieldType.int) 3 := ⟨List.mem_filter.mpr ⟨List.mem_of_getElem? (i := 797) (by decide +kernel), rfl⟩, List.mem_filter.mpr ⟨List.mem_of_getElem? (i := 798) (by decide +kernel), rfl⟩, List.mem_filter.mpr ⟨List.mem_of_getElem? (i := 799) (by decide +kernel), rfl⟩, List.mem_filter.mpr ⟨List.mem_of_getElem? (i := 44) (by decide +kernel), rfl⟩, List.mem_filter.mpr ⟨List.mem_of_getElem? (i := 800) (by decide +kernel), rfl⟩, ⟨by decide +kernel, by decide +kernel, by decide +kernel⟩⟩
theorem wv_L_110 : xWV RL 110 yX11_entry cX11_entry 4 (Option.some Jvm.ClassFile.FieldType.int) 3 := ⟨List.mem_filter.mpr ⟨List.mem_of_getElem? (i := 1131) (by decide +kernel), rfl⟩, List.mem_filter.mpr ⟨List.mem_of_getElem? (i := 1132) (by decide +kernel), rfl⟩, List.mem_filter.mpr ⟨List.mem_of_getElem? (i := 1133) (by decide +kernel), rfl⟩, List.mem_filter.mpr ⟨List.mem_of_getElem? (i := 57) (by decide +kernel), rfl⟩, List.mem_filter.mpr ⟨List.mem_of_getElem? (i := 1134) (by decide +kernel), rfl⟩, ⟨by decide +kernel, by decide +kernel, by decide +kernel⟩⟩
theorem wv_L_111 : xWV RL 111 yX10_ballot cX10_ballot 5 (Option.some Jvm.ClassFile.FieldType.int) 3 := ⟨List.mem_filter.mpr ⟨List.mem_of_getElem? (i := 805) (by decide +kernel), rfl⟩, List.mem_filter.mpr ⟨List.mem_of_getElem? (i := 806) (by decide +kernel), rfl⟩, List.mem_filter.mpr ⟨List.mem_of_getElem? (i := 807) (by decide +kernel), rfl⟩, List.mem_filter.mpr ⟨List.mem_of_getElem? (i := 44) (by decide +kernel), rfl⟩, List.mem_filter.mpr ⟨List.mem_of_getElem? (i := 808) (by decide +kernel), rfl⟩, ⟨by decide +kernel, by decide +kernel, by decide +kernel⟩⟩
theorem wv_L_114 : xWV RL 114 yX11_ballot cX11_ballot 5 (Option.some Jvm.ClassFile.FieldType.int) 3 := ⟨List.mem_filter.mpr ⟨List.mem_of_getElem? (i := 1135) (by decide +kernel), rfl⟩, List.mem_filter.mpr ⟨List.mem_of_getElem? (i := 1136) (by decide +kernel), rfl⟩, List.mem_filter.mpr ⟨List.mem_of_getElem? (i := 1137) (by decide +kernel), rfl⟩, List.mem_filter.mpr ⟨List.mem_of_getElem? (i := 57) (by decide +kernel), rfl⟩, List.mem_filter.mpr ⟨List.mem_of_getElem? (i := 1138) (by decide +kernel), rfl⟩, ⟨by decide +kernel, by decide +kernel, by decide +kernel⟩⟩
theorem wv_L_115 : xWV RL 115 yX10_accepted cX10_accepted 6 (Option.some Jvm.ClassFile.FieldType.int) 4 := ⟨List.mem_filter.mpr ⟨List.mem_of_getElem? (i := 814) (by decide +kernel), rfl⟩, List.mem_filter.mpr ⟨List.mem_of_getElem? (i := 815) (by decide +kernel), rfl⟩, List.mem_filter.mpr ⟨List.mem_of_getElem? (i := 816) (by decide +kernel), rfl⟩, List.mem_filter.mpr ⟨List.mem_of_getElem? (i := 44) (by decide +kernel), rfl⟩, List.mem_filter.mpr ⟨List.mem_of_getElem? (i := 817) (by decide +kernel), rfl⟩, ⟨by decide +kernel, by decide +kernel, by decide +kernel⟩⟩
theorem wv_L_119 : xWV RL 119 yX11_accepted cX11_accepted 6 (Option.some Jvm.ClassFile.FieldType.int) 4 := ⟨List.mem_filter.mpr ⟨List.mem_of_getElem? (i := 1139) (by decide +kernel), rfl⟩, List.mem_filter.mpr ⟨List.mem_of_getElem? (i := 1140) (by decide +kernel), rfl⟩, List.mem_filter.mpr ⟨List.mem_of_getElem? (i := 1141) (by decide +kernel), rfl⟩, List.mem_filter.mpr ⟨List.mem_of_getElem? (i := 57) (by decide +kernel), rfl⟩, List.mem_filter.mpr ⟨List.mem_of_getElem? (i := 1142) (by decide +kernel), rfl⟩, ⟨by decide +kernel, by decide +kernel, by decide +kernel⟩⟩
theorem wv_L_120 : xWV RL 120 yX10_count cX10_count 2 (Option.some Jvm.ClassFile.FieldType.int) 1 := ⟨List.mem_filter.mpr ⟨List.mem_of_getElem? (i := 822) (by decide +kernel), rfl⟩, List.mem_filter.mpr ⟨List.mem_of_getElem? (i := 823) (by decide +kernel), rfl⟩, List.mem_filter.mpr ⟨List.mem_of_getElem? (i := 824) (by decide +kernel), rfl⟩, List.mem_filter.mpr ⟨List.mem_of_getElem? (i := 44) (by decide +kernel), rfl⟩, List.mem_filter.mpr ⟨List.mem_of_getElem? (i := 825) (by decide +kernel), rfl⟩, ⟨by decide +kernel, by decide +kernel, by decide +kernel⟩⟩
theorem wv_L_123 : xWV RL 123 yX11_count cX11_count 4 (Option.some Jvm.ClassFile.FieldType.int) 1 := ⟨List.mem_filter.mpr ⟨List.mem_of_getElem? (i := 1143) (by decide +kernel), rfl⟩, List.mem_filter.mpr ⟨List.mem_of_getElem? (i := 1144) (by decide +kernel), rfl⟩, List.mem_filter.mpr ⟨List.mem_of_getElem? (i := 1145) (by decide +kernel), rfl⟩, List.mem_filter.mpr ⟨List.mem_of_getElem? (i := 57) (by decide +kernel), rfl⟩, List.mem_filter.mpr ⟨List.mem_of_getElem? (i := 1146) (by decide +kernel), rfl⟩, ⟨by decide +kernel, by decide +kernel, by decide +kernel⟩⟩
theorem ws_X11_93 : xWS RX11 93 yX11_near cX11_near 3 (Option.some Jvm.ClassFile.FieldType.int) 3 := ⟨List.mem_filter.mpr ⟨List.mem_of_getElem? (i := 839) (by decide +kernel), rfl⟩, List.mem_filter.mpr ⟨List.mem_of_getElem? (i := 840) (by decide +kernel), rfl⟩, List.mem_filter.mpr ⟨List.mem_of_getElem? (i := 57) (by decide +kernel), rfl⟩, List.mem_filter.mpr ⟨List.mem_of_getElem? (i := 841) (by decide +kernel), rfl⟩, ⟨by decide +kernel, by decide +kernel, by decide +kernel⟩⟩
theorem wv_X11_116 : xWV RX11 116 yX11_forget cX11_forget 3 (Option.none : Option Jvm.ClassFile.FieldType) 1 := ⟨List.mem_filter.mpr ⟨List.mem_of_getElem? (i := 842) (by decide +kernel), rfl⟩, List.mem_filter.mpr ⟨List.mem_of_getElem? (i := 844) (by decide +kernel), rfl⟩, List.mem_filter.mpr ⟨List.mem_of_getElem? (i := 21) (by decide +kernel), rfl⟩, List.mem_filter.mpr ⟨List.mem_of_getElem? (i := 57) (by decide +kernel), rfl⟩, List.mem_filter.mpr ⟨List.mem_of_getElem? (i := 845) (by decide +kernel), rfl⟩, ⟨by decide +kernel, by decide +kernel, by decide +kernel⟩⟩
theorem ws_X11_120 : xWS RX11 120 yX11_in cX11_in 3 (Option.some Jvm.ClassFile.FieldType.boolean) 3 := ⟨List.mem_filter.mpr ⟨List.mem_of_getElem? (i := 973) (by decide +kernel), rfl⟩, List.mem_filter.mpr ⟨List.mem_of_getElem? (i := 974) (by decide +kernel), rfl⟩, List.mem_filter.mpr ⟨List.mem_of_getElem? (i := 57) (by decide +kernel), rfl⟩, List.mem_filter.mpr ⟨List.mem_of_getElem? (i := 975) (by decide +kernel), rfl⟩, ⟨by decide +kernel, by decide +kernel, by decide +kernel⟩⟩
theorem ws_X11_124 : xWS RX11 124 yX11_bits cX11_bits 3 (Option.some Jvm.ClassFile.FieldType.int) 1 := ⟨List.mem_filter.mpr ⟨List.mem_of_getElem? (i := 1064) (by decide +kernel), rfl⟩, List.mem_filter.mpr ⟨List.mem_of_getElem? (i := 1065) (by decide +kernel), rfl⟩, List.mem_filter.mpr ⟨List.mem_of_getElem? (i := 57) (by decide +kernel), rfl⟩, List.mem_filter.mpr ⟨List.mem_of_getElem? (i := 1066) (by decide +kernel), rfl⟩, ⟨by decide +kernel, by decide +kernel, by decide +kernel⟩⟩
theorem wv_X11_128 : xWV RX11 128 yX11_touches cX11_touches 3 (Option.some Jvm.ClassFile.FieldType.boolean) 2 := ⟨List.mem_filter.mpr ⟨List.mem_of_getElem? (i := 988) (by decide +kernel), rfl⟩, List.mem_filter.mpr ⟨List.mem_of_getElem? (i := 990) (by decide +kernel), rfl⟩, List.mem_filter.mpr ⟨List.mem_of_getElem? (i := 26) (by decide +kernel), rfl⟩, List.mem_filter.mpr ⟨List.mem_of_getElem? (i := 57) (by decide +kernel), rfl⟩, List.mem_filter.mpr ⟨List.mem_of_getElem? (i := 991) (by decide +kernel), rfl⟩, ⟨by decide +kernel, by decide +kernel, by decide +kernel⟩⟩
theorem wv_X11_132 : xWV RX11 132 yX11_isTxn cX11_isTxn 2 (Option.some Jvm.ClassFile.FieldType.boolean) 1 := ⟨List.mem_filter.mpr ⟨List.mem_of_getElem? (i := 969) (by decide +kernel), rfl⟩, List.mem_filter.mpr ⟨List.mem_of_getElem? (i := 971) (by decide +kernel), rfl⟩, List.mem_filter.mpr ⟨List.mem_of_getElem? (i := 23) (by decide +kernel), rfl⟩, List.mem_filter.mpr ⟨List.mem_of_getElem? (i := 57) (by decide +kernel), rfl⟩, List.mem_filter.mpr ⟨List.mem_of_getElem? (i := 972) (by decide +kernel), rfl⟩, ⟨by decide +kernel, by decide +kernel, by decide +kernel⟩⟩
theorem wv_X11_136 : xWV RX11 136 yX11_isKey cX11_isKey 2 (Option.some Jvm.ClassFile.FieldType.boolean) 1 := ⟨List.mem_filter.mpr ⟨List.mem_of_getElem? (i := 980) (by decide +kernel), rfl⟩, List.mem_filter.mpr ⟨List.mem_of_getElem? (i := 982) (by decide +kernel), rfl⟩, List.mem_filter.mpr ⟨List.mem_of_getElem? (i := 24) (by decide +kernel), rfl⟩, List.mem_filter.mpr ⟨List.mem_of_getElem? (i := 57) (by decide +kernel), rfl⟩, List.mem_filter.mpr ⟨List.mem_of_getElem? (i := 983) (by decide +kernel), rfl⟩, ⟨by decide +kernel, by decide +kernel, by decide +kernel⟩⟩
theorem wv_X11_142 : xWV RX11 142 yX11_locks cX11_locks 6 (Option.some Jvm.ClassFile.FieldType.int) 3 := ⟨List.mem_filter.mpr ⟨List.mem_of_getElem? (i := 984) (by decide +kernel), rfl⟩, List.mem_filter.mpr ⟨List.mem_of_getElem? (i := 986) (by decide +kernel), rfl⟩, List.mem_filter.mpr ⟨List.mem_of_getElem? (i := 25) (by decide +kernel), rfl⟩, List.mem_filter.mpr ⟨List.mem_of_getElem? (i := 57) (by decide +kernel), rfl⟩, List.mem_filter.mpr ⟨List.mem_of_getElem? (i := 987) (by decide +kernel), rfl⟩, ⟨by decide +kernel, by decide +kernel, by decide +kernel⟩⟩
theorem wv_X11_146 : xWV RX11 146 yX11_post cX11_post 9 (Option.some Jvm.ClassFile.FieldType.int) 7 := ⟨List.mem_filter.mpr ⟨List.mem_of_getElem? (i := 1004) (by decide +kernel), rfl⟩, List.mem_filter.mpr ⟨List.mem_of_getElem? (i := 1006) (by decide +kernel), rfl⟩, List.mem_filter.mpr ⟨List.mem_of_getElem? (i := 27) (by decide +kernel), rfl⟩, List.mem_filter.mpr ⟨List.mem_of_getElem? (i := 57) (by decide +kernel), rfl⟩, List.mem_filter.mpr ⟨List.mem_of_getElem? (i := 1007) (by decide +kernel), rfl⟩, ⟨by decide +kernel, by decide +kernel, by decide +kernel⟩⟩
theorem wv_X11_150 : xWV RX11 150 yX11_endSession cX11_endSession 4 (Option.none : Option Jvm.ClassFile.FieldType) 2 := ⟨List.mem_filter.mpr ⟨List.mem_of_getElem? (i := 1012) (by decide +kernel), rfl⟩, List.mem_filter.mpr ⟨List.mem_of_getElem? (i := 1014) (by decide +kernel), rfl⟩, List.mem_filter.mpr ⟨List.mem_of_getElem? (i := 28) (by decide +kernel), rfl⟩, List.mem_filter.mpr ⟨List.mem_of_getElem? (i := 57) (by decide +kernel), rfl⟩, List.mem_filter.mpr ⟨List.mem_of_getElem? (i := 1015) (by decide +kernel), rfl⟩, ⟨by decide +kernel, by decide +kernel, by decide +kernel⟩⟩
theorem wv_X11_163 : xWV RX11 163 yX11_isMessage cX11_isMessage 2 (Option.some Jvm.ClassFile.FieldType.boolean) 1 := ⟨List.mem_filter.mpr ⟨List.mem_of_getElem? (i := 1028) (by decide +kernel), rfl⟩, List.mem_filter.mpr ⟨List.mem_of_getElem? (i := 1030) (by decide +kernel), rfl⟩, List.mem_filter.mpr ⟨List.mem_of_getElem? (i := 29) (by decide +kernel), rfl⟩, List.mem_filter.mpr ⟨List.mem_of_getElem? (i := 57) (by decide +kernel), rfl⟩, List.mem_filter.mpr ⟨List.mem_of_getElem? (i := 1031) (by decide +kernel), rfl⟩, ⟨by decide +kernel, by decide +kernel, by decide +kernel⟩⟩
theorem wv_X11_166 : xWV RX11 166 yX11_takeOut cX11_takeOut 3 (Option.none : Option Jvm.ClassFile.FieldType) 1 := ⟨List.mem_filter.mpr ⟨List.mem_of_getElem? (i := 1032) (by decide +kernel), rfl⟩, List.mem_filter.mpr ⟨List.mem_of_getElem? (i := 1034) (by decide +kernel), rfl⟩, List.mem_filter.mpr ⟨List.mem_of_getElem? (i := 30) (by decide +kernel), rfl⟩, List.mem_filter.mpr ⟨List.mem_of_getElem? (i := 57) (by decide +kernel), rfl⟩, List.mem_filter.mpr ⟨List.mem_of_getElem? (i := 1035) (by decide +kernel), rfl⟩, ⟨by decide +kernel, by decide +kernel, by decide +kernel⟩⟩
theorem wv_X11_172 : xWV RX11 172 yX11_does cX11_does 4 (Option.some Jvm.ClassFile.FieldType.boolean) 2 := ⟨List.mem_filter.mpr ⟨List.mem_of_getElem? (i := 1036) (by decide +kernel), rfl⟩, List.mem_filter.mpr ⟨List.mem_of_getElem? (i := 1038) (by decide +kernel), rfl⟩, List.mem_filter.mpr ⟨List.mem_of_getElem? (i := 31) (by decide +kernel), rfl⟩, List.mem_filter.mpr ⟨List.mem_of_getElem? (i := 57) (by decide +kernel), rfl⟩, List.mem_filter.mpr ⟨List.mem_of_getElem? (i := 1039) (by decide +kernel), rfl⟩, ⟨by decide +kernel, by decide +kernel, by decide +kernel⟩⟩
theorem wv_X11_175 : xWV RX11 175 yX11_prepare cX11_prepare 6 (Option.some Jvm.ClassFile.FieldType.boolean) 2 := ⟨List.mem_filter.mpr ⟨List.mem_of_getElem? (i := 1040) (by decide +kernel), rfl⟩, List.mem_filter.mpr ⟨List.mem_of_getElem? (i := 1042) (by decide +kernel), rfl⟩, List.mem_filter.mpr ⟨List.mem_of_getElem? (i := 32) (by decide +kernel), rfl⟩, List.mem_filter.mpr ⟨List.mem_of_getElem? (i := 57) (by decide +kernel), rfl⟩, List.mem_filter.mpr ⟨List.mem_of_getElem? (i := 1043) (by decide +kernel), rfl⟩, ⟨by decide +kernel, by decide +kernel, by decide +kernel⟩⟩
theorem wv_X11_178 : xWV RX11 178 yX11_vote cX11_vote 9 (Option.some Jvm.ClassFile.FieldType.boolean) 3 := ⟨List.mem_filter.mpr ⟨List.mem_of_getElem? (i := 1052) (by decide +kernel), rfl⟩, List.mem_filter.mpr ⟨List.mem_of_getElem? (i := 1054) (by decide +kernel), rfl⟩, List.mem_filter.mpr ⟨List.mem_of_getElem? (i := 35) (by decide +kernel), rfl⟩, List.mem_filter.mpr ⟨List.mem_of_getElem? (i := 57) (by decide +kernel), rfl⟩, List.mem_filter.mpr ⟨List.mem_of_getElem? (i := 1055) (by decide +kernel), rfl⟩, ⟨by decide +kernel, by decide +kernel, by decide +kernel⟩⟩
theorem wv_X11_181 : xWV RX11 181 yX11_accept cX11_accept 11 (Option.none : Option Jvm.ClassFile.FieldType) 3 := ⟨List.mem_filter.mpr ⟨List.mem_of_getElem? (i := 1056) (by decide +kernel), rfl⟩, List.mem_filter.mpr ⟨List.mem_of_getElem? (i := 1058) (by decide +kernel), rfl⟩, List.mem_filter.mpr ⟨List.mem_of_getElem? (i := 36) (by decide +kernel), rfl⟩, List.mem_filter.mpr ⟨List.mem_of_getElem? (i := 57) (by decide +kernel), rfl⟩, List.mem_filter.mpr ⟨List.mem_of_getElem? (i := 1059) (by decide +kernel), rfl⟩, ⟨by decide +kernel, by decide +kernel, by decide +kernel⟩⟩
theorem wv_X11_185 : xWV RX11 185 yX11_answer cX11_answer 7 (Option.some Jvm.ClassFile.FieldType.boolean) 3 := ⟨List.mem_filter.mpr ⟨List.mem_of_getElem? (i := 1067) (by decide +kernel), rfl⟩, List.mem_filter.mpr ⟨List.mem_of_getElem? (i := 1069) (by decide +kernel), rfl⟩, List.mem_filter.mpr ⟨List.mem_of_getElem? (i := 38) (by decide +kernel), rfl⟩, List.mem_filter.mpr ⟨List.mem_of_getElem? (i := 57) (by decide +kernel), rfl⟩, List.mem_filter.mpr ⟨List.mem_of_getElem? (i := 1070) (by decide +kernel), rfl⟩, ⟨by decide +kernel, by decide +kernel, by decide +kernel⟩⟩
theorem wv_X11_188 : xWV RX11 188 yX11_promise cX11_promise 6 (Option.none : Option Jvm.ClassFile.FieldType) 3 := ⟨List.mem_filter.mpr ⟨List.mem_of_getElem? (i := 1071) (by decide +kernel), rfl⟩, List.mem_filter.mpr ⟨List.mem_of_getElem? (i := 1073) (by decide +kernel), rfl⟩, List.mem_filter.mpr ⟨List.mem_of_getElem? (i := 39) (by decide +kernel), rfl⟩, List.mem_filter.mpr ⟨List.mem_of_getElem? (i := 57) (by decide +kernel), rfl⟩, List.mem_filter.mpr ⟨List.mem_of_getElem? (i := 1074) (by decide +kernel), rfl⟩, ⟨by decide +kernel, by decide +kernel, by decide +kernel⟩⟩
theorem wv_X11_191 : xWV RX11 191 yX11_end cX11_end 5 (Option.some Jvm.ClassFile.FieldType.boolean) 2 := ⟨List.mem_filter.mpr ⟨List.mem_of_getElem? (i := 1075) (by decide +kernel), rfl⟩, List.mem_filter.mpr ⟨List.mem_of_getElem? (i := 1077) (by decide +kernel), rfl⟩, List.mem_filter.mpr ⟨List.mem_of_getElem? (i := 40) (by decide +kernel), rfl⟩, List.mem_filter.mpr ⟨List.mem_of_getElem? (i := 57) (by decide +kernel), rfl⟩, List.mem_filter.mpr ⟨List.mem_of_getElem? (i := 1078) (by decide +kernel), rfl⟩, ⟨by decide +kernel, by decide +kernel, by decide +kernel⟩⟩
theorem wv_X11_194 : xWV RX11 194 yX11_writes cX11_writes 7 (Option.some Jvm.ClassFile.FieldType.boolean) 5 := ⟨List.mem_filter.mpr ⟨List.mem_of_getElem? (i := 1044) (by decide +kernel), rfl⟩, List.mem_filter.mpr ⟨List.mem_of_getElem? (i := 1046) (by decide +kernel), rfl⟩, List.mem_filter.mpr ⟨List.mem_of_getElem? (i := 33) (by decide +kernel), rfl⟩, List.mem_filter.mpr ⟨List.mem_of_getElem? (i := 57) (by decide +kernel), rfl⟩, List.mem_filter.mpr ⟨List.mem_of_getElem? (i := 1047) (by decide +kernel), rfl⟩, ⟨by decide +kernel, by decide +kernel, by decide +kernel⟩⟩
theorem wv_X11_198 : xWV RX11 198 yX11_postAll cX11_postAll 9 (Option.none : Option Jvm.ClassFile.FieldType) 6 := ⟨List.mem_filter.mpr ⟨List.mem_of_getElem? (i := 1048) (by decide +kernel), rfl⟩, List.mem_filter.mpr ⟨List.mem_of_getElem? (i := 1050) (by decide +kernel), rfl⟩, List.mem_filter.mpr ⟨List.mem_of_getElem? (i := 34) (by decide +kernel), rfl⟩, List.mem_filter.mpr ⟨List.mem_of_getElem? (i := 57) (by decide +kernel), rfl⟩, List.mem_filter.mpr ⟨List.mem_of_getElem? (i := 1051) (by decide +kernel), rfl⟩, ⟨by decide +kernel, by decide +kernel, by decide +kernel⟩⟩
theorem wv_X11_202 : xWV RX11 202 yX11_isMajority cX11_isMajority 2 (Option.some Jvm.ClassFile.FieldType.boolean) 1 := ⟨List.mem_filter.mpr ⟨List.mem_of_getElem? (i := 1060) (by decide +kernel), rfl⟩, List.mem_filter.mpr ⟨List.mem_of_getElem? (i := 1062) (by decide +kernel), rfl⟩, List.mem_filter.mpr ⟨List.mem_of_getElem? (i := 37) (by decide +kernel), rfl⟩, List.mem_filter.mpr ⟨List.mem_of_getElem? (i := 57) (by decide +kernel), rfl⟩, List.mem_filter.mpr ⟨List.mem_of_getElem? (i := 1063) (by decide +kernel), rfl⟩, ⟨by decide +kernel, by decide +kernel, by decide +kernel⟩⟩
theorem wv_X11_205 : xWV RX11 205 yX11_begins cX11_begins 3 (Option.none : Option Jvm.ClassFile.FieldType) 1 := ⟨List.mem_filter.mpr ⟨List.mem_of_getElem? (i := 846) (by decide +kernel), rfl⟩, List.mem_filter.mpr ⟨List.mem_of_getElem? (i := 848) (by decide +kernel), rfl⟩, List.mem_filter.mpr ⟨List.mem_of_getElem? (i := 22) (by decide +kernel), rfl⟩, List.mem_filter.mpr ⟨List.mem_of_getElem? (i := 57) (by decide +kernel), rfl⟩, List.mem_filter.mpr ⟨List.mem_of_getElem? (i := 849) (by decide +kernel), rfl⟩, ⟨by decide +kernel, by decide +kernel, by decide +kernel⟩⟩
theorem wv_X11_208 : xWV RX11 208 yX11_isAcceptor cX11_isAcceptor 2 (Option.some Jvm.ClassFile.FieldType.boolean) 1 := ⟨List.mem_filter.mpr ⟨List.mem_of_getElem? (i := 1091) (by decide +kernel), rfl⟩, List.mem_filter.mpr ⟨List.mem_of_getElem? (i := 1093) (by decide +kernel), rfl⟩, List.mem_filter.mpr ⟨List.mem_of_getElem? (i := 41) (by decide +kernel), rfl⟩, List.mem_filter.mpr ⟨List.mem_of_getElem? (i := 57) (by decide +kernel), rfl⟩, List.mem_filter.mpr ⟨List.mem_of_getElem? (i := 1094) (by decide +kernel), rfl⟩, ⟨by decide +kernel, by decide +kernel, by decide +kernel⟩⟩
theorem wv_X11_211 : xWV RX11 211 yX11_isNode cX11_isNode 2 (Option.some Jvm.ClassFile.FieldType.boolean) 1 := ⟨List.mem_filter.mpr ⟨List.mem_of_getElem? (i := 1099) (by decide +kernel), rfl⟩, List.mem_filter.mpr ⟨List.mem_of_getElem? (i := 1101) (by decide +kernel), rfl⟩, List.mem_filter.mpr ⟨List.mem_of_getElem? (i := 42) (by decide +kernel), rfl⟩, List.mem_filter.mpr ⟨List.mem_of_getElem? (i := 57) (by decide +kernel), rfl⟩, List.mem_filter.mpr ⟨List.mem_of_getElem? (i := 1102) (by decide +kernel), rfl⟩, ⟨by decide +kernel, by decide +kernel, by decide +kernel⟩⟩
theorem wv_X11_219 : xWV RX11 219 yX11_deliver cX11_deliver 3 (Option.some Jvm.ClassFile.FieldType.int) 1 := ⟨List.mem_filter.mpr ⟨List.mem_of_getElem? (i := 1118) (by decide +kernel), rfl⟩, List.mem_filter.mpr ⟨List.mem_of_getElem? (i := 1025) (by decide +kernel), rfl⟩, List.mem_filter.mpr ⟨List.mem_of_getElem? (i := 1026) (by decide +kernel), rfl⟩, List.mem_filter.mpr ⟨List.mem_of_getElem? (i := 57) (by decide +kernel), rfl⟩, List.mem_filter.mpr ⟨List.mem_of_getElem? (i := 1027) (by decide +kernel), rfl⟩, ⟨by decide +kernel, by decide +kernel, by decide +kernel⟩⟩
theorem wc_X10_170 : Cond.constantLong RX10 170 (6364136223846793005) ∈ lw_g := List.mem_filter.mpr ⟨List.mem_of_getElem? (i := 745) (by decide +kernel), rfl⟩
theorem wc_X10_172 : Cond.constantLong RX10 172 (1442695040888963407) ∈ lw_g := List.mem_filter.mpr ⟨List.mem_of_getElem? (i := 746) (by decide +kernel), rfl⟩
theorem wc_X10_174 : Cond.constant RX10 174 (2147483647) ∈ lw_g := List.mem_filter.mpr ⟨List.mem_of_getElem? (i := 747) (by decide +kernel), rfl⟩
theorem wc_L_36 : Cond.constantLong RL 36 (4294967295) ∈ lw_g := List.mem_filter.mpr ⟨List.mem_of_getElem? (i := 1147) (by decide +kernel), rfl⟩
theorem wc_X11_214 : Cond.constantLong RX11 214 (6364136223846793005) ∈ lw_g := List.mem_filter.mpr ⟨List.mem_of_getElem? (i := 1115) (by decide +kernel), rfl⟩
theorem wc_X11_216 : Cond.constantLong RX11 216 (1442695040888963407) ∈ lw_g := List.mem_filter.mpr ⟨List.mem_of_getElem? (i := 1116) (by decide +kernel), rfl⟩
theorem wc_X11_218 : Cond.constant RX11 218 (2147483647) ∈ lw_g := List.mem_filter.mpr ⟨List.mem_of_getElem? (i := 1117) (by decide +kernel), rfl⟩
theorem wc_J6_265 : Cond.constant RJ6 265 (1431655765) ∈ lw_g := List.mem_filter.mpr ⟨List.mem_of_getElem? (i := 620) (by decide +kernel), rfl⟩
theorem wc_J6_266 : Cond.constant RJ6 266 (858993459) ∈ lw_g := List.mem_filter.mpr ⟨List.mem_of_getElem? (i := 621) (by decide +kernel), rfl⟩
theorem wc_J6_267 : Cond.constant RJ6 267 (252645135) ∈ lw_g := List.mem_filter.mpr ⟨List.mem_of_getElem? (i := 622) (by decide +kernel), rfl⟩
end
section
/-! small words of the walks -/
def iushr (x y : Int32) : Int32 := (x.toUInt32 >>> (y.toUInt32 &&& Int32.toUInt32 31)).toInt32
def lushr (x : Int64) (y : Int32) : Int64 := (x.toUInt64 >>> (y.toInt64.toUInt64 &&& Int64.toUInt64 63)).toInt64
def oN {γ : Type} (o : Option Nat) (A : Option γ) (B : Nat → Option γ) : Option γ := match o with
  | none => A
  | some k => B k
def oS {γ : Type} (o : Option (Nat ⊕ Nat)) (A : Option γ) (B C : Nat → Option γ) : Option γ := match o with
  | none => A
  | some (.inl k) => B k
  | some (.inr k) => C k
theorem oN_n {γ : Type} {A : Option γ} {B : Nat → Option γ} {r : γ} (h : oN none A B = some r) : A = some r := h
theorem oN_s {γ : Type} {A : Option γ} {B : Nat → Option γ} {r : γ} {k : Nat} (h : oN (some k) A B = some r) : B k = some r := h
theorem oS_n {γ : Type} {A : Option γ} {B C : Nat → Option γ} {r : γ} (h : oS none A B C = some r) : A = some r := h
theorem oS_l {γ : Type} {A : Option γ} {B C : Nat → Option γ} {r : γ} {k : Nat} (h : oS (some (.inl k)) A B C = some r) : B k = some r := h
theorem oS_r {γ : Type} {A : Option γ} {B C : Nat → Option γ} {r : γ} {k : Nat} (h : oS (some (.inr k)) A B C = some r) : C k = some r := h
def xrA (G : xG) (o : Option Nat) : Value := match o with
  | none => .null
  | some k => .ref (xad G 25 k 0)
def xrN (G : xG) (o : Option (Nat ⊕ Nat)) : Value := match o with
  | none => .null
  | some (.inl k) => .ref (xad G 17 k 0)
  | some (.inr k) => .ref (xad G 25 k 0)
theorem x_ite {γ : Type} {c : Prop} [Decidable c] {A B : Option γ} {r : γ} {g : Prop} (h : (if c then A else B) = some r) (k1 : c → A = some r → g) (k2 : ¬ c → B = some r → g) : g := by
  split at h
  next hc => exact k1 hc h
  next hc => exact k2 hc h
theorem gdd_some {γ : Type} {P : Prop} [Decidable P] {K : Option γ} {r : γ} (h : gdd P K = some r) : P ∧ K = some r := by
  unfold gdd at h
  split at h
  next hp => exact ⟨hp, h⟩
  · cases h
def fillI (σ : Sg) (f i j n : Nat) (v : Int32) : Sg := (fun f' i' j' k' => if f' = f ∧ i' = i ∧ j' = j ∧ k' < n then v else σ.1 f' i' j' k', σ.2)
theorem fillI_0 (σ : Sg) (f i j : Nat) (v : Int32) : fillI σ f i j 0 v = σ := by
  unfold fillI
  obtain ⟨a, b⟩ := σ
  simp
theorem fillI_s (σ : Sg) (f i j n : Nat) (v : Int32) : upI (fillI σ f i j n v) f i j n v = fillI σ f i j (n + 1) v := by
  unfold upI fillI
  simp only [Prod.mk.injEq, and_true]
  funext f' i' j' k'
  by_cases h : f' = f ∧ i' = i ∧ j' = j
  · obtain ⟨rfl, rfl, rfl⟩ := h
    by_cases h1 : k' = n
    · subst h1; simp
    · by_cases h2 : k' < n
      · simp [h1, h2, Nat.lt_succ_of_lt h2]
      · simp [h1, h2, show ¬ k' < n + 1 by omega]
  · have e1 : ∀ q : Prop, (f' = f ∧ i' = i ∧ j' = j ∧ q) ↔ False := fun q => ⟨fun w => h ⟨w.1, w.2.1, w.2.2.1⟩, False.elim⟩
    simp only [e1, if_false]
def rm_J7_fill : Room := { frames := 0, cells := 0, slots := 0, locals := 0 }
set_option maxRecDepth 100000 in
set_option maxHeartbeats 4000000 in
theorem m_fill {l : Launch} {G : xG} {z : Nat → Nat} {σ : Sg} {τ : Tg} {f i j : Nat} {v : Int32} (hz : z 0 < 2147483648) (hd : xdom z f i j) (hc : ∀ si sl sp, xCell G z f i j si sl sp = .inl (xcA G 0, z 0, .inl si)) : xMet l (xD G) (xcA G) (xbs G) yJ7_fill_53178 cJ7_fill_53178 4 none rm_J7_fill [.ref (xad G f i j), .int v] (xRep G z σ τ) (xRep G z (fillI σ f i j (z 0) v) τ) none 0 0 := by
  refine xMet.of RJ7 rfl (by decide +kernel) (Nat.le_of_ble_eq_true rfl) ?_
  intro p e s m args below meth c C hr hnm
  refine x_sub (L' := [(0, .ref (xad G f i j)), (1, .int v)]) [0, 1] rfl ?_
  refine x_iconst C (v := 0) dJ7_fill_53178_0 (by decide) ?_
  refine x_istore_n C (L' := [(2, .int 0), (0, .ref (xad G f i j)), (1, .int v)]) dJ7_fill_53178_1 rfl (by decide) rfl ?_
  refine x_aload_n C dJ7_fill_53178_2 rfl (q := 1) rfl ?_
  refine x_alen C 0 rfl hd (hc _ _ _) dJ7_fill_53178_3 ?_
  refine x_istore_n C (L' := [(3, .int (nI (z 0))), (2, .int 0), (0, .ref (xad G f i j)), (1, .int v)]) dJ7_fill_53178_4 rfl (by decide) rfl ?_
  have hl : ∀ n k : Nat, k + n = z 0 → XW p l e rm_J7_fill s m args below meth c 0 0 4 (xbs G) (xQ below args s (xbs G) none (xRep G z (fillI σ f i j (z 0) v) τ) 0 0) (xRep G z (fillI σ f i j k v) τ) 5 [(0, .ref (xad G f i j)), (1, .int v), (2, .int (nI k)), (3, .int (nI (z 0)))] [] := by
    intro n
    induction n with
    | zero =>
      intro k hk
      have hk : k = z 0 := by omega
      subst hk
      refine x_iload_n C dJ7_fill_53178_5 rfl (q := 2) rfl ?_
      refine x_iload_n C dJ7_fill_53178_6 rfl (q := 3) rfl ?_
      refine x_icmp_ge C (tgt := 20) (A := some ()) (B := none) (rr := ()) dJ7_fill_53178_7 (by decide) (if_pos (nI_le (Nat.le_refl _) hz)) (fun _ _ => ?_) (fun _ h => by cases h)
      exact xr_v C hr dJ7_fill_53178_20 (fun _ h => h)
    | succ n ih =>
      intro k hk
      refine x_iload_n C dJ7_fill_53178_5 rfl (q := 2) rfl ?_
      refine x_iload_n C dJ7_fill_53178_6 rfl (q := 3) rfl ?_
      refine x_icmp_ge C (tgt := 20) (A := none) (B := some ()) (rr := ()) dJ7_fill_53178_7 (by decide) (if_neg (nI_ge (by omega) hz)) (fun _ h => by cases h) (fun _ _ => ?_)
      refine x_aload_n C dJ7_fill_53178_10 rfl (q := 0) rfl ?_
      refine x_iload_n C dJ7_fill_53178_11 rfl (q := 2) rfl ?_
      refine x_iload_n C dJ7_fill_53178_12 rfl (q := 1) rfl ?_
      have hcl : (nI k).toNatClampNeg = k := nI_clamp (by omega)
      refine x_iast C (K := fun k => some k) (rr := k) hd hc dJ7_fill_53178_13 (by unfold gdx; rw [hcl, if_neg (fun q => q.elim (nI_pos (by omega)) (fun q => by omega))]) (fun k1 hk1 h => ?_)
      cases h
      rw [fillI_s]
      refine x_iinc C (v := nI (k + 1)) (L' := [(2, .int (nI (k + 1))), (0, .ref (xad G f i j)), (1, .int v), (3, .int (nI (z 0)))]) dJ7_fill_53178_14 (k := 2) rfl (by rw [nI_succ]; rfl) (by decide) rfl ?_
      refine x_goto C (tgt := 5) dJ7_fill_53178_17 (by decide) ?_
      exact x_sub [1, 2, 0, 3] rfl (ih (k + 1) (by omega))
  have h0 := hl (z 0) 0 (by omega)
  rw [fillI_0] at h0
  exact x_sub [2, 3, 1, 0] rfl h0
end
section
def f_X7_shardOf (z : Nat → Nat) (σ : Sg) (x1 : Int32) : Option Int32 :=
  gnz (nI (z 0)) <| some (x1 - x1 / (nI (z 0)) * (nI (z 0)))
def rm_X7_shardOf : Room := { frames := 0, cells := 0, slots := 0, locals := 0 }
set_option maxRecDepth 100000 in
set_option maxHeartbeats 4000000 in
theorem m_X7_shardOf {l : Launch} {G : xG} {z : Nat → Nat} {σ : Sg} {τ : Tg} {x1 : Int32} {rF : Int32} (h : f_X7_shardOf z σ x1 = some (rF)) : xMet l (xD G) (xcA G) (xbs G) yX7_shardOf cX7_shardOf 2 (Option.some Jvm.ClassFile.FieldType.int) rm_X7_shardOf [.ref (xad G 1 0 0), .int x1] (xRep G z σ τ) (xRep G z σ τ) (some (.int rF)) 0 0 := by
  refine xMet.of RX7 rfl (by decide +kernel) (Nat.le_of_ble_eq_true rfl) ?_
  intro p e s m args below meth c C hr hnm
  unfold f_X7_shardOf at h
  refine x_sub (L' := [(0, .ref (xad G 1 0 0)), (1, .int x1)]) [0, 1] rfl ?_
  refine x_iload_n C dX7_shardOf_0 rfl (q := 1) rfl ?_
  refine x_aload_n C dX7_shardOf_1 rfl (q := 0) rfl ?_
  refine x_get C cl_X7 0 (by decide) fl_X7_13_X7 (dm_1 z) rfl rfl dX7_shardOf_2 ?_
  refine x_irem C dX7_shardOf_5 h (fun h => ?_)
  cases h
  exact xr_i C hr dX7_shardOf_6 (fun _ h => h)
def f_X8_touches (z : Nat → Nat) (σ : Sg) (x1 : Int32) (x2 : Int32) : Option Int32 :=
  gdx x1 (z 2) fun k1 => letv (σ.1 4 0 0 k1) fun v2 => if (v2 &&& (1 <<< (x2 &&& 31))) = 0 then (some (0)) else (some (1))
def rm_X8_touches : Room := { frames := 0, cells := 0, slots := 0, locals := 0 }
set_option maxRecDepth 100000 in
set_option maxHeartbeats 4000000 in
theorem m_X8_touches {l : Launch} {G : xG} {z : Nat → Nat} {σ : Sg} {τ : Tg} {x1 : Int32} {x2 : Int32} {rF : Int32} (h : f_X8_touches z σ x1 x2 = some (rF)) : xMet l (xD G) (xcA G) (xbs G) yX8_touches cX8_touches 3 (Option.some Jvm.ClassFile.FieldType.boolean) rm_X8_touches [.ref (xad G 2 0 0), .int x1, .int x2] (xRep G z σ τ) (xRep G z σ τ) (some (.int rF)) 0 0 := by
  refine xMet.of RX8 rfl (by decide +kernel) (Nat.le_of_ble_eq_true rfl) ?_
  intro p e s m args below meth c C hr hnm
  unfold f_X8_touches at h
  refine x_sub (L' := [(0, .ref (xad G 2 0 0)), (1, .int x1), (2, .int x2)]) [0, 1, 2] rfl ?_
  refine x_aload_n C dX8_touches_0 rfl (q := 0) rfl ?_
  refine x_get C cl_X8 1 (by decide) fl_X8_21_X8 (dm_2 z) rfl rfl dX8_touches_1 ?_
  refine x_iload_n C dX8_touches_4 rfl (q := 1) rfl ?_
  refine x_iald C (dm_4 z) (fun _ _ _ => rfl) dX8_touches_5 h (fun k1 hk1 h => ?_)
  refine x_letI h (fun v2 h => ?_)
  refine x_iconst C (v := 1) dX8_touches_6 (by decide) ?_
  refine x_iload_n C dX8_touches_7 rfl (q := 2) rfl ?_
  refine x_ishl C dX8_touches_8 ?_
  refine x_iand C dX8_touches_9 ?_
  refine x_if_eq C (tgt := 17) dX8_touches_10 (by decide) h (fun hc3 h => ?_) (fun hc3 h => ?_)
  · refine x_iconst C (v := 0) dX8_touches_17 (by decide) ?_
    cases h
    exact xr_z C (by decide) hr dX8_touches_18 (fun _ h => h)
  · refine x_iconst C (v := 1) dX8_touches_13 (by decide) ?_
    refine x_goto C (tgt := 18) dX8_touches_14 (by decide) ?_
    cases h
    exact xr_z C (by decide) hr dX8_touches_18 (fun _ h => h)
def f_J9_max_7cf53 (x1 : Int32) (x2 : Int32) : Option Int32 :=
  if x1 < x2 then (some (x2)) else (some (x1))
def rm_J9_max_7cf53 : Room := { frames := 0, cells := 0, slots := 0, locals := 0 }
set_option maxRecDepth 100000 in
set_option maxHeartbeats 4000000 in
theorem m_J9_max_7cf53 {l : Launch} {D : va_G} {cA : Nat → ClassId} {bs : Nat} {Ω : Heap → Prop} {x1 : Int32} {x2 : Int32} {rF : Int32} (h : f_J9_max_7cf53 x1 x2 = some (rF)) : xMet l D cA bs yJ9_max_7cf53 cJ9_max_7cf53 2 (Option.some Jvm.ClassFile.FieldType.int) rm_J9_max_7cf53 [.int x1, .int x2] Ω Ω (some (.int rF)) 0 0 := by
  refine xMet.of RJ9 rfl (by decide +kernel) (Nat.le_of_ble_eq_true rfl) ?_
  intro p e s m args below meth c C hr hnm
  unfold f_J9_max_7cf53 at h
  refine x_sub (L' := [(0, .int x1), (1, .int x2)]) [0, 1] rfl ?_
  refine x_iload_n C dJ9_max_7cf53_0 rfl (q := 0) rfl ?_
  refine x_iload_n C dJ9_max_7cf53_1 rfl (q := 1) rfl ?_
  refine x_icmp_lt C (tgt := 9) dJ9_max_7cf53_2 (by decide) h (fun hc1 h => ?_) (fun hc1 h => ?_)
  · refine x_iload_n C dJ9_max_7cf53_9 rfl (q := 1) rfl ?_
    cases h
    exact xr_i C hr dJ9_max_7cf53_10 (fun _ h => h)
  · refine x_iload_n C dJ9_max_7cf53_5 rfl (q := 0) rfl ?_
    refine x_goto C (tgt := 10) dJ9_max_7cf53_6 (by decide) ?_
    cases h
    exact xr_i C hr dJ9_max_7cf53_10 (fun _ h => h)
def f_X8_touch (z : Nat → Nat) (σ : Sg) (x1 : Int32) (x2 : Int32) : Option Sg :=
  gdx x1 (z 2) fun k1 => letv (σ.1 4 0 0 k1) fun v2 => gdx x1 (z 2) fun k3 => letv (upI σ 4 0 0 k3 (v2 ||| (1 <<< (x2 &&& 31)))) fun s4 => some (s4)
def rm_X8_touch : Room := { frames := 0, cells := 0, slots := 0, locals := 0 }
set_option maxRecDepth 100000 in
set_option maxHeartbeats 4000000 in
theorem m_X8_touch {l : Launch} {G : xG} {z : Nat → Nat} {σ : Sg} {τ : Tg} {x1 : Int32} {x2 : Int32} {sF : Sg} (h : f_X8_touch z σ x1 x2 = some (sF)) : xMet l (xD G) (xcA G) (xbs G) yX8_touch cX8_touch 3 (Option.none : Option Jvm.ClassFile.FieldType) rm_X8_touch [.ref (xad G 2 0 0), .int x1, .int x2] (xRep G z σ τ) (xRep G z sF τ) none 0 0 := by
  refine xMet.of RX8 rfl (by decide +kernel) (Nat.le_of_ble_eq_true rfl) ?_
  intro p e s m args below meth c C hr hnm
  unfold f_X8_touch at h
  refine x_sub (L' := [(0, .ref (xad G 2 0 0)), (1, .int x1), (2, .int x2)]) [0, 1, 2] rfl ?_
  refine x_aload_n C dX8_touch_0 rfl (q := 0) rfl ?_
  refine x_get C cl_X8 1 (by decide) fl_X8_21_X8 (dm_2 z) rfl rfl dX8_touch_1 ?_
  refine x_iload_n C dX8_touch_4 rfl (q := 1) rfl ?_
  refine x_dup2 C dX8_touch_5 rfl rfl ?_
  refine x_iald C (dm_4 z) (fun _ _ _ => rfl) dX8_touch_6 h (fun k1 hk1 h => ?_)
  refine x_letI h (fun v2 h => ?_)
  refine x_iconst C (v := 1) dX8_touch_7 (by decide) ?_
  refine x_iload_n C dX8_touch_8 rfl (q := 2) rfl ?_
  refine x_ishl C dX8_touch_9 ?_
  refine x_ior C dX8_touch_10 ?_
  refine x_iast C (dm_4 z) (fun _ _ _ => rfl) dX8_touch_11 h (fun k3 hk3 h => ?_)
  refine x_letS h (fun s4 h => ?_)
  cases h
  exact xr_v C hr dX8_touch_12 (fun _ h => h)
def f_X8_touchesNone (z : Nat → Nat) (σ : Sg) (x1 : Int32) : Option Int32 :=
  gdx x1 (z 2) fun k1 => letv (σ.1 4 0 0 k1) fun v2 => if v2 = 0 then (some (1)) else (some (0))
def rm_X8_touchesNone : Room := { frames := 0, cells := 0, slots := 0, locals := 0 }
set_option maxRecDepth 100000 in
set_option maxHeartbeats 4000000 in
theorem m_X8_touchesNone {l : Launch} {G : xG} {z : Nat → Nat} {σ : Sg} {τ : Tg} {x1 : Int32} {rF : Int32} (h : f_X8_touchesNone z σ x1 = some (rF)) : xMet l (xD G) (xcA G) (xbs G) yX8_touchesNone cX8_touchesNone 2 (Option.some Jvm.ClassFile.FieldType.boolean) rm_X8_touchesNone [.ref (xad G 2 0 0), .int x1] (xRep G z σ τ) (xRep G z σ τ) (some (.int rF)) 0 0 := by
  refine xMet.of RX8 rfl (by decide +kernel) (Nat.le_of_ble_eq_true rfl) ?_
  intro p e s m args below meth c C hr hnm
  unfold f_X8_touchesNone at h
  refine x_sub (L' := [(0, .ref (xad G 2 0 0)), (1, .int x1)]) [0, 1] rfl ?_
  refine x_aload_n C dX8_touchesNone_0 rfl (q := 0) rfl ?_
  refine x_get C cl_X8 1 (by decide) fl_X8_21_X8 (dm_2 z) rfl rfl dX8_touchesNone_1 ?_
  refine x_iload_n C dX8_touchesNone_4 rfl (q := 1) rfl ?_
  refine x_iald C (dm_4 z) (fun _ _ _ => rfl) dX8_touchesNone_5 h (fun k1 hk1 h => ?_)
  refine x_letI h (fun v2 h => ?_)
  refine x_if_ne C (tgt := 13) dX8_touchesNone_6 (by decide) h (fun hc3 h => ?_) (fun hc3 h => ?_)
  · refine x_iconst C (v := 0) dX8_touchesNone_13 (by decide) ?_
    cases h
    exact xr_z C (by decide) hr dX8_touchesNone_14 (fun _ h => h)
  · refine x_iconst C (v := 1) dX8_touchesNone_9 (by decide) ?_
    refine x_goto C (tgt := 14) dX8_touchesNone_10 (by decide) ?_
    cases h
    exact xr_z C (by decide) hr dX8_touchesNone_14 (fun _ h => h)
def f_X7_client (z : Nat → Nat) (σ : Sg) : Option Int32 :=
  some ((nI (z 0)) + (nI (z 1)))
def rm_X7_client : Room := { frames := 0, cells := 0, slots := 0, locals := 0 }
set_option maxRecDepth 100000 in
set_option maxHeartbeats 4000000 in
theorem m_X7_client {l : Launch} {G : xG} {z : Nat → Nat} {σ : Sg} {τ : Tg} {rF : Int32} (h : f_X7_client z σ = some (rF)) : xMet l (xD G) (xcA G) (xbs G) yX7_client cX7_client 1 (Option.some Jvm.ClassFile.FieldType.int) rm_X7_client [.ref (xad G 1 0 0)] (xRep G z σ τ) (xRep G z σ τ) (some (.int rF)) 0 0 := by
  refine xMet.of RX7 rfl (by decide +kernel) (Nat.le_of_ble_eq_true rfl) ?_
  intro p e s m args below meth c C hr hnm
  unfold f_X7_client at h
  refine x_sub (L' := [(0, .ref (xad G 1 0 0))]) [0] rfl ?_
  refine x_aload_n C dX7_client_0 rfl (q := 0) rfl ?_
  refine x_get C cl_X7 0 (by decide) fl_X7_13_X7 (dm_1 z) rfl rfl dX7_client_1 ?_
  refine x_aload_n C dX7_client_4 rfl (q := 0) rfl ?_
  refine x_get C cl_X7 1 (by decide) fl_X7_21_X7 (dm_1 z) rfl rfl dX7_client_5 ?_
  refine x_iadd C dX7_client_8 ?_
  cases h
  exact xr_i C hr dX7_client_9 (fun _ h => h)
def f_X5_startDraft (z : Nat → Nat) (σ : Sg) (x1 : Int32) (x2 : Int32) (x3 : Int32) : Option Sg :=
  letv (upI σ 13 (z 4) 0 0 x1) fun s1 => letv (upI s1 13 (z 4) 0 2 x2) fun s2 => letv (upI s2 13 (z 4) 0 6 x3) fun s3 => letv (upI s3 13 (z 4) 0 3 0) fun s4 => letv (upI s4 13 (z 4) 0 4 0) fun s5 => letv (upI s5 13 (z 4) 0 5 0) fun s6 => some (s6)
def rm_X5_startDraft : Room := { frames := 0, cells := 0, slots := 0, locals := 0 }
set_option maxRecDepth 100000 in
set_option maxHeartbeats 4000000 in
theorem m_X5_startDraft {l : Launch} {G : xG} {z : Nat → Nat} {σ : Sg} {τ : Tg} {x1 : Int32} {x2 : Int32} {x3 : Int32} {sF : Sg} (h : f_X5_startDraft z σ x1 x2 x3 = some (sF)) : xMet l (xD G) (xcA G) (xbs G) yX5_startDraft cX5_startDraft 4 (Option.none : Option Jvm.ClassFile.FieldType) rm_X5_startDraft [.ref (xad G 11 0 0), .int x1, .int x2, .int x3] (xRep G z σ τ) (xRep G z sF τ) none 0 0 := by
  refine xMet.of RX5 rfl (by decide +kernel) (Nat.le_of_ble_eq_true rfl) ?_
  intro p e s m args below meth c C hr hnm
  unfold f_X5_startDraft at h
  refine x_sub (L' := [(0, .ref (xad G 11 0 0)), (1, .int x1), (2, .int x2), (3, .int x3)]) [0, 1, 2, 3] rfl ?_
  refine x_aload_n C dX5_startDraft_0 rfl (q := 0) rfl ?_
  refine x_get C cl_X5 2 (by decide) fl_X5_31_X5 (dm_11 z) rfl rfl dX5_startDraft_1 ?_
  refine x_iload_n C dX5_startDraft_4 rfl (q := 1) rfl ?_
  refine x_putI C cl_X3 0 (by decide) fl_X5_41_X3 rfl (dm_13 xb_d) (fun _ _ _ => rfl) (fun _ _ _ => rfl) (fun _ _ _ => Nat.le_of_ble_eq_true rfl) rfl rfl dX5_startDraft_5 h (fun s1 h => ?_)
  refine x_aload_n C dX5_startDraft_8 rfl (q := 0) rfl ?_
  refine x_get C cl_X5 2 (by decide) fl_X5_31_X5 (dm_11 z) rfl rfl dX5_startDraft_9 ?_
  refine x_iload_n C dX5_startDraft_12 rfl (q := 2) rfl ?_
  refine x_putI C cl_X3 2 (by decide) fl_X5_44_X3 rfl (dm_13 xb_d) (fun _ _ _ => rfl) (fun _ _ _ => rfl) (fun _ _ _ => Nat.le_of_ble_eq_true rfl) rfl rfl dX5_startDraft_13 h (fun s2 h => ?_)
  refine x_aload_n C dX5_startDraft_16 rfl (q := 0) rfl ?_
  refine x_get C cl_X5 2 (by decide) fl_X5_31_X5 (dm_11 z) rfl rfl dX5_startDraft_17 ?_
  refine x_iload_n C dX5_startDraft_20 rfl (q := 3) rfl ?_
  refine x_putI C cl_X3 6 (by decide) fl_X5_47_X3 rfl (dm_13 xb_d) (fun _ _ _ => rfl) (fun _ _ _ => rfl) (fun _ _ _ => Nat.le_of_ble_eq_true rfl) rfl rfl dX5_startDraft_21 h (fun s3 h => ?_)
  refine x_aload_n C dX5_startDraft_24 rfl (q := 0) rfl ?_
  refine x_get C cl_X5 2 (by decide) fl_X5_31_X5 (dm_11 z) rfl rfl dX5_startDraft_25 ?_
  refine x_iconst C (v := 0) dX5_startDraft_28 (by decide) ?_
  refine x_putI C cl_X3 3 (by decide) fl_X5_50_X3 rfl (dm_13 xb_d) (fun _ _ _ => rfl) (fun _ _ _ => rfl) (fun _ _ _ => Nat.le_of_ble_eq_true rfl) rfl rfl dX5_startDraft_29 h (fun s4 h => ?_)
  refine x_aload_n C dX5_startDraft_32 rfl (q := 0) rfl ?_
  refine x_get C cl_X5 2 (by decide) fl_X5_31_X5 (dm_11 z) rfl rfl dX5_startDraft_33 ?_
  refine x_iconst C (v := 0) dX5_startDraft_36 (by decide) ?_
  refine x_putI C cl_X3 4 (by decide) fl_X5_53_X3 rfl (dm_13 xb_d) (fun _ _ _ => rfl) (fun _ _ _ => rfl) (fun _ _ _ => Nat.le_of_ble_eq_true rfl) rfl rfl dX5_startDraft_37 h (fun s5 h => ?_)
  refine x_aload_n C dX5_startDraft_40 rfl (q := 0) rfl ?_
  refine x_get C cl_X5 2 (by decide) fl_X5_31_X5 (dm_11 z) rfl rfl dX5_startDraft_41 ?_
  refine x_iconst C (v := 0) dX5_startDraft_44 (by decide) ?_
  refine x_putI C cl_X3 5 (by decide) fl_X5_56_X3 rfl (dm_13 xb_d) (fun _ _ _ => rfl) (fun _ _ _ => rfl) (fun _ _ _ => Nat.le_of_ble_eq_true rfl) rfl rfl dX5_startDraft_45 h (fun s6 h => ?_)
  cases h
  exact xr_v C hr dX5_startDraft_48 (fun _ h => h)
def f_X3_copyFrom_L55 (z : Nat → Nat) (i : Nat) (mi : Nat) : Nat → Int32 → Sg → Option Sg
  | 0, _, _ => none
  | n + 1, y14, s15 => if (nI (z 0)) ≤ y14 then (some (s15)) else (gdx y14 (z 0) fun k20 => letv (s15.1 14 mi 0 k20) fun v21 => gdx y14 (z 0) fun k22 => letv (upI s15 14 i 0 k22 v21) fun s23 => gdx y14 (z 0) fun k24 => letv (s23.1 15 mi 0 k24) fun v25 => gdx y14 (z 0) fun k26 => letv (upI s23 15 i 0 k26 v25) fun s27 => letv (y14 + 1) fun v28 => f_X3_copyFrom_L55 z i mi n v28 s27)
def f_X3_copyFrom (z : Nat → Nat) (σ : Sg) (i : Nat) (mi : Nat) (x2 : Int32) : Option Sg :=
  letv (σ.1 13 mi 0 0) fun v1 => letv (upI σ 13 i 0 0 v1) fun s2 => letv (upI s2 13 i 0 1 x2) fun s3 => letv (s3.1 13 mi 0 2) fun v4 => letv (upI s3 13 i 0 2 v4) fun s5 => letv (s5.1 13 mi 0 3) fun v6 => letv (upI s5 13 i 0 3 v6) fun s7 => letv (s7.1 13 mi 0 4) fun v8 => letv (upI s7 13 i 0 4 v8) fun s9 => letv (s9.1 13 mi 0 5) fun v10 => letv (upI s9 13 i 0 5 v10) fun s11 => letv (s11.1 13 mi 0 6) fun v12 => letv (upI s11 13 i 0 6 v12) fun s13 => bnd1 (f_X3_copyFrom_L55 z i mi FU 0 s13) fun s16 => some (s16)
def rm_X3_copyFrom : Room := { frames := 0, cells := 0, slots := 0, locals := 0 }
set_option maxRecDepth 100000 in
set_option maxHeartbeats 4000000 in
theorem m_X3_copyFrom {l : Launch} {G : xG} {z : Nat → Nat} {σ : Sg} {τ : Tg} {i : Nat} {mi : Nat} {x2 : Int32} {sF : Sg} (hi : i < z 4 + 2) (hmi : mi < z 4 + 2) (h : f_X3_copyFrom z σ i mi x2 = some (sF)) : xMet l (xD G) (xcA G) (xbs G) yX3_copyFrom cX3_copyFrom 4 (Option.none : Option Jvm.ClassFile.FieldType) rm_X3_copyFrom [.ref (xad G 13 i 0), .ref (xad G 13 mi 0), .int x2] (xRep G z σ τ) (xRep G z sF τ) none 0 0 := by
  refine xMet.of RX3 rfl (by decide +kernel) (Nat.le_of_ble_eq_true rfl) ?_
  intro p e s m args below meth c C hr hnm
  unfold f_X3_copyFrom at h
  refine x_sub (L' := [(0, .ref (xad G 13 i 0)), (1, .ref (xad G 13 mi 0)), (2, .int x2)]) [0, 1, 2] rfl ?_
  refine x_aload_n C dX3_copyFrom_0 rfl (q := 0) rfl ?_
  refine x_aload_n C dX3_copyFrom_1 rfl (q := 1) rfl ?_
  refine x_get C cl_X3 0 (by decide) fl_X3_18_X3 (dm_13 hmi) rfl rfl dX3_copyFrom_2 ?_
  refine x_letI h (fun v1 h => ?_)
  refine x_putI C cl_X3 0 (by decide) fl_X3_18_X3 rfl (dm_13 hi) (fun _ _ _ => rfl) (fun _ _ _ => rfl) (fun _ _ _ => Nat.le_of_ble_eq_true rfl) rfl rfl dX3_copyFrom_5 h (fun s2 h => ?_)
  refine x_aload_n C dX3_copyFrom_8 rfl (q := 0) rfl ?_
  refine x_iload_n C dX3_copyFrom_9 rfl (q := 2) rfl ?_
  refine x_putI C cl_X3 1 (by decide) fl_X3_22_X3 rfl (dm_13 hi) (fun _ _ _ => rfl) (fun _ _ _ => rfl) (fun _ _ _ => Nat.le_of_ble_eq_true rfl) rfl rfl dX3_copyFrom_10 h (fun s3 h => ?_)
  refine x_aload_n C dX3_copyFrom_13 rfl (q := 0) rfl ?_
  refine x_aload_n C dX3_copyFrom_14 rfl (q := 1) rfl ?_
  refine x_get C cl_X3 2 (by decide) fl_X3_25_X3 (dm_13 hmi) rfl rfl dX3_copyFrom_15 ?_
  refine x_letI h (fun v4 h => ?_)
  refine x_putI C cl_X3 2 (by decide) fl_X3_25_X3 rfl (dm_13 hi) (fun _ _ _ => rfl) (fun _ _ _ => rfl) (fun _ _ _ => Nat.le_of_ble_eq_true rfl) rfl rfl dX3_copyFrom_18 h (fun s5 h => ?_)
  refine x_aload_n C dX3_copyFrom_21 rfl (q := 0) rfl ?_
  refine x_aload_n C dX3_copyFrom_22 rfl (q := 1) rfl ?_
  refine x_get C cl_X3 3 (by decide) fl_X3_28_X3 (dm_13 hmi) rfl rfl dX3_copyFrom_23 ?_
  refine x_letI h (fun v6 h => ?_)
  refine x_putI C cl_X3 3 (by decide) fl_X3_28_X3 rfl (dm_13 hi) (fun _ _ _ => rfl) (fun _ _ _ => rfl) (fun _ _ _ => Nat.le_of_ble_eq_true rfl) rfl rfl dX3_copyFrom_26 h (fun s7 h => ?_)
  refine x_aload_n C dX3_copyFrom_29 rfl (q := 0) rfl ?_
  refine x_aload_n C dX3_copyFrom_30 rfl (q := 1) rfl ?_
  refine x_get C cl_X3 4 (by decide) fl_X3_31_X3 (dm_13 hmi) rfl rfl dX3_copyFrom_31 ?_
  refine x_letI h (fun v8 h => ?_)
  refine x_putI C cl_X3 4 (by decide) fl_X3_31_X3 rfl (dm_13 hi) (fun _ _ _ => rfl) (fun _ _ _ => rfl) (fun _ _ _ => Nat.le_of_ble_eq_true rfl) rfl rfl dX3_copyFrom_34 h (fun s9 h => ?_)
  refine x_aload_n C dX3_copyFrom_37 rfl (q := 0) rfl ?_
  refine x_aload_n C dX3_copyFrom_38 rfl (q := 1) rfl ?_
  refine x_get C cl_X3 5 (by decide) fl_X3_34_X3 (dm_13 hmi) rfl rfl dX3_copyFrom_39 ?_
  refine x_letI h (fun v10 h => ?_)
  refine x_putI C cl_X3 5 (by decide) fl_X3_34_X3 rfl (dm_13 hi) (fun _ _ _ => rfl) (fun _ _ _ => rfl) (fun _ _ _ => Nat.le_of_ble_eq_true rfl) rfl rfl dX3_copyFrom_42 h (fun s11 h => ?_)
  refine x_aload_n C dX3_copyFrom_45 rfl (q := 0) rfl ?_
  refine x_aload_n C dX3_copyFrom_46 rfl (q := 1) rfl ?_
  refine x_get C cl_X3 6 (by decide) fl_X3_37_X3 (dm_13 hmi) rfl rfl dX3_copyFrom_47 ?_
  refine x_letI h (fun v12 h => ?_)
  refine x_putI C cl_X3 6 (by decide) fl_X3_37_X3 rfl (dm_13 hi) (fun _ _ _ => rfl) (fun _ _ _ => rfl) (fun _ _ _ => Nat.le_of_ble_eq_true rfl) rfl rfl dX3_copyFrom_50 h (fun s13 h => ?_)
  refine x_iconst C (v := 0) dX3_copyFrom_53 (by decide) ?_
  refine x_istore_n C (L' := [(3, .int 0), (0, .ref (xad G 13 i 0)), (1, .ref (xad G 13 mi 0)), (2, .int x2)]) dX3_copyFrom_54 rfl (by decide) rfl ?_
  obtain ⟨s16, hv18, h⟩ := bnd1_some h
  refine x_join (Ω' := (xRep G z s16 τ)) (pc' := 94) (L' := []) (st' := []) ?_ (fun hj17 => ?_)
  · cases h
    exact xr_v C hr dX3_copyFrom_94 (fun _ h => h)
  · have hl29 : ∀ (n : Nat) (y14 : Int32) (s15 : Sg), f_X3_copyFrom_L55 z i mi n y14 s15 = some (s16) → XW p l e rm_X3_copyFrom s m args below meth c 0 0 4 (xbs G) (xQ below args s (xbs G) none (xRep G z sF τ) 0 0) (xRep G z s15 τ) 55 [(0, .ref (xad G 13 i 0)), (1, .ref (xad G 13 mi 0)), (3, .int y14)] [] := by
      intro n
      induction n with
      | zero =>
        intro y14 s15 h
        exact absurd h (by rw [f_X3_copyFrom_L55]; intro q; cases q)
      | succ n ih =>
        intro y14 s15 h
        rw [f_X3_copyFrom_L55] at h
        refine x_iload_n C dX3_copyFrom_55 rfl (q := 2) rfl ?_
        refine x_aload_n C dX3_copyFrom_56 rfl (q := 0) rfl ?_
        refine x_get C cl_X3 7 (by decide) fl_X3_9_X3 (dm_13 hi) rfl rfl dX3_copyFrom_57 ?_
        refine x_alen C 0 rfl (dm_14 hi) rfl dX3_copyFrom_60 ?_
        refine x_icmp_ge C (tgt := 94) dX3_copyFrom_61 (by decide) h (fun hc19 h => ?_) (fun hc19 h => ?_)
        · cases h
          exact x_sub [] rfl hj17
        · refine x_aload_n C dX3_copyFrom_64 rfl (q := 0) rfl ?_
          refine x_get C cl_X3 7 (by decide) fl_X3_9_X3 (dm_13 hi) rfl rfl dX3_copyFrom_65 ?_
          refine x_iload_n C dX3_copyFrom_68 rfl (q := 2) rfl ?_
          refine x_aload_n C dX3_copyFrom_69 rfl (q := 1) rfl ?_
          refine x_get C cl_X3 7 (by decide) fl_X3_9_X3 (dm_13 hmi) rfl rfl dX3_copyFrom_70 ?_
          refine x_iload_n C dX3_copyFrom_73 rfl (q := 2) rfl ?_
          refine x_iald C (dm_14 hmi) (fun _ _ _ => rfl) dX3_copyFrom_74 h (fun k20 hk20 h => ?_)
          refine x_letI h (fun v21 h => ?_)
          refine x_iast C (dm_14 hi) (fun _ _ _ => rfl) dX3_copyFrom_75 h (fun k22 hk22 h => ?_)
          refine x_letS h (fun s23 h => ?_)
          refine x_aload_n C dX3_copyFrom_76 rfl (q := 0) rfl ?_
          refine x_get C cl_X3 8 (by decide) fl_X3_15_X3 (dm_13 hi) rfl rfl dX3_copyFrom_77 ?_
          refine x_iload_n C dX3_copyFrom_80 rfl (q := 2) rfl ?_
          refine x_aload_n C dX3_copyFrom_81 rfl (q := 1) rfl ?_
          refine x_get C cl_X3 8 (by decide) fl_X3_15_X3 (dm_13 hmi) rfl rfl dX3_copyFrom_82 ?_
          refine x_iload_n C dX3_copyFrom_85 rfl (q := 2) rfl ?_
          refine x_iald C (dm_15 hmi) (fun _ _ _ => rfl) dX3_copyFrom_86 h (fun k24 hk24 h => ?_)
          refine x_letI h (fun v25 h => ?_)
          refine x_iast C (dm_15 hi) (fun _ _ _ => rfl) dX3_copyFrom_87 h (fun k26 hk26 h => ?_)
          refine x_letS h (fun s27 h => ?_)
          refine x_iincL C (w := 1) (L' := fun v28 => [(3, .int v28), (0, .ref (xad G 13 i 0)), (1, .ref (xad G 13 mi 0))]) dX3_copyFrom_88 (k := 2) rfl (by decide) (by decide) (fun _ => rfl) h (fun v28 h => ?_)
          refine x_goto C (tgt := 55) dX3_copyFrom_91 (by decide) ?_
          exact x_sub [1, 2, 0] rfl (ih _ _ h)
    exact x_sub [1, 2, 0] rfl (hl29 FU _ _ hv18)
def f_X5_post (z : Nat → Nat) (σ : Sg) (mi : Nat) (x2 : Int32) : Option (Int32 × Sg) :=
  letv (σ.1 11 0 0 5) fun v1 => letv (upI σ 11 0 0 5 (v1 + 1)) fun s2 => letv (s2.1 11 0 0 4) fun v3 => if v3 < (nI (z 4)) then (letv (s2.1 11 0 0 4) fun v5 => gdx v5 (z 4) fun k6 => gdr (s2.2.2 12 k6) (z 4 + 2) fun m7 => bnd1 (f_X3_copyFrom z s2 m7 mi x2) fun s9 => letv (s9.1 11 0 0 4) fun v10 => letv (upI s9 11 0 0 4 (v10 + 1)) fun s11 => some (1, s11)) else (letv (s2.1 11 0 0 6) fun v12 => letv (upI s2 11 0 0 6 (v12 + 1)) fun s13 => some (0, s13))
def rm_X5_post : Room := { frames := 1, cells := 0, slots := 0, locals := 23 }
set_option maxRecDepth 100000 in
set_option maxHeartbeats 4000000 in
theorem m_X5_post {l : Launch} {G : xG} {z : Nat → Nat} {σ : Sg} {τ : Tg} {mi : Nat} {x2 : Int32} {rF : Int32} {sF : Sg} (hmi : mi < z 4 + 2) (h : f_X5_post z σ mi x2 = some (rF, sF)) : xMet l (xD G) (xcA G) (xbs G) yX5_post cX5_post 3 (Option.some Jvm.ClassFile.FieldType.boolean) rm_X5_post [.ref (xad G 11 0 0), .ref (xad G 13 mi 0), .int x2] (xRep G z σ τ) (xRep G z sF τ) (some (.int rF)) 0 0 := by
  refine xMet.of RX5 rfl (by decide +kernel) (Nat.le_of_ble_eq_true rfl) ?_
  intro p e s m args below meth c C hr hnm
  unfold f_X5_post at h
  refine x_sub (L' := [(0, .ref (xad G 11 0 0)), (1, .ref (xad G 13 mi 0)), (2, .int x2)]) [0, 1, 2] rfl ?_
  refine x_aload_n C dX5_post_0 rfl (q := 0) rfl ?_
  refine x_dup C dX5_post_1 rfl ?_
  refine x_get C cl_X5 5 (by decide) fl_X5_70_X5 (dm_11 z) rfl rfl dX5_post_2 ?_
  refine x_letI h (fun v1 h => ?_)
  refine x_iconst C (v := 1) dX5_post_5 (by decide) ?_
  refine x_iadd C dX5_post_6 ?_
  refine x_putI C cl_X5 5 (by decide) fl_X5_70_X5 rfl (dm_11 z) (fun _ _ _ => rfl) (fun _ _ _ => rfl) (fun _ _ _ => Nat.le_of_ble_eq_true rfl) rfl rfl dX5_post_7 h (fun s2 h => ?_)
  refine x_aload_n C dX5_post_10 rfl (q := 0) rfl ?_
  refine x_get C cl_X5 4 (by decide) fl_X5_38_X5 (dm_11 z) rfl rfl dX5_post_11 ?_
  refine x_letI h (fun v3 h => ?_)
  refine x_aload_n C dX5_post_14 rfl (q := 0) rfl ?_
  refine x_get C cl_X5 1 (by decide) fl_X5_21_X5 (dm_11 z) rfl rfl dX5_post_15 ?_
  refine x_alen C 5 rfl (dm_12 z) rfl dX5_post_18 ?_
  refine x_icmp_lt C (tgt := 34) dX5_post_19 (by decide) h (fun hc4 h => ?_) (fun hc4 h => ?_)
  · refine x_aload_n C dX5_post_34 rfl (q := 0) rfl ?_
    refine x_get C cl_X5 1 (by decide) fl_X5_21_X5 (dm_11 z) rfl rfl dX5_post_35 ?_
    refine x_aload_n C dX5_post_38 rfl (q := 0) rfl ?_
    refine x_get C cl_X5 4 (by decide) fl_X5_38_X5 (dm_11 z) rfl rfl dX5_post_39 ?_
    refine x_letI h (fun v5 h => ?_)
    refine x_aald C 5 rfl rfl (dm_12 z) rfl dX5_post_42 h (fun k6 hk6 h => ?_)
    refine x_gdr h (fun m7 hm7 h => ?_)
    refine x_aload_n C dX5_post_43 rfl (q := 1) rfl ?_
    refine x_iload_n C dX5_post_44 rfl (q := 2) rfl ?_
    obtain ⟨s9, hq8, h⟩ := bnd1_some h
    refine x_callV_v C (m_X3_copyFrom hm7 hmi hq8) wv_X5_76 (x_recv C.2.2.2 cl_X3 (dm_13 hm7) rfl) rfl (Nat.le_of_ble_eq_true rfl) ⟨⟨rfl, rfl⟩, Nat.le_of_ble_eq_true rfl, Nat.le_of_ble_eq_true rfl⟩ dX5_post_45 rfl ?_
    refine x_aload_n C dX5_post_48 rfl (q := 0) rfl ?_
    refine x_dup C dX5_post_49 rfl ?_
    refine x_get C cl_X5 4 (by decide) fl_X5_38_X5 (dm_11 z) rfl rfl dX5_post_50 ?_
    refine x_letI h (fun v10 h => ?_)
    refine x_iconst C (v := 1) dX5_post_53 (by decide) ?_
    refine x_iadd C dX5_post_54 ?_
    refine x_putI C cl_X5 4 (by decide) fl_X5_38_X5 rfl (dm_11 z) (fun _ _ _ => rfl) (fun _ _ _ => rfl) (fun _ _ _ => Nat.le_of_ble_eq_true rfl) rfl rfl dX5_post_55 h (fun s11 h => ?_)
    refine x_iconst C (v := 1) dX5_post_58 (by decide) ?_
    cases h
    exact xr_z C (by decide) hr dX5_post_59 (fun _ h => h)
  · refine x_aload_n C dX5_post_22 rfl (q := 0) rfl ?_
    refine x_dup C dX5_post_23 rfl ?_
    refine x_get C cl_X5 6 (by decide) fl_X5_73_X5 (dm_11 z) rfl rfl dX5_post_24 ?_
    refine x_letI h (fun v12 h => ?_)
    refine x_iconst C (v := 1) dX5_post_27 (by decide) ?_
    refine x_iadd C dX5_post_28 ?_
    refine x_putI C cl_X5 6 (by decide) fl_X5_73_X5 rfl (dm_11 z) (fun _ _ _ => rfl) (fun _ _ _ => rfl) (fun _ _ _ => Nat.le_of_ble_eq_true rfl) rfl rfl dX5_post_29 h (fun s13 h => ?_)
    refine x_iconst C (v := 0) dX5_post_32 (by decide) ?_
    cases h
    exact xr_z C (by decide) hr dX5_post_33 (fun _ h => h)
def f_X5_has (z : Nat → Nat) (σ : Sg) (x1 : Int32) : Option Int32 :=
  if x1 < 0 then (some (0)) else (letv (σ.1 11 0 0 4) fun v2 => if v2 ≤ x1 then (some (0)) else (some (1)))
def rm_X5_has : Room := { frames := 0, cells := 0, slots := 0, locals := 0 }
set_option maxRecDepth 100000 in
set_option maxHeartbeats 4000000 in
theorem m_X5_has {l : Launch} {G : xG} {z : Nat → Nat} {σ : Sg} {τ : Tg} {x1 : Int32} {rF : Int32} (h : f_X5_has z σ x1 = some (rF)) : xMet l (xD G) (xcA G) (xbs G) yX5_has cX5_has 2 (Option.some Jvm.ClassFile.FieldType.boolean) rm_X5_has [.ref (xad G 11 0 0), .int x1] (xRep G z σ τ) (xRep G z σ τ) (some (.int rF)) 0 0 := by
  refine xMet.of RX5 rfl (by decide +kernel) (Nat.le_of_ble_eq_true rfl) ?_
  intro p e s m args below meth c C hr hnm
  unfold f_X5_has at h
  refine x_sub (L' := [(0, .ref (xad G 11 0 0)), (1, .int x1)]) [0, 1] rfl ?_
  refine x_iload_n C dX5_has_0 rfl (q := 1) rfl ?_
  refine x_if_lt C (tgt := 16) dX5_has_1 (by decide) h (fun hc1 h => ?_) (fun hc1 h => ?_)
  · refine x_iconst C (v := 0) dX5_has_16 (by decide) ?_
    cases h
    exact xr_z C (by decide) hr dX5_has_17 (fun _ h => h)
  · refine x_iload_n C dX5_has_4 rfl (q := 1) rfl ?_
    refine x_aload_n C dX5_has_5 rfl (q := 0) rfl ?_
    refine x_get C cl_X5 4 (by decide) fl_X5_38_X5 (dm_11 z) rfl rfl dX5_has_6 ?_
    refine x_letI h (fun v2 h => ?_)
    refine x_icmp_ge C (tgt := 16) dX5_has_9 (by decide) h (fun hc3 h => ?_) (fun hc3 h => ?_)
    · refine x_iconst C (v := 0) dX5_has_16 (by decide) ?_
      cases h
      exact xr_z C (by decide) hr dX5_has_17 (fun _ h => h)
    · refine x_iconst C (v := 1) dX5_has_12 (by decide) ?_
      refine x_goto C (tgt := 17) dX5_has_13 (by decide) ?_
      cases h
      exact xr_z C (by decide) hr dX5_has_17 (fun _ h => h)
def f_X5_take_L11 (z : Nat → Nat) (m2 : Nat) : Nat → Int32 → Sg → Option Sg
  | 0, _, _ => none
  | n + 1, y4, s5 => letv (s5.1 11 0 0 4) fun v9 => if v9 ≤ y4 then (some (s5)) else (gdx y4 (z 4) fun k11 => gdr (s5.2.2 12 k11) (z 4 + 2) fun m12 => gdx (y4 - 1) (z 4) fun k13 => letv (upR s5 12 k13 m12) fun s14 => letv (y4 + 1) fun v15 => f_X5_take_L11 z m2 n v15 s14)
def f_X5_take (z : Nat → Nat) (σ : Sg) (x1 : Int32) : Option (Nat × Sg) :=
  gdx x1 (z 4) fun k1 => gdr (σ.2.2 12 k1) (z 4 + 2) fun m2 => letv (x1 + 1) fun v3 => bnd1 (f_X5_take_L11 z m2 FU v3 σ) fun s6 => letv (s6.1 11 0 0 4) fun v16 => letv (upI s6 11 0 0 4 (v16 - 1)) fun s17 => letv (s17.1 11 0 0 4) fun v18 => gdr (s17.2.2 11 3) (z 4 + 2) fun m19 => gdx v18 (z 4) fun k20 => letv (upR s17 12 k20 m19) fun s21 => letv (upR s21 11 3 m2) fun s22 => some (m2, s22)
def rm_X5_take : Room := { frames := 0, cells := 0, slots := 0, locals := 0 }
set_option maxRecDepth 100000 in
set_option maxHeartbeats 4000000 in
theorem m_X5_take {l : Launch} {G : xG} {z : Nat → Nat} {σ : Sg} {τ : Tg} {x1 : Int32} {rF : Nat} {sF : Sg} (h : f_X5_take z σ x1 = some (rF, sF)) : xMet l (xD G) (xcA G) (xbs G) yX5_take cX5_take 4 (Option.some (Jvm.ClassFile.FieldType.object "CommitShards$Message")) rm_X5_take [.ref (xad G 11 0 0), .int x1] (xRep G z σ τ) (xRep G z sF τ) (some (.ref (xad G 13 rF 0))) 0 0 := by
  refine xMet.of RX5 rfl (by decide +kernel) (Nat.le_of_ble_eq_true rfl) ?_
  intro p e s m args below meth c C hr hnm
  unfold f_X5_take at h
  refine x_sub (L' := [(0, .ref (xad G 11 0 0)), (1, .int x1)]) [0, 1] rfl ?_
  refine x_aload_n C dX5_take_0 rfl (q := 0) rfl ?_
  refine x_get C cl_X5 1 (by decide) fl_X5_21_X5 (dm_11 z) rfl rfl dX5_take_1 ?_
  refine x_iload_n C dX5_take_4 rfl (q := 1) rfl ?_
  refine x_aald C 5 rfl rfl (dm_12 z) rfl dX5_take_5 h (fun k1 hk1 h => ?_)
  refine x_gdr h (fun m2 hm2 h => ?_)
  refine x_astore_n C (L' := [(2, .ref (xad G 13 m2 0)), (0, .ref (xad G 11 0 0)), (1, .int x1)]) dX5_take_6 rfl (by decide) rfl ?_
  refine x_iload_n C dX5_take_7 rfl (q := 2) rfl ?_
  refine x_iconst C (v := 1) dX5_take_8 (by decide) ?_
  refine x_iadd C dX5_take_9 ?_
  refine x_letI h (fun v3 h => ?_)
  refine x_istore_n C (L' := [(3, .int v3), (2, .ref (xad G 13 m2 0)), (0, .ref (xad G 11 0 0)), (1, .int x1)]) dX5_take_10 rfl (by decide) rfl ?_
  obtain ⟨s6, hv8, h⟩ := bnd1_some h
  refine x_join (Ω' := (xRep G z s6 τ)) (pc' := 39) (L' := [(0, .ref (xad G 11 0 0)), (2, .ref (xad G 13 m2 0))]) (st' := []) ?_ (fun hj7 => ?_)
  · refine x_aload_n C dX5_take_39 rfl (q := 0) rfl ?_
    refine x_dup C dX5_take_40 rfl ?_
    refine x_get C cl_X5 4 (by decide) fl_X5_38_X5 (dm_11 z) rfl rfl dX5_take_41 ?_
    refine x_letI h (fun v16 h => ?_)
    refine x_iconst C (v := 1) dX5_take_44 (by decide) ?_
    refine x_isub C dX5_take_45 ?_
    refine x_putI C cl_X5 4 (by decide) fl_X5_38_X5 rfl (dm_11 z) (fun _ _ _ => rfl) (fun _ _ _ => rfl) (fun _ _ _ => Nat.le_of_ble_eq_true rfl) rfl rfl dX5_take_46 h (fun s17 h => ?_)
    refine x_aload_n C dX5_take_49 rfl (q := 0) rfl ?_
    refine x_get C cl_X5 1 (by decide) fl_X5_21_X5 (dm_11 z) rfl rfl dX5_take_50 ?_
    refine x_aload_n C dX5_take_53 rfl (q := 0) rfl ?_
    refine x_get C cl_X5 4 (by decide) fl_X5_38_X5 (dm_11 z) rfl rfl dX5_take_54 ?_
    refine x_letI h (fun v18 h => ?_)
    refine x_aload_n C dX5_take_57 rfl (q := 0) rfl ?_
    refine x_get C cl_X5 3 (by decide) fl_X5_35_X5 (dm_11 z) rfl rfl dX5_take_58 ?_
    refine x_gdr h (fun m19 hm19 h => ?_)
    refine x_aastQ C (dm_12 z) hm19 dX5_take_61 h (fun k20 hk20 h => ?_)
    refine x_letS h (fun s21 h => ?_)
    refine x_aload_n C dX5_take_62 rfl (q := 0) rfl ?_
    refine x_aload_n C dX5_take_63 rfl (q := 1) rfl ?_
    refine x_putR C (v := m2) cl_X5 3 (by decide) fl_X5_35_X5 rfl (dm_11 z) (fun i j hd => ⟨Nat.lt_one_iff.mp hd.1, Nat.lt_one_iff.mp hd.2⟩) (fun _ _ _ => rfl) (fun _ _ _ => rfl) (fun _ _ _ => Nat.le_of_ble_eq_true rfl) rfl rfl dX5_take_64 h (fun s22 h => ?_)
    refine x_aload_n C dX5_take_67 rfl (q := 1) rfl ?_
    cases h
    exact xr_a C hr dX5_take_68 (fun _ h => h)
  · have hl23 : ∀ (n : Nat) (y4 : Int32) (s5 : Sg), f_X5_take_L11 z m2 n y4 s5 = some (s6) → XW p l e rm_X5_take s m args below meth c 0 0 4 (xbs G) (xQ below args s (xbs G) (some (.ref (xad G 13 rF 0))) (xRep G z sF τ) 0 0) (xRep G z s5 τ) 11 [(0, .ref (xad G 11 0 0)), (2, .ref (xad G 13 m2 0)), (3, .int y4)] [] := by
      intro n
      induction n with
      | zero =>
        intro y4 s5 h
        exact absurd h (by rw [f_X5_take_L11]; intro q; cases q)
      | succ n ih =>
        intro y4 s5 h
        rw [f_X5_take_L11] at h
        refine x_iload_n C dX5_take_11 rfl (q := 2) rfl ?_
        refine x_aload_n C dX5_take_12 rfl (q := 0) rfl ?_
        refine x_get C cl_X5 4 (by decide) fl_X5_38_X5 (dm_11 z) rfl rfl dX5_take_13 ?_
        refine x_letI h (fun v9 h => ?_)
        refine x_icmp_ge C (tgt := 39) dX5_take_16 (by decide) h (fun hc10 h => ?_) (fun hc10 h => ?_)
        · cases h
          exact x_sub [0, 1] rfl hj7
        · refine x_aload_n C dX5_take_19 rfl (q := 0) rfl ?_
          refine x_get C cl_X5 1 (by decide) fl_X5_21_X5 (dm_11 z) rfl rfl dX5_take_20 ?_
          refine x_iload_n C dX5_take_23 rfl (q := 2) rfl ?_
          refine x_iconst C (v := 1) dX5_take_24 (by decide) ?_
          refine x_isub C dX5_take_25 ?_
          refine x_aload_n C dX5_take_26 rfl (q := 0) rfl ?_
          refine x_get C cl_X5 1 (by decide) fl_X5_21_X5 (dm_11 z) rfl rfl dX5_take_27 ?_
          refine x_iload_n C dX5_take_30 rfl (q := 2) rfl ?_
          refine x_aald C 5 rfl rfl (dm_12 z) rfl dX5_take_31 h (fun k11 hk11 h => ?_)
          refine x_gdr h (fun m12 hm12 h => ?_)
          refine x_aastQ C (dm_12 z) hm12 dX5_take_32 h (fun k13 hk13 h => ?_)
          refine x_letS h (fun s14 h => ?_)
          refine x_iincL C (w := 1) (L' := fun v15 => [(3, .int v15), (0, .ref (xad G 11 0 0)), (2, .ref (xad G 13 m2 0))]) dX5_take_33 (k := 2) rfl (by decide) (by decide) (fun _ => rfl) h (fun v15 h => ?_)
          refine x_goto C (tgt := 11) dX5_take_36 (by decide) ?_
          exact x_sub [1, 2, 0] rfl (ih _ _ h)
    exact x_sub [2, 1, 0] rfl (hl23 FU _ _ hv8)
def f_X8_hearEnd (z : Nat → Nat) (σ : Sg) (x1 : Int32) (x2 : Int32) : Option Sg :=
  gdx x1 (z 2) fun k1 => letv (σ.1 3 0 0 k1) fun v2 => if v2 = 2 then (gdx x1 (z 2) fun k4 => letv (upI σ 3 0 0 k4 x2) fun s5 => some (s5)) else (some (σ))
def rm_X8_hearEnd : Room := { frames := 0, cells := 0, slots := 0, locals := 0 }
set_option maxRecDepth 100000 in
set_option maxHeartbeats 4000000 in
theorem m_X8_hearEnd {l : Launch} {G : xG} {z : Nat → Nat} {σ : Sg} {τ : Tg} {x1 : Int32} {x2 : Int32} {sF : Sg} (h : f_X8_hearEnd z σ x1 x2 = some (sF)) : xMet l (xD G) (xcA G) (xbs G) yX8_hearEnd cX8_hearEnd 3 (Option.none : Option Jvm.ClassFile.FieldType) rm_X8_hearEnd [.ref (xad G 2 0 0), .int x1, .int x2] (xRep G z σ τ) (xRep G z sF τ) none 0 0 := by
  refine xMet.of RX8 rfl (by decide +kernel) (Nat.le_of_ble_eq_true rfl) ?_
  intro p e s m args below meth c C hr hnm
  unfold f_X8_hearEnd at h
  refine x_sub (L' := [(0, .ref (xad G 2 0 0)), (1, .int x1), (2, .int x2)]) [0, 1, 2] rfl ?_
  refine x_aload_n C dX8_hearEnd_0 rfl (q := 0) rfl ?_
  refine x_get C cl_X8 0 (by decide) fl_X8_15_X8 (dm_2 z) rfl rfl dX8_hearEnd_1 ?_
  refine x_iload_n C dX8_hearEnd_4 rfl (q := 1) rfl ?_
  refine x_iald C (dm_3 z) (fun _ _ _ => rfl) dX8_hearEnd_5 h (fun k1 hk1 h => ?_)
  refine x_letI h (fun v2 h => ?_)
  refine x_iconst C (v := 2) dX8_hearEnd_6 (by decide) ?_
  refine x_icmp_ne C (tgt := 17) dX8_hearEnd_7 (by decide) h (fun hc3 h => ?_) (fun hc3 h => ?_)
  · cases h
    exact xr_v C hr dX8_hearEnd_17 (fun _ h => h)
  · refine x_aload_n C dX8_hearEnd_10 rfl (q := 0) rfl ?_
    refine x_get C cl_X8 0 (by decide) fl_X8_15_X8 (dm_2 z) rfl rfl dX8_hearEnd_11 ?_
    refine x_iload_n C dX8_hearEnd_14 rfl (q := 1) rfl ?_
    refine x_iload_n C dX8_hearEnd_15 rfl (q := 2) rfl ?_
    refine x_iast C (dm_3 z) (fun _ _ _ => rfl) dX8_hearEnd_16 h (fun k4 hk4 h => ?_)
    refine x_letS h (fun s5 h => ?_)
    cases h
    exact xr_v C hr dX8_hearEnd_17 (fun _ h => h)
def f_X2_isFull (z : Nat → Nat) (σ : Sg) (i : Nat) : Option Int32 :=
  letv (σ.1 18 i 0 1) fun v1 => if v1 < (nI (z 5)) then (some (0)) else (some (1))
def rm_X2_isFull : Room := { frames := 0, cells := 0, slots := 0, locals := 0 }
set_option maxRecDepth 100000 in
set_option maxHeartbeats 4000000 in
theorem m_X2_isFull {l : Launch} {G : xG} {z : Nat → Nat} {σ : Sg} {τ : Tg} {i : Nat} {rF : Int32} (hi : i < z 0 + z 1) (h : f_X2_isFull z σ i = some (rF)) : xMet l (xD G) (xcA G) (xbs G) yX2_isFull cX2_isFull 1 (Option.some Jvm.ClassFile.FieldType.boolean) rm_X2_isFull [.ref (xad G 18 i 0)] (xRep G z σ τ) (xRep G z σ τ) (some (.int rF)) 0 0 := by
  refine xMet.of RX2 rfl (by decide +kernel) (Nat.le_of_ble_eq_true rfl) ?_
  intro p e s m args below meth c C hr hnm
  unfold f_X2_isFull at h
  refine x_sub (L' := [(0, .ref (xad G 18 i 0))]) [0] rfl ?_
  refine x_aload_n C dX2_isFull_0 rfl (q := 0) rfl ?_
  refine x_get C cl_X2 1 (by decide) fl_X2_16_X2 (dm_18 hi) rfl rfl dX2_isFull_1 ?_
  refine x_letI h (fun v1 h => ?_)
  refine x_aload_n C dX2_isFull_4 rfl (q := 0) rfl ?_
  refine x_get C cl_X2 0 (by decide) fl_X2_11_X2 (dm_18 hi) rfl rfl dX2_isFull_5 ?_
  refine x_alen C 3 rfl (dm_19 hi) rfl dX2_isFull_8 ?_
  refine x_icmp_lt C (tgt := 16) dX2_isFull_9 (by decide) h (fun hc2 h => ?_) (fun hc2 h => ?_)
  · refine x_iconst C (v := 0) dX2_isFull_16 (by decide) ?_
    cases h
    exact xr_z C (by decide) hr dX2_isFull_17 (fun _ h => h)
  · refine x_iconst C (v := 1) dX2_isFull_12 (by decide) ?_
    refine x_goto C (tgt := 17) dX2_isFull_13 (by decide) ?_
    cases h
    exact xr_z C (by decide) hr dX2_isFull_17 (fun _ h => h)
def f_X2_put (z : Nat → Nat) (σ : Sg) (i : Nat) (x1 : Int32) (x2 : Int32) (x3 : Int32) (x4 : Int32) : Option Sg :=
  bnd1 (f_X2_isFull z σ i) fun r2 => if r2 = 0 then (letv (σ.1 18 i 0 1) fun v4 => gdx v4 (z 5) fun k5 => gdx 0 4 fun k6 => letv (upI σ 20 i k5 k6 x1) fun s7 => letv (s7.1 18 i 0 1) fun v8 => gdx v8 (z 5) fun k9 => gdx 1 4 fun k10 => letv (upI s7 20 i k9 k10 x2) fun s11 => letv (s11.1 18 i 0 1) fun v12 => gdx v12 (z 5) fun k13 => gdx 2 4 fun k14 => letv (upI s11 20 i k13 k14 x3) fun s15 => letv (s15.1 18 i 0 1) fun v16 => gdx v16 (z 5) fun k17 => gdx 3 4 fun k18 => letv (upI s15 20 i k17 k18 x4) fun s19 => letv (s19.1 18 i 0 1) fun v20 => letv (upI s19 18 i 0 1 (v20 + 1)) fun s21 => some (s21)) else (some (σ))
def rm_X2_put : Room := { frames := 1, cells := 0, slots := 0, locals := 20 }
set_option maxRecDepth 100000 in
set_option maxHeartbeats 4000000 in
theorem m_X2_put {l : Launch} {G : xG} {z : Nat → Nat} {σ : Sg} {τ : Tg} {i : Nat} {x1 : Int32} {x2 : Int32} {x3 : Int32} {x4 : Int32} {sF : Sg} (hi : i < z 0 + z 1) (h : f_X2_put z σ i x1 x2 x3 x4 = some (sF)) : xMet l (xD G) (xcA G) (xbs G) yX2_put cX2_put 5 (Option.none : Option Jvm.ClassFile.FieldType) rm_X2_put [.ref (xad G 18 i 0), .int x1, .int x2, .int x3, .int x4] (xRep G z σ τ) (xRep G z sF τ) none 0 0 := by
  refine xMet.of RX2 rfl (by decide +kernel) (Nat.le_of_ble_eq_true rfl) ?_
  intro p e s m args below meth c C hr hnm
  unfold f_X2_put at h
  refine x_sub (L' := [(0, .ref (xad G 18 i 0)), (1, .int x1), (2, .int x2), (3, .int x3), (4, .int x4)]) [0, 1, 2, 3, 4] rfl ?_
  refine x_aload_n C dX2_put_0 rfl (q := 0) rfl ?_
  obtain ⟨r2, hq1, h⟩ := bnd1_some h
  refine x_callV_i C (m_X2_isFull hi hq1) wv_X2_20 (x_recv C.2.2.2 cl_X2 (dm_18 hi) rfl) rfl (Nat.le_of_ble_eq_true rfl) ⟨⟨rfl, rfl⟩, Nat.le_of_ble_eq_true rfl, Nat.le_of_ble_eq_true rfl⟩ dX2_put_1 rfl ?_
  refine x_if_eq C (tgt := 8) dX2_put_4 (by decide) h (fun hc3 h => ?_) (fun hc3 h => ?_)
  · refine x_aload_n C dX2_put_8 rfl (q := 0) rfl ?_
    refine x_get C cl_X2 0 (by decide) fl_X2_11_X2 (dm_18 hi) rfl rfl dX2_put_9 ?_
    refine x_aload_n C dX2_put_12 rfl (q := 0) rfl ?_
    refine x_get C cl_X2 1 (by decide) fl_X2_16_X2 (dm_18 hi) rfl rfl dX2_put_13 ?_
    refine x_letI h (fun v4 h => ?_)
    refine x_aald C 3 rfl rfl (dm_19 hi) rfl dX2_put_16 h (fun k5 hk5 h => ?_)
    refine x_iconst C (v := 0) dX2_put_17 (by decide) ?_
    refine x_iload_n C dX2_put_18 rfl (q := 1) rfl ?_
    refine x_iast C (dm_20 hi hk5) (fun _ _ _ => rfl) dX2_put_19 h (fun k6 hk6 h => ?_)
    refine x_letS h (fun s7 h => ?_)
    refine x_aload_n C dX2_put_20 rfl (q := 0) rfl ?_
    refine x_get C cl_X2 0 (by decide) fl_X2_11_X2 (dm_18 hi) rfl rfl dX2_put_21 ?_
    refine x_aload_n C dX2_put_24 rfl (q := 0) rfl ?_
    refine x_get C cl_X2 1 (by decide) fl_X2_16_X2 (dm_18 hi) rfl rfl dX2_put_25 ?_
    refine x_letI h (fun v8 h => ?_)
    refine x_aald C 3 rfl rfl (dm_19 hi) rfl dX2_put_28 h (fun k9 hk9 h => ?_)
    refine x_iconst C (v := 1) dX2_put_29 (by decide) ?_
    refine x_iload_n C dX2_put_30 rfl (q := 2) rfl ?_
    refine x_iast C (dm_20 hi hk9) (fun _ _ _ => rfl) dX2_put_31 h (fun k10 hk10 h => ?_)
    refine x_letS h (fun s11 h => ?_)
    refine x_aload_n C dX2_put_32 rfl (q := 0) rfl ?_
    refine x_get C cl_X2 0 (by decide) fl_X2_11_X2 (dm_18 hi) rfl rfl dX2_put_33 ?_
    refine x_aload_n C dX2_put_36 rfl (q := 0) rfl ?_
    refine x_get C cl_X2 1 (by decide) fl_X2_16_X2 (dm_18 hi) rfl rfl dX2_put_37 ?_
    refine x_letI h (fun v12 h => ?_)
    refine x_aald C 3 rfl rfl (dm_19 hi) rfl dX2_put_40 h (fun k13 hk13 h => ?_)
    refine x_iconst C (v := 2) dX2_put_41 (by decide) ?_
    refine x_iload_n C dX2_put_42 rfl (q := 3) rfl ?_
    refine x_iast C (dm_20 hi hk13) (fun _ _ _ => rfl) dX2_put_43 h (fun k14 hk14 h => ?_)
    refine x_letS h (fun s15 h => ?_)
    refine x_aload_n C dX2_put_44 rfl (q := 0) rfl ?_
    refine x_get C cl_X2 0 (by decide) fl_X2_11_X2 (dm_18 hi) rfl rfl dX2_put_45 ?_
    refine x_aload_n C dX2_put_48 rfl (q := 0) rfl ?_
    refine x_get C cl_X2 1 (by decide) fl_X2_16_X2 (dm_18 hi) rfl rfl dX2_put_49 ?_
    refine x_letI h (fun v16 h => ?_)
    refine x_aald C 3 rfl rfl (dm_19 hi) rfl dX2_put_52 h (fun k17 hk17 h => ?_)
    refine x_iconst C (v := 3) dX2_put_53 (by decide) ?_
    refine x_iload C dX2_put_54 (q := 4) rfl ?_
    refine x_iast C (dm_20 hi hk17) (fun _ _ _ => rfl) dX2_put_56 h (fun k18 hk18 h => ?_)
    refine x_letS h (fun s19 h => ?_)
    refine x_aload_n C dX2_put_57 rfl (q := 0) rfl ?_
    refine x_dup C dX2_put_58 rfl ?_
    refine x_get C cl_X2 1 (by decide) fl_X2_16_X2 (dm_18 hi) rfl rfl dX2_put_59 ?_
    refine x_letI h (fun v20 h => ?_)
    refine x_iconst C (v := 1) dX2_put_62 (by decide) ?_
    refine x_iadd C dX2_put_63 ?_
    refine x_putI C cl_X2 1 (by decide) fl_X2_16_X2 rfl (dm_18 hi) (fun _ _ _ => rfl) (fun _ _ _ => rfl) (fun _ _ _ => Nat.le_of_ble_eq_true rfl) rfl rfl dX2_put_64 h (fun s21 h => ?_)
    cases h
    exact xr_v C hr dX2_put_67 (fun _ h => h)
  · cases h
    exact xr_v C hr dX2_put_7 (fun _ h => h)
def f_X5_startDraftOfVote (z : Nat → Nat) (σ : Sg) (x1 : Int32) (x2 : Int32) (x3 : Int32) (x4 : Int32) (x5 : Int32) (x6 : Int32) : Option Sg :=
  bnd1 (f_X5_startDraft z σ x1 x2 x3) fun s2 => letv (upI s2 13 (z 4) 0 3 x4) fun s3 => letv (upI s3 13 (z 4) 0 4 x5) fun s4 => letv (upI s4 13 (z 4) 0 5 x6) fun s5 => some (s5)
def rm_X5_startDraftOfVote : Room := { frames := 1, cells := 0, slots := 0, locals := 23 }
set_option maxRecDepth 100000 in
set_option maxHeartbeats 4000000 in
theorem m_X5_startDraftOfVote {l : Launch} {G : xG} {z : Nat → Nat} {σ : Sg} {τ : Tg} {x1 : Int32} {x2 : Int32} {x3 : Int32} {x4 : Int32} {x5 : Int32} {x6 : Int32} {sF : Sg} (h : f_X5_startDraftOfVote z σ x1 x2 x3 x4 x5 x6 = some (sF)) : xMet l (xD G) (xcA G) (xbs G) yX5_startDraftOfVote cX5_startDraftOfVote 7 (Option.none : Option Jvm.ClassFile.FieldType) rm_X5_startDraftOfVote [.ref (xad G 11 0 0), .int x1, .int x2, .int x3, .int x4, .int x5, .int x6] (xRep G z σ τ) (xRep G z sF τ) none 0 0 := by
  refine xMet.of RX5 rfl (by decide +kernel) (Nat.le_of_ble_eq_true rfl) ?_
  intro p e s m args below meth c C hr hnm
  unfold f_X5_startDraftOfVote at h
  refine x_sub (L' := [(0, .ref (xad G 11 0 0)), (1, .int x1), (2, .int x2), (3, .int x3), (4, .int x4), (5, .int x5), (6, .int x6)]) [0, 1, 2, 3, 4, 5, 6] rfl ?_
  refine x_aload_n C dX5_startDraftOfVote_0 rfl (q := 0) rfl ?_
  refine x_iload_n C dX5_startDraftOfVote_1 rfl (q := 1) rfl ?_
  refine x_iload_n C dX5_startDraftOfVote_2 rfl (q := 2) rfl ?_
  refine x_iload_n C dX5_startDraftOfVote_3 rfl (q := 3) rfl ?_
  obtain ⟨s2, hq1, h⟩ := bnd1_some h
  refine x_callV_v C (m_X5_startDraft hq1) wv_X5_59 (x_recv C.2.2.2 cl_X5 (dm_11 z) rfl) rfl (Nat.le_of_ble_eq_true rfl) ⟨⟨rfl, rfl⟩, Nat.le_of_ble_eq_true rfl, Nat.le_of_ble_eq_true rfl⟩ dX5_startDraftOfVote_4 rfl ?_
  refine x_aload_n C dX5_startDraftOfVote_7 rfl (q := 0) rfl ?_
  refine x_get C cl_X5 2 (by decide) fl_X5_31_X5 (dm_11 z) rfl rfl dX5_startDraftOfVote_8 ?_
  refine x_iload C dX5_startDraftOfVote_11 (q := 4) rfl ?_
  refine x_putI C cl_X3 3 (by decide) fl_X5_50_X3 rfl (dm_13 xb_d) (fun _ _ _ => rfl) (fun _ _ _ => rfl) (fun _ _ _ => Nat.le_of_ble_eq_true rfl) rfl rfl dX5_startDraftOfVote_13 h (fun s3 h => ?_)
  refine x_aload_n C dX5_startDraftOfVote_16 rfl (q := 0) rfl ?_
  refine x_get C cl_X5 2 (by decide) fl_X5_31_X5 (dm_11 z) rfl rfl dX5_startDraftOfVote_17 ?_
  refine x_iload C dX5_startDraftOfVote_20 (q := 5) rfl ?_
  refine x_putI C cl_X3 4 (by decide) fl_X5_53_X3 rfl (dm_13 xb_d) (fun _ _ _ => rfl) (fun _ _ _ => rfl) (fun _ _ _ => Nat.le_of_ble_eq_true rfl) rfl rfl dX5_startDraftOfVote_22 h (fun s4 h => ?_)
  refine x_aload_n C dX5_startDraftOfVote_25 rfl (q := 0) rfl ?_
  refine x_get C cl_X5 2 (by decide) fl_X5_31_X5 (dm_11 z) rfl rfl dX5_startDraftOfVote_26 ?_
  refine x_iload C dX5_startDraftOfVote_29 (q := 6) rfl ?_
  refine x_putI C cl_X3 5 (by decide) fl_X5_56_X3 rfl (dm_13 xb_d) (fun _ _ _ => rfl) (fun _ _ _ => rfl) (fun _ _ _ => Nat.le_of_ble_eq_true rfl) rfl rfl dX5_startDraftOfVote_31 h (fun s5 h => ?_)
  cases h
  exact xr_v C hr dX5_startDraftOfVote_34 (fun _ h => h)
def f_X5_postDraftToAcceptors_L2 (z : Nat → Nat) : Nat → Int32 → Sg → Option Sg
  | 0, _, _ => none
  | n + 1, y1, s2 => if (nI (z 1)) ≤ y1 then (some (s2)) else (bnd2 (f_X5_post z s2 (z 4) ((nI (z 0)) + y1)) fun r8 s9 => letv (y1 + 1) fun v10 => f_X5_postDraftToAcceptors_L2 z n v10 s9)
def f_X5_postDraftToAcceptors (z : Nat → Nat) (σ : Sg) : Option Sg :=
  bnd1 (f_X5_postDraftToAcceptors_L2 z FU 0 σ) fun s3 => some (s3)
def rm_X5_postDraftToAcceptors : Room := { frames := 2, cells := 0, slots := 0, locals := 45 }
set_option maxRecDepth 100000 in
set_option maxHeartbeats 4000000 in
theorem m_X5_postDraftToAcceptors {l : Launch} {G : xG} {z : Nat → Nat} {σ : Sg} {τ : Tg} {sF : Sg} (h : f_X5_postDraftToAcceptors z σ = some (sF)) : xMet l (xD G) (xcA G) (xbs G) yX5_postDraftToAcceptors cX5_postDraftToAcceptors 2 (Option.none : Option Jvm.ClassFile.FieldType) rm_X5_postDraftToAcceptors [.ref (xad G 11 0 0)] (xRep G z σ τ) (xRep G z sF τ) none 0 0 := by
  refine xMet.of RX5 rfl (by decide +kernel) (Nat.le_of_ble_eq_true rfl) ?_
  intro p e s m args below meth c C hr hnm
  unfold f_X5_postDraftToAcceptors at h
  refine x_sub (L' := [(0, .ref (xad G 11 0 0))]) [0] rfl ?_
  refine x_iconst C (v := 0) dX5_postDraftToAcceptors_0 (by decide) ?_
  refine x_istore_n C (L' := [(1, .int 0), (0, .ref (xad G 11 0 0))]) dX5_postDraftToAcceptors_1 rfl (by decide) rfl ?_
  obtain ⟨s3, hv5, h⟩ := bnd1_some h
  refine x_join (Ω' := (xRep G z s3 τ)) (pc' := 37) (L' := []) (st' := []) ?_ (fun hj4 => ?_)
  · cases h
    exact xr_v C hr dX5_postDraftToAcceptors_37 (fun _ h => h)
  · have hl11 : ∀ (n : Nat) (y1 : Int32) (s2 : Sg), f_X5_postDraftToAcceptors_L2 z n y1 s2 = some (s3) → XW p l e rm_X5_postDraftToAcceptors s m args below meth c 0 0 2 (xbs G) (xQ below args s (xbs G) none (xRep G z sF τ) 0 0) (xRep G z s2 τ) 2 [(0, .ref (xad G 11 0 0)), (1, .int y1)] [] := by
      intro n
      induction n with
      | zero =>
        intro y1 s2 h
        exact absurd h (by rw [f_X5_postDraftToAcceptors_L2]; intro q; cases q)
      | succ n ih =>
        intro y1 s2 h
        rw [f_X5_postDraftToAcceptors_L2] at h
        refine x_iload_n C dX5_postDraftToAcceptors_2 rfl (q := 1) rfl ?_
        refine x_aload_n C dX5_postDraftToAcceptors_3 rfl (q := 0) rfl ?_
        refine x_get C cl_X5 0 (by decide) fl_X5_7_X5 (dm_11 z) rfl rfl dX5_postDraftToAcceptors_4 ?_
        refine x_get C cl_X7 1 (by decide) fl_X5_63_X7 (dm_1 z) rfl rfl dX5_postDraftToAcceptors_7 ?_
        refine x_icmp_ge C (tgt := 37) dX5_postDraftToAcceptors_10 (by decide) h (fun hc6 h => ?_) (fun hc6 h => ?_)
        · cases h
          exact x_sub [] rfl hj4
        · refine x_aload_n C dX5_postDraftToAcceptors_13 rfl (q := 0) rfl ?_
          refine x_aload_n C dX5_postDraftToAcceptors_14 rfl (q := 0) rfl ?_
          refine x_get C cl_X5 2 (by decide) fl_X5_31_X5 (dm_11 z) rfl rfl dX5_postDraftToAcceptors_15 ?_
          refine x_aload_n C dX5_postDraftToAcceptors_18 rfl (q := 0) rfl ?_
          refine x_get C cl_X5 0 (by decide) fl_X5_7_X5 (dm_11 z) rfl rfl dX5_postDraftToAcceptors_19 ?_
          refine x_get C cl_X7 0 (by decide) fl_X5_25_X7 (dm_1 z) rfl rfl dX5_postDraftToAcceptors_22 ?_
          refine x_iload_n C dX5_postDraftToAcceptors_25 rfl (q := 1) rfl ?_
          refine x_iadd C dX5_postDraftToAcceptors_26 ?_
          obtain ⟨r8, s9, hq7, h⟩ := bnd2_some h
          refine x_callV_i C (m_X5_post xb_d hq7) wv_X5_66 (x_recv C.2.2.2 cl_X5 (dm_11 z) rfl) rfl (Nat.le_of_ble_eq_true rfl) ⟨⟨rfl, rfl⟩, Nat.le_of_ble_eq_true rfl, Nat.le_of_ble_eq_true rfl⟩ dX5_postDraftToAcceptors_27 rfl ?_
          refine x_pop C dX5_postDraftToAcceptors_30 rfl ?_
          refine x_iincL C (w := 1) (L' := fun v10 => [(1, .int v10), (0, .ref (xad G 11 0 0))]) dX5_postDraftToAcceptors_31 (k := 1) rfl (by decide) (by decide) (fun _ => rfl) h (fun v10 h => ?_)
          refine x_goto C (tgt := 2) dX5_postDraftToAcceptors_34 (by decide) ?_
          exact x_sub [1, 0] rfl (ih _ _ h)
    exact x_sub [1, 0] rfl (hl11 FU _ _ hv5)
def f_X7_acceptorOf (z : Nat → Nat) (σ : Sg) (x1 : Int32) : Option Int32 :=
  gnz (nI (z 1)) <| some ((nI (z 0)) + (x1 - x1 / (nI (z 1)) * (nI (z 1))))
def rm_X7_acceptorOf : Room := { frames := 0, cells := 0, slots := 0, locals := 0 }
set_option maxRecDepth 100000 in
set_option maxHeartbeats 4000000 in
theorem m_X7_acceptorOf {l : Launch} {G : xG} {z : Nat → Nat} {σ : Sg} {τ : Tg} {x1 : Int32} {rF : Int32} (h : f_X7_acceptorOf z σ x1 = some (rF)) : xMet l (xD G) (xcA G) (xbs G) yX7_acceptorOf cX7_acceptorOf 2 (Option.some Jvm.ClassFile.FieldType.int) rm_X7_acceptorOf [.ref (xad G 1 0 0), .int x1] (xRep G z σ τ) (xRep G z σ τ) (some (.int rF)) 0 0 := by
  refine xMet.of RX7 rfl (by decide +kernel) (Nat.le_of_ble_eq_true rfl) ?_
  intro p e s m args below meth c C hr hnm
  unfold f_X7_acceptorOf at h
  refine x_sub (L' := [(0, .ref (xad G 1 0 0)), (1, .int x1)]) [0, 1] rfl ?_
  refine x_aload_n C dX7_acceptorOf_0 rfl (q := 0) rfl ?_
  refine x_get C cl_X7 0 (by decide) fl_X7_13_X7 (dm_1 z) rfl rfl dX7_acceptorOf_1 ?_
  refine x_iload_n C dX7_acceptorOf_4 rfl (q := 1) rfl ?_
  refine x_aload_n C dX7_acceptorOf_5 rfl (q := 0) rfl ?_
  refine x_get C cl_X7 1 (by decide) fl_X7_21_X7 (dm_1 z) rfl rfl dX7_acceptorOf_6 ?_
  refine x_irem C dX7_acceptorOf_9 h (fun h => ?_)
  refine x_iadd C dX7_acceptorOf_10 ?_
  cases h
  exact xr_i C hr dX7_acceptorOf_11 (fun _ h => h)
def f_J6_bitCount_0f7a4 (x1 : Int32) : Option Int32 :=
  letv (x1 - ((iushr x1 1) &&& 1431655765)) fun v1 => letv ((v1 &&& 858993459) + ((iushr v1 2) &&& 858993459)) fun v2 => letv ((v2 + (iushr v2 4)) &&& 252645135) fun v3 => letv (v3 + (iushr v3 8)) fun v4 => letv (v4 + (iushr v4 16)) fun v5 => some (v5 &&& 63)
def rm_J6_bitCount_0f7a4 : Room := { frames := 0, cells := 0, slots := 0, locals := 0 }
set_option maxRecDepth 100000 in
set_option maxHeartbeats 4000000 in
theorem m_J6_bitCount_0f7a4 {l : Launch} {D : va_G} {cA : Nat → ClassId} {bs : Nat} {Ω : Heap → Prop} {x1 : Int32} {rF : Int32} (h : f_J6_bitCount_0f7a4 x1 = some (rF)) : xMet l D cA bs yJ6_bitCount_0f7a4 cJ6_bitCount_0f7a4 1 (Option.some Jvm.ClassFile.FieldType.int) rm_J6_bitCount_0f7a4 [.int x1] Ω Ω (some (.int rF)) 0 0 := by
  refine xMet.of RJ6 rfl (by decide +kernel) (Nat.le_of_ble_eq_true rfl) ?_
  intro p e s m args below meth c C hr hnm
  unfold f_J6_bitCount_0f7a4 at h
  refine x_sub (L' := [(0, .int x1)]) [0] rfl ?_
  refine x_iload_n C dJ6_bitCount_0f7a4_0 rfl (q := 0) rfl ?_
  refine x_iload_n C dJ6_bitCount_0f7a4_1 rfl (q := 0) rfl ?_
  refine x_iconst C (v := 1) dJ6_bitCount_0f7a4_2 (by decide) ?_
  refine x_iushr C (v := iushr _ _) dJ6_bitCount_0f7a4_3 rfl ?_
  refine x_ldc_w C wc_J6_265 dJ6_bitCount_0f7a4_4 ?_
  refine x_iand C dJ6_bitCount_0f7a4_7 ?_
  refine x_isub C dJ6_bitCount_0f7a4_8 ?_
  refine x_letI h (fun v1 h => ?_)
  refine x_istore_n C (L' := [(0, .int v1)]) dJ6_bitCount_0f7a4_9 rfl (by decide) rfl ?_
  refine x_iload_n C dJ6_bitCount_0f7a4_10 rfl (q := 0) rfl ?_
  refine x_ldc_w C wc_J6_266 dJ6_bitCount_0f7a4_11 ?_
  refine x_iand C dJ6_bitCount_0f7a4_14 ?_
  refine x_iload_n C dJ6_bitCount_0f7a4_15 rfl (q := 0) rfl ?_
  refine x_iconst C (v := 2) dJ6_bitCount_0f7a4_16 (by decide) ?_
  refine x_iushr C (v := iushr _ _) dJ6_bitCount_0f7a4_17 rfl ?_
  refine x_ldc_w C wc_J6_266 dJ6_bitCount_0f7a4_18 ?_
  refine x_iand C dJ6_bitCount_0f7a4_21 ?_
  refine x_iadd C dJ6_bitCount_0f7a4_22 ?_
  refine x_letI h (fun v2 h => ?_)
  refine x_istore_n C (L' := [(0, .int v2)]) dJ6_bitCount_0f7a4_23 rfl (by decide) rfl ?_
  refine x_iload_n C dJ6_bitCount_0f7a4_24 rfl (q := 0) rfl ?_
  refine x_iload_n C dJ6_bitCount_0f7a4_25 rfl (q := 0) rfl ?_
  refine x_iconst C (v := 4) dJ6_bitCount_0f7a4_26 (by decide) ?_
  refine x_iushr C (v := iushr _ _) dJ6_bitCount_0f7a4_27 rfl ?_
  refine x_iadd C dJ6_bitCount_0f7a4_28 ?_
  refine x_ldc_w C wc_J6_267 dJ6_bitCount_0f7a4_29 ?_
  refine x_iand C dJ6_bitCount_0f7a4_32 ?_
  refine x_letI h (fun v3 h => ?_)
  refine x_istore_n C (L' := [(0, .int v3)]) dJ6_bitCount_0f7a4_33 rfl (by decide) rfl ?_
  refine x_iload_n C dJ6_bitCount_0f7a4_34 rfl (q := 0) rfl ?_
  refine x_iload_n C dJ6_bitCount_0f7a4_35 rfl (q := 0) rfl ?_
  refine x_bipush C (v := 8) dJ6_bitCount_0f7a4_36 (by decide) ?_
  refine x_iushr C (v := iushr _ _) dJ6_bitCount_0f7a4_38 rfl ?_
  refine x_iadd C dJ6_bitCount_0f7a4_39 ?_
  refine x_letI h (fun v4 h => ?_)
  refine x_istore_n C (L' := [(0, .int v4)]) dJ6_bitCount_0f7a4_40 rfl (by decide) rfl ?_
  refine x_iload_n C dJ6_bitCount_0f7a4_41 rfl (q := 0) rfl ?_
  refine x_iload_n C dJ6_bitCount_0f7a4_42 rfl (q := 0) rfl ?_
  refine x_bipush C (v := 16) dJ6_bitCount_0f7a4_43 (by decide) ?_
  refine x_iushr C (v := iushr _ _) dJ6_bitCount_0f7a4_45 rfl ?_
  refine x_iadd C dJ6_bitCount_0f7a4_46 ?_
  refine x_letI h (fun v5 h => ?_)
  refine x_istore_n C (L' := [(0, .int v5)]) dJ6_bitCount_0f7a4_47 rfl (by decide) rfl ?_
  refine x_iload_n C dJ6_bitCount_0f7a4_48 rfl (q := 0) rfl ?_
  refine x_bipush C (v := 63) dJ6_bitCount_0f7a4_49 (by decide) ?_
  refine x_iand C dJ6_bitCount_0f7a4_51 ?_
  cases h
  exact xr_i C hr dJ6_bitCount_0f7a4_52 (fun _ h => h)
def f_X7_isMajority (z : Nat → Nat) (σ : Sg) (x1 : Int32) : Option Int32 :=
  bnd1 (f_J6_bitCount_0f7a4 x1) fun r2 => gnz 2 <| if r2 ≤ ((nI (z 1)) / 2) then (some (0)) else (some (1))
def rm_X7_isMajority : Room := { frames := 1, cells := 0, slots := 0, locals := 20 }
set_option maxRecDepth 100000 in
set_option maxHeartbeats 4000000 in
theorem m_X7_isMajority {l : Launch} {G : xG} {z : Nat → Nat} {σ : Sg} {τ : Tg} {x1 : Int32} {rF : Int32} (h : f_X7_isMajority z σ x1 = some (rF)) : xMet l (xD G) (xcA G) (xbs G) yX7_isMajority cX7_isMajority 2 (Option.some Jvm.ClassFile.FieldType.boolean) rm_X7_isMajority [.ref (xad G 1 0 0), .int x1] (xRep G z σ τ) (xRep G z σ τ) (some (.int rF)) 0 0 := by
  refine xMet.of RX7 rfl (by decide +kernel) (Nat.le_of_ble_eq_true rfl) ?_
  intro p e s m args below meth c C hr hnm
  unfold f_X7_isMajority at h
  refine x_sub (L' := [(0, .ref (xad G 1 0 0)), (1, .int x1)]) [0, 1] rfl ?_
  refine x_iload_n C dX7_isMajority_0 rfl (q := 1) rfl ?_
  obtain ⟨r2, hq1, h⟩ := bnd1_some h
  refine x_callS_i C (m_J6_bitCount_0f7a4 hq1) ws_X7_44 rfl (Nat.le_of_ble_eq_true rfl) ⟨⟨rfl, rfl⟩, Nat.le_of_ble_eq_true rfl, Nat.le_of_ble_eq_true rfl⟩ dX7_isMajority_1 rfl ?_
  refine x_aload_n C dX7_isMajority_4 rfl (q := 0) rfl ?_
  refine x_get C cl_X7 1 (by decide) fl_X7_21_X7 (dm_1 z) rfl rfl dX7_isMajority_5 ?_
  refine x_iconst C (v := 2) dX7_isMajority_8 (by decide) ?_
  refine x_idiv C dX7_isMajority_9 h (fun h => ?_)
  refine x_icmp_le C (tgt := 17) dX7_isMajority_10 (by decide) h (fun hc3 h => ?_) (fun hc3 h => ?_)
  · refine x_iconst C (v := 0) dX7_isMajority_17 (by decide) ?_
    cases h
    exact xr_z C (by decide) hr dX7_isMajority_18 (fun _ h => h)
  · refine x_iconst C (v := 1) dX7_isMajority_13 (by decide) ?_
    refine x_goto C (tgt := 18) dX7_isMajority_14 (by decide) ?_
    cases h
    exact xr_z C (by decide) hr dX7_isMajority_18 (fun _ h => h)
def f_X3_tell_L2 (z : Nat → Nat) (i : Nat) (ai : Nat) (ti : Nat) : Nat → Int32 → Sg → Option Sg
  | 0, _, _ => none
  | n + 1, y1, s2 => if (nI (z 0)) ≤ y1 then (some (s2)) else (gdx y1 (z 0) fun k7 => letv (s2.1 28 ai ti k7) fun v8 => gdx y1 (z 0) fun k9 => letv (upI s2 14 i 0 k9 v8) fun s10 => gdx y1 (z 0) fun k11 => letv (s10.1 29 ai ti k11) fun v12 => gdx y1 (z 0) fun k13 => letv (upI s10 15 i 0 k13 v12) fun s14 => letv (y1 + 1) fun v15 => f_X3_tell_L2 z i ai ti n v15 s14)
def f_X3_tell (z : Nat → Nat) (σ : Sg) (i : Nat) (ai : Nat) (ti : Nat) : Option Sg :=
  bnd1 (f_X3_tell_L2 z i ai ti FU 0 σ) fun s3 => some (s3)
def rm_X3_tell : Room := { frames := 0, cells := 0, slots := 0, locals := 0 }
set_option maxRecDepth 100000 in
set_option maxHeartbeats 4000000 in
theorem m_X3_tell {l : Launch} {G : xG} {z : Nat → Nat} {σ : Sg} {τ : Tg} {i : Nat} {ai : Nat} {ti : Nat} {sF : Sg} (hi : i < z 4 + 2) (hai : ai < z 1) (hti : ti < z 2) (h : f_X3_tell z σ i ai ti = some (sF)) : xMet l (xD G) (xcA G) (xbs G) yX3_tell cX3_tell 4 (Option.none : Option Jvm.ClassFile.FieldType) rm_X3_tell [.ref (xad G 13 i 0), .ref (xad G 28 ai ti), .ref (xad G 29 ai ti)] (xRep G z σ τ) (xRep G z sF τ) none 0 0 := by
  refine xMet.of RX3 rfl (by decide +kernel) (Nat.le_of_ble_eq_true rfl) ?_
  intro p e s m args below meth c C hr hnm
  unfold f_X3_tell at h
  refine x_sub (L' := [(0, .ref (xad G 13 i 0)), (1, .ref (xad G 28 ai ti)), (2, .ref (xad G 29 ai ti))]) [0, 1, 2] rfl ?_
  refine x_iconst C (v := 0) dX3_tell_0 (by decide) ?_
  refine x_istore_n C (L' := [(3, .int 0), (0, .ref (xad G 13 i 0)), (1, .ref (xad G 28 ai ti)), (2, .ref (xad G 29 ai ti))]) dX3_tell_1 rfl (by decide) rfl ?_
  obtain ⟨s3, hv5, h⟩ := bnd1_some h
  refine x_join (Ω' := (xRep G z s3 τ)) (pc' := 35) (L' := []) (st' := []) ?_ (fun hj4 => ?_)
  · cases h
    exact xr_v C hr dX3_tell_35 (fun _ h => h)
  · have hl16 : ∀ (n : Nat) (y1 : Int32) (s2 : Sg), f_X3_tell_L2 z i ai ti n y1 s2 = some (s3) → XW p l e rm_X3_tell s m args below meth c 0 0 4 (xbs G) (xQ below args s (xbs G) none (xRep G z sF τ) 0 0) (xRep G z s2 τ) 2 [(0, .ref (xad G 13 i 0)), (1, .ref (xad G 28 ai ti)), (2, .ref (xad G 29 ai ti)), (3, .int y1)] [] := by
      intro n
      induction n with
      | zero =>
        intro y1 s2 h
        exact absurd h (by rw [f_X3_tell_L2]; intro q; cases q)
      | succ n ih =>
        intro y1 s2 h
        rw [f_X3_tell_L2] at h
        refine x_iload_n C dX3_tell_2 rfl (q := 3) rfl ?_
        refine x_aload_n C dX3_tell_3 rfl (q := 0) rfl ?_
        refine x_get C cl_X3 7 (by decide) fl_X3_9_X3 (dm_13 hi) rfl rfl dX3_tell_4 ?_
        refine x_alen C 0 rfl (dm_14 hi) rfl dX3_tell_7 ?_
        refine x_icmp_ge C (tgt := 35) dX3_tell_8 (by decide) h (fun hc6 h => ?_) (fun hc6 h => ?_)
        · cases h
          exact x_sub [] rfl hj4
        · refine x_aload_n C dX3_tell_11 rfl (q := 0) rfl ?_
          refine x_get C cl_X3 7 (by decide) fl_X3_9_X3 (dm_13 hi) rfl rfl dX3_tell_12 ?_
          refine x_iload_n C dX3_tell_15 rfl (q := 3) rfl ?_
          refine x_aload_n C dX3_tell_16 rfl (q := 1) rfl ?_
          refine x_iload_n C dX3_tell_17 rfl (q := 3) rfl ?_
          refine x_iald C (dm_28 hai hti) (fun _ _ _ => rfl) dX3_tell_18 h (fun k7 hk7 h => ?_)
          refine x_letI h (fun v8 h => ?_)
          refine x_iast C (dm_14 hi) (fun _ _ _ => rfl) dX3_tell_19 h (fun k9 hk9 h => ?_)
          refine x_letS h (fun s10 h => ?_)
          refine x_aload_n C dX3_tell_20 rfl (q := 0) rfl ?_
          refine x_get C cl_X3 8 (by decide) fl_X3_15_X3 (dm_13 hi) rfl rfl dX3_tell_21 ?_
          refine x_iload_n C dX3_tell_24 rfl (q := 3) rfl ?_
          refine x_aload_n C dX3_tell_25 rfl (q := 2) rfl ?_
          refine x_iload_n C dX3_tell_26 rfl (q := 3) rfl ?_
          refine x_iald C (dm_29 hai hti) (fun _ _ _ => rfl) dX3_tell_27 h (fun k11 hk11 h => ?_)
          refine x_letI h (fun v12 h => ?_)
          refine x_iast C (dm_15 hi) (fun _ _ _ => rfl) dX3_tell_28 h (fun k13 hk13 h => ?_)
          refine x_letS h (fun s14 h => ?_)
          refine x_iincL C (w := 1) (L' := fun v15 => [(3, .int v15), (0, .ref (xad G 13 i 0)), (1, .ref (xad G 28 ai ti)), (2, .ref (xad G 29 ai ti))]) dX3_tell_29 (k := 3) rfl (by decide) (by decide) (fun _ => rfl) h (fun v15 h => ?_)
          refine x_goto C (tgt := 2) dX3_tell_32 (by decide) ?_
          exact x_sub [1, 2, 3, 0] rfl (ih _ _ h)
    exact x_sub [1, 2, 3, 0] rfl (hl16 FU _ _ hv5)
def f_J9_floorMod_7cf53 (x1 : Int32) (x2 : Int32) : Option Int32 :=
  gnz x2 <| letv (x1 - x1 / x2 * x2) fun v1 => if 0 ≤ (x1 ^^^ x2) then (some (v1)) else (if v1 = 0 then (some (v1)) else (some (v1 + x2)))
def rm_J9_floorMod_7cf53 : Room := { frames := 0, cells := 0, slots := 0, locals := 0 }
set_option maxRecDepth 100000 in
set_option maxHeartbeats 4000000 in
theorem m_J9_floorMod_7cf53 {l : Launch} {D : va_G} {cA : Nat → ClassId} {bs : Nat} {Ω : Heap → Prop} {x1 : Int32} {x2 : Int32} {rF : Int32} (h : f_J9_floorMod_7cf53 x1 x2 = some (rF)) : xMet l D cA bs yJ9_floorMod_7cf53 cJ9_floorMod_7cf53 3 (Option.some Jvm.ClassFile.FieldType.int) rm_J9_floorMod_7cf53 [.int x1, .int x2] Ω Ω (some (.int rF)) 0 0 := by
  refine xMet.of RJ9 rfl (by decide +kernel) (Nat.le_of_ble_eq_true rfl) ?_
  intro p e s m args below meth c C hr hnm
  unfold f_J9_floorMod_7cf53 at h
  refine x_sub (L' := [(0, .int x1), (1, .int x2)]) [0, 1] rfl ?_
  refine x_iload_n C dJ9_floorMod_7cf53_0 rfl (q := 0) rfl ?_
  refine x_iload_n C dJ9_floorMod_7cf53_1 rfl (q := 1) rfl ?_
  refine x_irem C dJ9_floorMod_7cf53_2 h (fun h => ?_)
  refine x_letI h (fun v1 h => ?_)
  refine x_istore_n C (L' := [(2, .int v1), (0, .int x1), (1, .int x2)]) dJ9_floorMod_7cf53_3 rfl (by decide) rfl ?_
  refine x_iload_n C dJ9_floorMod_7cf53_4 rfl (q := 1) rfl ?_
  refine x_iload_n C dJ9_floorMod_7cf53_5 rfl (q := 2) rfl ?_
  refine x_ixor C dJ9_floorMod_7cf53_6 ?_
  refine x_if_ge C (tgt := 18) dJ9_floorMod_7cf53_7 (by decide) h (fun hc2 h => ?_) (fun hc2 h => ?_)
  · refine x_iload_n C dJ9_floorMod_7cf53_18 rfl (q := 0) rfl ?_
    cases h
    exact xr_i C hr dJ9_floorMod_7cf53_19 (fun _ h => h)
  · refine x_iload_n C dJ9_floorMod_7cf53_10 rfl (q := 0) rfl ?_
    refine x_if_eq C (tgt := 18) dJ9_floorMod_7cf53_11 (by decide) h (fun hc3 h => ?_) (fun hc3 h => ?_)
    · refine x_iload_n C dJ9_floorMod_7cf53_18 rfl (q := 0) rfl ?_
      cases h
      exact xr_i C hr dJ9_floorMod_7cf53_19 (fun _ h => h)
    · refine x_iload_n C dJ9_floorMod_7cf53_14 rfl (q := 0) rfl ?_
      refine x_iload_n C dJ9_floorMod_7cf53_15 rfl (q := 2) rfl ?_
      refine x_iadd C dJ9_floorMod_7cf53_16 ?_
      cases h
      exact xr_i C hr dJ9_floorMod_7cf53_17 (fun _ h => h)
def f_X3_told (z : Nat → Nat) (σ : Sg) (i : Nat) (x1 : Int32) : Option Int32 :=
  if x1 = 0 then (letv (σ.1 13 i 0 0) fun v2 => some (v2)) else (if x1 = 1 then (letv (σ.1 13 i 0 1) fun v4 => some (v4)) else (if x1 = 2 then (letv (σ.1 13 i 0 2) fun v6 => some (v6)) else (if x1 = 3 then (letv (σ.1 13 i 0 3) fun v8 => some (v8)) else (if x1 = 4 then (letv (σ.1 13 i 0 4) fun v10 => some (v10)) else (if x1 = 5 then (letv (σ.1 13 i 0 5) fun v12 => some (v12)) else (if x1 = 6 then (letv (σ.1 13 i 0 6) fun v14 => some (v14)) else (some ((-1)))))))))
def rm_X3_told : Room := { frames := 0, cells := 0, slots := 0, locals := 0 }
set_option maxRecDepth 100000 in
set_option maxHeartbeats 4000000 in
theorem m_X3_told {l : Launch} {G : xG} {z : Nat → Nat} {σ : Sg} {τ : Tg} {i : Nat} {x1 : Int32} {rF : Int32} (hi : i < z 4 + 2) (h : f_X3_told z σ i x1 = some (rF)) : xMet l (xD G) (xcA G) (xbs G) yX3_told cX3_told 2 (Option.some Jvm.ClassFile.FieldType.int) rm_X3_told [.ref (xad G 13 i 0), .int x1] (xRep G z σ τ) (xRep G z σ τ) (some (.int rF)) 0 0 := by
  refine xMet.of RX3 rfl (by decide +kernel) (Nat.le_of_ble_eq_true rfl) ?_
  intro p e s m args below meth c C hr hnm
  unfold f_X3_told at h
  refine x_sub (L' := [(0, .ref (xad G 13 i 0)), (1, .int x1)]) [0, 1] rfl ?_
  refine x_iload_n C dX3_told_0 rfl (q := 1) rfl ?_
  refine x_ite h (fun hc1 h => ?_) (fun hc1 h => ?_)
  · refine x_tableIn C (off := 43) (tgt := 44) dX3_told_1 0 hc1 (by decide) (by decide) rfl (by decide) ?_
    refine x_aload_n C dX3_told_44 rfl (q := 0) rfl ?_
    refine x_get C cl_X3 0 (by decide) fl_X3_18_X3 (dm_13 hi) rfl rfl dX3_told_45 ?_
    refine x_letI h (fun v2 h => ?_)
    cases h
    exact xr_i C hr dX3_told_48 (fun _ h => h)
  · refine x_ite h (fun hc3 h => ?_) (fun hc3 h => ?_)
    · refine x_tableIn C (off := 48) (tgt := 49) dX3_told_1 1 hc3 (by decide) (by decide) rfl (by decide) ?_
      refine x_aload_n C dX3_told_49 rfl (q := 0) rfl ?_
      refine x_get C cl_X3 1 (by decide) fl_X3_22_X3 (dm_13 hi) rfl rfl dX3_told_50 ?_
      refine x_letI h (fun v4 h => ?_)
      cases h
      exact xr_i C hr dX3_told_53 (fun _ h => h)
    · refine x_ite h (fun hc5 h => ?_) (fun hc5 h => ?_)
      · refine x_tableIn C (off := 53) (tgt := 54) dX3_told_1 2 hc5 (by decide) (by decide) rfl (by decide) ?_
        refine x_aload_n C dX3_told_54 rfl (q := 0) rfl ?_
        refine x_get C cl_X3 2 (by decide) fl_X3_25_X3 (dm_13 hi) rfl rfl dX3_told_55 ?_
        refine x_letI h (fun v6 h => ?_)
        cases h
        exact xr_i C hr dX3_told_58 (fun _ h => h)
      · refine x_ite h (fun hc7 h => ?_) (fun hc7 h => ?_)
        · refine x_tableIn C (off := 58) (tgt := 59) dX3_told_1 3 hc7 (by decide) (by decide) rfl (by decide) ?_
          refine x_aload_n C dX3_told_59 rfl (q := 0) rfl ?_
          refine x_get C cl_X3 3 (by decide) fl_X3_28_X3 (dm_13 hi) rfl rfl dX3_told_60 ?_
          refine x_letI h (fun v8 h => ?_)
          cases h
          exact xr_i C hr dX3_told_63 (fun _ h => h)
        · refine x_ite h (fun hc9 h => ?_) (fun hc9 h => ?_)
          · refine x_tableIn C (off := 63) (tgt := 64) dX3_told_1 4 hc9 (by decide) (by decide) rfl (by decide) ?_
            refine x_aload_n C dX3_told_64 rfl (q := 0) rfl ?_
            refine x_get C cl_X3 4 (by decide) fl_X3_31_X3 (dm_13 hi) rfl rfl dX3_told_65 ?_
            refine x_letI h (fun v10 h => ?_)
            cases h
            exact xr_i C hr dX3_told_68 (fun _ h => h)
          · refine x_ite h (fun hc11 h => ?_) (fun hc11 h => ?_)
            · refine x_tableIn C (off := 68) (tgt := 69) dX3_told_1 5 hc11 (by decide) (by decide) rfl (by decide) ?_
              refine x_aload_n C dX3_told_69 rfl (q := 0) rfl ?_
              refine x_get C cl_X3 5 (by decide) fl_X3_34_X3 (dm_13 hi) rfl rfl dX3_told_70 ?_
              refine x_letI h (fun v12 h => ?_)
              cases h
              exact xr_i C hr dX3_told_73 (fun _ h => h)
            · refine x_ite h (fun hc13 h => ?_) (fun hc13 h => ?_)
              · refine x_tableIn C (off := 73) (tgt := 74) dX3_told_1 6 hc13 (by decide) (by decide) rfl (by decide) ?_
                refine x_aload_n C dX3_told_74 rfl (q := 0) rfl ?_
                refine x_get C cl_X3 6 (by decide) fl_X3_37_X3 (dm_13 hi) rfl rfl dX3_told_75 ?_
                refine x_letI h (fun v14 h => ?_)
                cases h
                exact xr_i C hr dX3_told_78 (fun _ h => h)
              · refine x_tableOut C (tgt := 79) dX3_told_1 (by have a0 := xI_ne (k := 0) 0 (by decide) hc1; have a1 := xI_ne (k := 1) 1 (by decide) hc3; have a2 := xI_ne (k := 2) 2 (by decide) hc5; have a3 := xI_ne (k := 3) 3 (by decide) hc7; have a4 := xI_ne (k := 4) 4 (by decide) hc9; have a5 := xI_ne (k := 5) 5 (by decide) hc11; have a6 := xI_ne (k := 6) 6 (by decide) hc13; omega) (by decide) ?_
                refine x_iconst C (v := (-1)) dX3_told_79 (by decide) ?_
                cases h
                exact xr_i C hr dX3_told_80 (fun _ h => h)
def f_X2_told (z : Nat → Nat) (σ : Sg) (i : Nat) (x1 : Int32) (x2 : Int32) : Option Int32 :=
  if x1 < 0 then (some ((-1))) else (letv (σ.1 18 i 0 1) fun v2 => if v2 ≤ x1 then (some ((-1))) else (if x2 < 0 then (some ((-1))) else (if 4 ≤ x2 then (some ((-1))) else (gdx x1 (z 5) fun k6 => gdx x2 4 fun k7 => letv (σ.1 20 i k6 k7) fun v8 => some (v8)))))
def rm_X2_told : Room := { frames := 0, cells := 0, slots := 0, locals := 0 }
set_option maxRecDepth 100000 in
set_option maxHeartbeats 4000000 in
theorem m_X2_told {l : Launch} {G : xG} {z : Nat → Nat} {σ : Sg} {τ : Tg} {i : Nat} {x1 : Int32} {x2 : Int32} {rF : Int32} (hi : i < z 0 + z 1) (h : f_X2_told z σ i x1 x2 = some (rF)) : xMet l (xD G) (xcA G) (xbs G) yX2_told cX2_told 3 (Option.some Jvm.ClassFile.FieldType.int) rm_X2_told [.ref (xad G 18 i 0), .int x1, .int x2] (xRep G z σ τ) (xRep G z σ τ) (some (.int rF)) 0 0 := by
  refine xMet.of RX2 rfl (by decide +kernel) (Nat.le_of_ble_eq_true rfl) ?_
  intro p e s m args below meth c C hr hnm
  unfold f_X2_told at h
  refine x_sub (L' := [(0, .ref (xad G 18 i 0)), (1, .int x1), (2, .int x2)]) [0, 1, 2] rfl ?_
  refine x_iload_n C dX2_told_0 rfl (q := 1) rfl ?_
  refine x_if_lt C (tgt := 32) dX2_told_1 (by decide) h (fun hc1 h => ?_) (fun hc1 h => ?_)
  · refine x_iconst C (v := (-1)) dX2_told_32 (by decide) ?_
    cases h
    exact xr_i C hr dX2_told_33 (fun _ h => h)
  · refine x_iload_n C dX2_told_4 rfl (q := 1) rfl ?_
    refine x_aload_n C dX2_told_5 rfl (q := 0) rfl ?_
    refine x_get C cl_X2 1 (by decide) fl_X2_16_X2 (dm_18 hi) rfl rfl dX2_told_6 ?_
    refine x_letI h (fun v2 h => ?_)
    refine x_icmp_ge C (tgt := 32) dX2_told_9 (by decide) h (fun hc3 h => ?_) (fun hc3 h => ?_)
    · refine x_iconst C (v := (-1)) dX2_told_32 (by decide) ?_
      cases h
      exact xr_i C hr dX2_told_33 (fun _ h => h)
    · refine x_iload_n C dX2_told_12 rfl (q := 2) rfl ?_
      refine x_if_lt C (tgt := 32) dX2_told_13 (by decide) h (fun hc4 h => ?_) (fun hc4 h => ?_)
      · refine x_iconst C (v := (-1)) dX2_told_32 (by decide) ?_
        cases h
        exact xr_i C hr dX2_told_33 (fun _ h => h)
      · refine x_iload_n C dX2_told_16 rfl (q := 2) rfl ?_
        refine x_iconst C (v := 4) dX2_told_17 (by decide) ?_
        refine x_icmp_ge C (tgt := 32) dX2_told_18 (by decide) h (fun hc5 h => ?_) (fun hc5 h => ?_)
        · refine x_iconst C (v := (-1)) dX2_told_32 (by decide) ?_
          cases h
          exact xr_i C hr dX2_told_33 (fun _ h => h)
        · refine x_aload_n C dX2_told_21 rfl (q := 0) rfl ?_
          refine x_get C cl_X2 0 (by decide) fl_X2_11_X2 (dm_18 hi) rfl rfl dX2_told_22 ?_
          refine x_iload_n C dX2_told_25 rfl (q := 1) rfl ?_
          refine x_aald C 3 rfl rfl (dm_19 hi) rfl dX2_told_26 h (fun k6 hk6 h => ?_)
          refine x_iload_n C dX2_told_27 rfl (q := 2) rfl ?_
          refine x_iald C (dm_20 hi hk6) (fun _ _ _ => rfl) dX2_told_28 h (fun k7 hk7 h => ?_)
          refine x_letI h (fun v8 h => ?_)
          refine x_goto C (tgt := 33) dX2_told_29 (by decide) ?_
          cases h
          exact xr_i C hr dX2_told_33 (fun _ h => h)
def f_X8_in_L14 (z : Nat → Nat) (σ : Sg) (x1 : Int32) (v1 : Int32) : Nat → Int32 → Int32 → Option Int32
  | 0, _, _ => none
  | n + 1, y2, y3 => if v1 ≤ y3 then (some (y2)) else (gdx y3 (z 2) fun k8 => letv (σ.1 3 0 0 k8) fun v9 => if v9 = x1 then (letv (y2 + 1) fun v12 => letv (y3 + 1) fun v13 => f_X8_in_L14 z σ x1 v1 n v12 v13) else (letv (y3 + 1) fun v11 => f_X8_in_L14 z σ x1 v1 n y2 v11))
def f_X8_in (z : Nat → Nat) (σ : Sg) (x1 : Int32) : Option Int32 :=
  letv (nI (z 2)) fun v1 => bnd1 (f_X8_in_L14 z σ x1 v1 FU 0 0) fun v4 => some (v4)
def rm_X8_in : Room := { frames := 0, cells := 0, slots := 0, locals := 0 }
set_option maxRecDepth 100000 in
set_option maxHeartbeats 4000000 in
theorem m_X8_in {l : Launch} {G : xG} {z : Nat → Nat} {σ : Sg} {τ : Tg} {x1 : Int32} {rF : Int32} (h : f_X8_in z σ x1 = some (rF)) : xMet l (xD G) (xcA G) (xbs G) yX8_in cX8_in 7 (Option.some Jvm.ClassFile.FieldType.int) rm_X8_in [.ref (xad G 2 0 0), .int x1] (xRep G z σ τ) (xRep G z σ τ) (some (.int rF)) 0 0 := by
  refine xMet.of RX8 rfl (by decide +kernel) (Nat.le_of_ble_eq_true rfl) ?_
  intro p e s m args below meth c C hr hnm
  unfold f_X8_in at h
  refine x_sub (L' := [(0, .ref (xad G 2 0 0)), (1, .int x1)]) [0, 1] rfl ?_
  refine x_iconst C (v := 0) dX8_in_0 (by decide) ?_
  refine x_istore_n C (L' := [(2, .int 0), (0, .ref (xad G 2 0 0)), (1, .int x1)]) dX8_in_1 rfl (by decide) rfl ?_
  refine x_aload_n C dX8_in_2 rfl (q := 1) rfl ?_
  refine x_get C cl_X8 0 (by decide) fl_X8_15_X8 (dm_2 z) rfl rfl dX8_in_3 ?_
  refine x_astore_n C (L' := [(3, .ref (xad G 3 0 0)), (2, .int 0), (0, .ref (xad G 2 0 0)), (1, .int x1)]) dX8_in_6 rfl (by decide) rfl ?_
  refine x_aload_n C dX8_in_7 rfl (q := 0) rfl ?_
  refine x_alen C 0 rfl (dm_3 z) rfl dX8_in_8 ?_
  refine x_letI h (fun v1 h => ?_)
  refine x_istore C (L' := [(4, .int v1), (3, .ref (xad G 3 0 0)), (2, .int 0), (0, .ref (xad G 2 0 0)), (1, .int x1)]) dX8_in_9 (by decide) rfl ?_
  refine x_iconst C (v := 0) dX8_in_11 (by decide) ?_
  refine x_istore C (L' := [(5, .int 0), (4, .int v1), (3, .ref (xad G 3 0 0)), (2, .int 0), (0, .ref (xad G 2 0 0)), (1, .int x1)]) dX8_in_12 (by decide) rfl ?_
  obtain ⟨v4, hv6, h⟩ := bnd1_some h
  refine x_join (Ω' := (xRep G z σ τ)) (pc' := 42) (L' := [(2, .int v4)]) (st' := []) ?_ (fun hj5 => ?_)
  · refine x_iload_n C dX8_in_42 rfl (q := 0) rfl ?_
    cases h
    exact xr_i C hr dX8_in_43 (fun _ h => h)
  · have hl14 : ∀ (n : Nat) (y2 : Int32) (y3 : Int32), f_X8_in_L14 z σ x1 v1 n y2 y3 = some (v4) → XW p l e rm_X8_in s m args below meth c 0 0 7 (xbs G) (xQ below args s (xbs G) (some (.int rF)) (xRep G z σ τ) 0 0) (xRep G z σ τ) 14 [(1, .int x1), (2, .int y2), (3, .ref (xad G 3 0 0)), (4, .int v1), (5, .int y3)] [] := by
      intro n
      induction n with
      | zero =>
        intro y2 y3 h
        exact absurd h (by rw [f_X8_in_L14]; intro q; cases q)
      | succ n ih =>
        intro y2 y3 h
        rw [f_X8_in_L14] at h
        refine x_iload C dX8_in_14 (q := 4) rfl ?_
        refine x_iload C dX8_in_16 (q := 3) rfl ?_
        refine x_icmp_ge C (tgt := 42) dX8_in_18 (by decide) h (fun hc7 h => ?_) (fun hc7 h => ?_)
        · cases h
          exact x_sub [1] rfl hj5
        · refine x_aload_n C dX8_in_21 rfl (q := 2) rfl ?_
          refine x_iload C dX8_in_22 (q := 4) rfl ?_
          refine x_iald C (dm_3 z) (fun _ _ _ => rfl) dX8_in_24 h (fun k8 hk8 h => ?_)
          refine x_letI h (fun v9 h => ?_)
          refine x_istore C (L' := [(6, .int v9), (1, .int x1), (2, .int y2), (3, .ref (xad G 3 0 0)), (4, .int v1), (5, .int y3)]) dX8_in_25 (by decide) rfl ?_
          refine x_iload C dX8_in_27 (q := 0) rfl ?_
          refine x_iload_n C dX8_in_29 rfl (q := 1) rfl ?_
          refine x_icmp_ne C (tgt := 36) dX8_in_30 (by decide) h (fun hc10 h => ?_) (fun hc10 h => ?_)
          · refine x_iincL C (w := 1) (L' := fun v11 => [(5, .int v11), (6, .int v9), (1, .int x1), (2, .int y2), (3, .ref (xad G 3 0 0)), (4, .int v1)]) dX8_in_36 (k := 5) rfl (by decide) (by decide) (fun _ => rfl) h (fun v11 h => ?_)
            refine x_goto C (tgt := 14) dX8_in_39 (by decide) ?_
            exact x_sub [2, 3, 4, 5, 0] rfl (ih _ _ h)
          · refine x_iincL C (w := 1) (L' := fun v12 => [(2, .int v12), (6, .int v9), (1, .int x1), (3, .ref (xad G 3 0 0)), (4, .int v1), (5, .int y3)]) dX8_in_33 (k := 2) rfl (by decide) (by decide) (fun _ => rfl) h (fun v12 h => ?_)
            refine x_iincL C (w := 1) (L' := fun v13 => [(5, .int v13), (2, .int v12), (6, .int v9), (1, .int x1), (3, .ref (xad G 3 0 0)), (4, .int v1)]) dX8_in_36 (k := 5) rfl (by decide) (by decide) (fun _ => rfl) h (fun v13 h => ?_)
            refine x_goto C (tgt := 14) dX8_in_39 (by decide) ?_
            exact x_sub [3, 1, 4, 5, 0] rfl (ih _ _ h)
    exact x_sub [5, 3, 2, 1, 0] rfl (hl14 FU _ _ hv6)
end
