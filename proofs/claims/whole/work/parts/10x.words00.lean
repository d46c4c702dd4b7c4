theorem tq_1 {w : Cond} (h : w ∈ tables_1_1) : w ∈ tables_1 := List.mem_append_left _ h
theorem tq_2 {w : Cond} (h : w ∈ tables_1_2) : w ∈ tables_1 := List.mem_append_right _ (List.mem_append_left _ h)
theorem tq_3 {w : Cond} (h : w ∈ tables_1_3) : w ∈ tables_1 := List.mem_append_right _ (List.mem_append_right _ (List.mem_append_left _ h))
theorem tq_4 {w : Cond} (h : w ∈ tables_1_4) : w ∈ tables_1 := List.mem_append_right _ (List.mem_append_right _ (List.mem_append_right _ (List.mem_append_left _ h)))
theorem tq_5 {w : Cond} (h : w ∈ tables_1_5) : w ∈ tables_1 := List.mem_append_right _ (List.mem_append_right _ (List.mem_append_right _ (List.mem_append_right _ (List.mem_append_left _ h))))
theorem tq_6 {w : Cond} (h : w ∈ tables_1_6) : w ∈ tables_1 := List.mem_append_right _ (List.mem_append_right _ (List.mem_append_right _ (List.mem_append_right _ (List.mem_append_right _ (List.mem_append_left _ h)))))
theorem tq_7 {w : Cond} (h : w ∈ tables_1_7) : w ∈ tables_1 := List.mem_append_right _ (List.mem_append_right _ (List.mem_append_right _ (List.mem_append_right _ (List.mem_append_right _ (List.mem_append_right _ (List.mem_append_left _ h))))))
theorem tq_8 {w : Cond} (h : w ∈ tables_1_8) : w ∈ tables_1 := List.mem_append_right _ (List.mem_append_right _ (List.mem_append_right _ (List.mem_append_right _ (List.mem_append_right _ (List.mem_append_right _ (List.mem_append_right _ (List.mem_append_left _ h)))))))
theorem tq_9 {w : Cond} (h : w ∈ tables_1_9) : w ∈ tables_1 := List.mem_append_right _ (List.mem_append_right _ (List.mem_append_right _ (List.mem_append_right _ (List.mem_append_right _ (List.mem_append_right _ (List.mem_append_right _ (List.mem_append_right _ (List.mem_append_left _ h))))))))
theorem tq_10 {w : Cond} (h : w ∈ tables_1_10) : w ∈ tables_1 := List.mem_append_right _ (List.mem_append_right _ (List.mem_append_right _ (List.mem_append_right _ (List.mem_append_right _ (List.mem_append_right _ (List.mem_append_right _ (List.mem_append_right _ (List.mem_append_right _ (h)))))))))
theorem tp_40 : Cond.selects "TopicBrokerModel" ⟨"TopicBrokerModel", "refuses", "(I)Z"⟩ ⟨"TopicBrokerModel", "refuses", "(I)Z"⟩ ∈ TB := TB_in (List.mem_append_left _ (List.mem_of_getElem? (i := 40) rfl)) rfl
theorem tp_41 : Cond.selects "TopicBrokerModel" ⟨"TopicBrokerModel", "look", "(I)Z"⟩ ⟨"TopicBrokerModel", "look", "(I)Z"⟩ ∈ TB := TB_in (List.mem_append_left _ (List.mem_of_getElem? (i := 41) rfl)) rfl
theorem tp_42 : Cond.selects "TopicBrokerModel" ⟨"TopicBrokerModel", "wrong", "(II)V"⟩ ⟨"TopicBrokerModel", "wrong", "(II)V"⟩ ∈ TB := TB_in (List.mem_append_left _ (List.mem_of_getElem? (i := 42) rfl)) rfl
theorem tp_43 : Cond.selects "TopicBrokerModel" ⟨"TopicBrokerModel", "fail", "(II)V"⟩ ⟨"TopicBrokerModel", "fail", "(II)V"⟩ ∈ TB := TB_in (List.mem_append_left _ (List.mem_of_getElem? (i := 43) rfl)) rfl
theorem tp_44 : Cond.selects "TopicBrokerModel" ⟨"TopicBrokerModel", "short4", "(IIIIII)V"⟩ ⟨"TopicBrokerModel", "short4", "(IIIIII)V"⟩ ∈ TB := TB_in (List.mem_append_left _ (List.mem_of_getElem? (i := 44) rfl)) rfl
theorem tp_45 : Cond.selects "TopicBrokerModel" ⟨"TopicBrokerModel", "put", "(I)V"⟩ ⟨"TopicBrokerModel", "put", "(I)V"⟩ ∈ TB := TB_in (List.mem_append_left _ (List.mem_of_getElem? (i := 45) rfl)) rfl
theorem tp_46 : Cond.selects "TopicBrokerModel" ⟨"TopicBrokerModel", "send", "(I)V"⟩ ⟨"TopicBrokerModel", "send", "(I)V"⟩ ∈ TB := TB_in (List.mem_append_left _ (List.mem_of_getElem? (i := 46) rfl)) rfl
theorem tp_47 : Cond.selects "TopicBrokerModel" ⟨"TopicBrokerModel", "connackFault", "(II)V"⟩ ⟨"TopicBrokerModel", "connackFault", "(II)V"⟩ ∈ TB := TB_in (List.mem_append_left _ (List.mem_of_getElem? (i := 47) rfl)) rfl
theorem tp_48 : Cond.selects "TopicBrokerModel" ⟨"TopicBrokerModel", "lost", "(I)V"⟩ ⟨"TopicBrokerModel", "lost", "(I)V"⟩ ∈ TB := TB_in (List.mem_append_left _ (List.mem_of_getElem? (i := 48) rfl)) rfl
theorem tp_49 : Cond.selects "TopicBrokerModel" ⟨"TopicBrokerModel", "comes", "(I)V"⟩ ⟨"TopicBrokerModel", "comes", "(I)V"⟩ ∈ TB := TB_in (List.mem_append_left _ (List.mem_of_getElem? (i := 49) rfl)) rfl
theorem tp_50 : Cond.selects "TopicBrokerModel" ⟨"TopicBrokerModel", "keep", "(I)Z"⟩ ⟨"TopicBrokerModel", "keep", "(I)Z"⟩ ∈ TB := TB_in (List.mem_append_left _ (List.mem_of_getElem? (i := 50) rfl)) rfl
theorem tp_51 : Cond.selects "TopicBrokerModel" ⟨"TopicBrokerModel", "purge", "()V"⟩ ⟨"TopicBrokerModel", "purge", "()V"⟩ ∈ TB := TB_in (List.mem_append_left _ (List.mem_of_getElem? (i := 51) rfl)) rfl
theorem tp_52 : Cond.selects "TopicBrokerModel" ⟨"TopicBrokerModel", "gone", "(I)Z"⟩ ⟨"TopicBrokerModel", "gone", "(I)Z"⟩ ∈ TB := TB_in (List.mem_append_left _ (List.mem_of_getElem? (i := 52) rfl)) rfl
theorem tp_53 : Cond.selects "TopicBrokerModel" ⟨"TopicBrokerModel", "sameTopic", "(II)Z"⟩ ⟨"TopicBrokerModel", "sameTopic", "(II)Z"⟩ ∈ TB := TB_in (List.mem_append_left _ (List.mem_of_getElem? (i := 53) rfl)) rfl
theorem tp_54 : Cond.selects "TopicBrokerModel" ⟨"TopicBrokerModel", "distribute", "(I)Z"⟩ ⟨"TopicBrokerModel", "distribute", "(I)Z"⟩ ∈ TB := TB_in (List.mem_append_left _ (List.mem_of_getElem? (i := 54) rfl)) rfl
theorem tp_55 : Cond.selects "TopicBrokerModel" ⟨"TopicBrokerModel", "takes", "(II)Z"⟩ ⟨"TopicBrokerModel", "takes", "(II)Z"⟩ ∈ TB := TB_in (List.mem_append_left _ (List.mem_of_getElem? (i := 55) rfl)) rfl
theorem tp_56 : Cond.selects "TopicBrokerModel" ⟨"TopicBrokerModel", "matches", "(III)Z"⟩ ⟨"TopicBrokerModel", "matches", "(III)Z"⟩ ∈ TB := TB_in (List.mem_append_left _ (List.mem_of_getElem? (i := 56) rfl)) rfl
theorem tp_57 : Cond.selects "TopicBrokerModel" ⟨"TopicBrokerModel", "isShared", "(I)Z"⟩ ⟨"TopicBrokerModel", "isShared", "(I)Z"⟩ ∈ TB := TB_in (List.mem_append_left _ (List.mem_of_getElem? (i := 57) rfl)) rfl
theorem tp_58 : Cond.selects "TopicBrokerModel" ⟨"TopicBrokerModel", "isFirst", "(I)Z"⟩ ⟨"TopicBrokerModel", "isFirst", "(I)Z"⟩ ∈ TB := TB_in (List.mem_append_left _ (List.mem_of_getElem? (i := 58) rfl)) rfl
theorem tp_59 : Cond.selects "TopicBrokerModel" ⟨"TopicBrokerModel", "sameFilter", "(II)Z"⟩ ⟨"TopicBrokerModel", "sameFilter", "(II)Z"⟩ ∈ TB := TB_in (List.mem_append_left _ (List.mem_of_getElem? (i := 59) rfl)) rfl
theorem tp_60 : Cond.selects "TopicBrokerModel" ⟨"TopicBrokerModel", "chosen", "(I)I"⟩ ⟨"TopicBrokerModel", "chosen", "(I)I"⟩ ∈ TB := TB_in (List.mem_append_left _ (List.mem_of_getElem? (i := 60) rfl)) rfl
theorem tp_61 : Cond.selects "TopicBrokerModel" ⟨"TopicBrokerModel", "deliver", "(III)V"⟩ ⟨"TopicBrokerModel", "deliver", "(III)V"⟩ ∈ TB := TB_in (List.mem_append_left _ (List.mem_of_getElem? (i := 61) rfl)) rfl
theorem tp_62 : Cond.selects "TopicBrokerModel" ⟨"TopicBrokerModel", "sendPublish", "(IIIIIII)Z"⟩ ⟨"TopicBrokerModel", "sendPublish", "(IIIIIII)Z"⟩ ∈ TB := TB_in (List.mem_append_left _ (List.mem_of_getElem? (i := 62) rfl)) rfl
theorem tp_63 : Cond.selects "TopicBrokerModel" ⟨"TopicBrokerModel", "byteOf", "(I)V"⟩ ⟨"TopicBrokerModel", "byteOf", "(I)V"⟩ ∈ TB := TB_in (List.mem_append_left _ (List.mem_of_getElem? (i := 63) rfl)) rfl
theorem tp_64 : Cond.selects "TopicBrokerModel" ⟨"TopicBrokerModel", "variableOf", "(J)V"⟩ ⟨"TopicBrokerModel", "variableOf", "(J)V"⟩ ∈ TB := TB_in (List.mem_append_left _ (List.mem_of_getElem? (i := 64) rfl)) rfl
theorem tp_65 : Cond.selects "TopicBrokerModel" ⟨"TopicBrokerModel", "part", "(III)V"⟩ ⟨"TopicBrokerModel", "part", "(III)V"⟩ ∈ TB := TB_in (List.mem_append_left _ (List.mem_of_getElem? (i := 65) rfl)) rfl
theorem tp_66 : Cond.selects "TopicBrokerModel" ⟨"TopicBrokerModel", "wrap", "(I)V"⟩ ⟨"TopicBrokerModel", "wrap", "(I)V"⟩ ∈ TB := TB_in (List.mem_append_left _ (List.mem_of_getElem? (i := 66) rfl)) rfl
theorem tp_67 : Cond.selects "TopicBrokerModel" ⟨"TopicBrokerModel", "mayGo", "(I)Z"⟩ ⟨"TopicBrokerModel", "mayGo", "(I)Z"⟩ ∈ TB := TB_in (List.mem_append_left _ (List.mem_of_getElem? (i := 67) rfl)) rfl
theorem tp_68 : Cond.selects "TopicBrokerModel" ⟨"TopicBrokerModel", "begin", "(IIIII)V"⟩ ⟨"TopicBrokerModel", "begin", "(IIIII)V"⟩ ∈ TB := TB_in (List.mem_append_left _ (List.mem_of_getElem? (i := 68) rfl)) rfl
theorem tp_69 : Cond.selects "TopicBrokerModel" ⟨"TopicBrokerModel", "wayOf", "(II)I"⟩ ⟨"TopicBrokerModel", "wayOf", "(II)I"⟩ ∈ TB := TB_in (List.mem_append_left _ (List.mem_of_getElem? (i := 69) rfl)) rfl
theorem tp_70 : Cond.selects "TopicBrokerModel" ⟨"TopicBrokerModel", "ends", "(I)V"⟩ ⟨"TopicBrokerModel", "ends", "(I)V"⟩ ∈ TB := TB_in (List.mem_append_left _ (List.mem_of_getElem? (i := 70) rfl)) rfl
theorem tp_71 : Cond.selects "TopicBrokerModel" ⟨"TopicBrokerModel", "settle", "()V"⟩ ⟨"TopicBrokerModel", "settle", "()V"⟩ ∈ TB := TB_in (List.mem_append_left _ (List.mem_of_getElem? (i := 71) rfl)) rfl
theorem tp_72 : Cond.selects "TopicBrokerModel" ⟨"TopicBrokerModel", "take", "()V"⟩ ⟨"TopicBrokerModel", "take", "()V"⟩ ∈ TB := TB_in (List.mem_append_left _ (List.mem_of_getElem? (i := 72) rfl)) rfl
theorem tp_73 : Cond.selects "TopicBrokerModel" ⟨"TopicBrokerModel", "fails", "(I)V"⟩ ⟨"TopicBrokerModel", "fails", "(I)V"⟩ ∈ TB := TB_in (List.mem_append_left _ (List.mem_of_getElem? (i := 73) rfl)) rfl
theorem tp_74 : Cond.selects "TopicBrokerModel" ⟨"TopicBrokerModel", "connect", "()V"⟩ ⟨"TopicBrokerModel", "connect", "()V"⟩ ∈ TB := TB_in (List.mem_append_left _ (List.mem_of_getElem? (i := 74) rfl)) rfl
theorem tp_75 : Cond.selects "TopicBrokerModel" ⟨"TopicBrokerModel", "string", "()V"⟩ ⟨"TopicBrokerModel", "string", "()V"⟩ ∈ TB := TB_in (List.mem_append_left _ (List.mem_of_getElem? (i := 75) rfl)) rfl
theorem tp_76 : Cond.selects "TopicBrokerModel" ⟨"TopicBrokerModel", "row", "()V"⟩ ⟨"TopicBrokerModel", "row", "()V"⟩ ∈ TB := TB_in (List.mem_append_left _ (List.mem_of_getElem? (i := 76) rfl)) rfl
theorem tp_77 : Cond.selects "TopicBrokerModel" ⟨"TopicBrokerModel", "two", "()I"⟩ ⟨"TopicBrokerModel", "two", "()I"⟩ ∈ TB := TB_in (List.mem_append_left _ (List.mem_of_getElem? (i := 77) rfl)) rfl
theorem tp_78 : Cond.selects "TopicBrokerModel" ⟨"TopicBrokerModel", "one", "()I"⟩ ⟨"TopicBrokerModel", "one", "()I"⟩ ∈ TB := TB_in (List.mem_append_left _ (List.mem_of_getElem? (i := 78) rfl)) rfl
theorem tp_79 : Cond.selects "TopicBrokerModel" ⟨"TopicBrokerModel", "isText", "(II)Z"⟩ ⟨"TopicBrokerModel", "isText", "(II)Z"⟩ ∈ TB := TB_in (List.mem_append_left _ (List.mem_of_getElem? (i := 79) rfl)) rfl
theorem tp_80 : Cond.selects "TopicBrokerModel" ⟨"TopicBrokerModel", "properties", "(J)V"⟩ ⟨"TopicBrokerModel", "properties", "(J)V"⟩ ∈ TB := TB_in (List.mem_append_left _ (List.mem_of_getElem? (i := 80) rfl)) rfl
theorem tp_81 : Cond.selects "TopicBrokerModel" ⟨"TopicBrokerModel", "variable", "()J"⟩ ⟨"TopicBrokerModel", "variable", "()J"⟩ ∈ TB := TB_in (List.mem_append_left _ (List.mem_of_getElem? (i := 81) rfl)) rfl
theorem tp_82 : Cond.selects "TopicBrokerModel" ⟨"TopicBrokerModel", "property", "(J)V"⟩ ⟨"TopicBrokerModel", "property", "(J)V"⟩ ∈ TB := TB_in (List.mem_append_left _ (List.mem_of_getElem? (i := 82) rfl)) rfl
theorem tp_83 : Cond.selects "TopicBrokerModel" ⟨"TopicBrokerModel", "four", "()J"⟩ ⟨"TopicBrokerModel", "four", "()J"⟩ ∈ TB := TB_in (List.mem_append_left _ (List.mem_of_getElem? (i := 83) rfl)) rfl
theorem tp_84 : Cond.selects "TopicBrokerModel" ⟨"TopicBrokerModel", "client", "([BII)I"⟩ ⟨"TopicBrokerModel", "client", "([BII)I"⟩ ∈ TB := TB_in (List.mem_append_left _ (List.mem_of_getElem? (i := 84) rfl)) rfl
theorem tp_85 : Cond.selects "TopicBrokerModel" ⟨"TopicBrokerModel", "free", "()I"⟩ ⟨"TopicBrokerModel", "free", "()I"⟩ ∈ TB := TB_in (List.mem_append_left _ (List.mem_of_getElem? (i := 85) rfl)) rfl
theorem tp_86 : Cond.selects "TopicBrokerModel" ⟨"TopicBrokerModel", "name", "(I)V"⟩ ⟨"TopicBrokerModel", "name", "(I)V"⟩ ∈ TB := TB_in (List.mem_append_left _ (List.mem_of_getElem? (i := 86) rfl)) rfl
theorem tp_87 : Cond.selects "TopicBrokerModel" ⟨"TopicBrokerModel", "message", "(IIII)I"⟩ ⟨"TopicBrokerModel", "message", "(IIII)I"⟩ ∈ TB := TB_in (List.mem_append_left _ (List.mem_of_getElem? (i := 87) rfl)) rfl
theorem tp_88 : Cond.selects "TopicBrokerModel" ⟨"TopicBrokerModel", "copy", "(III)I"⟩ ⟨"TopicBrokerModel", "copy", "(III)I"⟩ ∈ TB := TB_in (List.mem_append_left _ (List.mem_of_getElem? (i := 88) rfl)) rfl
theorem tp_89 : Cond.selects "TopicBrokerModel" ⟨"TopicBrokerModel", "sendBody", "(II)V"⟩ ⟨"TopicBrokerModel", "sendBody", "(II)V"⟩ ∈ TB := TB_in (List.mem_append_left _ (List.mem_of_getElem? (i := 89) rfl)) rfl
theorem tp_90 : Cond.selects "TopicBrokerModel" ⟨"TopicBrokerModel", "again", "(I)V"⟩ ⟨"TopicBrokerModel", "again", "(I)V"⟩ ∈ TB := TB_in (List.mem_append_left _ (List.mem_of_getElem? (i := 90) rfl)) rfl
theorem tp_91 : Cond.selects "TopicBrokerModel" ⟨"TopicBrokerModel", "moveWay", "(II)V"⟩ ⟨"TopicBrokerModel", "moveWay", "(II)V"⟩ ∈ TB := TB_in (List.mem_append_left _ (List.mem_of_getElem? (i := 91) rfl)) rfl
theorem tp_92 : Cond.selects "TopicBrokerModel" ⟨"TopicBrokerModel", "pump", "(I)V"⟩ ⟨"TopicBrokerModel", "pump", "(I)V"⟩ ∈ TB := TB_in (List.mem_append_left _ (List.mem_of_getElem? (i := 92) rfl)) rfl
theorem tp_93 : Cond.selects "TopicBrokerModel" ⟨"TopicBrokerModel", "publish", "(II)V"⟩ ⟨"TopicBrokerModel", "publish", "(II)V"⟩ ∈ TB := TB_in (List.mem_append_left _ (List.mem_of_getElem? (i := 93) rfl)) rfl
theorem tp_94 : Cond.selects "TopicBrokerModel" ⟨"TopicBrokerModel", "holds", "(II)I"⟩ ⟨"TopicBrokerModel", "holds", "(II)I"⟩ ∈ TB := TB_in (List.mem_append_left _ (List.mem_of_getElem? (i := 94) rfl)) rfl
theorem tp_95 : Cond.selects "TopicBrokerModel" ⟨"TopicBrokerModel", "answer", "(III)V"⟩ ⟨"TopicBrokerModel", "answer", "(III)V"⟩ ∈ TB := TB_in (List.mem_append_left _ (List.mem_of_getElem? (i := 95) rfl)) rfl
theorem tp_96 : Cond.selects "TopicBrokerModel" ⟨"TopicBrokerModel", "answered", "(I)V"⟩ ⟨"TopicBrokerModel", "answered", "(I)V"⟩ ∈ TB := TB_in (List.mem_append_left _ (List.mem_of_getElem? (i := 96) rfl)) rfl
theorem tp_97 : Cond.selects "TopicBrokerModel" ⟨"TopicBrokerModel", "leave", "(II)V"⟩ ⟨"TopicBrokerModel", "leave", "(II)V"⟩ ∈ TB := TB_in (List.mem_append_left _ (List.mem_of_getElem? (i := 97) rfl)) rfl
theorem tp_98 : Cond.selects "TopicBrokerModel" ⟨"TopicBrokerModel", "subscribe", "()V"⟩ ⟨"TopicBrokerModel", "subscribe", "()V"⟩ ∈ TB := TB_in (List.mem_append_left _ (List.mem_of_getElem? (i := 98) rfl)) rfl
theorem tp_99 : Cond.selects "TopicBrokerModel" ⟨"TopicBrokerModel", "subscribeOne", "(III)I"⟩ ⟨"TopicBrokerModel", "subscribeOne", "(III)I"⟩ ∈ TB := TB_in (List.mem_append_left _ (List.mem_of_getElem? (i := 99) rfl)) rfl
theorem tp_100 : Cond.selects "TopicBrokerModel" ⟨"TopicBrokerModel", "subscriptionOf", "(III)I"⟩ ⟨"TopicBrokerModel", "subscriptionOf", "(III)I"⟩ ∈ TB := TB_in (List.mem_append_left _ (List.mem_of_getElem? (i := 100) rfl)) rfl
theorem tp_101 : Cond.selects "TopicBrokerModel" ⟨"TopicBrokerModel", "show", "(II)V"⟩ ⟨"TopicBrokerModel", "show", "(II)V"⟩ ∈ TB := TB_in (List.mem_append_left _ (List.mem_of_getElem? (i := 101) rfl)) rfl
theorem tp_102 : Cond.selects "TopicBrokerModel" ⟨"TopicBrokerModel", "unsubscribe", "()V"⟩ ⟨"TopicBrokerModel", "unsubscribe", "()V"⟩ ∈ TB := TB_in (List.mem_append_left _ (List.mem_of_getElem? (i := 102) rfl)) rfl
theorem tp_103 : Cond.selects "TopicBrokerModel" ⟨"TopicBrokerModel", "unsubscribeOne", "(II)V"⟩ ⟨"TopicBrokerModel", "unsubscribeOne", "(II)V"⟩ ∈ TB := TB_in (List.mem_append_left _ (List.mem_of_getElem? (i := 103) rfl)) rfl
theorem tp_104 : Cond.selects "TopicBrokerModel" ⟨"TopicBrokerModel", "ping", "()V"⟩ ⟨"TopicBrokerModel", "ping", "()V"⟩ ∈ TB := TB_in (List.mem_append_left _ (List.mem_of_getElem? (i := 104) rfl)) rfl
theorem tp_105 : Cond.selects "TopicBrokerModel" ⟨"TopicBrokerModel", "disconnect", "()V"⟩ ⟨"TopicBrokerModel", "disconnect", "()V"⟩ ∈ TB := TB_in (List.mem_append_left _ (List.mem_of_getElem? (i := 105) rfl)) rfl
theorem tp_106 : Cond.selects "TopicBrokerModel" ⟨"TopicBrokerModel", "second", "()V"⟩ ⟨"TopicBrokerModel", "second", "()V"⟩ ∈ TB := TB_in (List.mem_append_left _ (List.mem_of_getElem? (i := 106) rfl)) rfl
theorem tp_107 : Cond.selects "TopicBrokerModel" ⟨"TopicBrokerModel", "hasSession", "(I)Z"⟩ ⟨"TopicBrokerModel", "hasSession", "(I)Z"⟩ ∈ TB := TB_in (List.mem_append_left _ (List.mem_of_getElem? (i := 107) rfl)) rfl
theorem tp_108 : Cond.selects "TopicBrokerModel" ⟨"TopicBrokerModel", "hasSub", "(II)Z"⟩ ⟨"TopicBrokerModel", "hasSub", "(II)Z"⟩ ∈ TB := TB_in (List.mem_append_left _ (List.mem_of_getElem? (i := 108) rfl)) rfl
theorem tw_10 : Cond.initialized "TopicBrokerModel" ∈ TB := TB_t (tq_1 (List.mem_of_getElem? (i := 10) rfl)) rfl
theorem tw_17 : Cond.initialized "java/lang/Math" ∈ TB := TB_t (tq_1 (List.mem_of_getElem? (i := 17) rfl)) rfl
theorem tw_25 : Cond.initialized "java/lang/System" ∈ TB := TB_t (tq_1 (List.mem_of_getElem? (i := 25) rfl)) rfl
theorem tw_37 : Cond.instanceMethod ⟨"java/lang/Object", "<init>", "()V"⟩ ∈ TB := TB_t (tq_1 (List.mem_of_getElem? (i := 37) rfl)) rfl
theorem tw_478 : Cond.static ⟨"java/lang/Math", "min", "(II)I"⟩ ∈ TB := TB_t (tq_2 (List.mem_of_getElem? (i := 238) rfl)) rfl
theorem tw_568 : Cond.static ⟨"java/lang/Math", "max", "(II)I"⟩ ∈ TB := TB_t (tq_3 (List.mem_of_getElem? (i := 88) rfl)) rfl
theorem tw_587 : Cond.static ⟨"java/lang/System", "arraycopy", "(Ljava/lang/Object;ILjava/lang/Object;II)V"⟩ ∈ TB := TB_t (tq_3 (List.mem_of_getElem? (i := 107) rfl)) rfl
theorem tw_588 : Cond.native ⟨"java/lang/System", "arraycopy", "(Ljava/lang/Object;ILjava/lang/Object;II)V"⟩ ∈ TB := TB_t (tq_3 (List.mem_of_getElem? (i := 108) rfl)) rfl
theorem tw_1473 : Cond.static ⟨"java/lang/Math", "min", "(JJ)J"⟩ ∈ TB := TB_t (tq_7 (List.mem_of_getElem? (i := 33) rfl)) rfl
theorem tw_1486 : Cond.static ⟨"java/lang/Math", "max", "(JJ)J"⟩ ∈ TB := TB_t (tq_7 (List.mem_of_getElem? (i := 46) rfl)) rfl
theorem tw_1560 : Cond.instanceMethod ⟨"TopicBrokerModel", "thrown", "()I"⟩ ∈ TB := TB_t (tq_7 (List.mem_of_getElem? (i := 120) rfl)) rfl
theorem tw_1561 : Cond.selects "TopicBrokerModel" ⟨"TopicBrokerModel", "thrown", "()I"⟩ ⟨"TopicBrokerModel", "thrown", "()I"⟩ ∈ TB := TB_t (tq_7 (List.mem_of_getElem? (i := 121) rfl)) rfl
theorem tw_1562 : Cond.code ⟨"TopicBrokerModel", "thrown", "()I"⟩ prog_14_method_1_code 1 (some .int) ∈ TB := TB_t (tq_7 (List.mem_of_getElem? (i := 122) rfl)) rfl
theorem tw_1566 : Cond.instanceMethod ⟨"TopicBrokerModel", "<init>", "()V"⟩ ∈ TB := TB_t (tq_7 (List.mem_of_getElem? (i := 126) rfl)) rfl
theorem tw_1567 : Cond.code ⟨"TopicBrokerModel", "<init>", "()V"⟩ prog_14_method_2_code 2 none ∈ TB := TB_t (tq_7 (List.mem_of_getElem? (i := 127) rfl)) rfl
theorem tw_1570 : Cond.fieldLink "TopicBrokerModel" 1 "TopicBrokerModel" "thrown" "I" ∈ TB := TB_t (tq_7 (List.mem_of_getElem? (i := 130) rfl)) rfl
theorem tw_1571 : Cond.fieldLink "TopicBrokerModel" 13 "TopicBrokerModel" "open" "[Z" ∈ TB := TB_t (tq_7 (List.mem_of_getElem? (i := 131) rfl)) rfl
theorem tw_1572 : Cond.fieldLink "TopicBrokerModel" 17 "TopicBrokerModel" "broken" "[Z" ∈ TB := TB_t (tq_7 (List.mem_of_getElem? (i := 132) rfl)) rfl
theorem tw_1573 : Cond.fieldLink "TopicBrokerModel" 20 "TopicBrokerModel" "outSize" "[I" ∈ TB := TB_t (tq_7 (List.mem_of_getElem? (i := 133) rfl)) rfl
theorem tw_1574 : Cond.fieldLink "TopicBrokerModel" 24 "TopicBrokerModel" "outs" "[B" ∈ TB := TB_t (tq_7 (List.mem_of_getElem? (i := 134) rfl)) rfl
theorem tw_1575 : Cond.fieldLink "TopicBrokerModel" 28 "TopicBrokerModel" "come" "[I" ∈ TB := TB_t (tq_7 (List.mem_of_getElem? (i := 135) rfl)) rfl
theorem tw_1576 : Cond.fieldLink "TopicBrokerModel" 31 "TopicBrokerModel" "ins" "[B" ∈ TB := TB_t (tq_7 (List.mem_of_getElem? (i := 136) rfl)) rfl
theorem tw_1577 : Cond.fieldLink "TopicBrokerModel" 34 "TopicBrokerModel" "of" "[I" ∈ TB := TB_t (tq_7 (List.mem_of_getElem? (i := 137) rfl)) rfl
theorem tw_1578 : Cond.fieldLink "TopicBrokerModel" 37 "TopicBrokerModel" "last" "[I" ∈ TB := TB_t (tq_7 (List.mem_of_getElem? (i := 138) rfl)) rfl
theorem tw_1579 : Cond.fieldLink "TopicBrokerModel" 40 "TopicBrokerModel" "aliasSize" "[I" ∈ TB := TB_t (tq_7 (List.mem_of_getElem? (i := 139) rfl)) rfl
theorem tw_1580 : Cond.fieldLink "TopicBrokerModel" 43 "TopicBrokerModel" "aliases" "[B" ∈ TB := TB_t (tq_7 (List.mem_of_getElem? (i := 140) rfl)) rfl
theorem tw_1581 : Cond.fieldLink "TopicBrokerModel" 46 "TopicBrokerModel" "there" "[Z" ∈ TB := TB_t (tq_7 (List.mem_of_getElem? (i := 141) rfl)) rfl
theorem tw_1582 : Cond.fieldLink "TopicBrokerModel" 49 "TopicBrokerModel" "born" "[I" ∈ TB := TB_t (tq_7 (List.mem_of_getElem? (i := 142) rfl)) rfl
theorem tw_1583 : Cond.fieldLink "TopicBrokerModel" 52 "TopicBrokerModel" "idSize" "[I" ∈ TB := TB_t (tq_7 (List.mem_of_getElem? (i := 143) rfl)) rfl
theorem tw_1584 : Cond.fieldLink "TopicBrokerModel" 55 "TopicBrokerModel" "ids" "[B" ∈ TB := TB_t (tq_7 (List.mem_of_getElem? (i := 144) rfl)) rfl
theorem tw_1585 : Cond.fieldLink "TopicBrokerModel" 58 "TopicBrokerModel" "on" "[I" ∈ TB := TB_t (tq_7 (List.mem_of_getElem? (i := 145) rfl)) rfl
theorem tw_1586 : Cond.fieldLink "TopicBrokerModel" 61 "TopicBrokerModel" "expires" "[J" ∈ TB := TB_t (tq_7 (List.mem_of_getElem? (i := 146) rfl)) rfl
theorem tw_1587 : Cond.fieldLink "TopicBrokerModel" 65 "TopicBrokerModel" "most" "[I" ∈ TB := TB_t (tq_7 (List.mem_of_getElem? (i := 147) rfl)) rfl
theorem tw_1588 : Cond.fieldLink "TopicBrokerModel" 68 "TopicBrokerModel" "sizes" "[J" ∈ TB := TB_t (tq_7 (List.mem_of_getElem? (i := 148) rfl)) rfl
theorem tw_1589 : Cond.fieldLink "TopicBrokerModel" 71 "TopicBrokerModel" "keeps" "[I" ∈ TB := TB_t (tq_7 (List.mem_of_getElem? (i := 149) rfl)) rfl
theorem tw_1590 : Cond.fieldLink "TopicBrokerModel" 74 "TopicBrokerModel" "will" "[I" ∈ TB := TB_t (tq_7 (List.mem_of_getElem? (i := 150) rfl)) rfl
theorem tw_1591 : Cond.fieldLink "TopicBrokerModel" 77 "TopicBrokerModel" "delay" "[J" ∈ TB := TB_t (tq_7 (List.mem_of_getElem? (i := 151) rfl)) rfl
theorem tw_1592 : Cond.fieldLink "TopicBrokerModel" 80 "TopicBrokerModel" "willAt" "[J" ∈ TB := TB_t (tq_7 (List.mem_of_getElem? (i := 152) rfl)) rfl
theorem tw_1593 : Cond.fieldLink "TopicBrokerModel" 83 "TopicBrokerModel" "endAt" "[J" ∈ TB := TB_t (tq_7 (List.mem_of_getElem? (i := 153) rfl)) rfl
theorem tw_1594 : Cond.fieldLink "TopicBrokerModel" 86 "TopicBrokerModel" "subs" "[I" ∈ TB := TB_t (tq_7 (List.mem_of_getElem? (i := 154) rfl)) rfl
theorem tw_1595 : Cond.fieldLink "TopicBrokerModel" 89 "TopicBrokerModel" "subSize" "[I" ∈ TB := TB_t (tq_7 (List.mem_of_getElem? (i := 155) rfl)) rfl
theorem tw_1596 : Cond.fieldLink "TopicBrokerModel" 92 "TopicBrokerModel" "subBytes" "[B" ∈ TB := TB_t (tq_7 (List.mem_of_getElem? (i := 156) rfl)) rfl
theorem tw_1597 : Cond.fieldLink "TopicBrokerModel" 95 "TopicBrokerModel" "options" "[I" ∈ TB := TB_t (tq_7 (List.mem_of_getElem? (i := 157) rfl)) rfl
theorem tw_1598 : Cond.fieldLink "TopicBrokerModel" 98 "TopicBrokerModel" "idents" "[I" ∈ TB := TB_t (tq_7 (List.mem_of_getElem? (i := 158) rfl)) rfl
theorem tw_1599 : Cond.fieldLink "TopicBrokerModel" 101 "TopicBrokerModel" "got" "[I" ∈ TB := TB_t (tq_7 (List.mem_of_getElem? (i := 159) rfl)) rfl
theorem tw_1600 : Cond.fieldLink "TopicBrokerModel" 104 "TopicBrokerModel" "turn" "[I" ∈ TB := TB_t (tq_7 (List.mem_of_getElem? (i := 160) rfl)) rfl
theorem tw_1601 : Cond.fieldLink "TopicBrokerModel" 107 "TopicBrokerModel" "ways" "[I" ∈ TB := TB_t (tq_7 (List.mem_of_getElem? (i := 161) rfl)) rfl
theorem tw_1602 : Cond.fieldLink "TopicBrokerModel" 110 "TopicBrokerModel" "wayNumber" "[I" ∈ TB := TB_t (tq_7 (List.mem_of_getElem? (i := 162) rfl)) rfl
theorem tw_1603 : Cond.fieldLink "TopicBrokerModel" 113 "TopicBrokerModel" "wayMessage" "[I" ∈ TB := TB_t (tq_7 (List.mem_of_getElem? (i := 163) rfl)) rfl
theorem tw_1604 : Cond.fieldLink "TopicBrokerModel" 116 "TopicBrokerModel" "wayQuality" "[I" ∈ TB := TB_t (tq_7 (List.mem_of_getElem? (i := 164) rfl)) rfl
theorem tw_1605 : Cond.fieldLink "TopicBrokerModel" 119 "TopicBrokerModel" "wayRetain" "[I" ∈ TB := TB_t (tq_7 (List.mem_of_getElem? (i := 165) rfl)) rfl
theorem tw_1606 : Cond.fieldLink "TopicBrokerModel" 122 "TopicBrokerModel" "wayIdent" "[I" ∈ TB := TB_t (tq_7 (List.mem_of_getElem? (i := 166) rfl)) rfl
theorem tw_1607 : Cond.fieldLink "TopicBrokerModel" 125 "TopicBrokerModel" "released" "[Z" ∈ TB := TB_t (tq_7 (List.mem_of_getElem? (i := 167) rfl)) rfl
theorem tw_1608 : Cond.fieldLink "TopicBrokerModel" 128 "TopicBrokerModel" "waits" "[I" ∈ TB := TB_t (tq_7 (List.mem_of_getElem? (i := 168) rfl)) rfl
theorem tw_1609 : Cond.fieldLink "TopicBrokerModel" 131 "TopicBrokerModel" "waitMessage" "[I" ∈ TB := TB_t (tq_7 (List.mem_of_getElem? (i := 169) rfl)) rfl
theorem tw_1610 : Cond.fieldLink "TopicBrokerModel" 134 "TopicBrokerModel" "waitQuality" "[I" ∈ TB := TB_t (tq_7 (List.mem_of_getElem? (i := 170) rfl)) rfl
theorem tw_1611 : Cond.fieldLink "TopicBrokerModel" 137 "TopicBrokerModel" "waitRetain" "[I" ∈ TB := TB_t (tq_7 (List.mem_of_getElem? (i := 171) rfl)) rfl
theorem tw_1612 : Cond.fieldLink "TopicBrokerModel" 140 "TopicBrokerModel" "waitIdent" "[I" ∈ TB := TB_t (tq_7 (List.mem_of_getElem? (i := 172) rfl)) rfl
theorem tw_1613 : Cond.fieldLink "TopicBrokerModel" 143 "TopicBrokerModel" "helds" "[I" ∈ TB := TB_t (tq_7 (List.mem_of_getElem? (i := 173) rfl)) rfl
theorem tw_1614 : Cond.fieldLink "TopicBrokerModel" 146 "TopicBrokerModel" "held" "[I" ∈ TB := TB_t (tq_7 (List.mem_of_getElem? (i := 174) rfl)) rfl
theorem tw_1615 : Cond.fieldLink "TopicBrokerModel" 150 "TopicBrokerModel" "store" "[B" ∈ TB := TB_t (tq_7 (List.mem_of_getElem? (i := 175) rfl)) rfl
theorem tw_1616 : Cond.fieldLink "TopicBrokerModel" 153 "TopicBrokerModel" "topicSize" "[I" ∈ TB := TB_t (tq_7 (List.mem_of_getElem? (i := 176) rfl)) rfl
theorem tw_1617 : Cond.fieldLink "TopicBrokerModel" 156 "TopicBrokerModel" "payAt" "[I" ∈ TB := TB_t (tq_7 (List.mem_of_getElem? (i := 177) rfl)) rfl
theorem tw_1618 : Cond.fieldLink "TopicBrokerModel" 159 "TopicBrokerModel" "paySize" "[I" ∈ TB := TB_t (tq_7 (List.mem_of_getElem? (i := 178) rfl)) rfl
theorem tw_1619 : Cond.fieldLink "TopicBrokerModel" 162 "TopicBrokerModel" "form" "[I" ∈ TB := TB_t (tq_7 (List.mem_of_getElem? (i := 179) rfl)) rfl
theorem tw_1620 : Cond.fieldLink "TopicBrokerModel" 165 "TopicBrokerModel" "life" "[J" ∈ TB := TB_t (tq_7 (List.mem_of_getElem? (i := 180) rfl)) rfl
theorem tw_1621 : Cond.fieldLink "TopicBrokerModel" 168 "TopicBrokerModel" "came" "[I" ∈ TB := TB_t (tq_7 (List.mem_of_getElem? (i := 181) rfl)) rfl
theorem tw_1622 : Cond.fieldLink "TopicBrokerModel" 171 "TopicBrokerModel" "typeAt" "[I" ∈ TB := TB_t (tq_7 (List.mem_of_getElem? (i := 182) rfl)) rfl
theorem tw_1623 : Cond.fieldLink "TopicBrokerModel" 174 "TopicBrokerModel" "typeSize" "[I" ∈ TB := TB_t (tq_7 (List.mem_of_getElem? (i := 183) rfl)) rfl
theorem tw_1624 : Cond.fieldLink "TopicBrokerModel" 177 "TopicBrokerModel" "replyAt" "[I" ∈ TB := TB_t (tq_7 (List.mem_of_getElem? (i := 184) rfl)) rfl
theorem tw_1625 : Cond.fieldLink "TopicBrokerModel" 180 "TopicBrokerModel" "replySize" "[I" ∈ TB := TB_t (tq_7 (List.mem_of_getElem? (i := 185) rfl)) rfl
theorem tw_1626 : Cond.fieldLink "TopicBrokerModel" 183 "TopicBrokerModel" "dataAt" "[I" ∈ TB := TB_t (tq_7 (List.mem_of_getElem? (i := 186) rfl)) rfl
theorem tw_1627 : Cond.fieldLink "TopicBrokerModel" 186 "TopicBrokerModel" "dataSize" "[I" ∈ TB := TB_t (tq_7 (List.mem_of_getElem? (i := 187) rfl)) rfl
theorem tw_1628 : Cond.fieldLink "TopicBrokerModel" 189 "TopicBrokerModel" "userAt" "[I" ∈ TB := TB_t (tq_7 (List.mem_of_getElem? (i := 188) rfl)) rfl
theorem tw_1629 : Cond.fieldLink "TopicBrokerModel" 192 "TopicBrokerModel" "userSize" "[I" ∈ TB := TB_t (tq_7 (List.mem_of_getElem? (i := 189) rfl)) rfl
theorem tw_1630 : Cond.fieldLink "TopicBrokerModel" 195 "TopicBrokerModel" "quality" "[I" ∈ TB := TB_t (tq_7 (List.mem_of_getElem? (i := 190) rfl)) rfl
theorem tw_1631 : Cond.fieldLink "TopicBrokerModel" 198 "TopicBrokerModel" "retain" "[I" ∈ TB := TB_t (tq_7 (List.mem_of_getElem? (i := 191) rfl)) rfl
theorem tw_1632 : Cond.fieldLink "TopicBrokerModel" 201 "TopicBrokerModel" "origin" "[I" ∈ TB := TB_t (tq_7 (List.mem_of_getElem? (i := 192) rfl)) rfl
theorem tw_1633 : Cond.fieldLink "TopicBrokerModel" 204 "TopicBrokerModel" "used" "[Z" ∈ TB := TB_t (tq_7 (List.mem_of_getElem? (i := 193) rfl)) rfl
theorem tw_1634 : Cond.fieldLink "TopicBrokerModel" 207 "TopicBrokerModel" "kept" "[I" ∈ TB := TB_t (tq_7 (List.mem_of_getElem? (i := 194) rfl)) rfl
theorem tw_1635 : Cond.fieldLink "TopicBrokerModel" 476 "TopicBrokerModel" "keptCount" "I" ∈ TB := TB_t (tq_7 (List.mem_of_getElem? (i := 195) rfl)) rfl
theorem tw_1636 : Cond.fieldLink "TopicBrokerModel" 268 "TopicBrokerModel" "time" "I" ∈ TB := TB_t (tq_7 (List.mem_of_getElem? (i := 196) rfl)) rfl
theorem tw_1637 : Cond.fieldLink "TopicBrokerModel" 265 "TopicBrokerModel" "taken" "I" ∈ TB := TB_t (tq_7 (List.mem_of_getElem? (i := 197) rfl)) rfl
theorem tw_1638 : Cond.fieldLink "TopicBrokerModel" 315 "TopicBrokerModel" "sent" "I" ∈ TB := TB_t (tq_7 (List.mem_of_getElem? (i := 198) rfl)) rfl
theorem tw_1639 : Cond.fieldLink "TopicBrokerModel" 508 "TopicBrokerModel" "distributed" "I" ∈ TB := TB_t (tq_7 (List.mem_of_getElem? (i := 199) rfl)) rfl
theorem tw_1640 : Cond.fieldLink "TopicBrokerModel" 541 "TopicBrokerModel" "dropped" "I" ∈ TB := TB_t (tq_7 (List.mem_of_getElem? (i := 200) rfl)) rfl
theorem tw_1641 : Cond.fieldLink "TopicBrokerModel" 473 "TopicBrokerModel" "made" "I" ∈ TB := TB_t (tq_7 (List.mem_of_getElem? (i := 201) rfl)) rfl
theorem tw_1642 : Cond.fieldLink "TopicBrokerModel" 470 "TopicBrokerModel" "madeIds" "I" ∈ TB := TB_t (tq_7 (List.mem_of_getElem? (i := 202) rfl)) rfl
theorem tw_1643 : Cond.fieldLink "TopicBrokerModel" 437 "TopicBrokerModel" "births" "I" ∈ TB := TB_t (tq_7 (List.mem_of_getElem? (i := 203) rfl)) rfl
theorem tw_1644 : Cond.fieldLink "TopicBrokerModel" 334 "TopicBrokerModel" "ended" "I" ∈ TB := TB_t (tq_7 (List.mem_of_getElem? (i := 204) rfl)) rfl
theorem tw_1645 : Cond.fieldLink "TopicBrokerModel" 271 "TopicBrokerModel" "c" "I" ∈ TB := TB_t (tq_7 (List.mem_of_getElem? (i := 205) rfl)) rfl
theorem tw_1646 : Cond.fieldLink "TopicBrokerModel" 274 "TopicBrokerModel" "at" "I" ∈ TB := TB_t (tq_7 (List.mem_of_getElem? (i := 206) rfl)) rfl
theorem tw_1647 : Cond.fieldLink "TopicBrokerModel" 277 "TopicBrokerModel" "end" "I" ∈ TB := TB_t (tq_7 (List.mem_of_getElem? (i := 207) rfl)) rfl
theorem tw_1648 : Cond.fieldLink "TopicBrokerModel" 280 "TopicBrokerModel" "lim" "I" ∈ TB := TB_t (tq_7 (List.mem_of_getElem? (i := 208) rfl)) rfl
theorem tw_1649 : Cond.fieldLink "TopicBrokerModel" 283 "TopicBrokerModel" "fault" "I" ∈ TB := TB_t (tq_7 (List.mem_of_getElem? (i := 209) rfl)) rfl
theorem tw_1650 : Cond.fieldLink "TopicBrokerModel" 353 "TopicBrokerModel" "rowAt" "I" ∈ TB := TB_t (tq_7 (List.mem_of_getElem? (i := 210) rfl)) rfl
theorem tw_1651 : Cond.fieldLink "TopicBrokerModel" 356 "TopicBrokerModel" "rowSize" "I" ∈ TB := TB_t (tq_7 (List.mem_of_getElem? (i := 211) rfl)) rfl
theorem tw_1652 : Cond.fieldLink "TopicBrokerModel" 210 "TopicBrokerModel" "has" "[Z" ∈ TB := TB_t (tq_7 (List.mem_of_getElem? (i := 212) rfl)) rfl
theorem tw_1653 : Cond.fieldLink "TopicBrokerModel" 213 "TopicBrokerModel" "value" "[J" ∈ TB := TB_t (tq_7 (List.mem_of_getElem? (i := 213) rfl)) rfl
theorem tw_1654 : Cond.fieldLink "TopicBrokerModel" 216 "TopicBrokerModel" "valueAt" "[I" ∈ TB := TB_t (tq_7 (List.mem_of_getElem? (i := 214) rfl)) rfl
theorem tw_1655 : Cond.fieldLink "TopicBrokerModel" 219 "TopicBrokerModel" "valueSize" "[I" ∈ TB := TB_t (tq_7 (List.mem_of_getElem? (i := 215) rfl)) rfl
theorem tw_1656 : Cond.fieldLink "TopicBrokerModel" 222 "TopicBrokerModel" "user" "[B" ∈ TB := TB_t (tq_7 (List.mem_of_getElem? (i := 216) rfl)) rfl
theorem tw_1657 : Cond.fieldLink "TopicBrokerModel" 370 "TopicBrokerModel" "userBytes" "I" ∈ TB := TB_t (tq_7 (List.mem_of_getElem? (i := 217) rfl)) rfl
theorem tw_1658 : Cond.fieldLink "TopicBrokerModel" 225 "TopicBrokerModel" "pk" "[B" ∈ TB := TB_t (tq_7 (List.mem_of_getElem? (i := 218) rfl)) rfl
theorem tw_1659 : Cond.fieldLink "TopicBrokerModel" 306 "TopicBrokerModel" "n" "I" ∈ TB := TB_t (tq_7 (List.mem_of_getElem? (i := 219) rfl)) rfl
theorem tw_1660 : Cond.fieldLink "TopicBrokerModel" 228 "TopicBrokerModel" "body" "[B" ∈ TB := TB_t (tq_7 (List.mem_of_getElem? (i := 220) rfl)) rfl
theorem tw_1661 : Cond.fieldLink "TopicBrokerModel" 450 "TopicBrokerModel" "bodySize" "I" ∈ TB := TB_t (tq_7 (List.mem_of_getElem? (i := 221) rfl)) rfl
theorem tw_1662 : Cond.fieldLink "TopicBrokerModel" 231 "TopicBrokerModel" "reasons" "[I" ∈ TB := TB_t (tq_7 (List.mem_of_getElem? (i := 222) rfl)) rfl
theorem tw_1663 : Cond.fieldLink "TopicBrokerModel" 234 "TopicBrokerModel" "entryAt" "[I" ∈ TB := TB_t (tq_7 (List.mem_of_getElem? (i := 223) rfl)) rfl
theorem tw_1664 : Cond.fieldLink "TopicBrokerModel" 237 "TopicBrokerModel" "entrySize" "[I" ∈ TB := TB_t (tq_7 (List.mem_of_getElem? (i := 224) rfl)) rfl
theorem tw_1665 : Cond.fieldLink "TopicBrokerModel" 240 "TopicBrokerModel" "entryOption" "[I" ∈ TB := TB_t (tq_7 (List.mem_of_getElem? (i := 225) rfl)) rfl
theorem tw_1666 : Cond.fieldLink "TopicBrokerModel" 243 "TopicBrokerModel" "entryNew" "[Z" ∈ TB := TB_t (tq_7 (List.mem_of_getElem? (i := 226) rfl)) rfl
theorem tw_1667 : Cond.fieldLink "TopicBrokerModel" 246 "TopicBrokerModel" "topic" "[B" ∈ TB := TB_t (tq_7 (List.mem_of_getElem? (i := 227) rfl)) rfl
theorem tw_1668 : Cond.fieldLink "TopicBrokerModel" 443 "TopicBrokerModel" "topicBytes" "I" ∈ TB := TB_t (tq_7 (List.mem_of_getElem? (i := 228) rfl)) rfl
theorem tw_1870 : Cond.instanceMethod ⟨"TopicBrokerModel", "open", "(I)V"⟩ ∈ TB := TB_t (tq_8 (List.mem_of_getElem? (i := 190) rfl)) rfl
theorem tw_1871 : Cond.selects "TopicBrokerModel" ⟨"TopicBrokerModel", "open", "(I)V"⟩ ⟨"TopicBrokerModel", "open", "(I)V"⟩ ∈ TB := TB_t (tq_8 (List.mem_of_getElem? (i := 191) rfl)) rfl
theorem tw_1872 : Cond.code ⟨"TopicBrokerModel", "open", "(I)V"⟩ prog_14_method_6_code 3 none ∈ TB := TB_t (tq_8 (List.mem_of_getElem? (i := 192) rfl)) rfl
theorem tw_1873 : Cond.methodLink "TopicBrokerModel" 249 ⟨"TopicBrokerModel", "isConnection", "(I)Z"⟩ ∈ TB := TB_t (tq_8 (List.mem_of_getElem? (i := 193) rfl)) rfl
theorem tw_1874 : Cond.static ⟨"TopicBrokerModel", "isConnection", "(I)Z"⟩ ∈ TB := TB_t (tq_8 (List.mem_of_getElem? (i := 194) rfl)) rfl
theorem tw_1875 : Cond.code ⟨"TopicBrokerModel", "isConnection", "(I)Z"⟩ prog_14_method_4_code 1 (some .boolean) ∈ TB := TB_t (tq_8 (List.mem_of_getElem? (i := 195) rfl)) rfl
theorem tw_1876 : Cond.methodLink "TopicBrokerModel" 253 ⟨"TopicBrokerModel", "refuses", "(I)Z"⟩ ∈ TB := TB_t (tq_8 (List.mem_of_getElem? (i := 196) rfl)) rfl
theorem tw_1878 : Cond.instanceMethod ⟨"TopicBrokerModel", "refuses", "(I)Z"⟩ ∈ TB := TB_t (tq_8 (List.mem_of_getElem? (i := 198) rfl)) rfl
theorem tw_1879 : Cond.code ⟨"TopicBrokerModel", "refuses", "(I)Z"⟩ prog_14_method_3_code 2 (some .boolean) ∈ TB := TB_t (tq_8 (List.mem_of_getElem? (i := 199) rfl)) rfl
theorem tw_1881 : Cond.instanceMethod ⟨"TopicBrokerModel", "feed", "(IJJI)I"⟩ ∈ TB := TB_t (tq_8 (List.mem_of_getElem? (i := 201) rfl)) rfl
theorem tw_1882 : Cond.selects "TopicBrokerModel" ⟨"TopicBrokerModel", "feed", "(IJJI)I"⟩ ⟨"TopicBrokerModel", "feed", "(IJJI)I"⟩ ∈ TB := TB_t (tq_8 (List.mem_of_getElem? (i := 202) rfl)) rfl
theorem tw_1883 : Cond.code ⟨"TopicBrokerModel", "feed", "(IJJI)I"⟩ prog_14_method_7_code 9 (some .int) ∈ TB := TB_t (tq_8 (List.mem_of_getElem? (i := 203) rfl)) rfl
theorem tw_1884 : Cond.methodLink "TopicBrokerModel" 256 ⟨"TopicBrokerModel", "look", "(I)Z"⟩ ∈ TB := TB_t (tq_8 (List.mem_of_getElem? (i := 204) rfl)) rfl
theorem tw_1886 : Cond.instanceMethod ⟨"TopicBrokerModel", "look", "(I)Z"⟩ ∈ TB := TB_t (tq_8 (List.mem_of_getElem? (i := 206) rfl)) rfl
theorem tw_1887 : Cond.code ⟨"TopicBrokerModel", "look", "(I)Z"⟩ prog_14_method_8_code 8 (some .boolean) ∈ TB := TB_t (tq_8 (List.mem_of_getElem? (i := 207) rfl)) rfl
theorem tw_1888 : Cond.methodLink "TopicBrokerModel" 259 ⟨"TopicBrokerModel", "wrong", "(II)V"⟩ ∈ TB := TB_t (tq_8 (List.mem_of_getElem? (i := 208) rfl)) rfl
theorem tw_1890 : Cond.instanceMethod ⟨"TopicBrokerModel", "wrong", "(II)V"⟩ ∈ TB := TB_t (tq_8 (List.mem_of_getElem? (i := 210) rfl)) rfl
theorem tw_1891 : Cond.code ⟨"TopicBrokerModel", "wrong", "(II)V"⟩ prog_14_method_9_code 3 none ∈ TB := TB_t (tq_8 (List.mem_of_getElem? (i := 211) rfl)) rfl
theorem tw_1892 : Cond.methodLink "TopicBrokerModel" 289 ⟨"TopicBrokerModel", "fail", "(II)V"⟩ ∈ TB := TB_t (tq_8 (List.mem_of_getElem? (i := 212) rfl)) rfl
theorem tw_1894 : Cond.instanceMethod ⟨"TopicBrokerModel", "fail", "(II)V"⟩ ∈ TB := TB_t (tq_8 (List.mem_of_getElem? (i := 214) rfl)) rfl
theorem tw_1895 : Cond.code ⟨"TopicBrokerModel", "fail", "(II)V"⟩ prog_14_method_10_code 4 none ∈ TB := TB_t (tq_8 (List.mem_of_getElem? (i := 215) rfl)) rfl
theorem tw_1896 : Cond.methodLink "TopicBrokerModel" 295 ⟨"TopicBrokerModel", "short4", "(IIIIII)V"⟩ ∈ TB := TB_t (tq_8 (List.mem_of_getElem? (i := 216) rfl)) rfl
theorem tw_1898 : Cond.instanceMethod ⟨"TopicBrokerModel", "short4", "(IIIIII)V"⟩ ∈ TB := TB_t (tq_8 (List.mem_of_getElem? (i := 218) rfl)) rfl
theorem tw_1899 : Cond.code ⟨"TopicBrokerModel", "short4", "(IIIIII)V"⟩ prog_14_method_12_code 7 none ∈ TB := TB_t (tq_8 (List.mem_of_getElem? (i := 219) rfl)) rfl
theorem tw_1900 : Cond.methodLink "TopicBrokerModel" 309 ⟨"TopicBrokerModel", "put", "(I)V"⟩ ∈ TB := TB_t (tq_8 (List.mem_of_getElem? (i := 220) rfl)) rfl
theorem tw_1902 : Cond.instanceMethod ⟨"TopicBrokerModel", "put", "(I)V"⟩ ∈ TB := TB_t (tq_8 (List.mem_of_getElem? (i := 222) rfl)) rfl
theorem tw_1903 : Cond.code ⟨"TopicBrokerModel", "put", "(I)V"⟩ prog_14_method_13_code 2 none ∈ TB := TB_t (tq_8 (List.mem_of_getElem? (i := 223) rfl)) rfl
theorem tw_1904 : Cond.methodLink "TopicBrokerModel" 312 ⟨"TopicBrokerModel", "send", "(I)V"⟩ ∈ TB := TB_t (tq_8 (List.mem_of_getElem? (i := 224) rfl)) rfl
theorem tw_1906 : Cond.instanceMethod ⟨"TopicBrokerModel", "send", "(I)V"⟩ ∈ TB := TB_t (tq_8 (List.mem_of_getElem? (i := 226) rfl)) rfl
theorem tw_1907 : Cond.code ⟨"TopicBrokerModel", "send", "(I)V"⟩ prog_14_method_14_code 3 none ∈ TB := TB_t (tq_8 (List.mem_of_getElem? (i := 227) rfl)) rfl
theorem tw_1908 : Cond.methodLink "TopicBrokerModel" 299 ⟨"TopicBrokerModel", "connackFault", "(II)V"⟩ ∈ TB := TB_t (tq_8 (List.mem_of_getElem? (i := 228) rfl)) rfl
theorem tw_1910 : Cond.instanceMethod ⟨"TopicBrokerModel", "connackFault", "(II)V"⟩ ∈ TB := TB_t (tq_8 (List.mem_of_getElem? (i := 230) rfl)) rfl
theorem tw_1911 : Cond.code ⟨"TopicBrokerModel", "connackFault", "(II)V"⟩ prog_14_method_11_code 3 none ∈ TB := TB_t (tq_8 (List.mem_of_getElem? (i := 231) rfl)) rfl
theorem tw_1912 : Cond.methodLink "TopicBrokerModel" 302 ⟨"TopicBrokerModel", "lost", "(I)V"⟩ ∈ TB := TB_t (tq_8 (List.mem_of_getElem? (i := 232) rfl)) rfl
theorem tw_1914 : Cond.instanceMethod ⟨"TopicBrokerModel", "lost", "(I)V"⟩ ∈ TB := TB_t (tq_8 (List.mem_of_getElem? (i := 234) rfl)) rfl
theorem tw_1915 : Cond.code ⟨"TopicBrokerModel", "lost", "(I)V"⟩ prog_14_method_16_code 3 none ∈ TB := TB_t (tq_8 (List.mem_of_getElem? (i := 235) rfl)) rfl
theorem tw_1916 : Cond.methodLink "TopicBrokerModel" 318 ⟨"TopicBrokerModel", "comes", "(I)V"⟩ ∈ TB := TB_t (tq_8 (List.mem_of_getElem? (i := 236) rfl)) rfl
theorem tw_1918 : Cond.instanceMethod ⟨"TopicBrokerModel", "comes", "(I)V"⟩ ∈ TB := TB_t (tq_8 (List.mem_of_getElem? (i := 238) rfl)) rfl
theorem tw_1919 : Cond.code ⟨"TopicBrokerModel", "comes", "(I)V"⟩ prog_14_method_17_code 3 none ∈ TB := TB_t (tq_8 (List.mem_of_getElem? (i := 239) rfl)) rfl
theorem tw_1920 : Cond.constantLong "TopicBrokerModel" 326 (-1) ∈ TB := TB_t (tq_9 (List.mem_of_getElem? (i := 0) rfl)) rfl
theorem tw_1921 : Cond.methodLink "TopicBrokerModel" 328 ⟨"TopicBrokerModel", "keep", "(I)Z"⟩ ∈ TB := TB_t (tq_9 (List.mem_of_getElem? (i := 1) rfl)) rfl
theorem tw_1923 : Cond.instanceMethod ⟨"TopicBrokerModel", "keep", "(I)Z"⟩ ∈ TB := TB_t (tq_9 (List.mem_of_getElem? (i := 3) rfl)) rfl
theorem tw_1924 : Cond.code ⟨"TopicBrokerModel", "keep", "(I)Z"⟩ prog_14_method_56_code 4 (some .boolean) ∈ TB := TB_t (tq_9 (List.mem_of_getElem? (i := 4) rfl)) rfl
theorem tw_1925 : Cond.methodLink "TopicBrokerModel" 486 ⟨"TopicBrokerModel", "purge", "()V"⟩ ∈ TB := TB_t (tq_9 (List.mem_of_getElem? (i := 5) rfl)) rfl
theorem tw_1927 : Cond.instanceMethod ⟨"TopicBrokerModel", "purge", "()V"⟩ ∈ TB := TB_t (tq_9 (List.mem_of_getElem? (i := 7) rfl)) rfl
theorem tw_1928 : Cond.code ⟨"TopicBrokerModel", "purge", "()V"⟩ prog_14_method_55_code 3 none ∈ TB := TB_t (tq_9 (List.mem_of_getElem? (i := 8) rfl)) rfl
theorem tw_1929 : Cond.methodLink "TopicBrokerModel" 483 ⟨"TopicBrokerModel", "gone", "(I)Z"⟩ ∈ TB := TB_t (tq_9 (List.mem_of_getElem? (i := 9) rfl)) rfl
theorem tw_1931 : Cond.instanceMethod ⟨"TopicBrokerModel", "gone", "(I)Z"⟩ ∈ TB := TB_t (tq_9 (List.mem_of_getElem? (i := 11) rfl)) rfl
theorem tw_1932 : Cond.code ⟨"TopicBrokerModel", "gone", "(I)Z"⟩ prog_14_method_53_code 2 (some .boolean) ∈ TB := TB_t (tq_9 (List.mem_of_getElem? (i := 12) rfl)) rfl
theorem tw_1933 : Cond.methodLink "TopicBrokerModel" 489 ⟨"TopicBrokerModel", "sameTopic", "(II)Z"⟩ ∈ TB := TB_t (tq_9 (List.mem_of_getElem? (i := 13) rfl)) rfl
theorem tw_1935 : Cond.instanceMethod ⟨"TopicBrokerModel", "sameTopic", "(II)Z"⟩ ∈ TB := TB_t (tq_9 (List.mem_of_getElem? (i := 15) rfl)) rfl
theorem tw_1936 : Cond.code ⟨"TopicBrokerModel", "sameTopic", "(II)Z"⟩ prog_14_method_54_code 5 (some .boolean) ∈ TB := TB_t (tq_9 (List.mem_of_getElem? (i := 16) rfl)) rfl
theorem tw_1937 : Cond.methodLink "TopicBrokerModel" 331 ⟨"TopicBrokerModel", "distribute", "(I)Z"⟩ ∈ TB := TB_t (tq_9 (List.mem_of_getElem? (i := 17) rfl)) rfl
theorem tw_1939 : Cond.instanceMethod ⟨"TopicBrokerModel", "distribute", "(I)Z"⟩ ∈ TB := TB_t (tq_9 (List.mem_of_getElem? (i := 19) rfl)) rfl
theorem tw_1940 : Cond.code ⟨"TopicBrokerModel", "distribute", "(I)Z"⟩ prog_14_method_63_code 8 (some .boolean) ∈ TB := TB_t (tq_9 (List.mem_of_getElem? (i := 20) rfl)) rfl
theorem tw_1941 : Cond.methodLink "TopicBrokerModel" 511 ⟨"TopicBrokerModel", "takes", "(II)Z"⟩ ∈ TB := TB_t (tq_9 (List.mem_of_getElem? (i := 21) rfl)) rfl
theorem tw_1943 : Cond.instanceMethod ⟨"TopicBrokerModel", "takes", "(II)Z"⟩ ∈ TB := TB_t (tq_9 (List.mem_of_getElem? (i := 23) rfl)) rfl
theorem tw_1944 : Cond.code ⟨"TopicBrokerModel", "takes", "(II)Z"⟩ prog_14_method_62_code 4 (some .boolean) ∈ TB := TB_t (tq_9 (List.mem_of_getElem? (i := 24) rfl)) rfl
theorem tw_1945 : Cond.methodLink "TopicBrokerModel" 501 ⟨"TopicBrokerModel", "shareAt", "([BII)I"⟩ ∈ TB := TB_t (tq_9 (List.mem_of_getElem? (i := 25) rfl)) rfl
theorem tw_1946 : Cond.static ⟨"TopicBrokerModel", "shareAt", "([BII)I"⟩ ∈ TB := TB_t (tq_9 (List.mem_of_getElem? (i := 26) rfl)) rfl
theorem tw_1947 : Cond.code ⟨"TopicBrokerModel", "shareAt", "([BII)I"⟩ prog_14_method_39_code 4 (some .int) ∈ TB := TB_t (tq_9 (List.mem_of_getElem? (i := 27) rfl)) rfl
theorem tw_1948 : Cond.methodLink "TopicBrokerModel" 391 ⟨"TopicBrokerModel", "isShare", "([BII)Z"⟩ ∈ TB := TB_t (tq_9 (List.mem_of_getElem? (i := 28) rfl)) rfl
theorem tw_1949 : Cond.static ⟨"TopicBrokerModel", "isShare", "([BII)Z"⟩ ∈ TB := TB_t (tq_9 (List.mem_of_getElem? (i := 29) rfl)) rfl
theorem tw_1950 : Cond.code ⟨"TopicBrokerModel", "isShare", "([BII)Z"⟩ prog_14_method_37_code 3 (some .boolean) ∈ TB := TB_t (tq_9 (List.mem_of_getElem? (i := 30) rfl)) rfl
theorem tw_1951 : Cond.methodLink "TopicBrokerModel" 395 ⟨"TopicBrokerModel", "isFilter", "([BII)Z"⟩ ∈ TB := TB_t (tq_9 (List.mem_of_getElem? (i := 31) rfl)) rfl
theorem tw_1952 : Cond.static ⟨"TopicBrokerModel", "isFilter", "([BII)Z"⟩ ∈ TB := TB_t (tq_9 (List.mem_of_getElem? (i := 32) rfl)) rfl
theorem tw_1953 : Cond.code ⟨"TopicBrokerModel", "isFilter", "([BII)Z"⟩ prog_14_method_38_code 7 (some .boolean) ∈ TB := TB_t (tq_9 (List.mem_of_getElem? (i := 33) rfl)) rfl
theorem tw_1954 : Cond.methodLink "TopicBrokerModel" 504 ⟨"TopicBrokerModel", "matches", "(III)Z"⟩ ∈ TB := TB_t (tq_9 (List.mem_of_getElem? (i := 34) rfl)) rfl
theorem tw_1956 : Cond.instanceMethod ⟨"TopicBrokerModel", "matches", "(III)Z"⟩ ∈ TB := TB_t (tq_9 (List.mem_of_getElem? (i := 36) rfl)) rfl
theorem tw_1957 : Cond.code ⟨"TopicBrokerModel", "matches", "(III)Z"⟩ prog_14_method_40_code 10 (some .boolean) ∈ TB := TB_t (tq_9 (List.mem_of_getElem? (i := 37) rfl)) rfl
theorem tw_1958 : Cond.methodLink "TopicBrokerModel" 514 ⟨"TopicBrokerModel", "isShared", "(I)Z"⟩ ∈ TB := TB_t (tq_9 (List.mem_of_getElem? (i := 38) rfl)) rfl
theorem tw_1960 : Cond.instanceMethod ⟨"TopicBrokerModel", "isShared", "(I)Z"⟩ ∈ TB := TB_t (tq_9 (List.mem_of_getElem? (i := 40) rfl)) rfl
theorem tw_1961 : Cond.code ⟨"TopicBrokerModel", "isShared", "(I)Z"⟩ prog_14_method_61_code 2 (some .boolean) ∈ TB := TB_t (tq_9 (List.mem_of_getElem? (i := 41) rfl)) rfl
theorem tw_1962 : Cond.methodLink "TopicBrokerModel" 517 ⟨"TopicBrokerModel", "isFirst", "(I)Z"⟩ ∈ TB := TB_t (tq_9 (List.mem_of_getElem? (i := 42) rfl)) rfl
theorem tw_1964 : Cond.instanceMethod ⟨"TopicBrokerModel", "isFirst", "(I)Z"⟩ ∈ TB := TB_t (tq_9 (List.mem_of_getElem? (i := 44) rfl)) rfl
theorem tw_1965 : Cond.code ⟨"TopicBrokerModel", "isFirst", "(I)Z"⟩ prog_14_method_64_code 3 (some .boolean) ∈ TB := TB_t (tq_9 (List.mem_of_getElem? (i := 45) rfl)) rfl
theorem tw_1966 : Cond.methodLink "TopicBrokerModel" 527 ⟨"TopicBrokerModel", "sameFilter", "(II)Z"⟩ ∈ TB := TB_t (tq_9 (List.mem_of_getElem? (i := 46) rfl)) rfl
theorem tw_1968 : Cond.instanceMethod ⟨"TopicBrokerModel", "sameFilter", "(II)Z"⟩ ∈ TB := TB_t (tq_9 (List.mem_of_getElem? (i := 48) rfl)) rfl
theorem tw_1969 : Cond.code ⟨"TopicBrokerModel", "sameFilter", "(II)Z"⟩ prog_14_method_60_code 5 (some .boolean) ∈ TB := TB_t (tq_9 (List.mem_of_getElem? (i := 49) rfl)) rfl
theorem tw_1970 : Cond.methodLink "TopicBrokerModel" 520 ⟨"TopicBrokerModel", "chosen", "(I)I"⟩ ∈ TB := TB_t (tq_9 (List.mem_of_getElem? (i := 50) rfl)) rfl
theorem tw_1972 : Cond.instanceMethod ⟨"TopicBrokerModel", "chosen", "(I)I"⟩ ∈ TB := TB_t (tq_9 (List.mem_of_getElem? (i := 52) rfl)) rfl
theorem tw_1973 : Cond.code ⟨"TopicBrokerModel", "chosen", "(I)I"⟩ prog_14_method_65_code 7 (some .int) ∈ TB := TB_t (tq_9 (List.mem_of_getElem? (i := 53) rfl)) rfl
theorem tw_1974 : Cond.methodLink "TopicBrokerModel" 524 ⟨"TopicBrokerModel", "deliver", "(III)V"⟩ ∈ TB := TB_t (tq_9 (List.mem_of_getElem? (i := 54) rfl)) rfl
theorem tw_1976 : Cond.instanceMethod ⟨"TopicBrokerModel", "deliver", "(III)V"⟩ ∈ TB := TB_t (tq_9 (List.mem_of_getElem? (i := 56) rfl)) rfl
theorem tw_1977 : Cond.code ⟨"TopicBrokerModel", "deliver", "(III)V"⟩ prog_14_method_67_code 7 none ∈ TB := TB_t (tq_9 (List.mem_of_getElem? (i := 57) rfl)) rfl
theorem tw_1978 : Cond.methodLink "TopicBrokerModel" 337 ⟨"java/lang/Math", "min", "(II)I"⟩ ∈ TB := TB_t (tq_9 (List.mem_of_getElem? (i := 58) rfl)) rfl
theorem tw_1979 : Cond.methodLink "TopicBrokerModel" 530 ⟨"TopicBrokerModel", "sendPublish", "(IIIIIII)Z"⟩ ∈ TB := TB_t (tq_9 (List.mem_of_getElem? (i := 59) rfl)) rfl
theorem tw_1981 : Cond.instanceMethod ⟨"TopicBrokerModel", "sendPublish", "(IIIIIII)Z"⟩ ∈ TB := TB_t (tq_9 (List.mem_of_getElem? (i := 61) rfl)) rfl
theorem tw_1982 : Cond.code ⟨"TopicBrokerModel", "sendPublish", "(IIIIIII)Z"⟩ prog_14_method_71_code 13 (some .boolean) ∈ TB := TB_t (tq_9 (List.mem_of_getElem? (i := 62) rfl)) rfl
theorem tw_1983 : Cond.methodLink "TopicBrokerModel" 453 ⟨"TopicBrokerModel", "byteOf", "(I)V"⟩ ∈ TB := TB_t (tq_9 (List.mem_of_getElem? (i := 63) rfl)) rfl
theorem tw_1985 : Cond.instanceMethod ⟨"TopicBrokerModel", "byteOf", "(I)V"⟩ ∈ TB := TB_t (tq_9 (List.mem_of_getElem? (i := 65) rfl)) rfl
theorem tw_1986 : Cond.code ⟨"TopicBrokerModel", "byteOf", "(I)V"⟩ prog_14_method_44_code 2 none ∈ TB := TB_t (tq_9 (List.mem_of_getElem? (i := 66) rfl)) rfl
theorem tw_1987 : Cond.constant "TopicBrokerModel" 547 (2097152) ∈ TB := TB_t (tq_9 (List.mem_of_getElem? (i := 67) rfl)) rfl
theorem tw_1988 : Cond.methodLink "TopicBrokerModel" 548 ⟨"TopicBrokerModel", "variableOf", "(J)V"⟩ ∈ TB := TB_t (tq_9 (List.mem_of_getElem? (i := 68) rfl)) rfl
theorem tw_1990 : Cond.instanceMethod ⟨"TopicBrokerModel", "variableOf", "(J)V"⟩ ∈ TB := TB_t (tq_9 (List.mem_of_getElem? (i := 70) rfl)) rfl
theorem tw_1991 : Cond.code ⟨"TopicBrokerModel", "variableOf", "(J)V"⟩ prog_14_method_45_code 5 none ∈ TB := TB_t (tq_9 (List.mem_of_getElem? (i := 71) rfl)) rfl
theorem tw_1992 : Cond.constantLong "TopicBrokerModel" 465 (127) ∈ TB := TB_t (tq_9 (List.mem_of_getElem? (i := 72) rfl)) rfl
theorem tw_1993 : Cond.methodLink "TopicBrokerModel" 551 ⟨"java/lang/Math", "max", "(JJ)J"⟩ ∈ TB := TB_t (tq_9 (List.mem_of_getElem? (i := 73) rfl)) rfl
theorem tw_1994 : Cond.methodLink "TopicBrokerModel" 555 ⟨"TopicBrokerModel", "part", "(III)V"⟩ ∈ TB := TB_t (tq_9 (List.mem_of_getElem? (i := 74) rfl)) rfl
theorem tw_1996 : Cond.instanceMethod ⟨"TopicBrokerModel", "part", "(III)V"⟩ ∈ TB := TB_t (tq_9 (List.mem_of_getElem? (i := 76) rfl)) rfl
theorem tw_1997 : Cond.code ⟨"TopicBrokerModel", "part", "(III)V"⟩ prog_14_method_72_code 5 none ∈ TB := TB_t (tq_9 (List.mem_of_getElem? (i := 77) rfl)) rfl
theorem tw_1998 : Cond.methodLink "TopicBrokerModel" 467 ⟨"TopicBrokerModel", "wrap", "(I)V"⟩ ∈ TB := TB_t (tq_9 (List.mem_of_getElem? (i := 78) rfl)) rfl
theorem tw_2000 : Cond.instanceMethod ⟨"TopicBrokerModel", "wrap", "(I)V"⟩ ∈ TB := TB_t (tq_9 (List.mem_of_getElem? (i := 80) rfl)) rfl
theorem tw_2001 : Cond.code ⟨"TopicBrokerModel", "wrap", "(I)V"⟩ prog_14_method_46_code 4 none ∈ TB := TB_t (tq_9 (List.mem_of_getElem? (i := 81) rfl)) rfl
theorem tw_2002 : Cond.methodLink "TopicBrokerModel" 534 ⟨"TopicBrokerModel", "mayGo", "(I)Z"⟩ ∈ TB := TB_t (tq_9 (List.mem_of_getElem? (i := 82) rfl)) rfl
theorem tw_2004 : Cond.instanceMethod ⟨"TopicBrokerModel", "mayGo", "(I)Z"⟩ ∈ TB := TB_t (tq_9 (List.mem_of_getElem? (i := 84) rfl)) rfl
theorem tw_2005 : Cond.code ⟨"TopicBrokerModel", "mayGo", "(I)Z"⟩ prog_14_method_66_code 2 (some .boolean) ∈ TB := TB_t (tq_9 (List.mem_of_getElem? (i := 85) rfl)) rfl
