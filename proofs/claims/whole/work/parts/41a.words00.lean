theorem tp_0 : Cond.selects "TopicBroker" ⟨"TopicBroker", "connectionOf", "(I)LTopicBroker$Connection;"⟩ ⟨"TopicBroker", "connectionOf", "(I)LTopicBroker$Connection;"⟩ ∈ TB := TB_in (List.mem_append_left _ (List.mem_of_getElem? (i := 0) rfl)) rfl
theorem tp_2 : Cond.selects "TopicBroker" ⟨"TopicBroker", "obey", "(LTopicBroker$Connection;)I"⟩ ⟨"TopicBroker", "obey", "(LTopicBroker$Connection;)I"⟩ ∈ TB := TB_in (List.mem_append_left _ (List.mem_of_getElem? (i := 2) rfl)) rfl
theorem tp_22 : Cond.selects "TopicBroker" ⟨"TopicBroker", "enter", "(LTopicBroker$Connection;)V"⟩ ⟨"TopicBroker", "enter", "(LTopicBroker$Connection;)V"⟩ ∈ TB := TB_in (List.mem_append_left _ (List.mem_of_getElem? (i := 22) rfl)) rfl
theorem tp_33 : Cond.selects "TopicBroker" ⟨"TopicBroker", "refuse", "(LTopicBroker$Connection;I)V"⟩ ⟨"TopicBroker", "refuse", "(LTopicBroker$Connection;I)V"⟩ ∈ TB := TB_in (List.mem_append_left _ (List.mem_of_getElem? (i := 33) rfl)) rfl
theorem tp_34 : Cond.selects "TopicBroker" ⟨"TopicBroker", "settle", "()V"⟩ ⟨"TopicBroker", "settle", "()V"⟩ ∈ TB := TB_in (List.mem_append_left _ (List.mem_of_getElem? (i := 34) rfl)) rfl
theorem tp_35 : Cond.selects "TopicBroker" ⟨"TopicBroker", "nextEvent", "()J"⟩ ⟨"TopicBroker", "nextEvent", "()J"⟩ ∈ TB := TB_in (List.mem_append_left _ (List.mem_of_getElem? (i := 35) rfl)) rfl
theorem tp_36 : Cond.selects "TopicBroker" ⟨"TopicBroker", "tick", "()V"⟩ ⟨"TopicBroker", "tick", "()V"⟩ ∈ TB := TB_in (List.mem_append_left _ (List.mem_of_getElem? (i := 36) rfl)) rfl
theorem tp_37 : Cond.selects "TopicBroker" ⟨"TopicBroker", "sessionOf", "(I)LTopicBroker$Session;"⟩ ⟨"TopicBroker", "sessionOf", "(I)LTopicBroker$Session;"⟩ ∈ TB := TB_in (List.mem_append_left _ (List.mem_of_getElem? (i := 37) rfl)) rfl
theorem tp_38 : Cond.selects "TopicBroker" ⟨"TopicBroker", "subscriptionOf", "(II)LTopicBroker$Subscription;"⟩ ⟨"TopicBroker", "subscriptionOf", "(II)LTopicBroker$Subscription;"⟩ ∈ TB := TB_in (List.mem_append_left _ (List.mem_of_getElem? (i := 38) rfl)) rfl
theorem tp_39 : Cond.selects "TopicBroker" ⟨"TopicBroker", "countSent", "()I"⟩ ⟨"TopicBroker", "countSent", "()I"⟩ ∈ TB := TB_in (List.mem_append_left _ (List.mem_of_getElem? (i := 39) rfl)) rfl
theorem tw_14 : Cond.initialized "java/lang/IndexOutOfBoundsException" ∈ TB := TB_t (tq_1 (List.mem_of_getElem? (i := 14) rfl)) rfl
theorem tw_15 : Cond.initialized "java/lang/IllegalStateException" ∈ TB := TB_t (tq_1 (List.mem_of_getElem? (i := 15) rfl)) rfl
theorem tw_16 : Cond.initialized "java/lang/IllegalArgumentException" ∈ TB := TB_t (tq_1 (List.mem_of_getElem? (i := 16) rfl)) rfl
theorem tw_49 : Cond.fieldLink "TopicBroker" 155 "TopicBroker$Connection" "number" "I" ∈ TB := TB_t (tq_1 (List.mem_of_getElem? (i := 49) rfl)) rfl
theorem tw_51 : Cond.fieldLink "TopicBroker" 74 "TopicBroker$Connection" "open" "Z" ∈ TB := TB_t (tq_1 (List.mem_of_getElem? (i := 51) rfl)) rfl
theorem tw_55 : Cond.fieldLink "TopicBroker" 116 "TopicBroker$Connection" "sending" "[I" ∈ TB := TB_t (tq_1 (List.mem_of_getElem? (i := 55) rfl)) rfl
theorem tw_57 : Cond.fieldLink "TopicBroker" 113 "TopicBroker$Connection" "used" "I" ∈ TB := TB_t (tq_1 (List.mem_of_getElem? (i := 57) rfl)) rfl
theorem tw_65 : Cond.fieldLink "TopicBroker" 128 "TopicBroker$Connection" "come" "I" ∈ TB := TB_t (tq_1 (List.mem_of_getElem? (i := 65) rfl)) rfl
theorem tw_351 : Cond.methodLink "TopicBroker" 70 ⟨"TopicBroker", "connectionOf", "(I)LTopicBroker$Connection;"⟩ ∈ TB := TB_t (tq_2 (List.mem_of_getElem? (i := 111) rfl)) rfl
theorem tw_353 : Cond.instanceMethod ⟨"TopicBroker", "connectionOf", "(I)LTopicBroker$Connection;"⟩ ∈ TB := TB_t (tq_2 (List.mem_of_getElem? (i := 113) rfl)) rfl
theorem tw_354 : Cond.code ⟨"TopicBroker", "connectionOf", "(I)LTopicBroker$Connection;"⟩ prog_1_method_20_code 2 (some (.object "TopicBroker$Connection")) ∈ TB := TB_t (tq_2 (List.mem_of_getElem? (i := 114) rfl)) rfl
theorem tw_355 : Cond.classLink "TopicBroker" 258 "java/lang/IndexOutOfBoundsException" ∈ TB := TB_t (tq_2 (List.mem_of_getElem? (i := 115) rfl)) rfl
theorem tw_419 : Cond.classLink "TopicBroker" 78 "java/lang/IllegalStateException" ∈ TB := TB_t (tq_2 (List.mem_of_getElem? (i := 179) rfl)) rfl
theorem tw_434 : Cond.methodLink "TopicBroker" 81 ⟨"TopicBroker$Connection", "begin", "()V"⟩ ∈ TB := TB_t (tq_2 (List.mem_of_getElem? (i := 194) rfl)) rfl
theorem tw_435 : Cond.instanceMethod ⟨"TopicBroker$Connection", "begin", "()V"⟩ ∈ TB := TB_t (tq_2 (List.mem_of_getElem? (i := 195) rfl)) rfl
theorem tw_436 : Cond.selects "TopicBroker$Connection" ⟨"TopicBroker$Connection", "begin", "()V"⟩ ⟨"TopicBroker$Connection", "begin", "()V"⟩ ∈ TB := TB_t (tq_2 (List.mem_of_getElem? (i := 196) rfl)) rfl
theorem tw_437 : Cond.code ⟨"TopicBroker$Connection", "begin", "()V"⟩ prog_2_method_2_code 1 none ∈ TB := TB_t (tq_2 (List.mem_of_getElem? (i := 197) rfl)) rfl
theorem tw_446 : Cond.classLink "TopicBroker" 84 "java/lang/IllegalArgumentException" ∈ TB := TB_t (tq_2 (List.mem_of_getElem? (i := 206) rfl)) rfl
theorem tw_461 : Cond.methodLink "TopicBroker" 91 ⟨"TopicBroker$Connection", "accept", "(I)I"⟩ ∈ TB := TB_t (tq_2 (List.mem_of_getElem? (i := 221) rfl)) rfl
theorem tw_462 : Cond.instanceMethod ⟨"TopicBroker$Connection", "accept", "(I)I"⟩ ∈ TB := TB_t (tq_2 (List.mem_of_getElem? (i := 222) rfl)) rfl
theorem tw_463 : Cond.selects "TopicBroker$Connection" ⟨"TopicBroker$Connection", "accept", "(I)I"⟩ ⟨"TopicBroker$Connection", "accept", "(I)I"⟩ ∈ TB := TB_t (tq_2 (List.mem_of_getElem? (i := 223) rfl)) rfl
theorem tw_464 : Cond.code ⟨"TopicBroker$Connection", "accept", "(I)I"⟩ prog_2_method_5_code 3 (some .int) ∈ TB := TB_t (tq_2 (List.mem_of_getElem? (i := 224) rfl)) rfl
theorem tw_469 : Cond.methodLink "TopicBroker" 95 ⟨"TopicBroker", "obey", "(LTopicBroker$Connection;)I"⟩ ∈ TB := TB_t (tq_2 (List.mem_of_getElem? (i := 229) rfl)) rfl
theorem tw_471 : Cond.instanceMethod ⟨"TopicBroker", "obey", "(LTopicBroker$Connection;)I"⟩ ∈ TB := TB_t (tq_2 (List.mem_of_getElem? (i := 231) rfl)) rfl
theorem tw_472 : Cond.code ⟨"TopicBroker", "obey", "(LTopicBroker$Connection;)I"⟩ prog_1_method_25_code 5 (some .int) ∈ TB := TB_t (tq_2 (List.mem_of_getElem? (i := 232) rfl)) rfl
theorem tw_909 : Cond.fieldLink "TopicBroker" 230 "TopicBroker$Message" "life" "J" ∈ TB := TB_t (tq_4 (List.mem_of_getElem? (i := 189) rfl)) rfl
theorem tw_1254 : Cond.methodLink "TopicBroker" 99 ⟨"TopicBroker", "enter", "(LTopicBroker$Connection;)V"⟩ ∈ TB := TB_t (tq_6 (List.mem_of_getElem? (i := 54) rfl)) rfl
theorem tw_1256 : Cond.instanceMethod ⟨"TopicBroker", "enter", "(LTopicBroker$Connection;)V"⟩ ∈ TB := TB_t (tq_6 (List.mem_of_getElem? (i := 56) rfl)) rfl
theorem tw_1257 : Cond.code ⟨"TopicBroker", "enter", "(LTopicBroker$Connection;)V"⟩ prog_1_method_33_code 6 none ∈ TB := TB_t (tq_6 (List.mem_of_getElem? (i := 57) rfl)) rfl
theorem tw_1340 : Cond.fieldLink "TopicBroker" 187 "TopicBroker$Session" "most" "I" ∈ TB := TB_t (tq_6 (List.mem_of_getElem? (i := 140) rfl)) rfl
theorem tw_1343 : Cond.fieldLink "TopicBroker" 184 "TopicBroker$Session" "keep" "I" ∈ TB := TB_t (tq_6 (List.mem_of_getElem? (i := 143) rfl)) rfl
theorem tw_1399 : Cond.methodLink "TopicBroker" 106 ⟨"TopicBroker", "refuse", "(LTopicBroker$Connection;I)V"⟩ ∈ TB := TB_t (tq_6 (List.mem_of_getElem? (i := 199) rfl)) rfl
theorem tw_1401 : Cond.instanceMethod ⟨"TopicBroker", "refuse", "(LTopicBroker$Connection;I)V"⟩ ∈ TB := TB_t (tq_6 (List.mem_of_getElem? (i := 201) rfl)) rfl
theorem tw_1402 : Cond.code ⟨"TopicBroker", "refuse", "(LTopicBroker$Connection;I)V"⟩ prog_1_method_26_code 3 none ∈ TB := TB_t (tq_6 (List.mem_of_getElem? (i := 202) rfl)) rfl
theorem tw_1403 : Cond.methodLink "TopicBroker" 110 ⟨"TopicBroker", "settle", "()V"⟩ ∈ TB := TB_t (tq_6 (List.mem_of_getElem? (i := 203) rfl)) rfl
theorem tw_1405 : Cond.instanceMethod ⟨"TopicBroker", "settle", "()V"⟩ ∈ TB := TB_t (tq_6 (List.mem_of_getElem? (i := 205) rfl)) rfl
theorem tw_1406 : Cond.code ⟨"TopicBroker", "settle", "()V"⟩ prog_1_method_53_code 4 none ∈ TB := TB_t (tq_6 (List.mem_of_getElem? (i := 206) rfl)) rfl
theorem tw_1442 : Cond.methodLink "TopicBroker" 125 ⟨"TopicBroker$Connection", "drop", "(I)V"⟩ ∈ TB := TB_t (tq_7 (List.mem_of_getElem? (i := 2) rfl)) rfl
theorem tw_1443 : Cond.instanceMethod ⟨"TopicBroker$Connection", "drop", "(I)V"⟩ ∈ TB := TB_t (tq_7 (List.mem_of_getElem? (i := 3) rfl)) rfl
theorem tw_1444 : Cond.selects "TopicBroker$Connection" ⟨"TopicBroker$Connection", "drop", "(I)V"⟩ ⟨"TopicBroker$Connection", "drop", "(I)V"⟩ ∈ TB := TB_t (tq_7 (List.mem_of_getElem? (i := 4) rfl)) rfl
theorem tw_1445 : Cond.code ⟨"TopicBroker$Connection", "drop", "(I)V"⟩ prog_2_method_8_code 2 none ∈ TB := TB_t (tq_7 (List.mem_of_getElem? (i := 5) rfl)) rfl
theorem tw_1460 : Cond.methodLink "TopicBroker" 137 ⟨"TopicBroker", "nextEvent", "()J"⟩ ∈ TB := TB_t (tq_7 (List.mem_of_getElem? (i := 20) rfl)) rfl
theorem tw_1462 : Cond.instanceMethod ⟨"TopicBroker", "nextEvent", "()J"⟩ ∈ TB := TB_t (tq_7 (List.mem_of_getElem? (i := 22) rfl)) rfl
theorem tw_1463 : Cond.code ⟨"TopicBroker", "nextEvent", "()J"⟩ prog_1_method_58_code 5 (some .long) ∈ TB := TB_t (tq_7 (List.mem_of_getElem? (i := 23) rfl)) rfl
theorem tw_1488 : Cond.methodLink "TopicBroker" 144 ⟨"TopicBroker", "tick", "()V"⟩ ∈ TB := TB_t (tq_7 (List.mem_of_getElem? (i := 48) rfl)) rfl
theorem tw_1490 : Cond.instanceMethod ⟨"TopicBroker", "tick", "()V"⟩ ∈ TB := TB_t (tq_7 (List.mem_of_getElem? (i := 50) rfl)) rfl
theorem tw_1491 : Cond.code ⟨"TopicBroker", "tick", "()V"⟩ prog_1_method_57_code 3 none ∈ TB := TB_t (tq_7 (List.mem_of_getElem? (i := 51) rfl)) rfl
theorem tw_1503 : Cond.methodLink "TopicBroker" 147 ⟨"TopicBroker", "sessionOf", "(I)LTopicBroker$Session;"⟩ ∈ TB := TB_t (tq_7 (List.mem_of_getElem? (i := 63) rfl)) rfl
theorem tw_1505 : Cond.instanceMethod ⟨"TopicBroker", "sessionOf", "(I)LTopicBroker$Session;"⟩ ∈ TB := TB_t (tq_7 (List.mem_of_getElem? (i := 65) rfl)) rfl
theorem tw_1506 : Cond.code ⟨"TopicBroker", "sessionOf", "(I)LTopicBroker$Session;"⟩ prog_1_method_21_code 2 (some (.object "TopicBroker$Session")) ∈ TB := TB_t (tq_7 (List.mem_of_getElem? (i := 66) rfl)) rfl
theorem tw_1528 : Cond.methodLink "TopicBroker" 197 ⟨"TopicBroker", "subscriptionOf", "(II)LTopicBroker$Subscription;"⟩ ∈ TB := TB_t (tq_7 (List.mem_of_getElem? (i := 88) rfl)) rfl
theorem tw_1530 : Cond.instanceMethod ⟨"TopicBroker", "subscriptionOf", "(II)LTopicBroker$Subscription;"⟩ ∈ TB := TB_t (tq_7 (List.mem_of_getElem? (i := 90) rfl)) rfl
theorem tw_1531 : Cond.code ⟨"TopicBroker", "subscriptionOf", "(II)LTopicBroker$Subscription;"⟩ prog_1_method_22_code 4 (some (.object "TopicBroker$Subscription")) ∈ TB := TB_t (tq_7 (List.mem_of_getElem? (i := 91) rfl)) rfl
theorem tw_1546 : Cond.constantLong "TopicBroker" 235 (2147483647) ∈ TB := TB_t (tq_7 (List.mem_of_getElem? (i := 106) rfl)) rfl
theorem tw_1547 : Cond.methodLink "TopicBroker" 237 ⟨"TopicBroker$Message", "left", "(I)J"⟩ ∈ TB := TB_t (tq_7 (List.mem_of_getElem? (i := 107) rfl)) rfl
theorem tw_1555 : Cond.methodLink "TopicBroker" 246 ⟨"TopicBroker", "countSent", "()I"⟩ ∈ TB := TB_t (tq_7 (List.mem_of_getElem? (i := 115) rfl)) rfl
theorem tw_1557 : Cond.instanceMethod ⟨"TopicBroker", "countSent", "()I"⟩ ∈ TB := TB_t (tq_7 (List.mem_of_getElem? (i := 117) rfl)) rfl
theorem tw_1558 : Cond.code ⟨"TopicBroker", "countSent", "()I"⟩ prog_1_method_24_code 3 (some .int) ∈ TB := TB_t (tq_7 (List.mem_of_getElem? (i := 118) rfl)) rfl
