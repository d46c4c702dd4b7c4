theorem tw_345 : Cond.classLink "TopicBrokerLaw" 13 "java/lang/IndexOutOfBoundsException" ∈ TB := TB_t (tq_2 (List.mem_of_getElem? (i := 105) rfl)) rfl
theorem tw_346 : Cond.classLink "TopicBrokerLaw" 15 "java/lang/IllegalStateException" ∈ TB := TB_t (tq_2 (List.mem_of_getElem? (i := 106) rfl)) rfl
theorem tw_347 : Cond.methodLink "TopicBrokerLaw" 7 ⟨"TopicBroker", "open", "(I)V"⟩ ∈ TB := TB_t (tq_2 (List.mem_of_getElem? (i := 107) rfl)) rfl
theorem tw_348 : Cond.instanceMethod ⟨"TopicBroker", "open", "(I)V"⟩ ∈ TB := TB_t (tq_2 (List.mem_of_getElem? (i := 108) rfl)) rfl
theorem tw_349 : Cond.selects "TopicBroker" ⟨"TopicBroker", "open", "(I)V"⟩ ⟨"TopicBroker", "open", "(I)V"⟩ ∈ TB := TB_t (tq_2 (List.mem_of_getElem? (i := 109) rfl)) rfl
theorem tw_350 : Cond.code ⟨"TopicBroker", "open", "(I)V"⟩ prog_1_method_2_code 3 none ∈ TB := TB_t (tq_2 (List.mem_of_getElem? (i := 110) rfl)) rfl
theorem tw_441 : Cond.classLink "TopicBrokerLaw" 21 "java/lang/IllegalArgumentException" ∈ TB := TB_t (tq_2 (List.mem_of_getElem? (i := 201) rfl)) rfl
theorem tw_442 : Cond.methodLink "TopicBrokerLaw" 17 ⟨"TopicBroker", "feed", "(IJJI)I"⟩ ∈ TB := TB_t (tq_2 (List.mem_of_getElem? (i := 202) rfl)) rfl
theorem tw_443 : Cond.instanceMethod ⟨"TopicBroker", "feed", "(IJJI)I"⟩ ∈ TB := TB_t (tq_2 (List.mem_of_getElem? (i := 203) rfl)) rfl
theorem tw_444 : Cond.selects "TopicBroker" ⟨"TopicBroker", "feed", "(IJJI)I"⟩ ⟨"TopicBroker", "feed", "(IJJI)I"⟩ ∈ TB := TB_t (tq_2 (List.mem_of_getElem? (i := 204) rfl)) rfl
theorem tw_445 : Cond.code ⟨"TopicBroker", "feed", "(IJJI)I"⟩ prog_1_method_3_code 13 (some .int) ∈ TB := TB_t (tq_2 (List.mem_of_getElem? (i := 205) rfl)) rfl
theorem tw_545 : Cond.arrayClass .byte ∈ TB := TB_t (tq_3 (List.mem_of_getElem? (i := 65) rfl)) rfl
theorem tw_1410 : Cond.methodLink "TopicBrokerLaw" 23 ⟨"TopicBroker", "lose", "(I)V"⟩ ∈ TB := TB_t (tq_6 (List.mem_of_getElem? (i := 210) rfl)) rfl
theorem tw_1411 : Cond.instanceMethod ⟨"TopicBroker", "lose", "(I)V"⟩ ∈ TB := TB_t (tq_6 (List.mem_of_getElem? (i := 211) rfl)) rfl
theorem tw_1412 : Cond.selects "TopicBroker" ⟨"TopicBroker", "lose", "(I)V"⟩ ⟨"TopicBroker", "lose", "(I)V"⟩ ∈ TB := TB_t (tq_6 (List.mem_of_getElem? (i := 212) rfl)) rfl
theorem tw_1413 : Cond.code ⟨"TopicBroker", "lose", "(I)V"⟩ prog_1_method_4_code 3 none ∈ TB := TB_t (tq_6 (List.mem_of_getElem? (i := 213) rfl)) rfl
theorem tw_1417 : Cond.methodLink "TopicBrokerLaw" 26 ⟨"TopicBroker", "isOpen", "(I)Z"⟩ ∈ TB := TB_t (tq_6 (List.mem_of_getElem? (i := 217) rfl)) rfl
theorem tw_1418 : Cond.instanceMethod ⟨"TopicBroker", "isOpen", "(I)Z"⟩ ∈ TB := TB_t (tq_6 (List.mem_of_getElem? (i := 218) rfl)) rfl
theorem tw_1419 : Cond.selects "TopicBroker" ⟨"TopicBroker", "isOpen", "(I)Z"⟩ ⟨"TopicBroker", "isOpen", "(I)Z"⟩ ∈ TB := TB_t (tq_6 (List.mem_of_getElem? (i := 219) rfl)) rfl
theorem tw_1420 : Cond.code ⟨"TopicBroker", "isOpen", "(I)Z"⟩ prog_1_method_5_code 2 (some .boolean) ∈ TB := TB_t (tq_6 (List.mem_of_getElem? (i := 220) rfl)) rfl
theorem tw_1424 : Cond.methodLink "TopicBrokerLaw" 30 ⟨"TopicBroker", "size", "(I)I"⟩ ∈ TB := TB_t (tq_6 (List.mem_of_getElem? (i := 224) rfl)) rfl
theorem tw_1425 : Cond.instanceMethod ⟨"TopicBroker", "size", "(I)I"⟩ ∈ TB := TB_t (tq_6 (List.mem_of_getElem? (i := 225) rfl)) rfl
theorem tw_1426 : Cond.selects "TopicBroker" ⟨"TopicBroker", "size", "(I)I"⟩ ⟨"TopicBroker", "size", "(I)I"⟩ ∈ TB := TB_t (tq_6 (List.mem_of_getElem? (i := 226) rfl)) rfl
theorem tw_1427 : Cond.code ⟨"TopicBroker", "size", "(I)I"⟩ prog_1_method_6_code 2 (some .int) ∈ TB := TB_t (tq_6 (List.mem_of_getElem? (i := 227) rfl)) rfl
theorem tw_1431 : Cond.methodLink "TopicBrokerLaw" 34 ⟨"TopicBroker", "out", "(II)I"⟩ ∈ TB := TB_t (tq_6 (List.mem_of_getElem? (i := 231) rfl)) rfl
theorem tw_1432 : Cond.instanceMethod ⟨"TopicBroker", "out", "(II)I"⟩ ∈ TB := TB_t (tq_6 (List.mem_of_getElem? (i := 232) rfl)) rfl
theorem tw_1433 : Cond.selects "TopicBroker" ⟨"TopicBroker", "out", "(II)I"⟩ ⟨"TopicBroker", "out", "(II)I"⟩ ∈ TB := TB_t (tq_6 (List.mem_of_getElem? (i := 233) rfl)) rfl
theorem tw_1434 : Cond.code ⟨"TopicBroker", "out", "(II)I"⟩ prog_1_method_7_code 4 (some .int) ∈ TB := TB_t (tq_6 (List.mem_of_getElem? (i := 234) rfl)) rfl
theorem tw_1438 : Cond.methodLink "TopicBrokerLaw" 38 ⟨"TopicBroker", "take", "(II)I"⟩ ∈ TB := TB_t (tq_6 (List.mem_of_getElem? (i := 238) rfl)) rfl
theorem tw_1439 : Cond.instanceMethod ⟨"TopicBroker", "take", "(II)I"⟩ ∈ TB := TB_t (tq_6 (List.mem_of_getElem? (i := 239) rfl)) rfl
theorem tw_1440 : Cond.selects "TopicBroker" ⟨"TopicBroker", "take", "(II)I"⟩ ⟨"TopicBroker", "take", "(II)I"⟩ ∈ TB := TB_t (tq_7 (List.mem_of_getElem? (i := 0) rfl)) rfl
theorem tw_1441 : Cond.code ⟨"TopicBroker", "take", "(II)I"⟩ prog_1_method_8_code 4 (some .int) ∈ TB := TB_t (tq_7 (List.mem_of_getElem? (i := 1) rfl)) rfl
theorem tw_1449 : Cond.methodLink "TopicBrokerLaw" 41 ⟨"TopicBroker", "pending", "(I)I"⟩ ∈ TB := TB_t (tq_7 (List.mem_of_getElem? (i := 9) rfl)) rfl
theorem tw_1450 : Cond.instanceMethod ⟨"TopicBroker", "pending", "(I)I"⟩ ∈ TB := TB_t (tq_7 (List.mem_of_getElem? (i := 10) rfl)) rfl
theorem tw_1451 : Cond.selects "TopicBroker" ⟨"TopicBroker", "pending", "(I)I"⟩ ⟨"TopicBroker", "pending", "(I)I"⟩ ∈ TB := TB_t (tq_7 (List.mem_of_getElem? (i := 11) rfl)) rfl
theorem tw_1452 : Cond.code ⟨"TopicBroker", "pending", "(I)I"⟩ prog_1_method_9_code 2 (some .int) ∈ TB := TB_t (tq_7 (List.mem_of_getElem? (i := 12) rfl)) rfl
theorem tw_1456 : Cond.methodLink "TopicBrokerLaw" 44 ⟨"TopicBroker", "pass", "(I)I"⟩ ∈ TB := TB_t (tq_7 (List.mem_of_getElem? (i := 16) rfl)) rfl
theorem tw_1457 : Cond.instanceMethod ⟨"TopicBroker", "pass", "(I)I"⟩ ∈ TB := TB_t (tq_7 (List.mem_of_getElem? (i := 17) rfl)) rfl
theorem tw_1458 : Cond.selects "TopicBroker" ⟨"TopicBroker", "pass", "(I)I"⟩ ⟨"TopicBroker", "pass", "(I)I"⟩ ∈ TB := TB_t (tq_7 (List.mem_of_getElem? (i := 18) rfl)) rfl
theorem tw_1459 : Cond.code ⟨"TopicBroker", "pass", "(I)I"⟩ prog_1_method_10_code 4 (some .int) ∈ TB := TB_t (tq_7 (List.mem_of_getElem? (i := 19) rfl)) rfl
theorem tw_1499 : Cond.methodLink "TopicBrokerLaw" 47 ⟨"TopicBroker", "session", "(II)I"⟩ ∈ TB := TB_t (tq_7 (List.mem_of_getElem? (i := 59) rfl)) rfl
theorem tw_1500 : Cond.instanceMethod ⟨"TopicBroker", "session", "(II)I"⟩ ∈ TB := TB_t (tq_7 (List.mem_of_getElem? (i := 60) rfl)) rfl
theorem tw_1501 : Cond.selects "TopicBroker" ⟨"TopicBroker", "session", "(II)I"⟩ ⟨"TopicBroker", "session", "(II)I"⟩ ∈ TB := TB_t (tq_7 (List.mem_of_getElem? (i := 61) rfl)) rfl
theorem tw_1502 : Cond.code ⟨"TopicBroker", "session", "(II)I"⟩ prog_1_method_12_code 4 (some .int) ∈ TB := TB_t (tq_7 (List.mem_of_getElem? (i := 62) rfl)) rfl
theorem tw_1510 : Cond.methodLink "TopicBrokerLaw" 50 ⟨"TopicBroker", "expiry", "(I)J"⟩ ∈ TB := TB_t (tq_7 (List.mem_of_getElem? (i := 70) rfl)) rfl
theorem tw_1511 : Cond.instanceMethod ⟨"TopicBroker", "expiry", "(I)J"⟩ ∈ TB := TB_t (tq_7 (List.mem_of_getElem? (i := 71) rfl)) rfl
theorem tw_1512 : Cond.selects "TopicBroker" ⟨"TopicBroker", "expiry", "(I)J"⟩ ⟨"TopicBroker", "expiry", "(I)J"⟩ ∈ TB := TB_t (tq_7 (List.mem_of_getElem? (i := 72) rfl)) rfl
theorem tw_1513 : Cond.code ⟨"TopicBroker", "expiry", "(I)J"⟩ prog_1_method_13_code 2 (some .long) ∈ TB := TB_t (tq_7 (List.mem_of_getElem? (i := 73) rfl)) rfl
theorem tw_1517 : Cond.methodLink "TopicBrokerLaw" 54 ⟨"TopicBroker", "id", "(II)I"⟩ ∈ TB := TB_t (tq_7 (List.mem_of_getElem? (i := 77) rfl)) rfl
theorem tw_1518 : Cond.instanceMethod ⟨"TopicBroker", "id", "(II)I"⟩ ∈ TB := TB_t (tq_7 (List.mem_of_getElem? (i := 78) rfl)) rfl
theorem tw_1519 : Cond.selects "TopicBroker" ⟨"TopicBroker", "id", "(II)I"⟩ ⟨"TopicBroker", "id", "(II)I"⟩ ∈ TB := TB_t (tq_7 (List.mem_of_getElem? (i := 79) rfl)) rfl
theorem tw_1520 : Cond.code ⟨"TopicBroker", "id", "(II)I"⟩ prog_1_method_14_code 3 (some .int) ∈ TB := TB_t (tq_7 (List.mem_of_getElem? (i := 80) rfl)) rfl
theorem tw_1524 : Cond.methodLink "TopicBrokerLaw" 57 ⟨"TopicBroker", "subscription", "(III)I"⟩ ∈ TB := TB_t (tq_7 (List.mem_of_getElem? (i := 84) rfl)) rfl
theorem tw_1525 : Cond.instanceMethod ⟨"TopicBroker", "subscription", "(III)I"⟩ ∈ TB := TB_t (tq_7 (List.mem_of_getElem? (i := 85) rfl)) rfl
theorem tw_1526 : Cond.selects "TopicBroker" ⟨"TopicBroker", "subscription", "(III)I"⟩ ⟨"TopicBroker", "subscription", "(III)I"⟩ ∈ TB := TB_t (tq_7 (List.mem_of_getElem? (i := 86) rfl)) rfl
theorem tw_1527 : Cond.code ⟨"TopicBroker", "subscription", "(III)I"⟩ prog_1_method_15_code 5 (some .int) ∈ TB := TB_t (tq_7 (List.mem_of_getElem? (i := 87) rfl)) rfl
theorem tw_1535 : Cond.methodLink "TopicBrokerLaw" 61 ⟨"TopicBroker", "filter", "(III)I"⟩ ∈ TB := TB_t (tq_7 (List.mem_of_getElem? (i := 95) rfl)) rfl
theorem tw_1536 : Cond.instanceMethod ⟨"TopicBroker", "filter", "(III)I"⟩ ∈ TB := TB_t (tq_7 (List.mem_of_getElem? (i := 96) rfl)) rfl
theorem tw_1537 : Cond.selects "TopicBroker" ⟨"TopicBroker", "filter", "(III)I"⟩ ⟨"TopicBroker", "filter", "(III)I"⟩ ∈ TB := TB_t (tq_7 (List.mem_of_getElem? (i := 97) rfl)) rfl
theorem tw_1538 : Cond.code ⟨"TopicBroker", "filter", "(III)I"⟩ prog_1_method_16_code 4 (some .int) ∈ TB := TB_t (tq_7 (List.mem_of_getElem? (i := 98) rfl)) rfl
theorem tw_1542 : Cond.methodLink "TopicBrokerLaw" 64 ⟨"TopicBroker", "retained", "(II)I"⟩ ∈ TB := TB_t (tq_7 (List.mem_of_getElem? (i := 102) rfl)) rfl
theorem tw_1543 : Cond.instanceMethod ⟨"TopicBroker", "retained", "(II)I"⟩ ∈ TB := TB_t (tq_7 (List.mem_of_getElem? (i := 103) rfl)) rfl
theorem tw_1544 : Cond.selects "TopicBroker" ⟨"TopicBroker", "retained", "(II)I"⟩ ⟨"TopicBroker", "retained", "(II)I"⟩ ∈ TB := TB_t (tq_7 (List.mem_of_getElem? (i := 104) rfl)) rfl
theorem tw_1545 : Cond.code ⟨"TopicBroker", "retained", "(II)I"⟩ prog_1_method_17_code 4 (some .int) ∈ TB := TB_t (tq_7 (List.mem_of_getElem? (i := 105) rfl)) rfl
theorem tw_1551 : Cond.methodLink "TopicBrokerLaw" 67 ⟨"TopicBroker", "told", "(I)I"⟩ ∈ TB := TB_t (tq_7 (List.mem_of_getElem? (i := 111) rfl)) rfl
theorem tw_1552 : Cond.instanceMethod ⟨"TopicBroker", "told", "(I)I"⟩ ∈ TB := TB_t (tq_7 (List.mem_of_getElem? (i := 112) rfl)) rfl
theorem tw_1553 : Cond.selects "TopicBroker" ⟨"TopicBroker", "told", "(I)I"⟩ ⟨"TopicBroker", "told", "(I)I"⟩ ∈ TB := TB_t (tq_7 (List.mem_of_getElem? (i := 113) rfl)) rfl
theorem tw_1554 : Cond.code ⟨"TopicBroker", "told", "(I)I"⟩ prog_1_method_19_code 2 (some .int) ∈ TB := TB_t (tq_7 (List.mem_of_getElem? (i := 114) rfl)) rfl
theorem tw_1568 : Cond.methodLink "TopicBrokerModel" 7 ⟨"java/lang/Object", "<init>", "()V"⟩ ∈ TB := TB_t (tq_7 (List.mem_of_getElem? (i := 128) rfl)) rfl
theorem tw_1569 : Cond.constant "TopicBrokerModel" 149 (307200) ∈ TB := TB_t (tq_7 (List.mem_of_getElem? (i := 129) rfl)) rfl
theorem tw_1868 : Cond.arrayClass .boolean ∈ TB := TB_t (tq_8 (List.mem_of_getElem? (i := 188) rfl)) rfl
