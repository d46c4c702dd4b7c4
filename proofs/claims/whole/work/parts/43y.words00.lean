theorem tw_0 : Cond.initialized "TopicBrokerLaw" ∈ TB := TB_t (tq_1 (List.mem_of_getElem? (i := 0) rfl)) rfl
theorem tw_326 : Cond.methodLink "TopicBrokerLaw" 113 ⟨"TopicBroker", "isSession", "(I)Z"⟩ ∈ TB := TB_t (tq_2 (List.mem_of_getElem? (i := 86) rfl)) rfl
theorem tw_327 : Cond.instanceMethod ⟨"TopicBroker", "isSession", "(I)Z"⟩ ∈ TB := TB_t (tq_2 (List.mem_of_getElem? (i := 87) rfl)) rfl
theorem tw_328 : Cond.selects "TopicBroker" ⟨"TopicBroker", "isSession", "(I)Z"⟩ ⟨"TopicBroker", "isSession", "(I)Z"⟩ ∈ TB := TB_t (tq_2 (List.mem_of_getElem? (i := 88) rfl)) rfl
theorem tw_329 : Cond.code ⟨"TopicBroker", "isSession", "(I)Z"⟩ prog_1_method_11_code 2 (some .boolean) ∈ TB := TB_t (tq_2 (List.mem_of_getElem? (i := 89) rfl)) rfl
theorem tw_330 : Cond.methodLink "TopicBrokerLaw" 136 ⟨"TopicBroker", "kept", "(IZI)I"⟩ ∈ TB := TB_t (tq_2 (List.mem_of_getElem? (i := 90) rfl)) rfl
theorem tw_331 : Cond.instanceMethod ⟨"TopicBroker", "kept", "(IZI)I"⟩ ∈ TB := TB_t (tq_2 (List.mem_of_getElem? (i := 91) rfl)) rfl
theorem tw_332 : Cond.selects "TopicBroker" ⟨"TopicBroker", "kept", "(IZI)I"⟩ ⟨"TopicBroker", "kept", "(IZI)I"⟩ ∈ TB := TB_t (tq_2 (List.mem_of_getElem? (i := 92) rfl)) rfl
theorem tw_333 : Cond.code ⟨"TopicBroker", "kept", "(IZI)I"⟩ prog_1_method_18_code 5 (some .int) ∈ TB := TB_t (tq_2 (List.mem_of_getElem? (i := 93) rfl)) rfl
theorem tw_342 : Cond.methodLink "TopicBrokerLaw" 74 ⟨"TopicBrokerLaw", "open", "(LTopicBroker;I)I"⟩ ∈ TB := TB_t (tq_2 (List.mem_of_getElem? (i := 102) rfl)) rfl
theorem tw_343 : Cond.static ⟨"TopicBrokerLaw", "open", "(LTopicBroker;I)I"⟩ ∈ TB := TB_t (tq_2 (List.mem_of_getElem? (i := 103) rfl)) rfl
theorem tw_344 : Cond.codeWith ⟨"TopicBrokerLaw", "open", "(LTopicBroker;I)I"⟩ method_3_code 3 (some .int) [(0, 5, 8, 13), (0, 5, 11, 15)] ∈ TB := TB_t (tq_2 (List.mem_of_getElem? (i := 104) rfl)) rfl
theorem tw_345 : Cond.classLink "TopicBrokerLaw" 13 "java/lang/IndexOutOfBoundsException" ∈ TB := TB_t (tq_2 (List.mem_of_getElem? (i := 105) rfl)) rfl
theorem tw_346 : Cond.classLink "TopicBrokerLaw" 15 "java/lang/IllegalStateException" ∈ TB := TB_t (tq_2 (List.mem_of_getElem? (i := 106) rfl)) rfl
theorem tw_347 : Cond.methodLink "TopicBrokerLaw" 7 ⟨"TopicBroker", "open", "(I)V"⟩ ∈ TB := TB_t (tq_2 (List.mem_of_getElem? (i := 107) rfl)) rfl
theorem tw_348 : Cond.instanceMethod ⟨"TopicBroker", "open", "(I)V"⟩ ∈ TB := TB_t (tq_2 (List.mem_of_getElem? (i := 108) rfl)) rfl
theorem tw_349 : Cond.selects "TopicBroker" ⟨"TopicBroker", "open", "(I)V"⟩ ⟨"TopicBroker", "open", "(I)V"⟩ ∈ TB := TB_t (tq_2 (List.mem_of_getElem? (i := 109) rfl)) rfl
theorem tw_350 : Cond.code ⟨"TopicBroker", "open", "(I)V"⟩ prog_1_method_2_code 3 none ∈ TB := TB_t (tq_2 (List.mem_of_getElem? (i := 110) rfl)) rfl
theorem tw_438 : Cond.methodLink "TopicBrokerLaw" 86 ⟨"TopicBrokerLaw", "feed", "(LTopicBroker;IJJI[J)I"⟩ ∈ TB := TB_t (tq_2 (List.mem_of_getElem? (i := 198) rfl)) rfl
theorem tw_439 : Cond.static ⟨"TopicBrokerLaw", "feed", "(LTopicBroker;IJJI[J)I"⟩ ∈ TB := TB_t (tq_2 (List.mem_of_getElem? (i := 199) rfl)) rfl
theorem tw_440 : Cond.codeWith ⟨"TopicBrokerLaw", "feed", "(LTopicBroker;IJJI[J)I"⟩ method_4_code 9 (some .int) [(0, 15, 18, 13), (0, 15, 22, 21), (0, 15, 26, 15)] ∈ TB := TB_t (tq_2 (List.mem_of_getElem? (i := 200) rfl)) rfl
theorem tw_441 : Cond.classLink "TopicBrokerLaw" 21 "java/lang/IllegalArgumentException" ∈ TB := TB_t (tq_2 (List.mem_of_getElem? (i := 201) rfl)) rfl
theorem tw_442 : Cond.methodLink "TopicBrokerLaw" 17 ⟨"TopicBroker", "feed", "(IJJI)I"⟩ ∈ TB := TB_t (tq_2 (List.mem_of_getElem? (i := 202) rfl)) rfl
theorem tw_443 : Cond.instanceMethod ⟨"TopicBroker", "feed", "(IJJI)I"⟩ ∈ TB := TB_t (tq_2 (List.mem_of_getElem? (i := 203) rfl)) rfl
theorem tw_444 : Cond.selects "TopicBroker" ⟨"TopicBroker", "feed", "(IJJI)I"⟩ ⟨"TopicBroker", "feed", "(IJJI)I"⟩ ∈ TB := TB_t (tq_2 (List.mem_of_getElem? (i := 204) rfl)) rfl
theorem tw_445 : Cond.code ⟨"TopicBroker", "feed", "(IJJI)I"⟩ prog_1_method_3_code 13 (some .int) ∈ TB := TB_t (tq_2 (List.mem_of_getElem? (i := 205) rfl)) rfl
theorem tw_545 : Cond.arrayClass .byte ∈ TB := TB_t (tq_3 (List.mem_of_getElem? (i := 65) rfl)) rfl
theorem tw_1407 : Cond.methodLink "TopicBrokerLaw" 90 ⟨"TopicBrokerLaw", "lose", "(LTopicBroker;I)I"⟩ ∈ TB := TB_t (tq_6 (List.mem_of_getElem? (i := 207) rfl)) rfl
theorem tw_1408 : Cond.static ⟨"TopicBrokerLaw", "lose", "(LTopicBroker;I)I"⟩ ∈ TB := TB_t (tq_6 (List.mem_of_getElem? (i := 208) rfl)) rfl
theorem tw_1409 : Cond.codeWith ⟨"TopicBrokerLaw", "lose", "(LTopicBroker;I)I"⟩ method_5_code 3 (some .int) [(0, 5, 8, 13), (0, 5, 11, 15)] ∈ TB := TB_t (tq_6 (List.mem_of_getElem? (i := 209) rfl)) rfl
theorem tw_1410 : Cond.methodLink "TopicBrokerLaw" 23 ⟨"TopicBroker", "lose", "(I)V"⟩ ∈ TB := TB_t (tq_6 (List.mem_of_getElem? (i := 210) rfl)) rfl
theorem tw_1411 : Cond.instanceMethod ⟨"TopicBroker", "lose", "(I)V"⟩ ∈ TB := TB_t (tq_6 (List.mem_of_getElem? (i := 211) rfl)) rfl
theorem tw_1412 : Cond.selects "TopicBroker" ⟨"TopicBroker", "lose", "(I)V"⟩ ⟨"TopicBroker", "lose", "(I)V"⟩ ∈ TB := TB_t (tq_6 (List.mem_of_getElem? (i := 212) rfl)) rfl
theorem tw_1413 : Cond.code ⟨"TopicBroker", "lose", "(I)V"⟩ prog_1_method_4_code 3 none ∈ TB := TB_t (tq_6 (List.mem_of_getElem? (i := 213) rfl)) rfl
theorem tw_1414 : Cond.methodLink "TopicBrokerLaw" 93 ⟨"TopicBrokerLaw", "isOpen", "(LTopicBroker;I[J)I"⟩ ∈ TB := TB_t (tq_6 (List.mem_of_getElem? (i := 214) rfl)) rfl
theorem tw_1415 : Cond.static ⟨"TopicBrokerLaw", "isOpen", "(LTopicBroker;I[J)I"⟩ ∈ TB := TB_t (tq_6 (List.mem_of_getElem? (i := 215) rfl)) rfl
theorem tw_1416 : Cond.codeWith ⟨"TopicBrokerLaw", "isOpen", "(LTopicBroker;I[J)I"⟩ method_6_code 4 (some .int) [(0, 16, 19, 13)] ∈ TB := TB_t (tq_6 (List.mem_of_getElem? (i := 216) rfl)) rfl
theorem tw_1417 : Cond.methodLink "TopicBrokerLaw" 26 ⟨"TopicBroker", "isOpen", "(I)Z"⟩ ∈ TB := TB_t (tq_6 (List.mem_of_getElem? (i := 217) rfl)) rfl
theorem tw_1418 : Cond.instanceMethod ⟨"TopicBroker", "isOpen", "(I)Z"⟩ ∈ TB := TB_t (tq_6 (List.mem_of_getElem? (i := 218) rfl)) rfl
theorem tw_1419 : Cond.selects "TopicBroker" ⟨"TopicBroker", "isOpen", "(I)Z"⟩ ⟨"TopicBroker", "isOpen", "(I)Z"⟩ ∈ TB := TB_t (tq_6 (List.mem_of_getElem? (i := 219) rfl)) rfl
theorem tw_1420 : Cond.code ⟨"TopicBroker", "isOpen", "(I)Z"⟩ prog_1_method_5_code 2 (some .boolean) ∈ TB := TB_t (tq_6 (List.mem_of_getElem? (i := 220) rfl)) rfl
theorem tw_1421 : Cond.methodLink "TopicBrokerLaw" 97 ⟨"TopicBrokerLaw", "size", "(LTopicBroker;I[J)I"⟩ ∈ TB := TB_t (tq_6 (List.mem_of_getElem? (i := 221) rfl)) rfl
theorem tw_1422 : Cond.static ⟨"TopicBrokerLaw", "size", "(LTopicBroker;I[J)I"⟩ ∈ TB := TB_t (tq_6 (List.mem_of_getElem? (i := 222) rfl)) rfl
theorem tw_1423 : Cond.codeWith ⟨"TopicBrokerLaw", "size", "(LTopicBroker;I[J)I"⟩ method_7_code 4 (some .int) [(0, 9, 12, 13)] ∈ TB := TB_t (tq_6 (List.mem_of_getElem? (i := 223) rfl)) rfl
theorem tw_1424 : Cond.methodLink "TopicBrokerLaw" 30 ⟨"TopicBroker", "size", "(I)I"⟩ ∈ TB := TB_t (tq_6 (List.mem_of_getElem? (i := 224) rfl)) rfl
theorem tw_1425 : Cond.instanceMethod ⟨"TopicBroker", "size", "(I)I"⟩ ∈ TB := TB_t (tq_6 (List.mem_of_getElem? (i := 225) rfl)) rfl
theorem tw_1426 : Cond.selects "TopicBroker" ⟨"TopicBroker", "size", "(I)I"⟩ ⟨"TopicBroker", "size", "(I)I"⟩ ∈ TB := TB_t (tq_6 (List.mem_of_getElem? (i := 226) rfl)) rfl
theorem tw_1427 : Cond.code ⟨"TopicBroker", "size", "(I)I"⟩ prog_1_method_6_code 2 (some .int) ∈ TB := TB_t (tq_6 (List.mem_of_getElem? (i := 227) rfl)) rfl
theorem tw_1428 : Cond.methodLink "TopicBrokerLaw" 100 ⟨"TopicBrokerLaw", "out", "(LTopicBroker;II[J)I"⟩ ∈ TB := TB_t (tq_6 (List.mem_of_getElem? (i := 228) rfl)) rfl
theorem tw_1429 : Cond.static ⟨"TopicBrokerLaw", "out", "(LTopicBroker;II[J)I"⟩ ∈ TB := TB_t (tq_6 (List.mem_of_getElem? (i := 229) rfl)) rfl
theorem tw_1430 : Cond.codeWith ⟨"TopicBrokerLaw", "out", "(LTopicBroker;II[J)I"⟩ method_8_code 5 (some .int) [(0, 10, 13, 13)] ∈ TB := TB_t (tq_6 (List.mem_of_getElem? (i := 230) rfl)) rfl
theorem tw_1431 : Cond.methodLink "TopicBrokerLaw" 34 ⟨"TopicBroker", "out", "(II)I"⟩ ∈ TB := TB_t (tq_6 (List.mem_of_getElem? (i := 231) rfl)) rfl
theorem tw_1432 : Cond.instanceMethod ⟨"TopicBroker", "out", "(II)I"⟩ ∈ TB := TB_t (tq_6 (List.mem_of_getElem? (i := 232) rfl)) rfl
theorem tw_1433 : Cond.selects "TopicBroker" ⟨"TopicBroker", "out", "(II)I"⟩ ⟨"TopicBroker", "out", "(II)I"⟩ ∈ TB := TB_t (tq_6 (List.mem_of_getElem? (i := 233) rfl)) rfl
theorem tw_1434 : Cond.code ⟨"TopicBroker", "out", "(II)I"⟩ prog_1_method_7_code 4 (some .int) ∈ TB := TB_t (tq_6 (List.mem_of_getElem? (i := 234) rfl)) rfl
theorem tw_1435 : Cond.methodLink "TopicBrokerLaw" 104 ⟨"TopicBrokerLaw", "take", "(LTopicBroker;II[J)I"⟩ ∈ TB := TB_t (tq_6 (List.mem_of_getElem? (i := 235) rfl)) rfl
theorem tw_1436 : Cond.static ⟨"TopicBrokerLaw", "take", "(LTopicBroker;II[J)I"⟩ ∈ TB := TB_t (tq_6 (List.mem_of_getElem? (i := 236) rfl)) rfl
theorem tw_1437 : Cond.codeWith ⟨"TopicBrokerLaw", "take", "(LTopicBroker;II[J)I"⟩ method_9_code 5 (some .int) [(0, 10, 13, 13), (0, 10, 17, 21)] ∈ TB := TB_t (tq_6 (List.mem_of_getElem? (i := 237) rfl)) rfl
theorem tw_1438 : Cond.methodLink "TopicBrokerLaw" 38 ⟨"TopicBroker", "take", "(II)I"⟩ ∈ TB := TB_t (tq_6 (List.mem_of_getElem? (i := 238) rfl)) rfl
theorem tw_1439 : Cond.instanceMethod ⟨"TopicBroker", "take", "(II)I"⟩ ∈ TB := TB_t (tq_6 (List.mem_of_getElem? (i := 239) rfl)) rfl
theorem tw_1440 : Cond.selects "TopicBroker" ⟨"TopicBroker", "take", "(II)I"⟩ ⟨"TopicBroker", "take", "(II)I"⟩ ∈ TB := TB_t (tq_7 (List.mem_of_getElem? (i := 0) rfl)) rfl
theorem tw_1441 : Cond.code ⟨"TopicBroker", "take", "(II)I"⟩ prog_1_method_8_code 4 (some .int) ∈ TB := TB_t (tq_7 (List.mem_of_getElem? (i := 1) rfl)) rfl
theorem tw_1446 : Cond.methodLink "TopicBrokerLaw" 107 ⟨"TopicBrokerLaw", "pending", "(LTopicBroker;I[J)I"⟩ ∈ TB := TB_t (tq_7 (List.mem_of_getElem? (i := 6) rfl)) rfl
theorem tw_1447 : Cond.static ⟨"TopicBrokerLaw", "pending", "(LTopicBroker;I[J)I"⟩ ∈ TB := TB_t (tq_7 (List.mem_of_getElem? (i := 7) rfl)) rfl
theorem tw_1448 : Cond.codeWith ⟨"TopicBrokerLaw", "pending", "(LTopicBroker;I[J)I"⟩ method_10_code 4 (some .int) [(0, 9, 12, 13)] ∈ TB := TB_t (tq_7 (List.mem_of_getElem? (i := 8) rfl)) rfl
theorem tw_1449 : Cond.methodLink "TopicBrokerLaw" 41 ⟨"TopicBroker", "pending", "(I)I"⟩ ∈ TB := TB_t (tq_7 (List.mem_of_getElem? (i := 9) rfl)) rfl
theorem tw_1450 : Cond.instanceMethod ⟨"TopicBroker", "pending", "(I)I"⟩ ∈ TB := TB_t (tq_7 (List.mem_of_getElem? (i := 10) rfl)) rfl
theorem tw_1451 : Cond.selects "TopicBroker" ⟨"TopicBroker", "pending", "(I)I"⟩ ⟨"TopicBroker", "pending", "(I)I"⟩ ∈ TB := TB_t (tq_7 (List.mem_of_getElem? (i := 11) rfl)) rfl
theorem tw_1452 : Cond.code ⟨"TopicBroker", "pending", "(I)I"⟩ prog_1_method_9_code 2 (some .int) ∈ TB := TB_t (tq_7 (List.mem_of_getElem? (i := 12) rfl)) rfl
theorem tw_1453 : Cond.methodLink "TopicBrokerLaw" 110 ⟨"TopicBrokerLaw", "pass", "(LTopicBroker;I[J)I"⟩ ∈ TB := TB_t (tq_7 (List.mem_of_getElem? (i := 13) rfl)) rfl
theorem tw_1454 : Cond.static ⟨"TopicBrokerLaw", "pass", "(LTopicBroker;I[J)I"⟩ ∈ TB := TB_t (tq_7 (List.mem_of_getElem? (i := 14) rfl)) rfl
theorem tw_1455 : Cond.codeWith ⟨"TopicBrokerLaw", "pass", "(LTopicBroker;I[J)I"⟩ method_11_code 4 (some .int) [(0, 9, 12, 21)] ∈ TB := TB_t (tq_7 (List.mem_of_getElem? (i := 15) rfl)) rfl
theorem tw_1456 : Cond.methodLink "TopicBrokerLaw" 44 ⟨"TopicBroker", "pass", "(I)I"⟩ ∈ TB := TB_t (tq_7 (List.mem_of_getElem? (i := 16) rfl)) rfl
theorem tw_1457 : Cond.instanceMethod ⟨"TopicBroker", "pass", "(I)I"⟩ ∈ TB := TB_t (tq_7 (List.mem_of_getElem? (i := 17) rfl)) rfl
theorem tw_1458 : Cond.selects "TopicBroker" ⟨"TopicBroker", "pass", "(I)I"⟩ ⟨"TopicBroker", "pass", "(I)I"⟩ ∈ TB := TB_t (tq_7 (List.mem_of_getElem? (i := 18) rfl)) rfl
theorem tw_1459 : Cond.code ⟨"TopicBroker", "pass", "(I)I"⟩ prog_1_method_10_code 4 (some .int) ∈ TB := TB_t (tq_7 (List.mem_of_getElem? (i := 19) rfl)) rfl
theorem tw_1496 : Cond.methodLink "TopicBrokerLaw" 117 ⟨"TopicBrokerLaw", "session", "(LTopicBroker;II[J)I"⟩ ∈ TB := TB_t (tq_7 (List.mem_of_getElem? (i := 56) rfl)) rfl
theorem tw_1497 : Cond.static ⟨"TopicBrokerLaw", "session", "(LTopicBroker;II[J)I"⟩ ∈ TB := TB_t (tq_7 (List.mem_of_getElem? (i := 57) rfl)) rfl
theorem tw_1498 : Cond.codeWith ⟨"TopicBrokerLaw", "session", "(LTopicBroker;II[J)I"⟩ method_12_code 5 (some .int) [(0, 10, 13, 13), (0, 10, 17, 21)] ∈ TB := TB_t (tq_7 (List.mem_of_getElem? (i := 58) rfl)) rfl
theorem tw_1499 : Cond.methodLink "TopicBrokerLaw" 47 ⟨"TopicBroker", "session", "(II)I"⟩ ∈ TB := TB_t (tq_7 (List.mem_of_getElem? (i := 59) rfl)) rfl
theorem tw_1500 : Cond.instanceMethod ⟨"TopicBroker", "session", "(II)I"⟩ ∈ TB := TB_t (tq_7 (List.mem_of_getElem? (i := 60) rfl)) rfl
theorem tw_1501 : Cond.selects "TopicBroker" ⟨"TopicBroker", "session", "(II)I"⟩ ⟨"TopicBroker", "session", "(II)I"⟩ ∈ TB := TB_t (tq_7 (List.mem_of_getElem? (i := 61) rfl)) rfl
theorem tw_1502 : Cond.code ⟨"TopicBroker", "session", "(II)I"⟩ prog_1_method_12_code 4 (some .int) ∈ TB := TB_t (tq_7 (List.mem_of_getElem? (i := 62) rfl)) rfl
theorem tw_1507 : Cond.methodLink "TopicBrokerLaw" 120 ⟨"TopicBrokerLaw", "expiry", "(LTopicBroker;I[J)I"⟩ ∈ TB := TB_t (tq_7 (List.mem_of_getElem? (i := 67) rfl)) rfl
theorem tw_1508 : Cond.static ⟨"TopicBrokerLaw", "expiry", "(LTopicBroker;I[J)I"⟩ ∈ TB := TB_t (tq_7 (List.mem_of_getElem? (i := 68) rfl)) rfl
theorem tw_1509 : Cond.codeWith ⟨"TopicBrokerLaw", "expiry", "(LTopicBroker;I[J)I"⟩ method_13_code 4 (some .int) [(0, 8, 11, 13)] ∈ TB := TB_t (tq_7 (List.mem_of_getElem? (i := 69) rfl)) rfl
theorem tw_1510 : Cond.methodLink "TopicBrokerLaw" 50 ⟨"TopicBroker", "expiry", "(I)J"⟩ ∈ TB := TB_t (tq_7 (List.mem_of_getElem? (i := 70) rfl)) rfl
theorem tw_1511 : Cond.instanceMethod ⟨"TopicBroker", "expiry", "(I)J"⟩ ∈ TB := TB_t (tq_7 (List.mem_of_getElem? (i := 71) rfl)) rfl
theorem tw_1512 : Cond.selects "TopicBroker" ⟨"TopicBroker", "expiry", "(I)J"⟩ ⟨"TopicBroker", "expiry", "(I)J"⟩ ∈ TB := TB_t (tq_7 (List.mem_of_getElem? (i := 72) rfl)) rfl
theorem tw_1513 : Cond.code ⟨"TopicBroker", "expiry", "(I)J"⟩ prog_1_method_13_code 2 (some .long) ∈ TB := TB_t (tq_7 (List.mem_of_getElem? (i := 73) rfl)) rfl
theorem tw_1514 : Cond.methodLink "TopicBrokerLaw" 123 ⟨"TopicBrokerLaw", "id", "(LTopicBroker;II[J)I"⟩ ∈ TB := TB_t (tq_7 (List.mem_of_getElem? (i := 74) rfl)) rfl
theorem tw_1515 : Cond.static ⟨"TopicBrokerLaw", "id", "(LTopicBroker;II[J)I"⟩ ∈ TB := TB_t (tq_7 (List.mem_of_getElem? (i := 75) rfl)) rfl
theorem tw_1516 : Cond.codeWith ⟨"TopicBrokerLaw", "id", "(LTopicBroker;II[J)I"⟩ method_14_code 5 (some .int) [(0, 10, 13, 13)] ∈ TB := TB_t (tq_7 (List.mem_of_getElem? (i := 76) rfl)) rfl
theorem tw_1517 : Cond.methodLink "TopicBrokerLaw" 54 ⟨"TopicBroker", "id", "(II)I"⟩ ∈ TB := TB_t (tq_7 (List.mem_of_getElem? (i := 77) rfl)) rfl
theorem tw_1518 : Cond.instanceMethod ⟨"TopicBroker", "id", "(II)I"⟩ ∈ TB := TB_t (tq_7 (List.mem_of_getElem? (i := 78) rfl)) rfl
theorem tw_1519 : Cond.selects "TopicBroker" ⟨"TopicBroker", "id", "(II)I"⟩ ⟨"TopicBroker", "id", "(II)I"⟩ ∈ TB := TB_t (tq_7 (List.mem_of_getElem? (i := 79) rfl)) rfl
theorem tw_1520 : Cond.code ⟨"TopicBroker", "id", "(II)I"⟩ prog_1_method_14_code 3 (some .int) ∈ TB := TB_t (tq_7 (List.mem_of_getElem? (i := 80) rfl)) rfl
theorem tw_1521 : Cond.methodLink "TopicBrokerLaw" 126 ⟨"TopicBrokerLaw", "subscription", "(LTopicBroker;III[J)I"⟩ ∈ TB := TB_t (tq_7 (List.mem_of_getElem? (i := 81) rfl)) rfl
theorem tw_1522 : Cond.static ⟨"TopicBrokerLaw", "subscription", "(LTopicBroker;III[J)I"⟩ ∈ TB := TB_t (tq_7 (List.mem_of_getElem? (i := 82) rfl)) rfl
theorem tw_1523 : Cond.codeWith ⟨"TopicBrokerLaw", "subscription", "(LTopicBroker;III[J)I"⟩ method_15_code 6 (some .int) [(0, 12, 15, 13), (0, 12, 19, 21)] ∈ TB := TB_t (tq_7 (List.mem_of_getElem? (i := 83) rfl)) rfl
theorem tw_1524 : Cond.methodLink "TopicBrokerLaw" 57 ⟨"TopicBroker", "subscription", "(III)I"⟩ ∈ TB := TB_t (tq_7 (List.mem_of_getElem? (i := 84) rfl)) rfl
theorem tw_1525 : Cond.instanceMethod ⟨"TopicBroker", "subscription", "(III)I"⟩ ∈ TB := TB_t (tq_7 (List.mem_of_getElem? (i := 85) rfl)) rfl
theorem tw_1526 : Cond.selects "TopicBroker" ⟨"TopicBroker", "subscription", "(III)I"⟩ ⟨"TopicBroker", "subscription", "(III)I"⟩ ∈ TB := TB_t (tq_7 (List.mem_of_getElem? (i := 86) rfl)) rfl
theorem tw_1527 : Cond.code ⟨"TopicBroker", "subscription", "(III)I"⟩ prog_1_method_15_code 5 (some .int) ∈ TB := TB_t (tq_7 (List.mem_of_getElem? (i := 87) rfl)) rfl
theorem tw_1532 : Cond.methodLink "TopicBrokerLaw" 130 ⟨"TopicBrokerLaw", "filter", "(LTopicBroker;III[J)I"⟩ ∈ TB := TB_t (tq_7 (List.mem_of_getElem? (i := 92) rfl)) rfl
theorem tw_1533 : Cond.static ⟨"TopicBrokerLaw", "filter", "(LTopicBroker;III[J)I"⟩ ∈ TB := TB_t (tq_7 (List.mem_of_getElem? (i := 93) rfl)) rfl
theorem tw_1534 : Cond.codeWith ⟨"TopicBrokerLaw", "filter", "(LTopicBroker;III[J)I"⟩ method_16_code 6 (some .int) [(0, 12, 15, 13)] ∈ TB := TB_t (tq_7 (List.mem_of_getElem? (i := 94) rfl)) rfl
theorem tw_1535 : Cond.methodLink "TopicBrokerLaw" 61 ⟨"TopicBroker", "filter", "(III)I"⟩ ∈ TB := TB_t (tq_7 (List.mem_of_getElem? (i := 95) rfl)) rfl
theorem tw_1536 : Cond.instanceMethod ⟨"TopicBroker", "filter", "(III)I"⟩ ∈ TB := TB_t (tq_7 (List.mem_of_getElem? (i := 96) rfl)) rfl
theorem tw_1537 : Cond.selects "TopicBroker" ⟨"TopicBroker", "filter", "(III)I"⟩ ⟨"TopicBroker", "filter", "(III)I"⟩ ∈ TB := TB_t (tq_7 (List.mem_of_getElem? (i := 97) rfl)) rfl
theorem tw_1538 : Cond.code ⟨"TopicBroker", "filter", "(III)I"⟩ prog_1_method_16_code 4 (some .int) ∈ TB := TB_t (tq_7 (List.mem_of_getElem? (i := 98) rfl)) rfl
theorem tw_1539 : Cond.methodLink "TopicBrokerLaw" 133 ⟨"TopicBrokerLaw", "retained", "(LTopicBroker;II[J)I"⟩ ∈ TB := TB_t (tq_7 (List.mem_of_getElem? (i := 99) rfl)) rfl
theorem tw_1540 : Cond.static ⟨"TopicBrokerLaw", "retained", "(LTopicBroker;II[J)I"⟩ ∈ TB := TB_t (tq_7 (List.mem_of_getElem? (i := 100) rfl)) rfl
theorem tw_1541 : Cond.codeWith ⟨"TopicBrokerLaw", "retained", "(LTopicBroker;II[J)I"⟩ method_17_code 5 (some .int) [(0, 10, 13, 21)] ∈ TB := TB_t (tq_7 (List.mem_of_getElem? (i := 101) rfl)) rfl
theorem tw_1542 : Cond.methodLink "TopicBrokerLaw" 64 ⟨"TopicBroker", "retained", "(II)I"⟩ ∈ TB := TB_t (tq_7 (List.mem_of_getElem? (i := 102) rfl)) rfl
theorem tw_1543 : Cond.instanceMethod ⟨"TopicBroker", "retained", "(II)I"⟩ ∈ TB := TB_t (tq_7 (List.mem_of_getElem? (i := 103) rfl)) rfl
theorem tw_1544 : Cond.selects "TopicBroker" ⟨"TopicBroker", "retained", "(II)I"⟩ ⟨"TopicBroker", "retained", "(II)I"⟩ ∈ TB := TB_t (tq_7 (List.mem_of_getElem? (i := 104) rfl)) rfl
theorem tw_1545 : Cond.code ⟨"TopicBroker", "retained", "(II)I"⟩ prog_1_method_17_code 4 (some .int) ∈ TB := TB_t (tq_7 (List.mem_of_getElem? (i := 105) rfl)) rfl
theorem tw_1548 : Cond.methodLink "TopicBrokerLaw" 141 ⟨"TopicBrokerLaw", "told", "(LTopicBroker;I[J)I"⟩ ∈ TB := TB_t (tq_7 (List.mem_of_getElem? (i := 108) rfl)) rfl
theorem tw_1549 : Cond.static ⟨"TopicBrokerLaw", "told", "(LTopicBroker;I[J)I"⟩ ∈ TB := TB_t (tq_7 (List.mem_of_getElem? (i := 109) rfl)) rfl
theorem tw_1550 : Cond.codeWith ⟨"TopicBrokerLaw", "told", "(LTopicBroker;I[J)I"⟩ method_18_code 4 (some .int) [(0, 9, 12, 21)] ∈ TB := TB_t (tq_7 (List.mem_of_getElem? (i := 110) rfl)) rfl
theorem tw_1551 : Cond.methodLink "TopicBrokerLaw" 67 ⟨"TopicBroker", "told", "(I)I"⟩ ∈ TB := TB_t (tq_7 (List.mem_of_getElem? (i := 111) rfl)) rfl
theorem tw_1552 : Cond.instanceMethod ⟨"TopicBroker", "told", "(I)I"⟩ ∈ TB := TB_t (tq_7 (List.mem_of_getElem? (i := 112) rfl)) rfl
theorem tw_1553 : Cond.selects "TopicBroker" ⟨"TopicBroker", "told", "(I)I"⟩ ⟨"TopicBroker", "told", "(I)I"⟩ ∈ TB := TB_t (tq_7 (List.mem_of_getElem? (i := 113) rfl)) rfl
theorem tw_1554 : Cond.code ⟨"TopicBroker", "told", "(I)I"⟩ prog_1_method_19_code 2 (some .int) ∈ TB := TB_t (tq_7 (List.mem_of_getElem? (i := 114) rfl)) rfl
theorem tw_1559 : Cond.methodLink "TopicBrokerLaw" 80 ⟨"TopicBrokerModel", "thrown", "()I"⟩ ∈ TB := TB_t (tq_7 (List.mem_of_getElem? (i := 119) rfl)) rfl
theorem tw_1568 : Cond.methodLink "TopicBrokerModel" 7 ⟨"java/lang/Object", "<init>", "()V"⟩ ∈ TB := TB_t (tq_7 (List.mem_of_getElem? (i := 128) rfl)) rfl
theorem tw_1569 : Cond.constant "TopicBrokerModel" 149 (307200) ∈ TB := TB_t (tq_7 (List.mem_of_getElem? (i := 129) rfl)) rfl
theorem tw_1868 : Cond.arrayClass .boolean ∈ TB := TB_t (tq_8 (List.mem_of_getElem? (i := 188) rfl)) rfl
theorem tw_1869 : Cond.methodLink "TopicBrokerLaw" 79 ⟨"TopicBrokerModel", "open", "(I)V"⟩ ∈ TB := TB_t (tq_8 (List.mem_of_getElem? (i := 189) rfl)) rfl
theorem tw_1880 : Cond.methodLink "TopicBrokerLaw" 89 ⟨"TopicBrokerModel", "feed", "(IJJI)I"⟩ ∈ TB := TB_t (tq_8 (List.mem_of_getElem? (i := 200) rfl)) rfl
theorem tw_2173 : Cond.methodLink "TopicBrokerLaw" 92 ⟨"TopicBrokerModel", "lose", "(I)V"⟩ ∈ TB := TB_t (tq_10 (List.mem_of_getElem? (i := 13) rfl)) rfl
theorem tw_2177 : Cond.methodLink "TopicBrokerLaw" 96 ⟨"TopicBrokerModel", "isOpen", "(I)Z"⟩ ∈ TB := TB_t (tq_10 (List.mem_of_getElem? (i := 17) rfl)) rfl
theorem tw_2181 : Cond.methodLink "TopicBrokerLaw" 99 ⟨"TopicBrokerModel", "size", "(I)I"⟩ ∈ TB := TB_t (tq_10 (List.mem_of_getElem? (i := 21) rfl)) rfl
theorem tw_2185 : Cond.methodLink "TopicBrokerLaw" 103 ⟨"TopicBrokerModel", "out", "(II)I"⟩ ∈ TB := TB_t (tq_10 (List.mem_of_getElem? (i := 25) rfl)) rfl
theorem tw_2189 : Cond.methodLink "TopicBrokerLaw" 106 ⟨"TopicBrokerModel", "take", "(II)I"⟩ ∈ TB := TB_t (tq_10 (List.mem_of_getElem? (i := 29) rfl)) rfl
theorem tw_2193 : Cond.methodLink "TopicBrokerLaw" 109 ⟨"TopicBrokerModel", "pending", "(I)I"⟩ ∈ TB := TB_t (tq_10 (List.mem_of_getElem? (i := 33) rfl)) rfl
theorem tw_2197 : Cond.methodLink "TopicBrokerLaw" 112 ⟨"TopicBrokerModel", "pass", "(I)I"⟩ ∈ TB := TB_t (tq_10 (List.mem_of_getElem? (i := 37) rfl)) rfl
theorem tw_2207 : Cond.methodLink "TopicBrokerLaw" 116 ⟨"TopicBrokerModel", "isSession", "(I)Z"⟩ ∈ TB := TB_t (tq_10 (List.mem_of_getElem? (i := 47) rfl)) rfl
theorem tw_2215 : Cond.methodLink "TopicBrokerLaw" 119 ⟨"TopicBrokerModel", "session", "(II)I"⟩ ∈ TB := TB_t (tq_10 (List.mem_of_getElem? (i := 55) rfl)) rfl
theorem tw_2219 : Cond.methodLink "TopicBrokerLaw" 122 ⟨"TopicBrokerModel", "expiry", "(I)J"⟩ ∈ TB := TB_t (tq_10 (List.mem_of_getElem? (i := 59) rfl)) rfl
theorem tw_2223 : Cond.methodLink "TopicBrokerLaw" 125 ⟨"TopicBrokerModel", "id", "(II)I"⟩ ∈ TB := TB_t (tq_10 (List.mem_of_getElem? (i := 63) rfl)) rfl
theorem tw_2227 : Cond.methodLink "TopicBrokerLaw" 129 ⟨"TopicBrokerModel", "subscription", "(III)I"⟩ ∈ TB := TB_t (tq_10 (List.mem_of_getElem? (i := 67) rfl)) rfl
theorem tw_2235 : Cond.methodLink "TopicBrokerLaw" 132 ⟨"TopicBrokerModel", "filter", "(III)I"⟩ ∈ TB := TB_t (tq_10 (List.mem_of_getElem? (i := 75) rfl)) rfl
theorem tw_2239 : Cond.methodLink "TopicBrokerLaw" 135 ⟨"TopicBrokerModel", "retained", "(II)I"⟩ ∈ TB := TB_t (tq_10 (List.mem_of_getElem? (i := 79) rfl)) rfl
theorem tw_2245 : Cond.methodLink "TopicBrokerLaw" 140 ⟨"TopicBrokerModel", "kept", "(IZI)I"⟩ ∈ TB := TB_t (tq_10 (List.mem_of_getElem? (i := 85) rfl)) rfl
theorem tw_2249 : Cond.methodLink "TopicBrokerLaw" 143 ⟨"TopicBrokerModel", "told", "(I)I"⟩ ∈ TB := TB_t (tq_10 (List.mem_of_getElem? (i := 89) rfl)) rfl
theorem tw_2253 : Cond.constantLong "TopicBrokerLaw" 84 (4294967295) ∈ TB := TB_t (tq_10 (List.mem_of_getElem? (i := 93) rfl)) rfl
