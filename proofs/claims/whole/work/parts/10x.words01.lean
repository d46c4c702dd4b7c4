theorem tw_2006 : Cond.methodLink "TopicBrokerModel" 537 ⟨"TopicBrokerModel", "begin", "(IIIII)V"⟩ ∈ TB := TB_t (tq_9 (List.mem_of_getElem? (i := 86) rfl)) rfl
theorem tw_2008 : Cond.instanceMethod ⟨"TopicBrokerModel", "begin", "(IIIII)V"⟩ ∈ TB := TB_t (tq_9 (List.mem_of_getElem? (i := 88) rfl)) rfl
theorem tw_2009 : Cond.code ⟨"TopicBrokerModel", "begin", "(IIIII)V"⟩ prog_14_method_68_code 8 none ∈ TB := TB_t (tq_9 (List.mem_of_getElem? (i := 89) rfl)) rfl
theorem tw_2010 : Cond.methodLink "TopicBrokerModel" 544 ⟨"TopicBrokerModel", "wayOf", "(II)I"⟩ ∈ TB := TB_t (tq_9 (List.mem_of_getElem? (i := 90) rfl)) rfl
theorem tw_2012 : Cond.instanceMethod ⟨"TopicBrokerModel", "wayOf", "(II)I"⟩ ∈ TB := TB_t (tq_9 (List.mem_of_getElem? (i := 92) rfl)) rfl
theorem tw_2013 : Cond.code ⟨"TopicBrokerModel", "wayOf", "(II)I"⟩ prog_14_method_69_code 4 (some .int) ∈ TB := TB_t (tq_9 (List.mem_of_getElem? (i := 93) rfl)) rfl
theorem tw_2014 : Cond.methodLink "TopicBrokerModel" 321 ⟨"TopicBrokerModel", "ends", "(I)V"⟩ ∈ TB := TB_t (tq_9 (List.mem_of_getElem? (i := 94) rfl)) rfl
theorem tw_2016 : Cond.instanceMethod ⟨"TopicBrokerModel", "ends", "(I)V"⟩ ∈ TB := TB_t (tq_9 (List.mem_of_getElem? (i := 96) rfl)) rfl
theorem tw_2017 : Cond.code ⟨"TopicBrokerModel", "ends", "(I)V"⟩ prog_14_method_18_code 2 none ∈ TB := TB_t (tq_9 (List.mem_of_getElem? (i := 97) rfl)) rfl
theorem tw_2018 : Cond.constantLong "TopicBrokerModel" 324 (4294967295) ∈ TB := TB_t (tq_9 (List.mem_of_getElem? (i := 98) rfl)) rfl
theorem tw_2019 : Cond.methodLink "TopicBrokerModel" 292 ⟨"TopicBrokerModel", "settle", "()V"⟩ ∈ TB := TB_t (tq_9 (List.mem_of_getElem? (i := 99) rfl)) rfl
theorem tw_2021 : Cond.instanceMethod ⟨"TopicBrokerModel", "settle", "()V"⟩ ∈ TB := TB_t (tq_9 (List.mem_of_getElem? (i := 101) rfl)) rfl
theorem tw_2022 : Cond.code ⟨"TopicBrokerModel", "settle", "()V"⟩ prog_14_method_15_code 2 none ∈ TB := TB_t (tq_9 (List.mem_of_getElem? (i := 102) rfl)) rfl
theorem tw_2023 : Cond.constantLong "TopicBrokerModel" 263 (400) ∈ TB := TB_t (tq_9 (List.mem_of_getElem? (i := 103) rfl)) rfl
theorem tw_2024 : Cond.methodLink "TopicBrokerModel" 286 ⟨"TopicBrokerModel", "take", "()V"⟩ ∈ TB := TB_t (tq_9 (List.mem_of_getElem? (i := 104) rfl)) rfl
theorem tw_2026 : Cond.instanceMethod ⟨"TopicBrokerModel", "take", "()V"⟩ ∈ TB := TB_t (tq_9 (List.mem_of_getElem? (i := 106) rfl)) rfl
theorem tw_2027 : Cond.code ⟨"TopicBrokerModel", "take", "()V"⟩ prog_14_method_41_code 7 none ∈ TB := TB_t (tq_9 (List.mem_of_getElem? (i := 107) rfl)) rfl
theorem tw_2028 : Cond.methodLink "TopicBrokerModel" 343 ⟨"TopicBrokerModel", "fails", "(I)V"⟩ ∈ TB := TB_t (tq_9 (List.mem_of_getElem? (i := 108) rfl)) rfl
theorem tw_2030 : Cond.instanceMethod ⟨"TopicBrokerModel", "fails", "(I)V"⟩ ∈ TB := TB_t (tq_9 (List.mem_of_getElem? (i := 110) rfl)) rfl
theorem tw_2031 : Cond.code ⟨"TopicBrokerModel", "fails", "(I)V"⟩ prog_14_method_25_code 2 none ∈ TB := TB_t (tq_9 (List.mem_of_getElem? (i := 111) rfl)) rfl
theorem tw_2032 : Cond.methodLink "TopicBrokerModel" 398 ⟨"TopicBrokerModel", "connect", "()V"⟩ ∈ TB := TB_t (tq_9 (List.mem_of_getElem? (i := 112) rfl)) rfl
theorem tw_2034 : Cond.instanceMethod ⟨"TopicBrokerModel", "connect", "()V"⟩ ∈ TB := TB_t (tq_9 (List.mem_of_getElem? (i := 114) rfl)) rfl
theorem tw_2035 : Cond.code ⟨"TopicBrokerModel", "connect", "()V"⟩ prog_14_method_43_code 22 none ∈ TB := TB_t (tq_9 (List.mem_of_getElem? (i := 115) rfl)) rfl
theorem tw_2036 : Cond.methodLink "TopicBrokerModel" 388 ⟨"TopicBrokerModel", "string", "()V"⟩ ∈ TB := TB_t (tq_9 (List.mem_of_getElem? (i := 116) rfl)) rfl
theorem tw_2038 : Cond.instanceMethod ⟨"TopicBrokerModel", "string", "()V"⟩ ∈ TB := TB_t (tq_9 (List.mem_of_getElem? (i := 118) rfl)) rfl
theorem tw_2039 : Cond.code ⟨"TopicBrokerModel", "string", "()V"⟩ prog_14_method_31_code 1 none ∈ TB := TB_t (tq_9 (List.mem_of_getElem? (i := 119) rfl)) rfl
theorem tw_2040 : Cond.methodLink "TopicBrokerModel" 359 ⟨"TopicBrokerModel", "row", "()V"⟩ ∈ TB := TB_t (tq_9 (List.mem_of_getElem? (i := 120) rfl)) rfl
theorem tw_2042 : Cond.instanceMethod ⟨"TopicBrokerModel", "row", "()V"⟩ ∈ TB := TB_t (tq_9 (List.mem_of_getElem? (i := 122) rfl)) rfl
theorem tw_2043 : Cond.code ⟨"TopicBrokerModel", "row", "()V"⟩ prog_14_method_30_code 2 none ∈ TB := TB_t (tq_9 (List.mem_of_getElem? (i := 123) rfl)) rfl
theorem tw_2044 : Cond.methodLink "TopicBrokerModel" 350 ⟨"TopicBrokerModel", "two", "()I"⟩ ∈ TB := TB_t (tq_9 (List.mem_of_getElem? (i := 124) rfl)) rfl
theorem tw_2046 : Cond.instanceMethod ⟨"TopicBrokerModel", "two", "()I"⟩ ∈ TB := TB_t (tq_9 (List.mem_of_getElem? (i := 126) rfl)) rfl
theorem tw_2047 : Cond.code ⟨"TopicBrokerModel", "two", "()I"⟩ prog_14_method_27_code 2 (some .int) ∈ TB := TB_t (tq_9 (List.mem_of_getElem? (i := 127) rfl)) rfl
theorem tw_2048 : Cond.methodLink "TopicBrokerModel" 346 ⟨"TopicBrokerModel", "one", "()I"⟩ ∈ TB := TB_t (tq_9 (List.mem_of_getElem? (i := 128) rfl)) rfl
theorem tw_2050 : Cond.instanceMethod ⟨"TopicBrokerModel", "one", "()I"⟩ ∈ TB := TB_t (tq_9 (List.mem_of_getElem? (i := 130) rfl)) rfl
theorem tw_2051 : Cond.code ⟨"TopicBrokerModel", "one", "()I"⟩ prog_14_method_26_code 1 (some .int) ∈ TB := TB_t (tq_9 (List.mem_of_getElem? (i := 131) rfl)) rfl
theorem tw_2052 : Cond.methodLink "TopicBrokerModel" 362 ⟨"TopicBrokerModel", "isText", "(II)Z"⟩ ∈ TB := TB_t (tq_9 (List.mem_of_getElem? (i := 132) rfl)) rfl
theorem tw_2054 : Cond.instanceMethod ⟨"TopicBrokerModel", "isText", "(II)Z"⟩ ∈ TB := TB_t (tq_9 (List.mem_of_getElem? (i := 134) rfl)) rfl
theorem tw_2055 : Cond.code ⟨"TopicBrokerModel", "isText", "(II)Z"⟩ prog_14_method_32_code 9 (some .boolean) ∈ TB := TB_t (tq_9 (List.mem_of_getElem? (i := 135) rfl)) rfl
theorem tw_2056 : Cond.constant "TopicBrokerModel" 366 (55296) ∈ TB := TB_t (tq_9 (List.mem_of_getElem? (i := 136) rfl)) rfl
theorem tw_2057 : Cond.constant "TopicBrokerModel" 367 (57343) ∈ TB := TB_t (tq_9 (List.mem_of_getElem? (i := 137) rfl)) rfl
theorem tw_2058 : Cond.constant "TopicBrokerModel" 368 (65536) ∈ TB := TB_t (tq_9 (List.mem_of_getElem? (i := 138) rfl)) rfl
theorem tw_2059 : Cond.constant "TopicBrokerModel" 369 (1114111) ∈ TB := TB_t (tq_9 (List.mem_of_getElem? (i := 139) rfl)) rfl
theorem tw_2060 : Cond.methodLink "TopicBrokerModel" 381 ⟨"TopicBrokerModel", "bit", "(I)J"⟩ ∈ TB := TB_t (tq_9 (List.mem_of_getElem? (i := 140) rfl)) rfl
theorem tw_2061 : Cond.static ⟨"TopicBrokerModel", "bit", "(I)J"⟩ ∈ TB := TB_t (tq_9 (List.mem_of_getElem? (i := 141) rfl)) rfl
theorem tw_2062 : Cond.code ⟨"TopicBrokerModel", "bit", "(I)J"⟩ prog_14_method_33_code 1 (some .long) ∈ TB := TB_t (tq_9 (List.mem_of_getElem? (i := 142) rfl)) rfl
theorem tw_2063 : Cond.methodLink "TopicBrokerModel" 419 ⟨"TopicBrokerModel", "properties", "(J)V"⟩ ∈ TB := TB_t (tq_9 (List.mem_of_getElem? (i := 143) rfl)) rfl
theorem tw_2065 : Cond.instanceMethod ⟨"TopicBrokerModel", "properties", "(J)V"⟩ ∈ TB := TB_t (tq_9 (List.mem_of_getElem? (i := 145) rfl)) rfl
theorem tw_2066 : Cond.code ⟨"TopicBrokerModel", "properties", "(J)V"⟩ prog_14_method_34_code 5 none ∈ TB := TB_t (tq_9 (List.mem_of_getElem? (i := 146) rfl)) rfl
theorem tw_2067 : Cond.methodLink "TopicBrokerModel" 373 ⟨"TopicBrokerModel", "variable", "()J"⟩ ∈ TB := TB_t (tq_9 (List.mem_of_getElem? (i := 147) rfl)) rfl
theorem tw_2069 : Cond.instanceMethod ⟨"TopicBrokerModel", "variable", "()J"⟩ ∈ TB := TB_t (tq_9 (List.mem_of_getElem? (i := 149) rfl)) rfl
theorem tw_2070 : Cond.code ⟨"TopicBrokerModel", "variable", "()J"⟩ prog_14_method_29_code 5 (some .long) ∈ TB := TB_t (tq_9 (List.mem_of_getElem? (i := 150) rfl)) rfl
theorem tw_2071 : Cond.methodLink "TopicBrokerModel" 377 ⟨"TopicBrokerModel", "property", "(J)V"⟩ ∈ TB := TB_t (tq_9 (List.mem_of_getElem? (i := 151) rfl)) rfl
theorem tw_2073 : Cond.instanceMethod ⟨"TopicBrokerModel", "property", "(J)V"⟩ ∈ TB := TB_t (tq_9 (List.mem_of_getElem? (i := 153) rfl)) rfl
theorem tw_2074 : Cond.code ⟨"TopicBrokerModel", "property", "(J)V"⟩ prog_14_method_35_code 6 none ∈ TB := TB_t (tq_9 (List.mem_of_getElem? (i := 154) rfl)) rfl
theorem tw_2075 : Cond.methodLink "TopicBrokerModel" 385 ⟨"TopicBrokerModel", "four", "()J"⟩ ∈ TB := TB_t (tq_9 (List.mem_of_getElem? (i := 155) rfl)) rfl
theorem tw_2077 : Cond.instanceMethod ⟨"TopicBrokerModel", "four", "()J"⟩ ∈ TB := TB_t (tq_9 (List.mem_of_getElem? (i := 157) rfl)) rfl
theorem tw_2078 : Cond.code ⟨"TopicBrokerModel", "four", "()J"⟩ prog_14_method_28_code 3 (some .long) ∈ TB := TB_t (tq_9 (List.mem_of_getElem? (i := 158) rfl)) rfl
theorem tw_2079 : Cond.constant "TopicBrokerModel" 422 (65535) ∈ TB := TB_t (tq_9 (List.mem_of_getElem? (i := 159) rfl)) rfl
theorem tw_2080 : Cond.constantLong "TopicBrokerModel" 425 (9223372036854775807) ∈ TB := TB_t (tq_9 (List.mem_of_getElem? (i := 160) rfl)) rfl
theorem tw_2081 : Cond.methodLink "TopicBrokerModel" 427 ⟨"TopicBrokerModel", "isTopic", "([BII)Z"⟩ ∈ TB := TB_t (tq_9 (List.mem_of_getElem? (i := 161) rfl)) rfl
theorem tw_2082 : Cond.static ⟨"TopicBrokerModel", "isTopic", "([BII)Z"⟩ ∈ TB := TB_t (tq_9 (List.mem_of_getElem? (i := 162) rfl)) rfl
theorem tw_2083 : Cond.code ⟨"TopicBrokerModel", "isTopic", "([BII)Z"⟩ prog_14_method_36_code 5 (some .boolean) ∈ TB := TB_t (tq_9 (List.mem_of_getElem? (i := 163) rfl)) rfl
theorem tw_2084 : Cond.methodLink "TopicBrokerModel" 430 ⟨"TopicBrokerModel", "client", "([BII)I"⟩ ∈ TB := TB_t (tq_9 (List.mem_of_getElem? (i := 164) rfl)) rfl
theorem tw_2086 : Cond.instanceMethod ⟨"TopicBrokerModel", "client", "([BII)I"⟩ ∈ TB := TB_t (tq_9 (List.mem_of_getElem? (i := 166) rfl)) rfl
theorem tw_2087 : Cond.code ⟨"TopicBrokerModel", "client", "([BII)I"⟩ prog_14_method_48_code 7 (some .int) ∈ TB := TB_t (tq_9 (List.mem_of_getElem? (i := 167) rfl)) rfl
theorem tw_2088 : Cond.methodLink "TopicBrokerModel" 434 ⟨"TopicBrokerModel", "free", "()I"⟩ ∈ TB := TB_t (tq_9 (List.mem_of_getElem? (i := 168) rfl)) rfl
theorem tw_2090 : Cond.instanceMethod ⟨"TopicBrokerModel", "free", "()I"⟩ ∈ TB := TB_t (tq_9 (List.mem_of_getElem? (i := 170) rfl)) rfl
theorem tw_2091 : Cond.code ⟨"TopicBrokerModel", "free", "()I"⟩ prog_14_method_49_code 2 (some .int) ∈ TB := TB_t (tq_9 (List.mem_of_getElem? (i := 171) rfl)) rfl
theorem tw_2092 : Cond.methodLink "TopicBrokerModel" 440 ⟨"TopicBrokerModel", "name", "(I)V"⟩ ∈ TB := TB_t (tq_9 (List.mem_of_getElem? (i := 172) rfl)) rfl
theorem tw_2094 : Cond.instanceMethod ⟨"TopicBrokerModel", "name", "(I)V"⟩ ∈ TB := TB_t (tq_9 (List.mem_of_getElem? (i := 174) rfl)) rfl
theorem tw_2095 : Cond.code ⟨"TopicBrokerModel", "name", "(I)V"⟩ prog_14_method_50_code 6 none ∈ TB := TB_t (tq_9 (List.mem_of_getElem? (i := 175) rfl)) rfl
theorem tw_2096 : Cond.methodLink "TopicBrokerModel" 446 ⟨"TopicBrokerModel", "message", "(IIII)I"⟩ ∈ TB := TB_t (tq_9 (List.mem_of_getElem? (i := 176) rfl)) rfl
theorem tw_2098 : Cond.instanceMethod ⟨"TopicBrokerModel", "message", "(IIII)I"⟩ ∈ TB := TB_t (tq_9 (List.mem_of_getElem? (i := 178) rfl)) rfl
theorem tw_2099 : Cond.code ⟨"TopicBrokerModel", "message", "(IIII)I"⟩ prog_14_method_51_code 8 (some .int) ∈ TB := TB_t (tq_9 (List.mem_of_getElem? (i := 179) rfl)) rfl
theorem tw_2100 : Cond.methodLink "TopicBrokerModel" 479 ⟨"TopicBrokerModel", "copy", "(III)I"⟩ ∈ TB := TB_t (tq_9 (List.mem_of_getElem? (i := 180) rfl)) rfl
theorem tw_2102 : Cond.instanceMethod ⟨"TopicBrokerModel", "copy", "(III)I"⟩ ∈ TB := TB_t (tq_9 (List.mem_of_getElem? (i := 182) rfl)) rfl
theorem tw_2103 : Cond.code ⟨"TopicBrokerModel", "copy", "(III)I"⟩ prog_14_method_52_code 5 (some .int) ∈ TB := TB_t (tq_9 (List.mem_of_getElem? (i := 183) rfl)) rfl
theorem tw_2104 : Cond.methodLink "TopicBrokerModel" 456 ⟨"TopicBrokerModel", "sendBody", "(II)V"⟩ ∈ TB := TB_t (tq_9 (List.mem_of_getElem? (i := 184) rfl)) rfl
theorem tw_2106 : Cond.instanceMethod ⟨"TopicBrokerModel", "sendBody", "(II)V"⟩ ∈ TB := TB_t (tq_9 (List.mem_of_getElem? (i := 186) rfl)) rfl
theorem tw_2107 : Cond.code ⟨"TopicBrokerModel", "sendBody", "(II)V"⟩ prog_14_method_47_code 3 none ∈ TB := TB_t (tq_9 (List.mem_of_getElem? (i := 187) rfl)) rfl
theorem tw_2108 : Cond.methodLink "TopicBrokerModel" 459 ⟨"TopicBrokerModel", "again", "(I)V"⟩ ∈ TB := TB_t (tq_9 (List.mem_of_getElem? (i := 188) rfl)) rfl
theorem tw_2110 : Cond.instanceMethod ⟨"TopicBrokerModel", "again", "(I)V"⟩ ∈ TB := TB_t (tq_9 (List.mem_of_getElem? (i := 190) rfl)) rfl
theorem tw_2111 : Cond.code ⟨"TopicBrokerModel", "again", "(I)V"⟩ prog_14_method_73_code 7 none ∈ TB := TB_t (tq_9 (List.mem_of_getElem? (i := 191) rfl)) rfl
theorem tw_2112 : Cond.methodLink "TopicBrokerModel" 558 ⟨"TopicBrokerModel", "moveWay", "(II)V"⟩ ∈ TB := TB_t (tq_9 (List.mem_of_getElem? (i := 192) rfl)) rfl
theorem tw_2114 : Cond.instanceMethod ⟨"TopicBrokerModel", "moveWay", "(II)V"⟩ ∈ TB := TB_t (tq_9 (List.mem_of_getElem? (i := 194) rfl)) rfl
theorem tw_2115 : Cond.code ⟨"TopicBrokerModel", "moveWay", "(II)V"⟩ prog_14_method_74_code 3 none ∈ TB := TB_t (tq_9 (List.mem_of_getElem? (i := 195) rfl)) rfl
theorem tw_2116 : Cond.methodLink "TopicBrokerModel" 462 ⟨"TopicBrokerModel", "pump", "(I)V"⟩ ∈ TB := TB_t (tq_9 (List.mem_of_getElem? (i := 196) rfl)) rfl
theorem tw_2118 : Cond.instanceMethod ⟨"TopicBrokerModel", "pump", "(I)V"⟩ ∈ TB := TB_t (tq_9 (List.mem_of_getElem? (i := 198) rfl)) rfl
theorem tw_2119 : Cond.code ⟨"TopicBrokerModel", "pump", "(I)V"⟩ prog_14_method_70_code 8 none ∈ TB := TB_t (tq_9 (List.mem_of_getElem? (i := 199) rfl)) rfl
theorem tw_2120 : Cond.methodLink "TopicBrokerModel" 401 ⟨"TopicBrokerModel", "publish", "(II)V"⟩ ∈ TB := TB_t (tq_9 (List.mem_of_getElem? (i := 200) rfl)) rfl
theorem tw_2122 : Cond.instanceMethod ⟨"TopicBrokerModel", "publish", "(II)V"⟩ ∈ TB := TB_t (tq_9 (List.mem_of_getElem? (i := 202) rfl)) rfl
theorem tw_2123 : Cond.code ⟨"TopicBrokerModel", "publish", "(II)V"⟩ prog_14_method_58_code 10 none ∈ TB := TB_t (tq_9 (List.mem_of_getElem? (i := 203) rfl)) rfl
theorem tw_2124 : Cond.constantLong "TopicBrokerModel" 492 (4) ∈ TB := TB_t (tq_9 (List.mem_of_getElem? (i := 204) rfl)) rfl
theorem tw_2125 : Cond.methodLink "TopicBrokerModel" 494 ⟨"TopicBrokerModel", "holds", "(II)I"⟩ ∈ TB := TB_t (tq_9 (List.mem_of_getElem? (i := 205) rfl)) rfl
theorem tw_2127 : Cond.instanceMethod ⟨"TopicBrokerModel", "holds", "(II)I"⟩ ∈ TB := TB_t (tq_9 (List.mem_of_getElem? (i := 207) rfl)) rfl
theorem tw_2128 : Cond.code ⟨"TopicBrokerModel", "holds", "(II)I"⟩ prog_14_method_59_code 4 (some .int) ∈ TB := TB_t (tq_9 (List.mem_of_getElem? (i := 208) rfl)) rfl
theorem tw_2129 : Cond.methodLink "TopicBrokerModel" 497 ⟨"TopicBrokerModel", "answer", "(III)V"⟩ ∈ TB := TB_t (tq_9 (List.mem_of_getElem? (i := 209) rfl)) rfl
theorem tw_2131 : Cond.instanceMethod ⟨"TopicBrokerModel", "answer", "(III)V"⟩ ∈ TB := TB_t (tq_9 (List.mem_of_getElem? (i := 211) rfl)) rfl
theorem tw_2132 : Cond.code ⟨"TopicBrokerModel", "answer", "(III)V"⟩ prog_14_method_57_code 4 none ∈ TB := TB_t (tq_9 (List.mem_of_getElem? (i := 212) rfl)) rfl
theorem tw_2133 : Cond.methodLink "TopicBrokerModel" 404 ⟨"TopicBrokerModel", "answered", "(I)V"⟩ ∈ TB := TB_t (tq_9 (List.mem_of_getElem? (i := 213) rfl)) rfl
theorem tw_2135 : Cond.instanceMethod ⟨"TopicBrokerModel", "answered", "(I)V"⟩ ∈ TB := TB_t (tq_9 (List.mem_of_getElem? (i := 215) rfl)) rfl
theorem tw_2136 : Cond.code ⟨"TopicBrokerModel", "answered", "(I)V"⟩ prog_14_method_76_code 9 none ∈ TB := TB_t (tq_9 (List.mem_of_getElem? (i := 216) rfl)) rfl
theorem tw_2137 : Cond.methodLink "TopicBrokerModel" 561 ⟨"TopicBrokerModel", "leave", "(II)V"⟩ ∈ TB := TB_t (tq_9 (List.mem_of_getElem? (i := 217) rfl)) rfl
theorem tw_2139 : Cond.instanceMethod ⟨"TopicBrokerModel", "leave", "(II)V"⟩ ∈ TB := TB_t (tq_9 (List.mem_of_getElem? (i := 219) rfl)) rfl
theorem tw_2140 : Cond.code ⟨"TopicBrokerModel", "leave", "(II)V"⟩ prog_14_method_75_code 4 none ∈ TB := TB_t (tq_9 (List.mem_of_getElem? (i := 220) rfl)) rfl
theorem tw_2141 : Cond.methodLink "TopicBrokerModel" 407 ⟨"TopicBrokerModel", "subscribe", "()V"⟩ ∈ TB := TB_t (tq_9 (List.mem_of_getElem? (i := 221) rfl)) rfl
theorem tw_2143 : Cond.instanceMethod ⟨"TopicBrokerModel", "subscribe", "()V"⟩ ∈ TB := TB_t (tq_9 (List.mem_of_getElem? (i := 223) rfl)) rfl
theorem tw_2144 : Cond.code ⟨"TopicBrokerModel", "subscribe", "()V"⟩ prog_14_method_78_code 6 none ∈ TB := TB_t (tq_9 (List.mem_of_getElem? (i := 224) rfl)) rfl
theorem tw_2145 : Cond.methodLink "TopicBrokerModel" 564 ⟨"TopicBrokerModel", "subscribeOne", "(III)I"⟩ ∈ TB := TB_t (tq_9 (List.mem_of_getElem? (i := 225) rfl)) rfl
theorem tw_2147 : Cond.instanceMethod ⟨"TopicBrokerModel", "subscribeOne", "(III)I"⟩ ∈ TB := TB_t (tq_9 (List.mem_of_getElem? (i := 227) rfl)) rfl
theorem tw_2148 : Cond.code ⟨"TopicBrokerModel", "subscribeOne", "(III)I"⟩ prog_14_method_79_code 9 (some .int) ∈ TB := TB_t (tq_9 (List.mem_of_getElem? (i := 228) rfl)) rfl
theorem tw_2149 : Cond.methodLink "TopicBrokerModel" 570 ⟨"TopicBrokerModel", "subscriptionOf", "(III)I"⟩ ∈ TB := TB_t (tq_9 (List.mem_of_getElem? (i := 229) rfl)) rfl
theorem tw_2151 : Cond.instanceMethod ⟨"TopicBrokerModel", "subscriptionOf", "(III)I"⟩ ∈ TB := TB_t (tq_9 (List.mem_of_getElem? (i := 231) rfl)) rfl
theorem tw_2152 : Cond.code ⟨"TopicBrokerModel", "subscriptionOf", "(III)I"⟩ prog_14_method_77_code 8 (some .int) ∈ TB := TB_t (tq_9 (List.mem_of_getElem? (i := 232) rfl)) rfl
theorem tw_2153 : Cond.methodLink "TopicBrokerModel" 567 ⟨"TopicBrokerModel", "show", "(II)V"⟩ ∈ TB := TB_t (tq_9 (List.mem_of_getElem? (i := 233) rfl)) rfl
theorem tw_2155 : Cond.instanceMethod ⟨"TopicBrokerModel", "show", "(II)V"⟩ ∈ TB := TB_t (tq_9 (List.mem_of_getElem? (i := 235) rfl)) rfl
theorem tw_2156 : Cond.code ⟨"TopicBrokerModel", "show", "(II)V"⟩ prog_14_method_80_code 6 none ∈ TB := TB_t (tq_9 (List.mem_of_getElem? (i := 236) rfl)) rfl
theorem tw_2157 : Cond.methodLink "TopicBrokerModel" 410 ⟨"TopicBrokerModel", "unsubscribe", "()V"⟩ ∈ TB := TB_t (tq_9 (List.mem_of_getElem? (i := 237) rfl)) rfl
theorem tw_2159 : Cond.instanceMethod ⟨"TopicBrokerModel", "unsubscribe", "()V"⟩ ∈ TB := TB_t (tq_9 (List.mem_of_getElem? (i := 239) rfl)) rfl
theorem tw_2160 : Cond.code ⟨"TopicBrokerModel", "unsubscribe", "()V"⟩ prog_14_method_81_code 7 none ∈ TB := TB_t (tq_10 (List.mem_of_getElem? (i := 0) rfl)) rfl
theorem tw_2161 : Cond.methodLink "TopicBrokerModel" 573 ⟨"TopicBrokerModel", "unsubscribeOne", "(II)V"⟩ ∈ TB := TB_t (tq_10 (List.mem_of_getElem? (i := 1) rfl)) rfl
theorem tw_2163 : Cond.instanceMethod ⟨"TopicBrokerModel", "unsubscribeOne", "(II)V"⟩ ∈ TB := TB_t (tq_10 (List.mem_of_getElem? (i := 3) rfl)) rfl
theorem tw_2164 : Cond.code ⟨"TopicBrokerModel", "unsubscribeOne", "(II)V"⟩ prog_14_method_82_code 6 none ∈ TB := TB_t (tq_10 (List.mem_of_getElem? (i := 4) rfl)) rfl
theorem tw_2165 : Cond.methodLink "TopicBrokerModel" 413 ⟨"TopicBrokerModel", "ping", "()V"⟩ ∈ TB := TB_t (tq_10 (List.mem_of_getElem? (i := 5) rfl)) rfl
theorem tw_2167 : Cond.instanceMethod ⟨"TopicBrokerModel", "ping", "()V"⟩ ∈ TB := TB_t (tq_10 (List.mem_of_getElem? (i := 7) rfl)) rfl
theorem tw_2168 : Cond.code ⟨"TopicBrokerModel", "ping", "()V"⟩ prog_14_method_42_code 1 none ∈ TB := TB_t (tq_10 (List.mem_of_getElem? (i := 8) rfl)) rfl
theorem tw_2169 : Cond.methodLink "TopicBrokerModel" 416 ⟨"TopicBrokerModel", "disconnect", "()V"⟩ ∈ TB := TB_t (tq_10 (List.mem_of_getElem? (i := 9) rfl)) rfl
theorem tw_2171 : Cond.instanceMethod ⟨"TopicBrokerModel", "disconnect", "()V"⟩ ∈ TB := TB_t (tq_10 (List.mem_of_getElem? (i := 11) rfl)) rfl
theorem tw_2172 : Cond.code ⟨"TopicBrokerModel", "disconnect", "()V"⟩ prog_14_method_83_code 5 none ∈ TB := TB_t (tq_10 (List.mem_of_getElem? (i := 12) rfl)) rfl
theorem tw_2174 : Cond.instanceMethod ⟨"TopicBrokerModel", "lose", "(I)V"⟩ ∈ TB := TB_t (tq_10 (List.mem_of_getElem? (i := 14) rfl)) rfl
theorem tw_2175 : Cond.selects "TopicBrokerModel" ⟨"TopicBrokerModel", "lose", "(I)V"⟩ ⟨"TopicBrokerModel", "lose", "(I)V"⟩ ∈ TB := TB_t (tq_10 (List.mem_of_getElem? (i := 15) rfl)) rfl
theorem tw_2176 : Cond.code ⟨"TopicBrokerModel", "lose", "(I)V"⟩ prog_14_method_19_code 2 none ∈ TB := TB_t (tq_10 (List.mem_of_getElem? (i := 16) rfl)) rfl
theorem tw_2178 : Cond.instanceMethod ⟨"TopicBrokerModel", "isOpen", "(I)Z"⟩ ∈ TB := TB_t (tq_10 (List.mem_of_getElem? (i := 18) rfl)) rfl
theorem tw_2179 : Cond.selects "TopicBrokerModel" ⟨"TopicBrokerModel", "isOpen", "(I)Z"⟩ ⟨"TopicBrokerModel", "isOpen", "(I)Z"⟩ ∈ TB := TB_t (tq_10 (List.mem_of_getElem? (i := 19) rfl)) rfl
theorem tw_2180 : Cond.code ⟨"TopicBrokerModel", "isOpen", "(I)Z"⟩ prog_14_method_20_code 2 (some .boolean) ∈ TB := TB_t (tq_10 (List.mem_of_getElem? (i := 20) rfl)) rfl
theorem tw_2182 : Cond.instanceMethod ⟨"TopicBrokerModel", "size", "(I)I"⟩ ∈ TB := TB_t (tq_10 (List.mem_of_getElem? (i := 22) rfl)) rfl
theorem tw_2183 : Cond.selects "TopicBrokerModel" ⟨"TopicBrokerModel", "size", "(I)I"⟩ ⟨"TopicBrokerModel", "size", "(I)I"⟩ ∈ TB := TB_t (tq_10 (List.mem_of_getElem? (i := 23) rfl)) rfl
theorem tw_2184 : Cond.code ⟨"TopicBrokerModel", "size", "(I)I"⟩ prog_14_method_21_code 2 (some .int) ∈ TB := TB_t (tq_10 (List.mem_of_getElem? (i := 24) rfl)) rfl
theorem tw_2186 : Cond.instanceMethod ⟨"TopicBrokerModel", "out", "(II)I"⟩ ∈ TB := TB_t (tq_10 (List.mem_of_getElem? (i := 26) rfl)) rfl
theorem tw_2187 : Cond.selects "TopicBrokerModel" ⟨"TopicBrokerModel", "out", "(II)I"⟩ ⟨"TopicBrokerModel", "out", "(II)I"⟩ ∈ TB := TB_t (tq_10 (List.mem_of_getElem? (i := 27) rfl)) rfl
theorem tw_2188 : Cond.code ⟨"TopicBrokerModel", "out", "(II)I"⟩ prog_14_method_22_code 3 (some .int) ∈ TB := TB_t (tq_10 (List.mem_of_getElem? (i := 28) rfl)) rfl
theorem tw_2190 : Cond.instanceMethod ⟨"TopicBrokerModel", "take", "(II)I"⟩ ∈ TB := TB_t (tq_10 (List.mem_of_getElem? (i := 30) rfl)) rfl
theorem tw_2191 : Cond.selects "TopicBrokerModel" ⟨"TopicBrokerModel", "take", "(II)I"⟩ ⟨"TopicBrokerModel", "take", "(II)I"⟩ ∈ TB := TB_t (tq_10 (List.mem_of_getElem? (i := 31) rfl)) rfl
theorem tw_2192 : Cond.code ⟨"TopicBrokerModel", "take", "(II)I"⟩ prog_14_method_23_code 5 (some .int) ∈ TB := TB_t (tq_10 (List.mem_of_getElem? (i := 32) rfl)) rfl
theorem tw_2194 : Cond.instanceMethod ⟨"TopicBrokerModel", "pending", "(I)I"⟩ ∈ TB := TB_t (tq_10 (List.mem_of_getElem? (i := 34) rfl)) rfl
theorem tw_2195 : Cond.selects "TopicBrokerModel" ⟨"TopicBrokerModel", "pending", "(I)I"⟩ ⟨"TopicBrokerModel", "pending", "(I)I"⟩ ∈ TB := TB_t (tq_10 (List.mem_of_getElem? (i := 35) rfl)) rfl
theorem tw_2196 : Cond.code ⟨"TopicBrokerModel", "pending", "(I)I"⟩ prog_14_method_24_code 2 (some .int) ∈ TB := TB_t (tq_10 (List.mem_of_getElem? (i := 36) rfl)) rfl
theorem tw_2198 : Cond.instanceMethod ⟨"TopicBrokerModel", "pass", "(I)I"⟩ ∈ TB := TB_t (tq_10 (List.mem_of_getElem? (i := 38) rfl)) rfl
theorem tw_2199 : Cond.selects "TopicBrokerModel" ⟨"TopicBrokerModel", "pass", "(I)I"⟩ ⟨"TopicBrokerModel", "pass", "(I)I"⟩ ∈ TB := TB_t (tq_10 (List.mem_of_getElem? (i := 39) rfl)) rfl
theorem tw_2200 : Cond.code ⟨"TopicBrokerModel", "pass", "(I)I"⟩ prog_14_method_84_code 4 (some .int) ∈ TB := TB_t (tq_10 (List.mem_of_getElem? (i := 40) rfl)) rfl
theorem tw_2201 : Cond.methodLink "TopicBrokerModel" 576 ⟨"TopicBrokerModel", "second", "()V"⟩ ∈ TB := TB_t (tq_10 (List.mem_of_getElem? (i := 41) rfl)) rfl
theorem tw_2203 : Cond.instanceMethod ⟨"TopicBrokerModel", "second", "()V"⟩ ∈ TB := TB_t (tq_10 (List.mem_of_getElem? (i := 43) rfl)) rfl
theorem tw_2204 : Cond.code ⟨"TopicBrokerModel", "second", "()V"⟩ prog_14_method_85_code 3 none ∈ TB := TB_t (tq_10 (List.mem_of_getElem? (i := 44) rfl)) rfl
theorem tw_2205 : Cond.constantLong "TopicBrokerModel" 579 (2) ∈ TB := TB_t (tq_10 (List.mem_of_getElem? (i := 45) rfl)) rfl
theorem tw_2206 : Cond.constantLong "TopicBrokerModel" 581 (3) ∈ TB := TB_t (tq_10 (List.mem_of_getElem? (i := 46) rfl)) rfl
theorem tw_2208 : Cond.instanceMethod ⟨"TopicBrokerModel", "isSession", "(I)Z"⟩ ∈ TB := TB_t (tq_10 (List.mem_of_getElem? (i := 48) rfl)) rfl
theorem tw_2209 : Cond.selects "TopicBrokerModel" ⟨"TopicBrokerModel", "isSession", "(I)Z"⟩ ⟨"TopicBrokerModel", "isSession", "(I)Z"⟩ ∈ TB := TB_t (tq_10 (List.mem_of_getElem? (i := 49) rfl)) rfl
theorem tw_2210 : Cond.code ⟨"TopicBrokerModel", "isSession", "(I)Z"⟩ prog_14_method_86_code 2 (some .boolean) ∈ TB := TB_t (tq_10 (List.mem_of_getElem? (i := 50) rfl)) rfl
theorem tw_2211 : Cond.methodLink "TopicBrokerModel" 583 ⟨"TopicBrokerModel", "hasSession", "(I)Z"⟩ ∈ TB := TB_t (tq_10 (List.mem_of_getElem? (i := 51) rfl)) rfl
theorem tw_2213 : Cond.instanceMethod ⟨"TopicBrokerModel", "hasSession", "(I)Z"⟩ ∈ TB := TB_t (tq_10 (List.mem_of_getElem? (i := 53) rfl)) rfl
theorem tw_2214 : Cond.code ⟨"TopicBrokerModel", "hasSession", "(I)Z"⟩ prog_14_method_5_code 2 (some .boolean) ∈ TB := TB_t (tq_10 (List.mem_of_getElem? (i := 54) rfl)) rfl
theorem tw_2216 : Cond.instanceMethod ⟨"TopicBrokerModel", "session", "(II)I"⟩ ∈ TB := TB_t (tq_10 (List.mem_of_getElem? (i := 56) rfl)) rfl
theorem tw_2217 : Cond.selects "TopicBrokerModel" ⟨"TopicBrokerModel", "session", "(II)I"⟩ ⟨"TopicBrokerModel", "session", "(II)I"⟩ ∈ TB := TB_t (tq_10 (List.mem_of_getElem? (i := 57) rfl)) rfl
theorem tw_2218 : Cond.code ⟨"TopicBrokerModel", "session", "(II)I"⟩ prog_14_method_87_code 3 (some .int) ∈ TB := TB_t (tq_10 (List.mem_of_getElem? (i := 58) rfl)) rfl
theorem tw_2220 : Cond.instanceMethod ⟨"TopicBrokerModel", "expiry", "(I)J"⟩ ∈ TB := TB_t (tq_10 (List.mem_of_getElem? (i := 60) rfl)) rfl
theorem tw_2221 : Cond.selects "TopicBrokerModel" ⟨"TopicBrokerModel", "expiry", "(I)J"⟩ ⟨"TopicBrokerModel", "expiry", "(I)J"⟩ ∈ TB := TB_t (tq_10 (List.mem_of_getElem? (i := 61) rfl)) rfl
theorem tw_2222 : Cond.code ⟨"TopicBrokerModel", "expiry", "(I)J"⟩ prog_14_method_88_code 2 (some .long) ∈ TB := TB_t (tq_10 (List.mem_of_getElem? (i := 62) rfl)) rfl
theorem tw_2224 : Cond.instanceMethod ⟨"TopicBrokerModel", "id", "(II)I"⟩ ∈ TB := TB_t (tq_10 (List.mem_of_getElem? (i := 64) rfl)) rfl
theorem tw_2225 : Cond.selects "TopicBrokerModel" ⟨"TopicBrokerModel", "id", "(II)I"⟩ ⟨"TopicBrokerModel", "id", "(II)I"⟩ ∈ TB := TB_t (tq_10 (List.mem_of_getElem? (i := 65) rfl)) rfl
theorem tw_2226 : Cond.code ⟨"TopicBrokerModel", "id", "(II)I"⟩ prog_14_method_89_code 3 (some .int) ∈ TB := TB_t (tq_10 (List.mem_of_getElem? (i := 66) rfl)) rfl
theorem tw_2228 : Cond.instanceMethod ⟨"TopicBrokerModel", "subscription", "(III)I"⟩ ∈ TB := TB_t (tq_10 (List.mem_of_getElem? (i := 68) rfl)) rfl
theorem tw_2229 : Cond.selects "TopicBrokerModel" ⟨"TopicBrokerModel", "subscription", "(III)I"⟩ ⟨"TopicBrokerModel", "subscription", "(III)I"⟩ ∈ TB := TB_t (tq_10 (List.mem_of_getElem? (i := 69) rfl)) rfl
theorem tw_2230 : Cond.code ⟨"TopicBrokerModel", "subscription", "(III)I"⟩ prog_14_method_91_code 5 (some .int) ∈ TB := TB_t (tq_10 (List.mem_of_getElem? (i := 70) rfl)) rfl
theorem tw_2231 : Cond.methodLink "TopicBrokerModel" 586 ⟨"TopicBrokerModel", "hasSub", "(II)Z"⟩ ∈ TB := TB_t (tq_10 (List.mem_of_getElem? (i := 71) rfl)) rfl
theorem tw_2233 : Cond.instanceMethod ⟨"TopicBrokerModel", "hasSub", "(II)Z"⟩ ∈ TB := TB_t (tq_10 (List.mem_of_getElem? (i := 73) rfl)) rfl
theorem tw_2234 : Cond.code ⟨"TopicBrokerModel", "hasSub", "(II)Z"⟩ prog_14_method_90_code 3 (some .boolean) ∈ TB := TB_t (tq_10 (List.mem_of_getElem? (i := 74) rfl)) rfl
theorem tw_2236 : Cond.instanceMethod ⟨"TopicBrokerModel", "filter", "(III)I"⟩ ∈ TB := TB_t (tq_10 (List.mem_of_getElem? (i := 76) rfl)) rfl
theorem tw_2237 : Cond.selects "TopicBrokerModel" ⟨"TopicBrokerModel", "filter", "(III)I"⟩ ⟨"TopicBrokerModel", "filter", "(III)I"⟩ ∈ TB := TB_t (tq_10 (List.mem_of_getElem? (i := 77) rfl)) rfl
theorem tw_2238 : Cond.code ⟨"TopicBrokerModel", "filter", "(III)I"⟩ prog_14_method_92_code 5 (some .int) ∈ TB := TB_t (tq_10 (List.mem_of_getElem? (i := 78) rfl)) rfl
theorem tw_2240 : Cond.instanceMethod ⟨"TopicBrokerModel", "retained", "(II)I"⟩ ∈ TB := TB_t (tq_10 (List.mem_of_getElem? (i := 80) rfl)) rfl
theorem tw_2241 : Cond.selects "TopicBrokerModel" ⟨"TopicBrokerModel", "retained", "(II)I"⟩ ⟨"TopicBrokerModel", "retained", "(II)I"⟩ ∈ TB := TB_t (tq_10 (List.mem_of_getElem? (i := 81) rfl)) rfl
theorem tw_2242 : Cond.code ⟨"TopicBrokerModel", "retained", "(II)I"⟩ prog_14_method_93_code 4 (some .int) ∈ TB := TB_t (tq_10 (List.mem_of_getElem? (i := 82) rfl)) rfl
theorem tw_2243 : Cond.constantLong "TopicBrokerModel" 589 (2147483647) ∈ TB := TB_t (tq_10 (List.mem_of_getElem? (i := 83) rfl)) rfl
theorem tw_2244 : Cond.methodLink "TopicBrokerModel" 591 ⟨"java/lang/Math", "min", "(JJ)J"⟩ ∈ TB := TB_t (tq_10 (List.mem_of_getElem? (i := 84) rfl)) rfl
theorem tw_2246 : Cond.instanceMethod ⟨"TopicBrokerModel", "kept", "(IZI)I"⟩ ∈ TB := TB_t (tq_10 (List.mem_of_getElem? (i := 86) rfl)) rfl
theorem tw_2247 : Cond.selects "TopicBrokerModel" ⟨"TopicBrokerModel", "kept", "(IZI)I"⟩ ⟨"TopicBrokerModel", "kept", "(IZI)I"⟩ ∈ TB := TB_t (tq_10 (List.mem_of_getElem? (i := 87) rfl)) rfl
theorem tw_2248 : Cond.code ⟨"TopicBrokerModel", "kept", "(IZI)I"⟩ prog_14_method_94_code 6 (some .int) ∈ TB := TB_t (tq_10 (List.mem_of_getElem? (i := 88) rfl)) rfl
theorem tw_2250 : Cond.instanceMethod ⟨"TopicBrokerModel", "told", "(I)I"⟩ ∈ TB := TB_t (tq_10 (List.mem_of_getElem? (i := 90) rfl)) rfl
theorem tw_2251 : Cond.selects "TopicBrokerModel" ⟨"TopicBrokerModel", "told", "(I)I"⟩ ⟨"TopicBrokerModel", "told", "(I)I"⟩ ∈ TB := TB_t (tq_10 (List.mem_of_getElem? (i := 91) rfl)) rfl
theorem tw_2252 : Cond.code ⟨"TopicBrokerModel", "told", "(I)I"⟩ prog_14_method_95_code 4 (some .int) ∈ TB := TB_t (tq_10 (List.mem_of_getElem? (i := 92) rfl)) rfl
