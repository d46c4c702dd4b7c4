theorem tw_1160 : Cond.methodLink "TopicBroker" 554 ⟨"TopicBroker$Session", "unqueue", "()LTopicBroker$Delivery;"⟩ ∈ TB := TB_t (tq_5 (List.mem_of_getElem? (i := 200) rfl)) rfl
theorem tw_1161 : Cond.instanceMethod ⟨"TopicBroker$Session", "unqueue", "()LTopicBroker$Delivery;"⟩ ∈ TB := TB_t (tq_5 (List.mem_of_getElem? (i := 201) rfl)) rfl
theorem tw_1162 : Cond.selects "TopicBroker$Session" ⟨"TopicBroker$Session", "unqueue", "()LTopicBroker$Delivery;"⟩ ⟨"TopicBroker$Session", "unqueue", "()LTopicBroker$Delivery;"⟩ ∈ TB := TB_t (tq_5 (List.mem_of_getElem? (i := 202) rfl)) rfl
theorem tw_1163 : Cond.code ⟨"TopicBroker$Session", "unqueue", "()LTopicBroker$Delivery;"⟩ prog_10_method_12_code 3 (some (.object "TopicBroker$Delivery")) ∈ TB := TB_t (tq_5 (List.mem_of_getElem? (i := 203) rfl)) rfl
theorem tw_1164 : Cond.methodLink "TopicBroker" 566 ⟨"TopicBroker$Session", "letGo", "(I)Z"⟩ ∈ TB := TB_t (tq_5 (List.mem_of_getElem? (i := 204) rfl)) rfl
theorem tw_1165 : Cond.instanceMethod ⟨"TopicBroker$Session", "letGo", "(I)Z"⟩ ∈ TB := TB_t (tq_5 (List.mem_of_getElem? (i := 205) rfl)) rfl
theorem tw_1166 : Cond.selects "TopicBroker$Session" ⟨"TopicBroker$Session", "letGo", "(I)Z"⟩ ⟨"TopicBroker$Session", "letGo", "(I)Z"⟩ ∈ TB := TB_t (tq_5 (List.mem_of_getElem? (i := 206) rfl)) rfl
theorem tw_1167 : Cond.code ⟨"TopicBroker$Session", "letGo", "(I)Z"⟩ prog_10_method_15_code 3 (some .boolean) ∈ TB := TB_t (tq_5 (List.mem_of_getElem? (i := 207) rfl)) rfl
theorem tw_1168 : Cond.methodLink "TopicBroker" 305 ⟨"TopicBroker", "subscribe", "(LTopicBroker$Connection;LTopicBroker$Session;I)I"⟩ ∈ TB := TB_t (tq_5 (List.mem_of_getElem? (i := 208) rfl)) rfl
theorem tw_1170 : Cond.instanceMethod ⟨"TopicBroker", "subscribe", "(LTopicBroker$Connection;LTopicBroker$Session;I)I"⟩ ∈ TB := TB_t (tq_5 (List.mem_of_getElem? (i := 210) rfl)) rfl
theorem tw_1171 : Cond.code ⟨"TopicBroker", "subscribe", "(LTopicBroker$Connection;LTopicBroker$Session;I)I"⟩ prog_1_method_48_code 11 (some .int) ∈ TB := TB_t (tq_5 (List.mem_of_getElem? (i := 211) rfl)) rfl
theorem tw_1172 : Cond.constantLong "TopicBroker" 573 (274877908992) ∈ TB := TB_t (tq_5 (List.mem_of_getElem? (i := 212) rfl)) rfl
theorem tw_1173 : Cond.methodLink "TopicBroker" 577 ⟨"TopicBroker", "checkEntries", "()I"⟩ ∈ TB := TB_t (tq_5 (List.mem_of_getElem? (i := 213) rfl)) rfl
theorem tw_1175 : Cond.instanceMethod ⟨"TopicBroker", "checkEntries", "()I"⟩ ∈ TB := TB_t (tq_5 (List.mem_of_getElem? (i := 215) rfl)) rfl
theorem tw_1176 : Cond.code ⟨"TopicBroker", "checkEntries", "()I"⟩ prog_1_method_49_code 6 (some .int) ∈ TB := TB_t (tq_5 (List.mem_of_getElem? (i := 216) rfl)) rfl
theorem tw_1178 : Cond.methodLink "TopicBroker" 593 ⟨"TopicBroker$Row", "begins", "(ILjava/lang/String;)Z"⟩ ∈ TB := TB_t (tq_5 (List.mem_of_getElem? (i := 218) rfl)) rfl
theorem tw_1179 : Cond.methodLink "TopicBroker" 580 ⟨"TopicBroker$Session", "owes", "(LTopicBroker$Row;I)I"⟩ ∈ TB := TB_t (tq_5 (List.mem_of_getElem? (i := 219) rfl)) rfl
theorem tw_1180 : Cond.instanceMethod ⟨"TopicBroker$Session", "owes", "(LTopicBroker$Row;I)I"⟩ ∈ TB := TB_t (tq_5 (List.mem_of_getElem? (i := 220) rfl)) rfl
theorem tw_1181 : Cond.selects "TopicBroker$Session" ⟨"TopicBroker$Session", "owes", "(LTopicBroker$Row;I)I"⟩ ⟨"TopicBroker$Session", "owes", "(LTopicBroker$Row;I)I"⟩ ∈ TB := TB_t (tq_5 (List.mem_of_getElem? (i := 221) rfl)) rfl
theorem tw_1182 : Cond.code ⟨"TopicBroker$Session", "owes", "(LTopicBroker$Row;I)I"⟩ prog_10_method_3_code 6 (some .int) ∈ TB := TB_t (tq_5 (List.mem_of_getElem? (i := 222) rfl)) rfl
theorem tw_1183 : Cond.methodLink "TopicBroker$Session" 50 ⟨"TopicBroker$Session", "indexOf", "(LTopicBroker$Row;)I"⟩ ∈ TB := TB_t (tq_5 (List.mem_of_getElem? (i := 223) rfl)) rfl
theorem tw_1184 : Cond.methodLink "TopicBroker$Session" 54 ⟨"TopicBroker$Row", "filterStart", "()I"⟩ ∈ TB := TB_t (tq_5 (List.mem_of_getElem? (i := 224) rfl)) rfl
theorem tw_1185 : Cond.instanceMethod ⟨"TopicBroker$Row", "filterStart", "()I"⟩ ∈ TB := TB_t (tq_5 (List.mem_of_getElem? (i := 225) rfl)) rfl
theorem tw_1186 : Cond.selects "TopicBroker$Row" ⟨"TopicBroker$Row", "filterStart", "()I"⟩ ⟨"TopicBroker$Row", "filterStart", "()I"⟩ ∈ TB := TB_t (tq_5 (List.mem_of_getElem? (i := 226) rfl)) rfl
theorem tw_1187 : Cond.code ⟨"TopicBroker$Row", "filterStart", "()I"⟩ prog_9_method_8_code 2 (some .int) ∈ TB := TB_t (tq_5 (List.mem_of_getElem? (i := 227) rfl)) rfl
theorem tw_1189 : Cond.methodLink "TopicBroker$Row" 31 ⟨"TopicBroker$Row", "begins", "(ILjava/lang/String;)Z"⟩ ∈ TB := TB_t (tq_5 (List.mem_of_getElem? (i := 229) rfl)) rfl
theorem tw_1190 : Cond.methodLink "TopicBroker$Row" 35 ⟨"TopicBroker$Row", "behindName", "()I"⟩ ∈ TB := TB_t (tq_5 (List.mem_of_getElem? (i := 230) rfl)) rfl
theorem tw_1191 : Cond.instanceMethod ⟨"TopicBroker$Row", "behindName", "()I"⟩ ∈ TB := TB_t (tq_5 (List.mem_of_getElem? (i := 231) rfl)) rfl
theorem tw_1192 : Cond.selects "TopicBroker$Row" ⟨"TopicBroker$Row", "behindName", "()I"⟩ ⟨"TopicBroker$Row", "behindName", "()I"⟩ ∈ TB := TB_t (tq_5 (List.mem_of_getElem? (i := 232) rfl)) rfl
theorem tw_1193 : Cond.code ⟨"TopicBroker$Row", "behindName", "()I"⟩ prog_9_method_9_code 3 (some .int) ∈ TB := TB_t (tq_5 (List.mem_of_getElem? (i := 233) rfl)) rfl
theorem tw_1194 : Cond.methodLink "TopicBroker$Row" 38 ⟨"TopicBroker$Row", "hasLevels", "(I)Z"⟩ ∈ TB := TB_t (tq_5 (List.mem_of_getElem? (i := 234) rfl)) rfl
theorem tw_1195 : Cond.instanceMethod ⟨"TopicBroker$Row", "hasLevels", "(I)Z"⟩ ∈ TB := TB_t (tq_5 (List.mem_of_getElem? (i := 235) rfl)) rfl
theorem tw_1196 : Cond.selects "TopicBroker$Row" ⟨"TopicBroker$Row", "hasLevels", "(I)Z"⟩ ⟨"TopicBroker$Row", "hasLevels", "(I)Z"⟩ ∈ TB := TB_t (tq_5 (List.mem_of_getElem? (i := 236) rfl)) rfl
theorem tw_1197 : Cond.code ⟨"TopicBroker$Row", "hasLevels", "(I)Z"⟩ prog_9_method_10_code 5 (some .boolean) ∈ TB := TB_t (tq_5 (List.mem_of_getElem? (i := 237) rfl)) rfl
theorem tw_1198 : Cond.methodLink "TopicBroker" 584 ⟨"TopicBroker$Session", "subscribe", "(LTopicBroker$Row;II)I"⟩ ∈ TB := TB_t (tq_5 (List.mem_of_getElem? (i := 238) rfl)) rfl
theorem tw_1199 : Cond.instanceMethod ⟨"TopicBroker$Session", "subscribe", "(LTopicBroker$Row;II)I"⟩ ∈ TB := TB_t (tq_5 (List.mem_of_getElem? (i := 239) rfl)) rfl
theorem tw_1200 : Cond.selects "TopicBroker$Session" ⟨"TopicBroker$Session", "subscribe", "(LTopicBroker$Row;II)I"⟩ ⟨"TopicBroker$Session", "subscribe", "(LTopicBroker$Row;II)I"⟩ ∈ TB := TB_t (tq_6 (List.mem_of_getElem? (i := 0) rfl)) rfl
theorem tw_1201 : Cond.code ⟨"TopicBroker$Session", "subscribe", "(LTopicBroker$Row;II)I"⟩ prog_10_method_4_code 6 (some .int) ∈ TB := TB_t (tq_6 (List.mem_of_getElem? (i := 1) rfl)) rfl
theorem tw_1202 : Cond.classLink "TopicBroker$Session" 9 "TopicBroker$Subscription" ∈ TB := TB_t (tq_6 (List.mem_of_getElem? (i := 2) rfl)) rfl
theorem tw_1203 : Cond.instantiable "TopicBroker$Subscription" 6 ∈ TB := TB_t (tq_6 (List.mem_of_getElem? (i := 3) rfl)) rfl
theorem tw_1204 : Cond.methodLink "TopicBroker$Session" 58 ⟨"TopicBroker$Subscription", "<init>", "(LTopicBroker$Row;I)V"⟩ ∈ TB := TB_t (tq_6 (List.mem_of_getElem? (i := 4) rfl)) rfl
theorem tw_1205 : Cond.instanceMethod ⟨"TopicBroker$Subscription", "<init>", "(LTopicBroker$Row;I)V"⟩ ∈ TB := TB_t (tq_6 (List.mem_of_getElem? (i := 5) rfl)) rfl
theorem tw_1206 : Cond.code ⟨"TopicBroker$Subscription", "<init>", "(LTopicBroker$Row;I)V"⟩ prog_11_method_1_code 3 none ∈ TB := TB_t (tq_6 (List.mem_of_getElem? (i := 6) rfl)) rfl
theorem tw_1207 : Cond.methodLink "TopicBroker$Subscription" 1 ⟨"java/lang/Object", "<init>", "()V"⟩ ∈ TB := TB_t (tq_6 (List.mem_of_getElem? (i := 7) rfl)) rfl
theorem tw_1208 : Cond.fieldLink "TopicBroker$Subscription" 7 "TopicBroker$Subscription" "told" "LTopicBroker$Row;" ∈ TB := TB_t (tq_6 (List.mem_of_getElem? (i := 8) rfl)) rfl
theorem tw_1209 : Cond.fieldLink "TopicBroker$Session" 41 "TopicBroker$Subscription" "told" "LTopicBroker$Row;" ∈ TB := TB_t (tq_6 (List.mem_of_getElem? (i := 9) rfl)) rfl
theorem tw_1210 : Cond.fieldLink "TopicBroker" 209 "TopicBroker$Subscription" "told" "LTopicBroker$Row;" ∈ TB := TB_t (tq_6 (List.mem_of_getElem? (i := 10) rfl)) rfl
theorem tw_1211 : Cond.fieldLink "TopicBroker$Subscription" 13 "TopicBroker$Subscription" "start" "I" ∈ TB := TB_t (tq_6 (List.mem_of_getElem? (i := 11) rfl)) rfl
theorem tw_1212 : Cond.fieldLink "TopicBroker$Session" 61 "TopicBroker$Subscription" "options" "I" ∈ TB := TB_t (tq_6 (List.mem_of_getElem? (i := 12) rfl)) rfl
theorem tw_1213 : Cond.fieldLink "TopicBroker" 201 "TopicBroker$Subscription" "options" "I" ∈ TB := TB_t (tq_6 (List.mem_of_getElem? (i := 13) rfl)) rfl
theorem tw_1214 : Cond.fieldLink "TopicBroker$Session" 64 "TopicBroker$Subscription" "identifier" "I" ∈ TB := TB_t (tq_6 (List.mem_of_getElem? (i := 14) rfl)) rfl
theorem tw_1215 : Cond.fieldLink "TopicBroker" 206 "TopicBroker$Subscription" "identifier" "I" ∈ TB := TB_t (tq_6 (List.mem_of_getElem? (i := 15) rfl)) rfl
theorem tw_1216 : Cond.fieldLink "TopicBroker" 212 "TopicBroker$Subscription" "got" "I" ∈ TB := TB_t (tq_6 (List.mem_of_getElem? (i := 16) rfl)) rfl
theorem tw_1217 : Cond.fieldLink "TopicBroker" 524 "TopicBroker$Subscription" "last" "I" ∈ TB := TB_t (tq_6 (List.mem_of_getElem? (i := 17) rfl)) rfl
theorem tw_1231 : Cond.methodLink "TopicBroker" 587 ⟨"TopicBroker", "giveRetained", "(LTopicBroker$Session;LTopicBroker$Subscription;)V"⟩ ∈ TB := TB_t (tq_6 (List.mem_of_getElem? (i := 31) rfl)) rfl
theorem tw_1233 : Cond.instanceMethod ⟨"TopicBroker", "giveRetained", "(LTopicBroker$Session;LTopicBroker$Subscription;)V"⟩ ∈ TB := TB_t (tq_6 (List.mem_of_getElem? (i := 33) rfl)) rfl
theorem tw_1234 : Cond.code ⟨"TopicBroker", "giveRetained", "(LTopicBroker$Session;LTopicBroker$Subscription;)V"⟩ prog_1_method_50_code 6 none ∈ TB := TB_t (tq_6 (List.mem_of_getElem? (i := 34) rfl)) rfl
theorem tw_1235 : Cond.methodLink "TopicBroker" 308 ⟨"TopicBroker", "unsubscribe", "(LTopicBroker$Connection;LTopicBroker$Session;I)I"⟩ ∈ TB := TB_t (tq_6 (List.mem_of_getElem? (i := 35) rfl)) rfl
theorem tw_1237 : Cond.instanceMethod ⟨"TopicBroker", "unsubscribe", "(LTopicBroker$Connection;LTopicBroker$Session;I)I"⟩ ∈ TB := TB_t (tq_6 (List.mem_of_getElem? (i := 37) rfl)) rfl
theorem tw_1238 : Cond.code ⟨"TopicBroker", "unsubscribe", "(LTopicBroker$Connection;LTopicBroker$Session;I)I"⟩ prog_1_method_51_code 8 (some .int) ∈ TB := TB_t (tq_6 (List.mem_of_getElem? (i := 38) rfl)) rfl
theorem tw_1239 : Cond.constantLong "TopicBroker" 601 (274877906944) ∈ TB := TB_t (tq_6 (List.mem_of_getElem? (i := 39) rfl)) rfl
theorem tw_1240 : Cond.methodLink "TopicBroker" 603 ⟨"TopicBroker$Session", "unsubscribe", "(LTopicBroker$Row;)I"⟩ ∈ TB := TB_t (tq_6 (List.mem_of_getElem? (i := 40) rfl)) rfl
theorem tw_1241 : Cond.instanceMethod ⟨"TopicBroker$Session", "unsubscribe", "(LTopicBroker$Row;)I"⟩ ∈ TB := TB_t (tq_6 (List.mem_of_getElem? (i := 41) rfl)) rfl
theorem tw_1242 : Cond.selects "TopicBroker$Session" ⟨"TopicBroker$Session", "unsubscribe", "(LTopicBroker$Row;)I"⟩ ⟨"TopicBroker$Session", "unsubscribe", "(LTopicBroker$Row;)I"⟩ ∈ TB := TB_t (tq_6 (List.mem_of_getElem? (i := 42) rfl)) rfl
theorem tw_1243 : Cond.code ⟨"TopicBroker$Session", "unsubscribe", "(LTopicBroker$Row;)I"⟩ prog_10_method_5_code 4 (some .int) ∈ TB := TB_t (tq_6 (List.mem_of_getElem? (i := 43) rfl)) rfl
theorem tw_1244 : Cond.methodLink "TopicBroker" 311 ⟨"TopicBroker", "ping", "(LTopicBroker$Connection;I)I"⟩ ∈ TB := TB_t (tq_6 (List.mem_of_getElem? (i := 44) rfl)) rfl
theorem tw_1246 : Cond.instanceMethod ⟨"TopicBroker", "ping", "(LTopicBroker$Connection;I)I"⟩ ∈ TB := TB_t (tq_6 (List.mem_of_getElem? (i := 46) rfl)) rfl
theorem tw_1247 : Cond.code ⟨"TopicBroker", "ping", "(LTopicBroker$Connection;I)I"⟩ prog_1_method_29_code 3 (some .int) ∈ TB := TB_t (tq_6 (List.mem_of_getElem? (i := 47) rfl)) rfl
theorem tw_1248 : Cond.methodLink "TopicBroker" 315 ⟨"TopicBroker", "leave", "(LTopicBroker$Session;I)I"⟩ ∈ TB := TB_t (tq_6 (List.mem_of_getElem? (i := 48) rfl)) rfl
theorem tw_1250 : Cond.instanceMethod ⟨"TopicBroker", "leave", "(LTopicBroker$Session;I)I"⟩ ∈ TB := TB_t (tq_6 (List.mem_of_getElem? (i := 50) rfl)) rfl
theorem tw_1251 : Cond.code ⟨"TopicBroker", "leave", "(LTopicBroker$Session;I)I"⟩ prog_1_method_30_code 6 (some .int) ∈ TB := TB_t (tq_6 (List.mem_of_getElem? (i := 51) rfl)) rfl
theorem tw_1252 : Cond.methodLink "TopicBroker" 344 ⟨"TopicBroker$Properties", "clear", "()V"⟩ ∈ TB := TB_t (tq_6 (List.mem_of_getElem? (i := 52) rfl)) rfl
theorem tw_1253 : Cond.constantLong "TopicBroker" 351 (277025521664) ∈ TB := TB_t (tq_6 (List.mem_of_getElem? (i := 53) rfl)) rfl
theorem tw_1258 : Cond.methodLink "TopicBroker" 371 ⟨"TopicBroker", "makeId", "()LTopicBroker$Row;"⟩ ∈ TB := TB_t (tq_6 (List.mem_of_getElem? (i := 58) rfl)) rfl
theorem tw_1260 : Cond.instanceMethod ⟨"TopicBroker", "makeId", "()LTopicBroker$Row;"⟩ ∈ TB := TB_t (tq_6 (List.mem_of_getElem? (i := 60) rfl)) rfl
theorem tw_1261 : Cond.code ⟨"TopicBroker", "makeId", "()LTopicBroker$Row;"⟩ prog_1_method_34_code 3 (some (.object "TopicBroker$Row")) ∈ TB := TB_t (tq_6 (List.mem_of_getElem? (i := 61) rfl)) rfl
theorem tw_1262 : Cond.methodLink "TopicBroker" 399 ⟨"TopicBroker", "autoId", "()LTopicBroker$Row;"⟩ ∈ TB := TB_t (tq_6 (List.mem_of_getElem? (i := 62) rfl)) rfl
theorem tw_1264 : Cond.instanceMethod ⟨"TopicBroker", "autoId", "()LTopicBroker$Row;"⟩ ∈ TB := TB_t (tq_6 (List.mem_of_getElem? (i := 64) rfl)) rfl
theorem tw_1265 : Cond.code ⟨"TopicBroker", "autoId", "()LTopicBroker$Row;"⟩ prog_1_method_35_code 5 (some (.object "TopicBroker$Row")) ∈ TB := TB_t (tq_6 (List.mem_of_getElem? (i := 65) rfl)) rfl
theorem tw_1267 : Cond.methodLink "TopicBroker" 407 ⟨"java/lang/String", "length", "()I"⟩ ∈ TB := TB_t (tq_6 (List.mem_of_getElem? (i := 67) rfl)) rfl
theorem tw_1268 : Cond.methodLink "TopicBroker" 412 ⟨"java/lang/String", "charAt", "(I)C"⟩ ∈ TB := TB_t (tq_6 (List.mem_of_getElem? (i := 68) rfl)) rfl
theorem tw_1269 : Cond.classLink "TopicBroker" 179 "TopicBroker$Row" ∈ TB := TB_t (tq_6 (List.mem_of_getElem? (i := 69) rfl)) rfl
theorem tw_1270 : Cond.methodLink "TopicBroker" 416 ⟨"TopicBroker$Row", "<init>", "([I)V"⟩ ∈ TB := TB_t (tq_6 (List.mem_of_getElem? (i := 70) rfl)) rfl
theorem tw_1271 : Cond.methodLink "TopicBroker" 319 ⟨"TopicBroker", "sayFarewell", "(LTopicBroker$Connection;I)V"⟩ ∈ TB := TB_t (tq_6 (List.mem_of_getElem? (i := 71) rfl)) rfl
theorem tw_1273 : Cond.instanceMethod ⟨"TopicBroker", "sayFarewell", "(LTopicBroker$Connection;I)V"⟩ ∈ TB := TB_t (tq_6 (List.mem_of_getElem? (i := 73) rfl)) rfl
theorem tw_1274 : Cond.code ⟨"TopicBroker", "sayFarewell", "(LTopicBroker$Connection;I)V"⟩ prog_1_method_27_code 3 none ∈ TB := TB_t (tq_6 (List.mem_of_getElem? (i := 74) rfl)) rfl
theorem tw_1275 : Cond.methodLink "TopicBroker" 103 ⟨"TopicBroker", "lost", "(LTopicBroker$Connection;)V"⟩ ∈ TB := TB_t (tq_6 (List.mem_of_getElem? (i := 75) rfl)) rfl
theorem tw_1277 : Cond.instanceMethod ⟨"TopicBroker", "lost", "(LTopicBroker$Connection;)V"⟩ ∈ TB := TB_t (tq_6 (List.mem_of_getElem? (i := 77) rfl)) rfl
theorem tw_1278 : Cond.code ⟨"TopicBroker", "lost", "(LTopicBroker$Connection;)V"⟩ prog_1_method_52_code 3 none ∈ TB := TB_t (tq_6 (List.mem_of_getElem? (i := 78) rfl)) rfl
theorem tw_1279 : Cond.methodLink "TopicBroker" 605 ⟨"TopicBroker$Connection", "close", "()V"⟩ ∈ TB := TB_t (tq_6 (List.mem_of_getElem? (i := 79) rfl)) rfl
theorem tw_1280 : Cond.instanceMethod ⟨"TopicBroker$Connection", "close", "()V"⟩ ∈ TB := TB_t (tq_6 (List.mem_of_getElem? (i := 80) rfl)) rfl
theorem tw_1281 : Cond.selects "TopicBroker$Connection" ⟨"TopicBroker$Connection", "close", "()V"⟩ ⟨"TopicBroker$Connection", "close", "()V"⟩ ∈ TB := TB_t (tq_6 (List.mem_of_getElem? (i := 81) rfl)) rfl
theorem tw_1282 : Cond.code ⟨"TopicBroker$Connection", "close", "()V"⟩ prog_2_method_3_code 2 none ∈ TB := TB_t (tq_6 (List.mem_of_getElem? (i := 82) rfl)) rfl
theorem tw_1283 : Cond.methodLink "TopicBroker" 613 ⟨"TopicBroker", "comes", "(LTopicBroker$Session;)V"⟩ ∈ TB := TB_t (tq_6 (List.mem_of_getElem? (i := 83) rfl)) rfl
theorem tw_1285 : Cond.instanceMethod ⟨"TopicBroker", "comes", "(LTopicBroker$Session;)V"⟩ ∈ TB := TB_t (tq_6 (List.mem_of_getElem? (i := 85) rfl)) rfl
theorem tw_1286 : Cond.code ⟨"TopicBroker", "comes", "(LTopicBroker$Session;)V"⟩ prog_1_method_54_code 3 none ∈ TB := TB_t (tq_6 (List.mem_of_getElem? (i := 86) rfl)) rfl
theorem tw_1287 : Cond.methodLink "TopicBroker" 616 ⟨"TopicBroker", "remove", "(LTopicBroker$Session;)V"⟩ ∈ TB := TB_t (tq_6 (List.mem_of_getElem? (i := 87) rfl)) rfl
theorem tw_1289 : Cond.instanceMethod ⟨"TopicBroker", "remove", "(LTopicBroker$Session;)V"⟩ ∈ TB := TB_t (tq_6 (List.mem_of_getElem? (i := 89) rfl)) rfl
theorem tw_1290 : Cond.code ⟨"TopicBroker", "remove", "(LTopicBroker$Session;)V"⟩ prog_1_method_56_code 2 none ∈ TB := TB_t (tq_6 (List.mem_of_getElem? (i := 90) rfl)) rfl
theorem tw_1291 : Cond.methodLink "TopicBroker" 378 ⟨"TopicBroker", "end", "(LTopicBroker$Session;)V"⟩ ∈ TB := TB_t (tq_6 (List.mem_of_getElem? (i := 91) rfl)) rfl
theorem tw_1293 : Cond.instanceMethod ⟨"TopicBroker", "end", "(LTopicBroker$Session;)V"⟩ ∈ TB := TB_t (tq_6 (List.mem_of_getElem? (i := 93) rfl)) rfl
theorem tw_1294 : Cond.code ⟨"TopicBroker", "end", "(LTopicBroker$Session;)V"⟩ prog_1_method_55_code 2 none ∈ TB := TB_t (tq_6 (List.mem_of_getElem? (i := 94) rfl)) rfl
theorem tw_1295 : Cond.methodLink "TopicBroker" 382 ⟨"TopicBroker", "makeSession", "(LTopicBroker$Row;)LTopicBroker$Session;"⟩ ∈ TB := TB_t (tq_6 (List.mem_of_getElem? (i := 95) rfl)) rfl
theorem tw_1297 : Cond.instanceMethod ⟨"TopicBroker", "makeSession", "(LTopicBroker$Row;)LTopicBroker$Session;"⟩ ∈ TB := TB_t (tq_6 (List.mem_of_getElem? (i := 97) rfl)) rfl
theorem tw_1298 : Cond.code ⟨"TopicBroker", "makeSession", "(LTopicBroker$Row;)LTopicBroker$Session;"⟩ prog_1_method_36_code 3 (some (.object "TopicBroker$Session")) ∈ TB := TB_t (tq_6 (List.mem_of_getElem? (i := 98) rfl)) rfl
theorem tw_1299 : Cond.instantiable "TopicBroker$Session" 18 ∈ TB := TB_t (tq_6 (List.mem_of_getElem? (i := 99) rfl)) rfl
theorem tw_1300 : Cond.methodLink "TopicBroker" 419 ⟨"TopicBroker$Session", "<init>", "(ILTopicBroker$Row;)V"⟩ ∈ TB := TB_t (tq_6 (List.mem_of_getElem? (i := 100) rfl)) rfl
theorem tw_1301 : Cond.instanceMethod ⟨"TopicBroker$Session", "<init>", "(ILTopicBroker$Row;)V"⟩ ∈ TB := TB_t (tq_6 (List.mem_of_getElem? (i := 101) rfl)) rfl
theorem tw_1302 : Cond.code ⟨"TopicBroker$Session", "<init>", "(ILTopicBroker$Row;)V"⟩ prog_10_method_1_code 3 none ∈ TB := TB_t (tq_6 (List.mem_of_getElem? (i := 102) rfl)) rfl
theorem tw_1303 : Cond.methodLink "TopicBroker$Session" 3 ⟨"java/lang/Object", "<init>", "()V"⟩ ∈ TB := TB_t (tq_6 (List.mem_of_getElem? (i := 103) rfl)) rfl
theorem tw_1305 : Cond.classLink "TopicBroker$Session" 17 "TopicBroker$Delivery" ∈ TB := TB_t (tq_6 (List.mem_of_getElem? (i := 105) rfl)) rfl
theorem tw_1307 : Cond.fieldLink "TopicBroker$Session" 30 "TopicBroker$Session" "number" "I" ∈ TB := TB_t (tq_6 (List.mem_of_getElem? (i := 107) rfl)) rfl
theorem tw_1308 : Cond.fieldLink "TopicBroker" 523 "TopicBroker$Session" "number" "I" ∈ TB := TB_t (tq_6 (List.mem_of_getElem? (i := 108) rfl)) rfl
theorem tw_1309 : Cond.fieldLink "TopicBroker$Session" 34 "TopicBroker$Session" "id" "LTopicBroker$Row;" ∈ TB := TB_t (tq_6 (List.mem_of_getElem? (i := 109) rfl)) rfl
theorem tw_1310 : Cond.fieldLink "TopicBroker" 174 "TopicBroker$Session" "id" "LTopicBroker$Row;" ∈ TB := TB_t (tq_6 (List.mem_of_getElem? (i := 110) rfl)) rfl
theorem tw_1311 : Cond.fieldLink "TopicBroker$Session" 67 "TopicBroker$Session" "connection" "LTopicBroker$Connection;" ∈ TB := TB_t (tq_6 (List.mem_of_getElem? (i := 111) rfl)) rfl
theorem tw_1312 : Cond.fieldLink "TopicBroker" 151 "TopicBroker$Session" "connection" "LTopicBroker$Connection;" ∈ TB := TB_t (tq_6 (List.mem_of_getElem? (i := 112) rfl)) rfl
theorem tw_1313 : Cond.fieldLink "TopicBroker$Session" 11 "TopicBroker$Session" "subscriptions" "[LTopicBroker$Subscription;" ∈ TB := TB_t (tq_6 (List.mem_of_getElem? (i := 113) rfl)) rfl
theorem tw_1314 : Cond.fieldLink "TopicBroker" 261 "TopicBroker$Session" "subscriptions" "[LTopicBroker$Subscription;" ∈ TB := TB_t (tq_6 (List.mem_of_getElem? (i := 114) rfl)) rfl
theorem tw_1315 : Cond.fieldLink "TopicBroker$Session" 38 "TopicBroker$Session" "subscribed" "I" ∈ TB := TB_t (tq_6 (List.mem_of_getElem? (i := 115) rfl)) rfl
theorem tw_1316 : Cond.fieldLink "TopicBroker" 158 "TopicBroker$Session" "subscribed" "I" ∈ TB := TB_t (tq_6 (List.mem_of_getElem? (i := 116) rfl)) rfl
theorem tw_1317 : Cond.fieldLink "TopicBroker$Session" 19 "TopicBroker$Session" "way" "[LTopicBroker$Delivery;" ∈ TB := TB_t (tq_6 (List.mem_of_getElem? (i := 117) rfl)) rfl
theorem tw_1318 : Cond.fieldLink "TopicBroker" 435 "TopicBroker$Session" "way" "[LTopicBroker$Delivery;" ∈ TB := TB_t (tq_6 (List.mem_of_getElem? (i := 118) rfl)) rfl
theorem tw_1319 : Cond.fieldLink "TopicBroker$Session" 71 "TopicBroker$Session" "travelling" "I" ∈ TB := TB_t (tq_6 (List.mem_of_getElem? (i := 119) rfl)) rfl
theorem tw_1320 : Cond.fieldLink "TopicBroker" 161 "TopicBroker$Session" "travelling" "I" ∈ TB := TB_t (tq_6 (List.mem_of_getElem? (i := 120) rfl)) rfl
theorem tw_1321 : Cond.fieldLink "TopicBroker$Session" 23 "TopicBroker$Session" "waiting" "[LTopicBroker$Delivery;" ∈ TB := TB_t (tq_6 (List.mem_of_getElem? (i := 121) rfl)) rfl
theorem tw_1322 : Cond.fieldLink "TopicBroker$Session" 91 "TopicBroker$Session" "queued" "I" ∈ TB := TB_t (tq_6 (List.mem_of_getElem? (i := 122) rfl)) rfl
theorem tw_1323 : Cond.fieldLink "TopicBroker" 164 "TopicBroker$Session" "queued" "I" ∈ TB := TB_t (tq_6 (List.mem_of_getElem? (i := 123) rfl)) rfl
theorem tw_1324 : Cond.fieldLink "TopicBroker$Session" 26 "TopicBroker$Session" "held" "[I" ∈ TB := TB_t (tq_6 (List.mem_of_getElem? (i := 124) rfl)) rfl
theorem tw_1325 : Cond.fieldLink "TopicBroker" 167 "TopicBroker$Session" "holding" "I" ∈ TB := TB_t (tq_6 (List.mem_of_getElem? (i := 125) rfl)) rfl
theorem tw_1326 : Cond.fieldLink "TopicBroker$Session" 94 "TopicBroker$Session" "holding" "I" ∈ TB := TB_t (tq_6 (List.mem_of_getElem? (i := 126) rfl)) rfl
theorem tw_1327 : Cond.fieldLink "TopicBroker$Greeting" 131 "TopicBroker$Session" "will" "LTopicBroker$Message;" ∈ TB := TB_t (tq_6 (List.mem_of_getElem? (i := 127) rfl)) rfl
theorem tw_1328 : Cond.fieldLink "TopicBroker" 170 "TopicBroker$Session" "will" "LTopicBroker$Message;" ∈ TB := TB_t (tq_6 (List.mem_of_getElem? (i := 128) rfl)) rfl
theorem tw_1329 : Cond.fieldLink "TopicBroker$Session" 97 "TopicBroker$Session" "will" "LTopicBroker$Message;" ∈ TB := TB_t (tq_6 (List.mem_of_getElem? (i := 129) rfl)) rfl
theorem tw_1330 : Cond.fieldLink "TopicBroker$Greeting" 132 "TopicBroker$Session" "delay" "J" ∈ TB := TB_t (tq_6 (List.mem_of_getElem? (i := 130) rfl)) rfl
theorem tw_1331 : Cond.fieldLink "TopicBroker$Session" 106 "TopicBroker$Session" "delay" "J" ∈ TB := TB_t (tq_6 (List.mem_of_getElem? (i := 131) rfl)) rfl
theorem tw_1332 : Cond.fieldLink "TopicBroker" 610 "TopicBroker$Session" "delay" "J" ∈ TB := TB_t (tq_6 (List.mem_of_getElem? (i := 132) rfl)) rfl
theorem tw_1333 : Cond.fieldLink "TopicBroker$Greeting" 125 "TopicBroker$Session" "expiry" "J" ∈ TB := TB_t (tq_6 (List.mem_of_getElem? (i := 133) rfl)) rfl
theorem tw_1334 : Cond.fieldLink "TopicBroker" 190 "TopicBroker$Session" "expiry" "J" ∈ TB := TB_t (tq_6 (List.mem_of_getElem? (i := 134) rfl)) rfl
theorem tw_1335 : Cond.fieldLink "TopicBroker$Session" 110 "TopicBroker$Session" "expiry" "J" ∈ TB := TB_t (tq_6 (List.mem_of_getElem? (i := 135) rfl)) rfl
theorem tw_1336 : Cond.fieldLink "TopicBroker$Greeting" 129 "TopicBroker$Session" "size" "J" ∈ TB := TB_t (tq_6 (List.mem_of_getElem? (i := 136) rfl)) rfl
theorem tw_1337 : Cond.fieldLink "TopicBroker" 545 "TopicBroker$Session" "size" "J" ∈ TB := TB_t (tq_6 (List.mem_of_getElem? (i := 137) rfl)) rfl
theorem tw_1338 : Cond.fieldLink "TopicBroker$Greeting" 128 "TopicBroker$Session" "most" "I" ∈ TB := TB_t (tq_6 (List.mem_of_getElem? (i := 138) rfl)) rfl
theorem tw_1339 : Cond.fieldLink "TopicBroker$Session" 74 "TopicBroker$Session" "most" "I" ∈ TB := TB_t (tq_6 (List.mem_of_getElem? (i := 139) rfl)) rfl
theorem tw_1341 : Cond.fieldLink "TopicBroker$Greeting" 130 "TopicBroker$Session" "keep" "I" ∈ TB := TB_t (tq_6 (List.mem_of_getElem? (i := 141) rfl)) rfl
theorem tw_1342 : Cond.fieldLink "TopicBroker$Connection" 81 "TopicBroker$Session" "keep" "I" ∈ TB := TB_t (tq_6 (List.mem_of_getElem? (i := 142) rfl)) rfl
theorem tw_1344 : Cond.fieldLink "TopicBroker$Session" 103 "TopicBroker$Session" "left" "I" ∈ TB := TB_t (tq_6 (List.mem_of_getElem? (i := 144) rfl)) rfl
theorem tw_1345 : Cond.fieldLink "TopicBroker" 608 "TopicBroker$Session" "left" "I" ∈ TB := TB_t (tq_6 (List.mem_of_getElem? (i := 145) rfl)) rfl
theorem tw_1383 : Cond.methodLink "TopicBroker" 385 ⟨"TopicBroker$Greeting", "applyTo", "(LTopicBroker$Session;)V"⟩ ∈ TB := TB_t (tq_6 (List.mem_of_getElem? (i := 183) rfl)) rfl
theorem tw_1384 : Cond.instanceMethod ⟨"TopicBroker$Greeting", "applyTo", "(LTopicBroker$Session;)V"⟩ ∈ TB := TB_t (tq_6 (List.mem_of_getElem? (i := 184) rfl)) rfl
theorem tw_1385 : Cond.selects "TopicBroker$Greeting" ⟨"TopicBroker$Greeting", "applyTo", "(LTopicBroker$Session;)V"⟩ ⟨"TopicBroker$Greeting", "applyTo", "(LTopicBroker$Session;)V"⟩ ∈ TB := TB_t (tq_6 (List.mem_of_getElem? (i := 185) rfl)) rfl
theorem tw_1386 : Cond.code ⟨"TopicBroker$Greeting", "applyTo", "(LTopicBroker$Session;)V"⟩ prog_4_method_5_code 2 none ∈ TB := TB_t (tq_6 (List.mem_of_getElem? (i := 186) rfl)) rfl
theorem tw_1387 : Cond.methodLink "TopicBroker" 388 ⟨"TopicBroker", "welcome", "(LTopicBroker$Connection;ZZLTopicBroker$Row;)V"⟩ ∈ TB := TB_t (tq_6 (List.mem_of_getElem? (i := 187) rfl)) rfl
theorem tw_1389 : Cond.instanceMethod ⟨"TopicBroker", "welcome", "(LTopicBroker$Connection;ZZLTopicBroker$Row;)V"⟩ ∈ TB := TB_t (tq_6 (List.mem_of_getElem? (i := 189) rfl)) rfl
theorem tw_1390 : Cond.code ⟨"TopicBroker", "welcome", "(LTopicBroker$Connection;ZZLTopicBroker$Row;)V"⟩ prog_1_method_37_code 5 none ∈ TB := TB_t (tq_6 (List.mem_of_getElem? (i := 190) rfl)) rfl
theorem tw_1391 : Cond.methodLink "TopicBroker" 422 ⟨"TopicBroker$Writer", "variable", "(I)V"⟩ ∈ TB := TB_t (tq_6 (List.mem_of_getElem? (i := 191) rfl)) rfl
theorem tw_1392 : Cond.constantLong "TopicBroker" 425 (403) ∈ TB := TB_t (tq_6 (List.mem_of_getElem? (i := 192) rfl)) rfl
theorem tw_1393 : Cond.methodLink "TopicBroker" 427 ⟨"TopicBroker$Writer", "four", "(J)V"⟩ ∈ TB := TB_t (tq_6 (List.mem_of_getElem? (i := 193) rfl)) rfl
theorem tw_1394 : Cond.methodLink "TopicBroker" 431 ⟨"TopicBroker$Writer", "raw", "(LTopicBroker$Row;)V"⟩ ∈ TB := TB_t (tq_6 (List.mem_of_getElem? (i := 194) rfl)) rfl
theorem tw_1395 : Cond.methodLink "TopicBroker" 392 ⟨"TopicBroker", "sendAgain", "(LTopicBroker$Session;LTopicBroker$Connection;)V"⟩ ∈ TB := TB_t (tq_6 (List.mem_of_getElem? (i := 195) rfl)) rfl
theorem tw_1397 : Cond.instanceMethod ⟨"TopicBroker", "sendAgain", "(LTopicBroker$Session;LTopicBroker$Connection;)V"⟩ ∈ TB := TB_t (tq_6 (List.mem_of_getElem? (i := 197) rfl)) rfl
theorem tw_1398 : Cond.code ⟨"TopicBroker", "sendAgain", "(LTopicBroker$Session;LTopicBroker$Connection;)V"⟩ prog_1_method_38_code 6 none ∈ TB := TB_t (tq_6 (List.mem_of_getElem? (i := 198) rfl)) rfl
theorem tw_1464 : Cond.constantLong "TopicBroker" 634 (1099511627776) ∈ TB := TB_t (tq_7 (List.mem_of_getElem? (i := 24) rfl)) rfl
theorem tw_1465 : Cond.methodLink "TopicBroker" 625 ⟨"TopicBroker$Connection", "quietUntil", "()J"⟩ ∈ TB := TB_t (tq_7 (List.mem_of_getElem? (i := 25) rfl)) rfl
theorem tw_1466 : Cond.instanceMethod ⟨"TopicBroker$Connection", "quietUntil", "()J"⟩ ∈ TB := TB_t (tq_7 (List.mem_of_getElem? (i := 26) rfl)) rfl
theorem tw_1467 : Cond.selects "TopicBroker$Connection" ⟨"TopicBroker$Connection", "quietUntil", "()J"⟩ ⟨"TopicBroker$Connection", "quietUntil", "()J"⟩ ∈ TB := TB_t (tq_7 (List.mem_of_getElem? (i := 27) rfl)) rfl
theorem tw_1468 : Cond.code ⟨"TopicBroker$Connection", "quietUntil", "()J"⟩ prog_2_method_10_code 1 (some .long) ∈ TB := TB_t (tq_7 (List.mem_of_getElem? (i := 28) rfl)) rfl
theorem tw_1469 : Cond.constantLong "TopicBroker$Connection" 86 (1099511627776) ∈ TB := TB_t (tq_7 (List.mem_of_getElem? (i := 29) rfl)) rfl
theorem tw_1470 : Cond.constantLong "TopicBroker$Connection" 91 (3) ∈ TB := TB_t (tq_7 (List.mem_of_getElem? (i := 30) rfl)) rfl
theorem tw_1471 : Cond.constantLong "TopicBroker$Connection" 93 (2) ∈ TB := TB_t (tq_7 (List.mem_of_getElem? (i := 31) rfl)) rfl
theorem tw_1472 : Cond.methodLink "TopicBroker" 141 ⟨"java/lang/Math", "min", "(JJ)J"⟩ ∈ TB := TB_t (tq_7 (List.mem_of_getElem? (i := 32) rfl)) rfl
theorem tw_1475 : Cond.methodLink "TopicBroker" 628 ⟨"TopicBroker$Session", "willTime", "()J"⟩ ∈ TB := TB_t (tq_7 (List.mem_of_getElem? (i := 35) rfl)) rfl
theorem tw_1476 : Cond.instanceMethod ⟨"TopicBroker$Session", "willTime", "()J"⟩ ∈ TB := TB_t (tq_7 (List.mem_of_getElem? (i := 36) rfl)) rfl
theorem tw_1477 : Cond.selects "TopicBroker$Session" ⟨"TopicBroker$Session", "willTime", "()J"⟩ ⟨"TopicBroker$Session", "willTime", "()J"⟩ ∈ TB := TB_t (tq_7 (List.mem_of_getElem? (i := 37) rfl)) rfl
theorem tw_1478 : Cond.code ⟨"TopicBroker$Session", "willTime", "()J"⟩ prog_10_method_16_code 1 (some .long) ∈ TB := TB_t (tq_7 (List.mem_of_getElem? (i := 38) rfl)) rfl
theorem tw_1479 : Cond.constantLong "TopicBroker$Session" 101 (1099511627776) ∈ TB := TB_t (tq_7 (List.mem_of_getElem? (i := 39) rfl)) rfl
theorem tw_1480 : Cond.methodLink "TopicBroker" 631 ⟨"TopicBroker$Session", "endTime", "()J"⟩ ∈ TB := TB_t (tq_7 (List.mem_of_getElem? (i := 40) rfl)) rfl
theorem tw_1481 : Cond.instanceMethod ⟨"TopicBroker$Session", "endTime", "()J"⟩ ∈ TB := TB_t (tq_7 (List.mem_of_getElem? (i := 41) rfl)) rfl
theorem tw_1482 : Cond.selects "TopicBroker$Session" ⟨"TopicBroker$Session", "endTime", "()J"⟩ ⟨"TopicBroker$Session", "endTime", "()J"⟩ ∈ TB := TB_t (tq_7 (List.mem_of_getElem? (i := 42) rfl)) rfl
theorem tw_1483 : Cond.code ⟨"TopicBroker$Session", "endTime", "()J"⟩ prog_10_method_17_code 1 (some .long) ∈ TB := TB_t (tq_7 (List.mem_of_getElem? (i := 43) rfl)) rfl
theorem tw_1484 : Cond.constantLong "TopicBroker$Session" 113 (4294967295) ∈ TB := TB_t (tq_7 (List.mem_of_getElem? (i := 44) rfl)) rfl
theorem tw_1485 : Cond.methodLink "TopicBroker" 636 ⟨"java/lang/Math", "max", "(JJ)J"⟩ ∈ TB := TB_t (tq_7 (List.mem_of_getElem? (i := 45) rfl)) rfl
theorem tw_1492 : Cond.methodLink "TopicBroker" 622 ⟨"TopicBroker$Retained", "purge", "(I)V"⟩ ∈ TB := TB_t (tq_7 (List.mem_of_getElem? (i := 52) rfl)) rfl
theorem tw_1493 : Cond.instanceMethod ⟨"TopicBroker$Retained", "purge", "(I)V"⟩ ∈ TB := TB_t (tq_7 (List.mem_of_getElem? (i := 53) rfl)) rfl
theorem tw_1494 : Cond.selects "TopicBroker$Retained" ⟨"TopicBroker$Retained", "purge", "(I)V"⟩ ⟨"TopicBroker$Retained", "purge", "(I)V"⟩ ∈ TB := TB_t (tq_7 (List.mem_of_getElem? (i := 54) rfl)) rfl
theorem tw_1495 : Cond.code ⟨"TopicBroker$Retained", "purge", "(I)V"⟩ prog_8_method_5_code 4 none ∈ TB := TB_t (tq_7 (List.mem_of_getElem? (i := 55) rfl)) rfl
