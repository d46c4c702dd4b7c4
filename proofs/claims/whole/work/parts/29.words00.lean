theorem tp_3 : Cond.selects "TopicBroker" ⟨"TopicBroker", "greeted", "()I"⟩ ⟨"TopicBroker", "greeted", "()I"⟩ ∈ TB := TB_in (List.mem_append_left _ (List.mem_of_getElem? (i := 3) rfl)) rfl
theorem tp_4 : Cond.selects "TopicBroker" ⟨"TopicBroker", "countSessions", "()I"⟩ ⟨"TopicBroker", "countSessions", "()I"⟩ ∈ TB := TB_in (List.mem_append_left _ (List.mem_of_getElem? (i := 4) rfl)) rfl
theorem tp_5 : Cond.selects "TopicBroker" ⟨"TopicBroker", "find", "(LTopicBroker$Row;)LTopicBroker$Session;"⟩ ⟨"TopicBroker", "find", "(LTopicBroker$Row;)LTopicBroker$Session;"⟩ ∈ TB := TB_in (List.mem_append_left _ (List.mem_of_getElem? (i := 5) rfl)) rfl
theorem tp_6 : Cond.selects "TopicBroker" ⟨"TopicBroker", "publish", "(LTopicBroker$Connection;LTopicBroker$Session;I)I"⟩ ⟨"TopicBroker", "publish", "(LTopicBroker$Connection;LTopicBroker$Session;I)I"⟩ ∈ TB := TB_in (List.mem_append_left _ (List.mem_of_getElem? (i := 6) rfl)) rfl
theorem tp_7 : Cond.selects "TopicBroker" ⟨"TopicBroker", "answer", "(LTopicBroker$Connection;III)V"⟩ ⟨"TopicBroker", "answer", "(LTopicBroker$Connection;III)V"⟩ ∈ TB := TB_in (List.mem_append_left _ (List.mem_of_getElem? (i := 7) rfl)) rfl
theorem tp_8 : Cond.selects "TopicBroker" ⟨"TopicBroker", "carry", "(LTopicBroker$Connection;LTopicBroker$Session;LTopicBroker$Message;I)V"⟩ ⟨"TopicBroker", "carry", "(LTopicBroker$Connection;LTopicBroker$Session;LTopicBroker$Message;I)V"⟩ ∈ TB := TB_in (List.mem_append_left _ (List.mem_of_getElem? (i := 8) rfl)) rfl
theorem tp_9 : Cond.selects "TopicBroker" ⟨"TopicBroker", "distribute", "(LTopicBroker$Message;LTopicBroker$Session;)Z"⟩ ⟨"TopicBroker", "distribute", "(LTopicBroker$Message;LTopicBroker$Session;)Z"⟩ ∈ TB := TB_in (List.mem_append_left _ (List.mem_of_getElem? (i := 9) rfl)) rfl
theorem tp_10 : Cond.selects "TopicBroker" ⟨"TopicBroker", "receiver", "(LTopicBroker$Session;LTopicBroker$Subscription;LTopicBroker$Session;)LTopicBroker$Session;"⟩ ⟨"TopicBroker", "receiver", "(LTopicBroker$Session;LTopicBroker$Subscription;LTopicBroker$Session;)LTopicBroker$Session;"⟩ ∈ TB := TB_in (List.mem_append_left _ (List.mem_of_getElem? (i := 10) rfl)) rfl
theorem tp_11 : Cond.selects "TopicBroker" ⟨"TopicBroker", "hand", "(LTopicBroker$Session;LTopicBroker$Subscription;LTopicBroker$Message;Z)LTopicBroker$Delivery;"⟩ ⟨"TopicBroker", "hand", "(LTopicBroker$Session;LTopicBroker$Subscription;LTopicBroker$Message;Z)LTopicBroker$Delivery;"⟩ ∈ TB := TB_in (List.mem_append_left _ (List.mem_of_getElem? (i := 11) rfl)) rfl
theorem tp_12 : Cond.selects "TopicBroker" ⟨"TopicBroker", "deliver", "(LTopicBroker$Session;LTopicBroker$Delivery;Z)V"⟩ ⟨"TopicBroker", "deliver", "(LTopicBroker$Session;LTopicBroker$Delivery;Z)V"⟩ ∈ TB := TB_in (List.mem_append_left _ (List.mem_of_getElem? (i := 12) rfl)) rfl
theorem tp_13 : Cond.selects "TopicBroker" ⟨"TopicBroker", "answered", "(LTopicBroker$Connection;LTopicBroker$Session;II)I"⟩ ⟨"TopicBroker", "answered", "(LTopicBroker$Connection;LTopicBroker$Session;II)I"⟩ ∈ TB := TB_in (List.mem_append_left _ (List.mem_of_getElem? (i := 13) rfl)) rfl
theorem tp_14 : Cond.selects "TopicBroker" ⟨"TopicBroker", "received", "(LTopicBroker$Connection;LTopicBroker$Session;II)V"⟩ ⟨"TopicBroker", "received", "(LTopicBroker$Connection;LTopicBroker$Session;II)V"⟩ ∈ TB := TB_in (List.mem_append_left _ (List.mem_of_getElem? (i := 14) rfl)) rfl
theorem tp_15 : Cond.selects "TopicBroker" ⟨"TopicBroker", "goOn", "(LTopicBroker$Session;)V"⟩ ⟨"TopicBroker", "goOn", "(LTopicBroker$Session;)V"⟩ ∈ TB := TB_in (List.mem_append_left _ (List.mem_of_getElem? (i := 15) rfl)) rfl
theorem tp_16 : Cond.selects "TopicBroker" ⟨"TopicBroker", "subscribe", "(LTopicBroker$Connection;LTopicBroker$Session;I)I"⟩ ⟨"TopicBroker", "subscribe", "(LTopicBroker$Connection;LTopicBroker$Session;I)I"⟩ ∈ TB := TB_in (List.mem_append_left _ (List.mem_of_getElem? (i := 16) rfl)) rfl
theorem tp_17 : Cond.selects "TopicBroker" ⟨"TopicBroker", "checkEntries", "()I"⟩ ⟨"TopicBroker", "checkEntries", "()I"⟩ ∈ TB := TB_in (List.mem_append_left _ (List.mem_of_getElem? (i := 17) rfl)) rfl
theorem tp_18 : Cond.selects "TopicBroker" ⟨"TopicBroker", "giveRetained", "(LTopicBroker$Session;LTopicBroker$Subscription;)V"⟩ ⟨"TopicBroker", "giveRetained", "(LTopicBroker$Session;LTopicBroker$Subscription;)V"⟩ ∈ TB := TB_in (List.mem_append_left _ (List.mem_of_getElem? (i := 18) rfl)) rfl
theorem tp_19 : Cond.selects "TopicBroker" ⟨"TopicBroker", "unsubscribe", "(LTopicBroker$Connection;LTopicBroker$Session;I)I"⟩ ⟨"TopicBroker", "unsubscribe", "(LTopicBroker$Connection;LTopicBroker$Session;I)I"⟩ ∈ TB := TB_in (List.mem_append_left _ (List.mem_of_getElem? (i := 19) rfl)) rfl
theorem tp_20 : Cond.selects "TopicBroker" ⟨"TopicBroker", "ping", "(LTopicBroker$Connection;I)I"⟩ ⟨"TopicBroker", "ping", "(LTopicBroker$Connection;I)I"⟩ ∈ TB := TB_in (List.mem_append_left _ (List.mem_of_getElem? (i := 20) rfl)) rfl
theorem tp_21 : Cond.selects "TopicBroker" ⟨"TopicBroker", "leave", "(LTopicBroker$Session;I)I"⟩ ⟨"TopicBroker", "leave", "(LTopicBroker$Session;I)I"⟩ ∈ TB := TB_in (List.mem_append_left _ (List.mem_of_getElem? (i := 21) rfl)) rfl
theorem tp_23 : Cond.selects "TopicBroker" ⟨"TopicBroker", "makeId", "()LTopicBroker$Row;"⟩ ⟨"TopicBroker", "makeId", "()LTopicBroker$Row;"⟩ ∈ TB := TB_in (List.mem_append_left _ (List.mem_of_getElem? (i := 23) rfl)) rfl
theorem tp_24 : Cond.selects "TopicBroker" ⟨"TopicBroker", "autoId", "()LTopicBroker$Row;"⟩ ⟨"TopicBroker", "autoId", "()LTopicBroker$Row;"⟩ ∈ TB := TB_in (List.mem_append_left _ (List.mem_of_getElem? (i := 24) rfl)) rfl
theorem tp_25 : Cond.selects "TopicBroker" ⟨"TopicBroker", "sayFarewell", "(LTopicBroker$Connection;I)V"⟩ ⟨"TopicBroker", "sayFarewell", "(LTopicBroker$Connection;I)V"⟩ ∈ TB := TB_in (List.mem_append_left _ (List.mem_of_getElem? (i := 25) rfl)) rfl
theorem tp_26 : Cond.selects "TopicBroker" ⟨"TopicBroker", "lost", "(LTopicBroker$Connection;)V"⟩ ⟨"TopicBroker", "lost", "(LTopicBroker$Connection;)V"⟩ ∈ TB := TB_in (List.mem_append_left _ (List.mem_of_getElem? (i := 26) rfl)) rfl
theorem tp_27 : Cond.selects "TopicBroker" ⟨"TopicBroker", "comes", "(LTopicBroker$Session;)V"⟩ ⟨"TopicBroker", "comes", "(LTopicBroker$Session;)V"⟩ ∈ TB := TB_in (List.mem_append_left _ (List.mem_of_getElem? (i := 27) rfl)) rfl
theorem tp_28 : Cond.selects "TopicBroker" ⟨"TopicBroker", "remove", "(LTopicBroker$Session;)V"⟩ ⟨"TopicBroker", "remove", "(LTopicBroker$Session;)V"⟩ ∈ TB := TB_in (List.mem_append_left _ (List.mem_of_getElem? (i := 28) rfl)) rfl
theorem tp_29 : Cond.selects "TopicBroker" ⟨"TopicBroker", "end", "(LTopicBroker$Session;)V"⟩ ⟨"TopicBroker", "end", "(LTopicBroker$Session;)V"⟩ ∈ TB := TB_in (List.mem_append_left _ (List.mem_of_getElem? (i := 29) rfl)) rfl
theorem tp_30 : Cond.selects "TopicBroker" ⟨"TopicBroker", "makeSession", "(LTopicBroker$Row;)LTopicBroker$Session;"⟩ ⟨"TopicBroker", "makeSession", "(LTopicBroker$Row;)LTopicBroker$Session;"⟩ ∈ TB := TB_in (List.mem_append_left _ (List.mem_of_getElem? (i := 30) rfl)) rfl
theorem tp_31 : Cond.selects "TopicBroker" ⟨"TopicBroker", "welcome", "(LTopicBroker$Connection;ZZLTopicBroker$Row;)V"⟩ ⟨"TopicBroker", "welcome", "(LTopicBroker$Connection;ZZLTopicBroker$Row;)V"⟩ ∈ TB := TB_in (List.mem_append_left _ (List.mem_of_getElem? (i := 31) rfl)) rfl
theorem tp_32 : Cond.selects "TopicBroker" ⟨"TopicBroker", "sendAgain", "(LTopicBroker$Session;LTopicBroker$Connection;)V"⟩ ⟨"TopicBroker", "sendAgain", "(LTopicBroker$Session;LTopicBroker$Connection;)V"⟩ ∈ TB := TB_in (List.mem_append_left _ (List.mem_of_getElem? (i := 32) rfl)) rfl
theorem tw_1 : Cond.initialized "TopicBroker" ∈ TB := TB_t (tq_1 (List.mem_of_getElem? (i := 1) rfl)) rfl
theorem tw_2 : Cond.initialized "TopicBroker$Connection" ∈ TB := TB_t (tq_1 (List.mem_of_getElem? (i := 2) rfl)) rfl
theorem tw_3 : Cond.initialized "TopicBroker$Retained" ∈ TB := TB_t (tq_1 (List.mem_of_getElem? (i := 3) rfl)) rfl
theorem tw_4 : Cond.initialized "TopicBroker$Reader" ∈ TB := TB_t (tq_1 (List.mem_of_getElem? (i := 4) rfl)) rfl
theorem tw_5 : Cond.initialized "TopicBroker$Row" ∈ TB := TB_t (tq_1 (List.mem_of_getElem? (i := 5) rfl)) rfl
theorem tw_6 : Cond.initialized "TopicBroker$Properties" ∈ TB := TB_t (tq_1 (List.mem_of_getElem? (i := 6) rfl)) rfl
theorem tw_7 : Cond.initialized "TopicBroker$Writer" ∈ TB := TB_t (tq_1 (List.mem_of_getElem? (i := 7) rfl)) rfl
theorem tw_8 : Cond.initialized "TopicBroker$Greeting" ∈ TB := TB_t (tq_1 (List.mem_of_getElem? (i := 8) rfl)) rfl
theorem tw_9 : Cond.initialized "TopicBroker$Delivery" ∈ TB := TB_t (tq_1 (List.mem_of_getElem? (i := 9) rfl)) rfl
theorem tw_18 : Cond.initialized "java/util/Arrays" ∈ TB := TB_t (tq_1 (List.mem_of_getElem? (i := 18) rfl)) rfl
theorem tw_21 : Cond.initialized "java/lang/String" ∈ TB := TB_t (tq_1 (List.mem_of_getElem? (i := 21) rfl)) rfl
theorem tw_26 : Cond.initialized "jdk/internal/util/Preconditions" ∈ TB := TB_t (tq_1 (List.mem_of_getElem? (i := 26) rfl)) rfl
theorem tw_27 : Cond.initialized "java/lang/StringLatin1" ∈ TB := TB_t (tq_1 (List.mem_of_getElem? (i := 27) rfl)) rfl
theorem tw_28 : Cond.initialized "TopicBroker$Message" ∈ TB := TB_t (tq_1 (List.mem_of_getElem? (i := 28) rfl)) rfl
theorem tw_29 : Cond.initialized "TopicBroker$Subscription" ∈ TB := TB_t (tq_1 (List.mem_of_getElem? (i := 29) rfl)) rfl
theorem tw_30 : Cond.initialized "TopicBroker$Session" ∈ TB := TB_t (tq_1 (List.mem_of_getElem? (i := 30) rfl)) rfl
theorem tw_36 : Cond.methodLink "TopicBroker" 3 ⟨"java/lang/Object", "<init>", "()V"⟩ ∈ TB := TB_t (tq_1 (List.mem_of_getElem? (i := 36) rfl)) rfl
theorem tw_38 : Cond.code ⟨"java/lang/Object", "<init>", "()V"⟩ object_method_1_code 1 none ∈ TB := TB_t (tq_1 (List.mem_of_getElem? (i := 38) rfl)) rfl
theorem tw_39 : Cond.classLink "TopicBroker" 9 "TopicBroker$Connection" ∈ TB := TB_t (tq_1 (List.mem_of_getElem? (i := 39) rfl)) rfl
theorem tw_41 : Cond.instantiable "TopicBroker$Connection" 13 ∈ TB := TB_t (tq_1 (List.mem_of_getElem? (i := 41) rfl)) rfl
theorem tw_42 : Cond.methodLink "TopicBroker" 15 ⟨"TopicBroker$Connection", "<init>", "(I)V"⟩ ∈ TB := TB_t (tq_1 (List.mem_of_getElem? (i := 42) rfl)) rfl
theorem tw_43 : Cond.instanceMethod ⟨"TopicBroker$Connection", "<init>", "(I)V"⟩ ∈ TB := TB_t (tq_1 (List.mem_of_getElem? (i := 43) rfl)) rfl
theorem tw_44 : Cond.code ⟨"TopicBroker$Connection", "<init>", "(I)V"⟩ prog_2_method_1_code 2 none ∈ TB := TB_t (tq_1 (List.mem_of_getElem? (i := 44) rfl)) rfl
theorem tw_45 : Cond.methodLink "TopicBroker$Connection" 3 ⟨"java/lang/Object", "<init>", "()V"⟩ ∈ TB := TB_t (tq_1 (List.mem_of_getElem? (i := 45) rfl)) rfl
theorem tw_46 : Cond.classLink "TopicBroker$Connection" 18 "TopicBroker$Row" ∈ TB := TB_t (tq_1 (List.mem_of_getElem? (i := 46) rfl)) rfl
theorem tw_48 : Cond.fieldLink "TopicBroker$Connection" 24 "TopicBroker$Connection" "number" "I" ∈ TB := TB_t (tq_1 (List.mem_of_getElem? (i := 48) rfl)) rfl
theorem tw_50 : Cond.fieldLink "TopicBroker$Connection" 28 "TopicBroker$Connection" "open" "Z" ∈ TB := TB_t (tq_1 (List.mem_of_getElem? (i := 50) rfl)) rfl
theorem tw_52 : Cond.fieldLink "TopicBroker$Connection" 35 "TopicBroker$Connection" "session" "LTopicBroker$Session;" ∈ TB := TB_t (tq_1 (List.mem_of_getElem? (i := 52) rfl)) rfl
theorem tw_53 : Cond.fieldLink "TopicBroker" 286 "TopicBroker$Connection" "session" "LTopicBroker$Session;" ∈ TB := TB_t (tq_1 (List.mem_of_getElem? (i := 53) rfl)) rfl
theorem tw_54 : Cond.fieldLink "TopicBroker$Connection" 9 "TopicBroker$Connection" "sending" "[I" ∈ TB := TB_t (tq_1 (List.mem_of_getElem? (i := 54) rfl)) rfl
theorem tw_56 : Cond.fieldLink "TopicBroker$Connection" 32 "TopicBroker$Connection" "used" "I" ∈ TB := TB_t (tq_1 (List.mem_of_getElem? (i := 56) rfl)) rfl
theorem tw_58 : Cond.fieldLink "TopicBroker$Connection" 39 "TopicBroker$Connection" "choked" "Z" ∈ TB := TB_t (tq_1 (List.mem_of_getElem? (i := 58) rfl)) rfl
theorem tw_59 : Cond.fieldLink "TopicBroker" 619 "TopicBroker$Connection" "choked" "Z" ∈ TB := TB_t (tq_1 (List.mem_of_getElem? (i := 59) rfl)) rfl
theorem tw_60 : Cond.fieldLink "TopicBroker$Connection" 76 "TopicBroker$Connection" "sent" "I" ∈ TB := TB_t (tq_1 (List.mem_of_getElem? (i := 60) rfl)) rfl
theorem tw_61 : Cond.fieldLink "TopicBroker" 265 "TopicBroker$Connection" "sent" "I" ∈ TB := TB_t (tq_1 (List.mem_of_getElem? (i := 61) rfl)) rfl
theorem tw_62 : Cond.fieldLink "TopicBroker$Connection" 15 "TopicBroker$Connection" "packet" "[I" ∈ TB := TB_t (tq_1 (List.mem_of_getElem? (i := 62) rfl)) rfl
theorem tw_63 : Cond.fieldLink "TopicBroker" 271 "TopicBroker$Connection" "packet" "[I" ∈ TB := TB_t (tq_1 (List.mem_of_getElem? (i := 63) rfl)) rfl
theorem tw_64 : Cond.fieldLink "TopicBroker$Connection" 42 "TopicBroker$Connection" "come" "I" ∈ TB := TB_t (tq_1 (List.mem_of_getElem? (i := 64) rfl)) rfl
theorem tw_66 : Cond.fieldLink "TopicBroker$Connection" 52 "TopicBroker$Connection" "head" "I" ∈ TB := TB_t (tq_1 (List.mem_of_getElem? (i := 66) rfl)) rfl
theorem tw_67 : Cond.fieldLink "TopicBroker" 274 "TopicBroker$Connection" "head" "I" ∈ TB := TB_t (tq_1 (List.mem_of_getElem? (i := 67) rfl)) rfl
theorem tw_68 : Cond.fieldLink "TopicBroker$Connection" 45 "TopicBroker$Connection" "whole" "I" ∈ TB := TB_t (tq_1 (List.mem_of_getElem? (i := 68) rfl)) rfl
theorem tw_69 : Cond.fieldLink "TopicBroker" 277 "TopicBroker$Connection" "whole" "I" ∈ TB := TB_t (tq_1 (List.mem_of_getElem? (i := 69) rfl)) rfl
theorem tw_70 : Cond.fieldLink "TopicBroker$Connection" 20 "TopicBroker$Connection" "aliases" "[LTopicBroker$Row;" ∈ TB := TB_t (tq_1 (List.mem_of_getElem? (i := 70) rfl)) rfl
theorem tw_71 : Cond.fieldLink "TopicBroker$Connection" 88 "TopicBroker$Connection" "last" "I" ∈ TB := TB_t (tq_1 (List.mem_of_getElem? (i := 71) rfl)) rfl
theorem tw_72 : Cond.fieldLink "TopicBroker" 268 "TopicBroker$Connection" "last" "I" ∈ TB := TB_t (tq_1 (List.mem_of_getElem? (i := 72) rfl)) rfl
theorem tw_100 : Cond.arrayClass .int ∈ TB := TB_t (tq_1 (List.mem_of_getElem? (i := 100) rfl)) rfl
theorem tw_101 : Cond.classLink "TopicBroker" 18 "TopicBroker$Session" ∈ TB := TB_t (tq_1 (List.mem_of_getElem? (i := 101) rfl)) rfl
theorem tw_103 : Cond.classLink "TopicBroker" 24 "TopicBroker$Retained" ∈ TB := TB_t (tq_1 (List.mem_of_getElem? (i := 103) rfl)) rfl
theorem tw_104 : Cond.instantiable "TopicBroker$Retained" 2 ∈ TB := TB_t (tq_1 (List.mem_of_getElem? (i := 104) rfl)) rfl
theorem tw_106 : Cond.instanceMethod ⟨"TopicBroker$Retained", "<init>", "()V"⟩ ∈ TB := TB_t (tq_1 (List.mem_of_getElem? (i := 106) rfl)) rfl
theorem tw_107 : Cond.code ⟨"TopicBroker$Retained", "<init>", "()V"⟩ prog_8_method_1_code 1 none ∈ TB := TB_t (tq_1 (List.mem_of_getElem? (i := 107) rfl)) rfl
theorem tw_108 : Cond.methodLink "TopicBroker$Retained" 3 ⟨"java/lang/Object", "<init>", "()V"⟩ ∈ TB := TB_t (tq_1 (List.mem_of_getElem? (i := 108) rfl)) rfl
theorem tw_109 : Cond.classLink "TopicBroker$Retained" 9 "TopicBroker$Message" ∈ TB := TB_t (tq_1 (List.mem_of_getElem? (i := 109) rfl)) rfl
theorem tw_111 : Cond.fieldLink "TopicBroker$Retained" 11 "TopicBroker$Retained" "messages" "[LTopicBroker$Message;" ∈ TB := TB_t (tq_1 (List.mem_of_getElem? (i := 111) rfl)) rfl
theorem tw_112 : Cond.fieldLink "TopicBroker" 597 "TopicBroker$Retained" "messages" "[LTopicBroker$Message;" ∈ TB := TB_t (tq_1 (List.mem_of_getElem? (i := 112) rfl)) rfl
theorem tw_113 : Cond.fieldLink "TopicBroker$Retained" 17 "TopicBroker$Retained" "count" "I" ∈ TB := TB_t (tq_1 (List.mem_of_getElem? (i := 113) rfl)) rfl
theorem tw_114 : Cond.fieldLink "TopicBroker" 244 "TopicBroker$Retained" "count" "I" ∈ TB := TB_t (tq_1 (List.mem_of_getElem? (i := 114) rfl)) rfl
theorem tw_120 : Cond.classLink "TopicBroker" 31 "TopicBroker$Reader" ∈ TB := TB_t (tq_1 (List.mem_of_getElem? (i := 120) rfl)) rfl
theorem tw_121 : Cond.instantiable "TopicBroker$Reader" 5 ∈ TB := TB_t (tq_1 (List.mem_of_getElem? (i := 121) rfl)) rfl
theorem tw_123 : Cond.instanceMethod ⟨"TopicBroker$Reader", "<init>", "()V"⟩ ∈ TB := TB_t (tq_1 (List.mem_of_getElem? (i := 123) rfl)) rfl
theorem tw_124 : Cond.code ⟨"TopicBroker$Reader", "<init>", "()V"⟩ prog_7_method_1_code 1 none ∈ TB := TB_t (tq_1 (List.mem_of_getElem? (i := 124) rfl)) rfl
theorem tw_125 : Cond.methodLink "TopicBroker$Reader" 3 ⟨"java/lang/Object", "<init>", "()V"⟩ ∈ TB := TB_t (tq_1 (List.mem_of_getElem? (i := 125) rfl)) rfl
theorem tw_126 : Cond.classLink "TopicBroker$Reader" 9 "TopicBroker$Row" ∈ TB := TB_t (tq_1 (List.mem_of_getElem? (i := 126) rfl)) rfl
theorem tw_127 : Cond.instantiable "TopicBroker$Row" 1 ∈ TB := TB_t (tq_1 (List.mem_of_getElem? (i := 127) rfl)) rfl
theorem tw_128 : Cond.methodLink "TopicBroker$Reader" 11 ⟨"TopicBroker$Row", "<init>", "([I)V"⟩ ∈ TB := TB_t (tq_1 (List.mem_of_getElem? (i := 128) rfl)) rfl
theorem tw_129 : Cond.instanceMethod ⟨"TopicBroker$Row", "<init>", "([I)V"⟩ ∈ TB := TB_t (tq_1 (List.mem_of_getElem? (i := 129) rfl)) rfl
theorem tw_130 : Cond.code ⟨"TopicBroker$Row", "<init>", "([I)V"⟩ prog_9_method_1_code 2 none ∈ TB := TB_t (tq_1 (List.mem_of_getElem? (i := 130) rfl)) rfl
theorem tw_131 : Cond.methodLink "TopicBroker$Row" 3 ⟨"java/lang/Object", "<init>", "()V"⟩ ∈ TB := TB_t (tq_1 (List.mem_of_getElem? (i := 131) rfl)) rfl
theorem tw_132 : Cond.fieldLink "TopicBroker$Row" 9 "TopicBroker$Row" "bytes" "[I" ∈ TB := TB_t (tq_1 (List.mem_of_getElem? (i := 132) rfl)) rfl
theorem tw_133 : Cond.fieldLink "TopicBroker$Reader" 20 "TopicBroker$Row" "bytes" "[I" ∈ TB := TB_t (tq_1 (List.mem_of_getElem? (i := 133) rfl)) rfl
theorem tw_134 : Cond.fieldLink "TopicBroker$Writer" 22 "TopicBroker$Row" "bytes" "[I" ∈ TB := TB_t (tq_1 (List.mem_of_getElem? (i := 134) rfl)) rfl
theorem tw_138 : Cond.fieldLink "TopicBroker$Reader" 14 "TopicBroker$Reader" "nothing" "LTopicBroker$Row;" ∈ TB := TB_t (tq_1 (List.mem_of_getElem? (i := 138) rfl)) rfl
theorem tw_139 : Cond.fieldLink "TopicBroker$Reader" 24 "TopicBroker$Reader" "bytes" "[I" ∈ TB := TB_t (tq_1 (List.mem_of_getElem? (i := 139) rfl)) rfl
theorem tw_140 : Cond.fieldLink "TopicBroker$Properties" 43 "TopicBroker$Reader" "bytes" "[I" ∈ TB := TB_t (tq_1 (List.mem_of_getElem? (i := 140) rfl)) rfl
theorem tw_141 : Cond.fieldLink "TopicBroker$Reader" 25 "TopicBroker$Reader" "at" "I" ∈ TB := TB_t (tq_1 (List.mem_of_getElem? (i := 141) rfl)) rfl
theorem tw_142 : Cond.fieldLink "TopicBroker$Properties" 59 "TopicBroker$Reader" "at" "I" ∈ TB := TB_t (tq_1 (List.mem_of_getElem? (i := 142) rfl)) rfl
theorem tw_143 : Cond.fieldLink "TopicBroker" 575 "TopicBroker$Reader" "at" "I" ∈ TB := TB_t (tq_1 (List.mem_of_getElem? (i := 143) rfl)) rfl
theorem tw_144 : Cond.fieldLink "TopicBroker$Reader" 35 "TopicBroker$Reader" "limit" "I" ∈ TB := TB_t (tq_1 (List.mem_of_getElem? (i := 144) rfl)) rfl
theorem tw_145 : Cond.fieldLink "TopicBroker$Properties" 56 "TopicBroker$Reader" "limit" "I" ∈ TB := TB_t (tq_1 (List.mem_of_getElem? (i := 145) rfl)) rfl
theorem tw_146 : Cond.fieldLink "TopicBroker$Reader" 38 "TopicBroker$Reader" "fault" "I" ∈ TB := TB_t (tq_1 (List.mem_of_getElem? (i := 146) rfl)) rfl
theorem tw_147 : Cond.fieldLink "TopicBroker$Greeting" 118 "TopicBroker$Reader" "fault" "I" ∈ TB := TB_t (tq_1 (List.mem_of_getElem? (i := 147) rfl)) rfl
theorem tw_148 : Cond.fieldLink "TopicBroker" 341 "TopicBroker$Reader" "fault" "I" ∈ TB := TB_t (tq_1 (List.mem_of_getElem? (i := 148) rfl)) rfl
theorem tw_160 : Cond.classLink "TopicBroker" 38 "TopicBroker$Properties" ∈ TB := TB_t (tq_1 (List.mem_of_getElem? (i := 160) rfl)) rfl
theorem tw_161 : Cond.instantiable "TopicBroker$Properties" 8 ∈ TB := TB_t (tq_1 (List.mem_of_getElem? (i := 161) rfl)) rfl
theorem tw_163 : Cond.instanceMethod ⟨"TopicBroker$Properties", "<init>", "()V"⟩ ∈ TB := TB_t (tq_1 (List.mem_of_getElem? (i := 163) rfl)) rfl
theorem tw_164 : Cond.code ⟨"TopicBroker$Properties", "<init>", "()V"⟩ prog_6_method_1_code 1 none ∈ TB := TB_t (tq_1 (List.mem_of_getElem? (i := 164) rfl)) rfl
theorem tw_165 : Cond.methodLink "TopicBroker$Properties" 3 ⟨"java/lang/Object", "<init>", "()V"⟩ ∈ TB := TB_t (tq_1 (List.mem_of_getElem? (i := 165) rfl)) rfl
theorem tw_166 : Cond.fieldLink "TopicBroker$Properties" 28 "TopicBroker$Properties" "told" "J" ∈ TB := TB_t (tq_1 (List.mem_of_getElem? (i := 166) rfl)) rfl
theorem tw_167 : Cond.fieldLink "TopicBroker$Properties" 9 "TopicBroker$Properties" "numbers" "[J" ∈ TB := TB_t (tq_1 (List.mem_of_getElem? (i := 167) rfl)) rfl
theorem tw_168 : Cond.fieldLink "TopicBroker$Properties" 15 "TopicBroker$Properties" "from" "[I" ∈ TB := TB_t (tq_1 (List.mem_of_getElem? (i := 168) rfl)) rfl
theorem tw_169 : Cond.fieldLink "TopicBroker$Properties" 19 "TopicBroker$Properties" "to" "[I" ∈ TB := TB_t (tq_1 (List.mem_of_getElem? (i := 169) rfl)) rfl
theorem tw_170 : Cond.fieldLink "TopicBroker$Properties" 22 "TopicBroker$Properties" "users" "[I" ∈ TB := TB_t (tq_1 (List.mem_of_getElem? (i := 170) rfl)) rfl
theorem tw_171 : Cond.fieldLink "TopicBroker$Properties" 32 "TopicBroker$Properties" "usersCount" "I" ∈ TB := TB_t (tq_1 (List.mem_of_getElem? (i := 171) rfl)) rfl
theorem tw_172 : Cond.fieldLink "TopicBroker$Properties" 25 "TopicBroker$Properties" "packet" "[I" ∈ TB := TB_t (tq_1 (List.mem_of_getElem? (i := 172) rfl)) rfl
theorem tw_173 : Cond.fieldLink "TopicBroker$Properties" 36 "TopicBroker$Properties" "response" "LTopicBroker$Row;" ∈ TB := TB_t (tq_1 (List.mem_of_getElem? (i := 173) rfl)) rfl
theorem tw_191 : Cond.arrayClass .long ∈ TB := TB_t (tq_1 (List.mem_of_getElem? (i := 191) rfl)) rfl
theorem tw_192 : Cond.classLink "TopicBroker" 45 "TopicBroker$Writer" ∈ TB := TB_t (tq_1 (List.mem_of_getElem? (i := 192) rfl)) rfl
theorem tw_193 : Cond.instantiable "TopicBroker$Writer" 3 ∈ TB := TB_t (tq_1 (List.mem_of_getElem? (i := 193) rfl)) rfl
theorem tw_195 : Cond.instanceMethod ⟨"TopicBroker$Writer", "<init>", "()V"⟩ ∈ TB := TB_t (tq_1 (List.mem_of_getElem? (i := 195) rfl)) rfl
theorem tw_196 : Cond.code ⟨"TopicBroker$Writer", "<init>", "()V"⟩ prog_12_method_1_code 1 none ∈ TB := TB_t (tq_1 (List.mem_of_getElem? (i := 196) rfl)) rfl
theorem tw_197 : Cond.methodLink "TopicBroker$Writer" 3 ⟨"java/lang/Object", "<init>", "()V"⟩ ∈ TB := TB_t (tq_1 (List.mem_of_getElem? (i := 197) rfl)) rfl
theorem tw_198 : Cond.fieldLink "TopicBroker$Writer" 15 "TopicBroker$Writer" "first" "I" ∈ TB := TB_t (tq_1 (List.mem_of_getElem? (i := 198) rfl)) rfl
theorem tw_199 : Cond.fieldLink "TopicBroker$Connection" 64 "TopicBroker$Writer" "first" "I" ∈ TB := TB_t (tq_1 (List.mem_of_getElem? (i := 199) rfl)) rfl
theorem tw_200 : Cond.fieldLink "TopicBroker$Writer" 9 "TopicBroker$Writer" "body" "[I" ∈ TB := TB_t (tq_1 (List.mem_of_getElem? (i := 200) rfl)) rfl
theorem tw_201 : Cond.fieldLink "TopicBroker$Connection" 67 "TopicBroker$Writer" "body" "[I" ∈ TB := TB_t (tq_1 (List.mem_of_getElem? (i := 201) rfl)) rfl
theorem tw_202 : Cond.fieldLink "TopicBroker$Writer" 19 "TopicBroker$Writer" "count" "I" ∈ TB := TB_t (tq_1 (List.mem_of_getElem? (i := 202) rfl)) rfl
theorem tw_203 : Cond.fieldLink "TopicBroker$Connection" 55 "TopicBroker$Writer" "count" "I" ∈ TB := TB_t (tq_1 (List.mem_of_getElem? (i := 203) rfl)) rfl
theorem tw_211 : Cond.classLink "TopicBroker" 52 "TopicBroker$Greeting" ∈ TB := TB_t (tq_1 (List.mem_of_getElem? (i := 211) rfl)) rfl
theorem tw_212 : Cond.instantiable "TopicBroker$Greeting" 8 ∈ TB := TB_t (tq_1 (List.mem_of_getElem? (i := 212) rfl)) rfl
theorem tw_214 : Cond.instanceMethod ⟨"TopicBroker$Greeting", "<init>", "()V"⟩ ∈ TB := TB_t (tq_1 (List.mem_of_getElem? (i := 214) rfl)) rfl
theorem tw_215 : Cond.code ⟨"TopicBroker$Greeting", "<init>", "()V"⟩ prog_4_method_1_code 1 none ∈ TB := TB_t (tq_1 (List.mem_of_getElem? (i := 215) rfl)) rfl
theorem tw_216 : Cond.methodLink "TopicBroker$Greeting" 3 ⟨"java/lang/Object", "<init>", "()V"⟩ ∈ TB := TB_t (tq_1 (List.mem_of_getElem? (i := 216) rfl)) rfl
theorem tw_217 : Cond.fieldLink "TopicBroker$Greeting" 90 "TopicBroker$Greeting" "id" "LTopicBroker$Row;" ∈ TB := TB_t (tq_1 (List.mem_of_getElem? (i := 217) rfl)) rfl
theorem tw_218 : Cond.fieldLink "TopicBroker" 362 "TopicBroker$Greeting" "id" "LTopicBroker$Row;" ∈ TB := TB_t (tq_1 (List.mem_of_getElem? (i := 218) rfl)) rfl
theorem tw_219 : Cond.fieldLink "TopicBroker$Greeting" 49 "TopicBroker$Greeting" "clean" "Z" ∈ TB := TB_t (tq_1 (List.mem_of_getElem? (i := 219) rfl)) rfl
theorem tw_220 : Cond.fieldLink "TopicBroker" 375 "TopicBroker$Greeting" "clean" "Z" ∈ TB := TB_t (tq_1 (List.mem_of_getElem? (i := 220) rfl)) rfl
theorem tw_221 : Cond.fieldLink "TopicBroker$Greeting" 56 "TopicBroker$Greeting" "keep" "I" ∈ TB := TB_t (tq_1 (List.mem_of_getElem? (i := 221) rfl)) rfl
theorem tw_222 : Cond.fieldLink "TopicBroker$Greeting" 76 "TopicBroker$Greeting" "expiry" "J" ∈ TB := TB_t (tq_1 (List.mem_of_getElem? (i := 222) rfl)) rfl
theorem tw_223 : Cond.fieldLink "TopicBroker$Greeting" 82 "TopicBroker$Greeting" "most" "I" ∈ TB := TB_t (tq_1 (List.mem_of_getElem? (i := 223) rfl)) rfl
theorem tw_224 : Cond.fieldLink "TopicBroker$Greeting" 87 "TopicBroker$Greeting" "size" "J" ∈ TB := TB_t (tq_1 (List.mem_of_getElem? (i := 224) rfl)) rfl
theorem tw_225 : Cond.fieldLink "TopicBroker$Greeting" 94 "TopicBroker$Greeting" "will" "LTopicBroker$Message;" ∈ TB := TB_t (tq_1 (List.mem_of_getElem? (i := 225) rfl)) rfl
theorem tw_226 : Cond.fieldLink "TopicBroker$Greeting" 98 "TopicBroker$Greeting" "delay" "J" ∈ TB := TB_t (tq_1 (List.mem_of_getElem? (i := 226) rfl)) rfl
theorem tw_244 : Cond.classLink "TopicBroker" 59 "TopicBroker$Delivery" ∈ TB := TB_t (tq_2 (List.mem_of_getElem? (i := 4) rfl)) rfl
theorem tw_245 : Cond.instantiable "TopicBroker$Delivery" 6 ∈ TB := TB_t (tq_2 (List.mem_of_getElem? (i := 5) rfl)) rfl
theorem tw_247 : Cond.instanceMethod ⟨"TopicBroker$Delivery", "<init>", "()V"⟩ ∈ TB := TB_t (tq_2 (List.mem_of_getElem? (i := 7) rfl)) rfl
theorem tw_248 : Cond.code ⟨"TopicBroker$Delivery", "<init>", "()V"⟩ prog_3_method_1_code 1 none ∈ TB := TB_t (tq_2 (List.mem_of_getElem? (i := 8) rfl)) rfl
theorem tw_249 : Cond.methodLink "TopicBroker$Delivery" 1 ⟨"java/lang/Object", "<init>", "()V"⟩ ∈ TB := TB_t (tq_2 (List.mem_of_getElem? (i := 9) rfl)) rfl
theorem tw_250 : Cond.fieldLink "TopicBroker$Delivery" 7 "TopicBroker$Delivery" "message" "LTopicBroker$Message;" ∈ TB := TB_t (tq_2 (List.mem_of_getElem? (i := 10) rfl)) rfl
theorem tw_251 : Cond.fieldLink "TopicBroker$Writer" 32 "TopicBroker$Delivery" "message" "LTopicBroker$Message;" ∈ TB := TB_t (tq_2 (List.mem_of_getElem? (i := 11) rfl)) rfl
theorem tw_252 : Cond.fieldLink "TopicBroker" 558 "TopicBroker$Delivery" "message" "LTopicBroker$Message;" ∈ TB := TB_t (tq_2 (List.mem_of_getElem? (i := 12) rfl)) rfl
theorem tw_253 : Cond.fieldLink "TopicBroker$Delivery" 13 "TopicBroker$Delivery" "quality" "I" ∈ TB := TB_t (tq_2 (List.mem_of_getElem? (i := 13) rfl)) rfl
theorem tw_254 : Cond.fieldLink "TopicBroker$Session" 84 "TopicBroker$Delivery" "quality" "I" ∈ TB := TB_t (tq_2 (List.mem_of_getElem? (i := 14) rfl)) rfl
theorem tw_255 : Cond.fieldLink "TopicBroker$Writer" 38 "TopicBroker$Delivery" "quality" "I" ∈ TB := TB_t (tq_2 (List.mem_of_getElem? (i := 15) rfl)) rfl
theorem tw_256 : Cond.fieldLink "TopicBroker$Delivery" 17 "TopicBroker$Delivery" "retain" "Z" ∈ TB := TB_t (tq_2 (List.mem_of_getElem? (i := 16) rfl)) rfl
theorem tw_257 : Cond.fieldLink "TopicBroker$Writer" 41 "TopicBroker$Delivery" "retain" "Z" ∈ TB := TB_t (tq_2 (List.mem_of_getElem? (i := 17) rfl)) rfl
theorem tw_258 : Cond.fieldLink "TopicBroker$Delivery" 21 "TopicBroker$Delivery" "identifier" "I" ∈ TB := TB_t (tq_2 (List.mem_of_getElem? (i := 18) rfl)) rfl
theorem tw_259 : Cond.fieldLink "TopicBroker$Writer" 74 "TopicBroker$Delivery" "identifier" "I" ∈ TB := TB_t (tq_2 (List.mem_of_getElem? (i := 19) rfl)) rfl
theorem tw_260 : Cond.fieldLink "TopicBroker$Session" 83 "TopicBroker$Delivery" "number" "I" ∈ TB := TB_t (tq_2 (List.mem_of_getElem? (i := 20) rfl)) rfl
theorem tw_261 : Cond.fieldLink "TopicBroker$Writer" 65 "TopicBroker$Delivery" "number" "I" ∈ TB := TB_t (tq_2 (List.mem_of_getElem? (i := 21) rfl)) rfl
theorem tw_262 : Cond.fieldLink "TopicBroker" 442 "TopicBroker$Delivery" "number" "I" ∈ TB := TB_t (tq_2 (List.mem_of_getElem? (i := 22) rfl)) rfl
theorem tw_263 : Cond.fieldLink "TopicBroker" 439 "TopicBroker$Delivery" "released" "Z" ∈ TB := TB_t (tq_2 (List.mem_of_getElem? (i := 23) rfl)) rfl
theorem tw_277 : Cond.fieldLink "TopicBroker" 11 "TopicBroker" "connections" "[LTopicBroker$Connection;" ∈ TB := TB_t (tq_2 (List.mem_of_getElem? (i := 37) rfl)) rfl
theorem tw_278 : Cond.fieldLink "TopicBroker" 20 "TopicBroker" "sessions" "[LTopicBroker$Session;" ∈ TB := TB_t (tq_2 (List.mem_of_getElem? (i := 38) rfl)) rfl
theorem tw_279 : Cond.fieldLink "TopicBroker" 27 "TopicBroker" "store" "LTopicBroker$Retained;" ∈ TB := TB_t (tq_2 (List.mem_of_getElem? (i := 39) rfl)) rfl
theorem tw_280 : Cond.fieldLink "TopicBroker" 34 "TopicBroker" "in" "LTopicBroker$Reader;" ∈ TB := TB_t (tq_2 (List.mem_of_getElem? (i := 40) rfl)) rfl
theorem tw_281 : Cond.fieldLink "TopicBroker" 41 "TopicBroker" "properties" "LTopicBroker$Properties;" ∈ TB := TB_t (tq_2 (List.mem_of_getElem? (i := 41) rfl)) rfl
theorem tw_282 : Cond.fieldLink "TopicBroker" 48 "TopicBroker" "writer" "LTopicBroker$Writer;" ∈ TB := TB_t (tq_2 (List.mem_of_getElem? (i := 42) rfl)) rfl
theorem tw_283 : Cond.fieldLink "TopicBroker" 55 "TopicBroker" "greeting" "LTopicBroker$Greeting;" ∈ TB := TB_t (tq_2 (List.mem_of_getElem? (i := 43) rfl)) rfl
theorem tw_284 : Cond.fieldLink "TopicBroker" 62 "TopicBroker" "passing" "LTopicBroker$Delivery;" ∈ TB := TB_t (tq_2 (List.mem_of_getElem? (i := 44) rfl)) rfl
theorem tw_285 : Cond.fieldLink "TopicBroker" 66 "TopicBroker" "owed" "[I" ∈ TB := TB_t (tq_2 (List.mem_of_getElem? (i := 45) rfl)) rfl
theorem tw_286 : Cond.fieldLink "TopicBroker" 131 "TopicBroker" "time" "I" ∈ TB := TB_t (tq_2 (List.mem_of_getElem? (i := 46) rfl)) rfl
theorem tw_287 : Cond.fieldLink "TopicBroker" 87 "TopicBroker" "taken" "I" ∈ TB := TB_t (tq_2 (List.mem_of_getElem? (i := 47) rfl)) rfl
theorem tw_288 : Cond.fieldLink "TopicBroker" 249 "TopicBroker" "distributed" "I" ∈ TB := TB_t (tq_2 (List.mem_of_getElem? (i := 48) rfl)) rfl
theorem tw_289 : Cond.fieldLink "TopicBroker" 252 "TopicBroker" "dropped" "I" ∈ TB := TB_t (tq_2 (List.mem_of_getElem? (i := 49) rfl)) rfl
theorem tw_290 : Cond.fieldLink "TopicBroker" 134 "TopicBroker" "ended" "I" ∈ TB := TB_t (tq_2 (List.mem_of_getElem? (i := 50) rfl)) rfl
theorem tw_291 : Cond.fieldLink "TopicBroker" 255 "TopicBroker" "made" "I" ∈ TB := TB_t (tq_2 (List.mem_of_getElem? (i := 51) rfl)) rfl
theorem tw_292 : Cond.fieldLink "TopicBroker" 402 "TopicBroker" "lastAuto" "I" ∈ TB := TB_t (tq_2 (List.mem_of_getElem? (i := 52) rfl)) rfl
theorem tw_334 : Cond.methodLink "TopicBroker" 215 ⟨"TopicBroker$Retained", "get", "(I)LTopicBroker$Message;"⟩ ∈ TB := TB_t (tq_2 (List.mem_of_getElem? (i := 94) rfl)) rfl
theorem tw_335 : Cond.instanceMethod ⟨"TopicBroker$Retained", "get", "(I)LTopicBroker$Message;"⟩ ∈ TB := TB_t (tq_2 (List.mem_of_getElem? (i := 95) rfl)) rfl
theorem tw_336 : Cond.selects "TopicBroker$Retained" ⟨"TopicBroker$Retained", "get", "(I)LTopicBroker$Message;"⟩ ⟨"TopicBroker$Retained", "get", "(I)LTopicBroker$Message;"⟩ ∈ TB := TB_t (tq_2 (List.mem_of_getElem? (i := 96) rfl)) rfl
theorem tw_337 : Cond.code ⟨"TopicBroker$Retained", "get", "(I)LTopicBroker$Message;"⟩ prog_8_method_2_code 2 (some (.object "TopicBroker$Message")) ∈ TB := TB_t (tq_2 (List.mem_of_getElem? (i := 97) rfl)) rfl
theorem tw_338 : Cond.methodLink "TopicBroker" 194 ⟨"TopicBroker$Row", "at", "(I)I"⟩ ∈ TB := TB_t (tq_2 (List.mem_of_getElem? (i := 98) rfl)) rfl
theorem tw_339 : Cond.instanceMethod ⟨"TopicBroker$Row", "at", "(I)I"⟩ ∈ TB := TB_t (tq_2 (List.mem_of_getElem? (i := 99) rfl)) rfl
theorem tw_340 : Cond.selects "TopicBroker$Row" ⟨"TopicBroker$Row", "at", "(I)I"⟩ ⟨"TopicBroker$Row", "at", "(I)I"⟩ ∈ TB := TB_t (tq_2 (List.mem_of_getElem? (i := 100) rfl)) rfl
theorem tw_341 : Cond.code ⟨"TopicBroker$Row", "at", "(I)I"⟩ prog_9_method_3_code 2 (some .int) ∈ TB := TB_t (tq_2 (List.mem_of_getElem? (i := 101) rfl)) rfl
theorem tw_465 : Cond.methodLink "TopicBroker$Connection" 48 ⟨"TopicBroker$Connection", "following", "()I"⟩ ∈ TB := TB_t (tq_2 (List.mem_of_getElem? (i := 225) rfl)) rfl
theorem tw_466 : Cond.instanceMethod ⟨"TopicBroker$Connection", "following", "()I"⟩ ∈ TB := TB_t (tq_2 (List.mem_of_getElem? (i := 226) rfl)) rfl
theorem tw_467 : Cond.selects "TopicBroker$Connection" ⟨"TopicBroker$Connection", "following", "()I"⟩ ⟨"TopicBroker$Connection", "following", "()I"⟩ ∈ TB := TB_t (tq_2 (List.mem_of_getElem? (i := 227) rfl)) rfl
theorem tw_468 : Cond.code ⟨"TopicBroker$Connection", "following", "()I"⟩ prog_2_method_6_code 3 (some .int) ∈ TB := TB_t (tq_2 (List.mem_of_getElem? (i := 228) rfl)) rfl
theorem tw_473 : Cond.methodLink "TopicBroker" 280 ⟨"TopicBroker$Reader", "begin", "([III)V"⟩ ∈ TB := TB_t (tq_2 (List.mem_of_getElem? (i := 233) rfl)) rfl
theorem tw_474 : Cond.instanceMethod ⟨"TopicBroker$Reader", "begin", "([III)V"⟩ ∈ TB := TB_t (tq_2 (List.mem_of_getElem? (i := 234) rfl)) rfl
theorem tw_475 : Cond.selects "TopicBroker$Reader" ⟨"TopicBroker$Reader", "begin", "([III)V"⟩ ⟨"TopicBroker$Reader", "begin", "([III)V"⟩ ∈ TB := TB_t (tq_2 (List.mem_of_getElem? (i := 235) rfl)) rfl
theorem tw_476 : Cond.code ⟨"TopicBroker$Reader", "begin", "([III)V"⟩ prog_7_method_2_code 4 none ∈ TB := TB_t (tq_2 (List.mem_of_getElem? (i := 236) rfl)) rfl
theorem tw_477 : Cond.methodLink "TopicBroker$Reader" 29 ⟨"java/lang/Math", "min", "(II)I"⟩ ∈ TB := TB_t (tq_2 (List.mem_of_getElem? (i := 237) rfl)) rfl
theorem tw_480 : Cond.methodLink "TopicBroker" 283 ⟨"TopicBroker$Connection", "type", "()I"⟩ ∈ TB := TB_t (tq_3 (List.mem_of_getElem? (i := 0) rfl)) rfl
theorem tw_481 : Cond.instanceMethod ⟨"TopicBroker$Connection", "type", "()I"⟩ ∈ TB := TB_t (tq_3 (List.mem_of_getElem? (i := 1) rfl)) rfl
theorem tw_482 : Cond.selects "TopicBroker$Connection" ⟨"TopicBroker$Connection", "type", "()I"⟩ ⟨"TopicBroker$Connection", "type", "()I"⟩ ∈ TB := TB_t (tq_3 (List.mem_of_getElem? (i := 2) rfl)) rfl
theorem tw_483 : Cond.code ⟨"TopicBroker$Connection", "type", "()I"⟩ prog_2_method_4_code 1 (some .int) ∈ TB := TB_t (tq_3 (List.mem_of_getElem? (i := 3) rfl)) rfl
theorem tw_484 : Cond.methodLink "TopicBroker" 290 ⟨"TopicBroker$Greeting", "read", "(LTopicBroker$Reader;LTopicBroker$Properties;I)V"⟩ ∈ TB := TB_t (tq_3 (List.mem_of_getElem? (i := 4) rfl)) rfl
theorem tw_485 : Cond.instanceMethod ⟨"TopicBroker$Greeting", "read", "(LTopicBroker$Reader;LTopicBroker$Properties;I)V"⟩ ∈ TB := TB_t (tq_3 (List.mem_of_getElem? (i := 5) rfl)) rfl
theorem tw_486 : Cond.selects "TopicBroker$Greeting" ⟨"TopicBroker$Greeting", "read", "(LTopicBroker$Reader;LTopicBroker$Properties;I)V"⟩ ⟨"TopicBroker$Greeting", "read", "(LTopicBroker$Reader;LTopicBroker$Properties;I)V"⟩ ∈ TB := TB_t (tq_3 (List.mem_of_getElem? (i := 6) rfl)) rfl
theorem tw_487 : Cond.code ⟨"TopicBroker$Greeting", "read", "(LTopicBroker$Reader;LTopicBroker$Properties;I)V"⟩ prog_4_method_2_code 7 none ∈ TB := TB_t (tq_3 (List.mem_of_getElem? (i := 7) rfl)) rfl
theorem tw_488 : Cond.methodLink "TopicBroker$Greeting" 9 ⟨"TopicBroker$Reader", "expect", "(II)V"⟩ ∈ TB := TB_t (tq_3 (List.mem_of_getElem? (i := 8) rfl)) rfl
theorem tw_489 : Cond.instanceMethod ⟨"TopicBroker$Reader", "expect", "(II)V"⟩ ∈ TB := TB_t (tq_3 (List.mem_of_getElem? (i := 9) rfl)) rfl
theorem tw_490 : Cond.selects "TopicBroker$Reader" ⟨"TopicBroker$Reader", "expect", "(II)V"⟩ ⟨"TopicBroker$Reader", "expect", "(II)V"⟩ ∈ TB := TB_t (tq_3 (List.mem_of_getElem? (i := 10) rfl)) rfl
theorem tw_491 : Cond.code ⟨"TopicBroker$Reader", "expect", "(II)V"⟩ prog_7_method_4_code 3 none ∈ TB := TB_t (tq_3 (List.mem_of_getElem? (i := 11) rfl)) rfl
theorem tw_492 : Cond.methodLink "TopicBroker$Reader" 41 ⟨"TopicBroker$Reader", "fail", "(I)V"⟩ ∈ TB := TB_t (tq_3 (List.mem_of_getElem? (i := 12) rfl)) rfl
theorem tw_493 : Cond.instanceMethod ⟨"TopicBroker$Reader", "fail", "(I)V"⟩ ∈ TB := TB_t (tq_3 (List.mem_of_getElem? (i := 13) rfl)) rfl
theorem tw_494 : Cond.selects "TopicBroker$Reader" ⟨"TopicBroker$Reader", "fail", "(I)V"⟩ ⟨"TopicBroker$Reader", "fail", "(I)V"⟩ ∈ TB := TB_t (tq_3 (List.mem_of_getElem? (i := 14) rfl)) rfl
theorem tw_495 : Cond.code ⟨"TopicBroker$Reader", "fail", "(I)V"⟩ prog_7_method_3_code 2 none ∈ TB := TB_t (tq_3 (List.mem_of_getElem? (i := 15) rfl)) rfl
theorem tw_496 : Cond.methodLink "TopicBroker$Greeting" 15 ⟨"TopicBroker$Reader", "row", "(Z)LTopicBroker$Row;"⟩ ∈ TB := TB_t (tq_3 (List.mem_of_getElem? (i := 16) rfl)) rfl
theorem tw_497 : Cond.instanceMethod ⟨"TopicBroker$Reader", "row", "(Z)LTopicBroker$Row;"⟩ ∈ TB := TB_t (tq_3 (List.mem_of_getElem? (i := 17) rfl)) rfl
theorem tw_498 : Cond.selects "TopicBroker$Reader" ⟨"TopicBroker$Reader", "row", "(Z)LTopicBroker$Row;"⟩ ⟨"TopicBroker$Reader", "row", "(Z)LTopicBroker$Row;"⟩ ∈ TB := TB_t (tq_3 (List.mem_of_getElem? (i := 18) rfl)) rfl
theorem tw_499 : Cond.code ⟨"TopicBroker$Reader", "row", "(Z)LTopicBroker$Row;"⟩ prog_7_method_12_code 4 (some (.object "TopicBroker$Row")) ∈ TB := TB_t (tq_3 (List.mem_of_getElem? (i := 19) rfl)) rfl
theorem tw_500 : Cond.methodLink "TopicBroker$Reader" 45 ⟨"TopicBroker$Reader", "has", "(I)Z"⟩ ∈ TB := TB_t (tq_3 (List.mem_of_getElem? (i := 20) rfl)) rfl
theorem tw_501 : Cond.instanceMethod ⟨"TopicBroker$Reader", "has", "(I)Z"⟩ ∈ TB := TB_t (tq_3 (List.mem_of_getElem? (i := 21) rfl)) rfl
theorem tw_502 : Cond.selects "TopicBroker$Reader" ⟨"TopicBroker$Reader", "has", "(I)Z"⟩ ⟨"TopicBroker$Reader", "has", "(I)Z"⟩ ∈ TB := TB_t (tq_3 (List.mem_of_getElem? (i := 22) rfl)) rfl
theorem tw_503 : Cond.code ⟨"TopicBroker$Reader", "has", "(I)Z"⟩ prog_7_method_6_code 2 (some .boolean) ∈ TB := TB_t (tq_3 (List.mem_of_getElem? (i := 23) rfl)) rfl
theorem tw_504 : Cond.methodLink "TopicBroker$Reader" 53 ⟨"java/util/Arrays", "copyOfRange", "([III)[I"⟩ ∈ TB := TB_t (tq_3 (List.mem_of_getElem? (i := 24) rfl)) rfl
theorem tw_505 : Cond.static ⟨"java/util/Arrays", "copyOfRange", "([III)[I"⟩ ∈ TB := TB_t (tq_3 (List.mem_of_getElem? (i := 25) rfl)) rfl
theorem tw_506 : Cond.code ⟨"java/util/Arrays", "copyOfRange", "([III)[I"⟩ prog_30_method_136_code 3 (some (.array .int)) ∈ TB := TB_t (tq_3 (List.mem_of_getElem? (i := 26) rfl)) rfl
theorem tw_507 : Cond.methodLink "java/util/Arrays" 351 ⟨"java/util/Arrays", "copyOfRangeInt", "([III)[I"⟩ ∈ TB := TB_t (tq_3 (List.mem_of_getElem? (i := 27) rfl)) rfl
theorem tw_508 : Cond.static ⟨"java/util/Arrays", "copyOfRangeInt", "([III)[I"⟩ ∈ TB := TB_t (tq_3 (List.mem_of_getElem? (i := 28) rfl)) rfl
theorem tw_509 : Cond.code ⟨"java/util/Arrays", "copyOfRangeInt", "([III)[I"⟩ prog_30_method_137_code 5 (some (.array .int)) ∈ TB := TB_t (tq_3 (List.mem_of_getElem? (i := 29) rfl)) rfl
theorem tw_510 : Cond.methodLink "java/util/Arrays" 343 ⟨"java/util/Arrays", "checkLength", "(II)V"⟩ ∈ TB := TB_t (tq_3 (List.mem_of_getElem? (i := 30) rfl)) rfl
theorem tw_511 : Cond.static ⟨"java/util/Arrays", "checkLength", "(II)V"⟩ ∈ TB := TB_t (tq_3 (List.mem_of_getElem? (i := 31) rfl)) rfl
theorem tw_512 : Cond.code ⟨"java/util/Arrays", "checkLength", "(II)V"⟩ prog_30_method_131_code 2 none ∈ TB := TB_t (tq_3 (List.mem_of_getElem? (i := 32) rfl)) rfl
theorem tw_585 : Cond.methodLink "java/util/Arrays" 304 ⟨"java/lang/Math", "min", "(II)I"⟩ ∈ TB := TB_t (tq_3 (List.mem_of_getElem? (i := 105) rfl)) rfl
theorem tw_586 : Cond.methodLink "java/util/Arrays" 150 ⟨"java/lang/System", "arraycopy", "(Ljava/lang/Object;ILjava/lang/Object;II)V"⟩ ∈ TB := TB_t (tq_3 (List.mem_of_getElem? (i := 106) rfl)) rfl
theorem tw_613 : Cond.fieldLink "java/lang/String" 1053 "jdk/internal/util/Preconditions" "SIOOBE_FORMATTER" "Ljava/util/function/BiFunction;" ∈ TB := TB_t (tq_3 (List.mem_of_getElem? (i := 133) rfl)) rfl
theorem tw_648 : Cond.instanceMethod ⟨"java/lang/String", "length", "()I"⟩ ∈ TB := TB_t (tq_3 (List.mem_of_getElem? (i := 168) rfl)) rfl
theorem tw_649 : Cond.selects "java/lang/String" ⟨"java/lang/String", "length", "()I"⟩ ⟨"java/lang/String", "length", "()I"⟩ ∈ TB := TB_t (tq_3 (List.mem_of_getElem? (i := 169) rfl)) rfl
theorem tw_650 : Cond.code ⟨"java/lang/String", "length", "()I"⟩ prog_24_method_54_code 1 (some .int) ∈ TB := TB_t (tq_3 (List.mem_of_getElem? (i := 170) rfl)) rfl
theorem tw_651 : Cond.methodLink "java/lang/String" 335 ⟨"java/lang/String", "coder", "()B"⟩ ∈ TB := TB_t (tq_3 (List.mem_of_getElem? (i := 171) rfl)) rfl
theorem tw_652 : Cond.instanceMethod ⟨"java/lang/String", "coder", "()B"⟩ ∈ TB := TB_t (tq_3 (List.mem_of_getElem? (i := 172) rfl)) rfl
theorem tw_653 : Cond.selects "java/lang/String" ⟨"java/lang/String", "coder", "()B"⟩ ⟨"java/lang/String", "coder", "()B"⟩ ∈ TB := TB_t (tq_3 (List.mem_of_getElem? (i := 173) rfl)) rfl
theorem tw_654 : Cond.code ⟨"java/lang/String", "coder", "()B"⟩ prog_24_method_152_code 1 (some .byte) ∈ TB := TB_t (tq_3 (List.mem_of_getElem? (i := 174) rfl)) rfl
theorem tw_655 : Cond.fieldLink "java/lang/String" 38 "java/lang/String" "COMPACT_STRINGS" "Z" ∈ TB := TB_t (tq_3 (List.mem_of_getElem? (i := 175) rfl)) rfl
theorem tw_736 : Cond.fieldLink "java/lang/String" 9 "java/lang/String" "value" "[B" ∈ TB := TB_t (tq_4 (List.mem_of_getElem? (i := 16) rfl)) rfl
theorem tw_737 : Cond.fieldLink "java/lang/String" 15 "java/lang/String" "coder" "B" ∈ TB := TB_t (tq_4 (List.mem_of_getElem? (i := 17) rfl)) rfl
theorem tw_764 : Cond.methodLink "TopicBroker$Reader" 59 ⟨"TopicBroker$Row", "isUtf8", "()Z"⟩ ∈ TB := TB_t (tq_4 (List.mem_of_getElem? (i := 44) rfl)) rfl
theorem tw_765 : Cond.instanceMethod ⟨"TopicBroker$Row", "isUtf8", "()Z"⟩ ∈ TB := TB_t (tq_4 (List.mem_of_getElem? (i := 45) rfl)) rfl
theorem tw_766 : Cond.selects "TopicBroker$Row" ⟨"TopicBroker$Row", "isUtf8", "()Z"⟩ ⟨"TopicBroker$Row", "isUtf8", "()Z"⟩ ∈ TB := TB_t (tq_4 (List.mem_of_getElem? (i := 46) rfl)) rfl
theorem tw_767 : Cond.code ⟨"TopicBroker$Row", "isUtf8", "()Z"⟩ prog_9_method_6_code 6 (some .boolean) ∈ TB := TB_t (tq_4 (List.mem_of_getElem? (i := 47) rfl)) rfl
theorem tw_768 : Cond.methodLink "TopicBroker$Greeting" 19 ⟨"TopicBroker$Row", "count", "()I"⟩ ∈ TB := TB_t (tq_4 (List.mem_of_getElem? (i := 48) rfl)) rfl
theorem tw_769 : Cond.instanceMethod ⟨"TopicBroker$Row", "count", "()I"⟩ ∈ TB := TB_t (tq_4 (List.mem_of_getElem? (i := 49) rfl)) rfl
theorem tw_770 : Cond.selects "TopicBroker$Row" ⟨"TopicBroker$Row", "count", "()I"⟩ ⟨"TopicBroker$Row", "count", "()I"⟩ ∈ TB := TB_t (tq_4 (List.mem_of_getElem? (i := 50) rfl)) rfl
theorem tw_771 : Cond.code ⟨"TopicBroker$Row", "count", "()I"⟩ prog_9_method_2_code 1 (some .int) ∈ TB := TB_t (tq_4 (List.mem_of_getElem? (i := 51) rfl)) rfl
theorem tw_773 : Cond.methodLink "TopicBroker$Greeting" 27 ⟨"java/lang/String", "length", "()I"⟩ ∈ TB := TB_t (tq_4 (List.mem_of_getElem? (i := 53) rfl)) rfl
theorem tw_774 : Cond.methodLink "TopicBroker$Greeting" 32 ⟨"TopicBroker$Row", "begins", "(ILjava/lang/String;)Z"⟩ ∈ TB := TB_t (tq_4 (List.mem_of_getElem? (i := 54) rfl)) rfl
theorem tw_775 : Cond.instanceMethod ⟨"TopicBroker$Row", "begins", "(ILjava/lang/String;)Z"⟩ ∈ TB := TB_t (tq_4 (List.mem_of_getElem? (i := 55) rfl)) rfl
theorem tw_776 : Cond.selects "TopicBroker$Row" ⟨"TopicBroker$Row", "begins", "(ILjava/lang/String;)Z"⟩ ⟨"TopicBroker$Row", "begins", "(ILjava/lang/String;)Z"⟩ ∈ TB := TB_t (tq_4 (List.mem_of_getElem? (i := 56) rfl)) rfl
theorem tw_777 : Cond.code ⟨"TopicBroker$Row", "begins", "(ILjava/lang/String;)Z"⟩ prog_9_method_5_code 4 (some .boolean) ∈ TB := TB_t (tq_4 (List.mem_of_getElem? (i := 57) rfl)) rfl
theorem tw_778 : Cond.methodLink "TopicBroker$Row" 15 ⟨"java/lang/String", "length", "()I"⟩ ∈ TB := TB_t (tq_4 (List.mem_of_getElem? (i := 58) rfl)) rfl
theorem tw_779 : Cond.methodLink "TopicBroker$Row" 21 ⟨"TopicBroker$Row", "at", "(I)I"⟩ ∈ TB := TB_t (tq_4 (List.mem_of_getElem? (i := 59) rfl)) rfl
theorem tw_780 : Cond.methodLink "TopicBroker$Row" 25 ⟨"java/lang/String", "charAt", "(I)C"⟩ ∈ TB := TB_t (tq_4 (List.mem_of_getElem? (i := 60) rfl)) rfl
theorem tw_781 : Cond.instanceMethod ⟨"java/lang/String", "charAt", "(I)C"⟩ ∈ TB := TB_t (tq_4 (List.mem_of_getElem? (i := 61) rfl)) rfl
theorem tw_782 : Cond.selects "java/lang/String" ⟨"java/lang/String", "charAt", "(I)C"⟩ ⟨"java/lang/String", "charAt", "(I)C"⟩ ∈ TB := TB_t (tq_4 (List.mem_of_getElem? (i := 62) rfl)) rfl
theorem tw_783 : Cond.code ⟨"java/lang/String", "charAt", "(I)C"⟩ prog_24_method_56_code 2 (some .char) ∈ TB := TB_t (tq_4 (List.mem_of_getElem? (i := 63) rfl)) rfl
theorem tw_784 : Cond.methodLink "java/lang/String" 492 ⟨"java/lang/String", "isLatin1", "()Z"⟩ ∈ TB := TB_t (tq_4 (List.mem_of_getElem? (i := 64) rfl)) rfl
theorem tw_785 : Cond.instanceMethod ⟨"java/lang/String", "isLatin1", "()Z"⟩ ∈ TB := TB_t (tq_4 (List.mem_of_getElem? (i := 65) rfl)) rfl
theorem tw_786 : Cond.selects "java/lang/String" ⟨"java/lang/String", "isLatin1", "()Z"⟩ ⟨"java/lang/String", "isLatin1", "()Z"⟩ ∈ TB := TB_t (tq_4 (List.mem_of_getElem? (i := 66) rfl)) rfl
theorem tw_787 : Cond.code ⟨"java/lang/String", "isLatin1", "()Z"⟩ prog_24_method_154_code 1 (some .boolean) ∈ TB := TB_t (tq_4 (List.mem_of_getElem? (i := 67) rfl)) rfl
theorem tw_788 : Cond.methodLink "java/lang/String" 495 ⟨"java/lang/StringLatin1", "charAt", "([BI)C"⟩ ∈ TB := TB_t (tq_4 (List.mem_of_getElem? (i := 68) rfl)) rfl
theorem tw_789 : Cond.static ⟨"java/lang/StringLatin1", "charAt", "([BI)C"⟩ ∈ TB := TB_t (tq_4 (List.mem_of_getElem? (i := 69) rfl)) rfl
theorem tw_790 : Cond.code ⟨"java/lang/StringLatin1", "charAt", "([BI)C"⟩ prog_26_method_2_code 2 (some .char) ∈ TB := TB_t (tq_4 (List.mem_of_getElem? (i := 70) rfl)) rfl
theorem tw_791 : Cond.methodLink "java/lang/StringLatin1" 9 ⟨"java/lang/String", "checkIndex", "(II)V"⟩ ∈ TB := TB_t (tq_4 (List.mem_of_getElem? (i := 71) rfl)) rfl
theorem tw_792 : Cond.static ⟨"java/lang/String", "checkIndex", "(II)V"⟩ ∈ TB := TB_t (tq_4 (List.mem_of_getElem? (i := 72) rfl)) rfl
theorem tw_793 : Cond.code ⟨"java/lang/String", "checkIndex", "(II)V"⟩ prog_24_method_155_code 2 none ∈ TB := TB_t (tq_4 (List.mem_of_getElem? (i := 73) rfl)) rfl
theorem tw_794 : Cond.methodLink "java/lang/String" 1059 ⟨"jdk/internal/util/Preconditions", "checkIndex", "(IILjava/util/function/BiFunction;)I"⟩ ∈ TB := TB_t (tq_4 (List.mem_of_getElem? (i := 74) rfl)) rfl
theorem tw_795 : Cond.static ⟨"jdk/internal/util/Preconditions", "checkIndex", "(IILjava/util/function/BiFunction;)I"⟩ ∈ TB := TB_t (tq_4 (List.mem_of_getElem? (i := 75) rfl)) rfl
theorem tw_796 : Cond.code ⟨"jdk/internal/util/Preconditions", "checkIndex", "(IILjava/util/function/BiFunction;)I"⟩ prog_32_method_11_code 3 (some .int) ∈ TB := TB_t (tq_4 (List.mem_of_getElem? (i := 76) rfl)) rfl
theorem tw_804 : Cond.methodLink "TopicBroker$Greeting" 36 ⟨"TopicBroker$Reader", "fail", "(I)V"⟩ ∈ TB := TB_t (tq_4 (List.mem_of_getElem? (i := 84) rfl)) rfl
theorem tw_805 : Cond.methodLink "TopicBroker$Greeting" 40 ⟨"TopicBroker$Reader", "one", "()I"⟩ ∈ TB := TB_t (tq_4 (List.mem_of_getElem? (i := 85) rfl)) rfl
theorem tw_806 : Cond.instanceMethod ⟨"TopicBroker$Reader", "one", "()I"⟩ ∈ TB := TB_t (tq_4 (List.mem_of_getElem? (i := 86) rfl)) rfl
theorem tw_807 : Cond.selects "TopicBroker$Reader" ⟨"TopicBroker$Reader", "one", "()I"⟩ ⟨"TopicBroker$Reader", "one", "()I"⟩ ∈ TB := TB_t (tq_4 (List.mem_of_getElem? (i := 87) rfl)) rfl
theorem tw_808 : Cond.code ⟨"TopicBroker$Reader", "one", "()I"⟩ prog_7_method_7_code 1 (some .int) ∈ TB := TB_t (tq_4 (List.mem_of_getElem? (i := 88) rfl)) rfl
theorem tw_809 : Cond.methodLink "TopicBroker$Greeting" 43 ⟨"TopicBroker$Greeting", "checkFlags", "(LTopicBroker$Reader;I)V"⟩ ∈ TB := TB_t (tq_4 (List.mem_of_getElem? (i := 89) rfl)) rfl
theorem tw_810 : Cond.instanceMethod ⟨"TopicBroker$Greeting", "checkFlags", "(LTopicBroker$Reader;I)V"⟩ ∈ TB := TB_t (tq_4 (List.mem_of_getElem? (i := 90) rfl)) rfl
theorem tw_811 : Cond.selects "TopicBroker$Greeting" ⟨"TopicBroker$Greeting", "checkFlags", "(LTopicBroker$Reader;I)V"⟩ ⟨"TopicBroker$Greeting", "checkFlags", "(LTopicBroker$Reader;I)V"⟩ ∈ TB := TB_t (tq_4 (List.mem_of_getElem? (i := 91) rfl)) rfl
theorem tw_812 : Cond.code ⟨"TopicBroker$Greeting", "checkFlags", "(LTopicBroker$Reader;I)V"⟩ prog_4_method_3_code 4 none ∈ TB := TB_t (tq_4 (List.mem_of_getElem? (i := 92) rfl)) rfl
theorem tw_813 : Cond.methodLink "TopicBroker$Greeting" 53 ⟨"TopicBroker$Reader", "two", "()I"⟩ ∈ TB := TB_t (tq_4 (List.mem_of_getElem? (i := 93) rfl)) rfl
theorem tw_814 : Cond.instanceMethod ⟨"TopicBroker$Reader", "two", "()I"⟩ ∈ TB := TB_t (tq_4 (List.mem_of_getElem? (i := 94) rfl)) rfl
theorem tw_815 : Cond.selects "TopicBroker$Reader" ⟨"TopicBroker$Reader", "two", "()I"⟩ ⟨"TopicBroker$Reader", "two", "()I"⟩ ∈ TB := TB_t (tq_4 (List.mem_of_getElem? (i := 95) rfl)) rfl
theorem tw_816 : Cond.code ⟨"TopicBroker$Reader", "two", "()I"⟩ prog_7_method_8_code 1 (some .int) ∈ TB := TB_t (tq_4 (List.mem_of_getElem? (i := 96) rfl)) rfl
theorem tw_817 : Cond.constantLong "TopicBroker$Greeting" 60 (850451890176) ∈ TB := TB_t (tq_4 (List.mem_of_getElem? (i := 97) rfl)) rfl
theorem tw_818 : Cond.methodLink "TopicBroker$Greeting" 62 ⟨"TopicBroker$Properties", "read", "(LTopicBroker$Reader;J)V"⟩ ∈ TB := TB_t (tq_4 (List.mem_of_getElem? (i := 98) rfl)) rfl
theorem tw_819 : Cond.instanceMethod ⟨"TopicBroker$Properties", "read", "(LTopicBroker$Reader;J)V"⟩ ∈ TB := TB_t (tq_4 (List.mem_of_getElem? (i := 99) rfl)) rfl
theorem tw_820 : Cond.selects "TopicBroker$Properties" ⟨"TopicBroker$Properties", "read", "(LTopicBroker$Reader;J)V"⟩ ⟨"TopicBroker$Properties", "read", "(LTopicBroker$Reader;J)V"⟩ ∈ TB := TB_t (tq_4 (List.mem_of_getElem? (i := 100) rfl)) rfl
theorem tw_821 : Cond.code ⟨"TopicBroker$Properties", "read", "(LTopicBroker$Reader;J)V"⟩ prog_6_method_3_code 9 none ∈ TB := TB_t (tq_4 (List.mem_of_getElem? (i := 101) rfl)) rfl
theorem tw_822 : Cond.methodLink "TopicBroker$Properties" 40 ⟨"TopicBroker$Properties", "clear", "()V"⟩ ∈ TB := TB_t (tq_4 (List.mem_of_getElem? (i := 102) rfl)) rfl
