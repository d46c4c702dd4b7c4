theorem ft_X11_9 : parseFieldDescriptor (TX11 9).2.2.1 = some .int := by decide +kernel
theorem cf_X11_113 : Cond.fieldLink RX11 113 (TX0 4).1 (TX0 4).2.1 (TX0 4).2.2.1 ∈ TB := tw_57
theorem cf_X11_116 : Cond.fieldLink RX11 116 (TX0 3).1 (TX0 3).2.1 (TX0 3).2.2.1 ∈ TB := tw_55
theorem cf_X11_128 : Cond.fieldLink RX11 128 (TX0 8).1 (TX0 8).2.1 (TX0 8).2.2.1 ∈ TB := tw_65
theorem cf_X11_155 : Cond.fieldLink RX11 155 (TX0 0).1 (TX0 0).2.1 (TX0 0).2.2.1 ∈ TB := tw_49
theorem cf_X11_184 : Cond.fieldLink RX11 184 (TX8 16).1 (TX8 16).2.1 (TX8 16).2.2.1 ∈ TB := tw_1343
theorem cf_X11_187 : Cond.fieldLink RX11 187 (TX8 15).1 (TX8 15).2.1 (TX8 15).2.2.1 ∈ TB := tw_1340
theorem cf_X11_230 : Cond.fieldLink RX11 230 (TX3 7).1 (TX3 7).2.1 (TX3 7).2.2.1 ∈ TB := tw_909
theorem cf_X11_74 : Cond.fieldLink RX11 74 (TX0 1).1 (TX0 1).2.1 (TX0 1).2.2.1 ∈ TB := tw_51
theorem cl_X11_106 : Cond.methodLink RX11 106 yX11_refuse ∈ TB := tw_1399
theorem cl_X11_110 : Cond.methodLink RX11 110 yX11_settle ∈ TB := tw_1403
theorem cl_X11_125 : Cond.methodLink RX11 125 yX0_drop ∈ TB := tw_1442
theorem cl_X11_137 : Cond.methodLink RX11 137 yX11_nextEvent ∈ TB := tw_1460
theorem cl_X11_144 : Cond.methodLink RX11 144 yX11_tick ∈ TB := tw_1488
theorem cl_X11_147 : Cond.methodLink RX11 147 yX11_sessionOf ∈ TB := tw_1503
theorem cl_X11_197 : Cond.methodLink RX11 197 yX11_subscriptionOf ∈ TB := tw_1528
theorem cl_X11_237 : Cond.methodLink RX11 237 yX3_left ∈ TB := tw_1547
theorem cl_X11_246 : Cond.methodLink RX11 246 yX11_countSent ∈ TB := tw_1555
theorem cl_X11_70 : Cond.methodLink RX11 70 yX11_connectionOf ∈ TB := tw_351
theorem cl_X11_81 : Cond.methodLink RX11 81 yX0_begin ∈ TB := tw_434
theorem cl_X11_91 : Cond.methodLink RX11 91 yX0_accept ∈ TB := tw_461
theorem cl_X11_95 : Cond.methodLink RX11 95 yX11_obey ∈ TB := tw_469
theorem cl_X11_99 : Cond.methodLink RX11 99 yX11_enter ∈ TB := tw_1254
theorem cc_X0_accept : Cond.code yX0_accept cX0_accept 3 (some .int) ∈ TB := tw_464
theorem cn_X0_accept : Cond.instanceMethod yX0_accept ∈ TB := tw_462
theorem ce_X0_accept : Cond.selects RX0 yX0_accept yX0_accept ∈ TB := tw_463
theorem cd_X0_accept : yX0_accept.cls ≠ "java/lang/invoke/MethodHandle" ∧ yX0_accept.cls ≠ "java/lang/invoke/VarHandle" ∧ (parseMethodDescriptor yX0_accept.desc).map (fun d => d.parameters.length) = some 1 := by decide +kernel
theorem cc_X0_begin : Cond.code yX0_begin cX0_begin 1 none ∈ TB := tw_437
theorem cn_X0_begin : Cond.instanceMethod yX0_begin ∈ TB := tw_435
theorem ce_X0_begin : Cond.selects RX0 yX0_begin yX0_begin ∈ TB := tw_436
theorem cd_X0_begin : yX0_begin.cls ≠ "java/lang/invoke/MethodHandle" ∧ yX0_begin.cls ≠ "java/lang/invoke/VarHandle" ∧ (parseMethodDescriptor yX0_begin.desc).map (fun d => d.parameters.length) = some 0 := by decide +kernel
theorem cc_X0_drop : Cond.code yX0_drop cX0_drop 2 none ∈ TB := tw_1445
theorem cn_X0_drop : Cond.instanceMethod yX0_drop ∈ TB := tw_1443
theorem ce_X0_drop : Cond.selects RX0 yX0_drop yX0_drop ∈ TB := tw_1444
theorem cd_X0_drop : yX0_drop.cls ≠ "java/lang/invoke/MethodHandle" ∧ yX0_drop.cls ≠ "java/lang/invoke/VarHandle" ∧ (parseMethodDescriptor yX0_drop.desc).map (fun d => d.parameters.length) = some 1 := by decide +kernel
theorem cc_X11_connectionOf : Cond.code yX11_connectionOf cX11_connectionOf 2 (some (.object "TopicBroker$Connection")) ∈ TB := tw_354
theorem cn_X11_connectionOf : Cond.instanceMethod yX11_connectionOf ∈ TB := tw_353
theorem ce_X11_connectionOf : Cond.selects RX11 yX11_connectionOf yX11_connectionOf ∈ TB := tp_0
theorem cd_X11_connectionOf : yX11_connectionOf.cls ≠ "java/lang/invoke/MethodHandle" ∧ yX11_connectionOf.cls ≠ "java/lang/invoke/VarHandle" ∧ (parseMethodDescriptor yX11_connectionOf.desc).map (fun d => d.parameters.length) = some 1 := by decide +kernel
theorem cc_X11_countSent : Cond.code yX11_countSent cX11_countSent 3 (some .int) ∈ TB := tw_1558
theorem cn_X11_countSent : Cond.instanceMethod yX11_countSent ∈ TB := tw_1557
theorem ce_X11_countSent : Cond.selects RX11 yX11_countSent yX11_countSent ∈ TB := tp_39
theorem cd_X11_countSent : yX11_countSent.cls ≠ "java/lang/invoke/MethodHandle" ∧ yX11_countSent.cls ≠ "java/lang/invoke/VarHandle" ∧ (parseMethodDescriptor yX11_countSent.desc).map (fun d => d.parameters.length) = some 0 := by decide +kernel
theorem cc_X11_enter : Cond.code yX11_enter cX11_enter 6 none ∈ TB := tw_1257
theorem cn_X11_enter : Cond.instanceMethod yX11_enter ∈ TB := tw_1256
theorem ce_X11_enter : Cond.selects RX11 yX11_enter yX11_enter ∈ TB := tp_22
theorem cd_X11_enter : yX11_enter.cls ≠ "java/lang/invoke/MethodHandle" ∧ yX11_enter.cls ≠ "java/lang/invoke/VarHandle" ∧ (parseMethodDescriptor yX11_enter.desc).map (fun d => d.parameters.length) = some 1 := by decide +kernel
theorem cc_X11_nextEvent : Cond.code yX11_nextEvent cX11_nextEvent 5 (some .long) ∈ TB := tw_1463
theorem cn_X11_nextEvent : Cond.instanceMethod yX11_nextEvent ∈ TB := tw_1462
theorem ce_X11_nextEvent : Cond.selects RX11 yX11_nextEvent yX11_nextEvent ∈ TB := tp_35
theorem cd_X11_nextEvent : yX11_nextEvent.cls ≠ "java/lang/invoke/MethodHandle" ∧ yX11_nextEvent.cls ≠ "java/lang/invoke/VarHandle" ∧ (parseMethodDescriptor yX11_nextEvent.desc).map (fun d => d.parameters.length) = some 0 := by decide +kernel
theorem cc_X11_obey : Cond.code yX11_obey cX11_obey 5 (some .int) ∈ TB := tw_472
theorem cn_X11_obey : Cond.instanceMethod yX11_obey ∈ TB := tw_471
theorem ce_X11_obey : Cond.selects RX11 yX11_obey yX11_obey ∈ TB := tp_2
theorem cd_X11_obey : yX11_obey.cls ≠ "java/lang/invoke/MethodHandle" ∧ yX11_obey.cls ≠ "java/lang/invoke/VarHandle" ∧ (parseMethodDescriptor yX11_obey.desc).map (fun d => d.parameters.length) = some 1 := by decide +kernel
theorem cc_X11_refuse : Cond.code yX11_refuse cX11_refuse 3 none ∈ TB := tw_1402
theorem cn_X11_refuse : Cond.instanceMethod yX11_refuse ∈ TB := tw_1401
theorem ce_X11_refuse : Cond.selects RX11 yX11_refuse yX11_refuse ∈ TB := tp_33
theorem cd_X11_refuse : yX11_refuse.cls ≠ "java/lang/invoke/MethodHandle" ∧ yX11_refuse.cls ≠ "java/lang/invoke/VarHandle" ∧ (parseMethodDescriptor yX11_refuse.desc).map (fun d => d.parameters.length) = some 2 := by decide +kernel
theorem cc_X11_sessionOf : Cond.code yX11_sessionOf cX11_sessionOf 2 (some (.object "TopicBroker$Session")) ∈ TB := tw_1506
theorem cn_X11_sessionOf : Cond.instanceMethod yX11_sessionOf ∈ TB := tw_1505
theorem ce_X11_sessionOf : Cond.selects RX11 yX11_sessionOf yX11_sessionOf ∈ TB := tp_37
theorem cd_X11_sessionOf : yX11_sessionOf.cls ≠ "java/lang/invoke/MethodHandle" ∧ yX11_sessionOf.cls ≠ "java/lang/invoke/VarHandle" ∧ (parseMethodDescriptor yX11_sessionOf.desc).map (fun d => d.parameters.length) = some 1 := by decide +kernel
theorem cc_X11_settle : Cond.code yX11_settle cX11_settle 4 none ∈ TB := tw_1406
theorem cn_X11_settle : Cond.instanceMethod yX11_settle ∈ TB := tw_1405
theorem ce_X11_settle : Cond.selects RX11 yX11_settle yX11_settle ∈ TB := tp_34
theorem cd_X11_settle : yX11_settle.cls ≠ "java/lang/invoke/MethodHandle" ∧ yX11_settle.cls ≠ "java/lang/invoke/VarHandle" ∧ (parseMethodDescriptor yX11_settle.desc).map (fun d => d.parameters.length) = some 0 := by decide +kernel
theorem cc_X11_subscriptionOf : Cond.code yX11_subscriptionOf cX11_subscriptionOf 4 (some (.object "TopicBroker$Subscription")) ∈ TB := tw_1531
theorem cn_X11_subscriptionOf : Cond.instanceMethod yX11_subscriptionOf ∈ TB := tw_1530
theorem ce_X11_subscriptionOf : Cond.selects RX11 yX11_subscriptionOf yX11_subscriptionOf ∈ TB := tp_38
theorem cd_X11_subscriptionOf : yX11_subscriptionOf.cls ≠ "java/lang/invoke/MethodHandle" ∧ yX11_subscriptionOf.cls ≠ "java/lang/invoke/VarHandle" ∧ (parseMethodDescriptor yX11_subscriptionOf.desc).map (fun d => d.parameters.length) = some 2 := by decide +kernel
theorem cc_X11_tick : Cond.code yX11_tick cX11_tick 3 none ∈ TB := tw_1491
theorem cn_X11_tick : Cond.instanceMethod yX11_tick ∈ TB := tw_1490
theorem ce_X11_tick : Cond.selects RX11 yX11_tick yX11_tick ∈ TB := tp_36
theorem cd_X11_tick : yX11_tick.cls ≠ "java/lang/invoke/MethodHandle" ∧ yX11_tick.cls ≠ "java/lang/invoke/VarHandle" ∧ (parseMethodDescriptor yX11_tick.desc).map (fun d => d.parameters.length) = some 0 := by decide +kernel
