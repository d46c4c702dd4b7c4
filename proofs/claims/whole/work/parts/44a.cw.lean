theorem cl_L_17 : Cond.methodLink RL 17 yX11_feed ∈ TB := tw_442
theorem cl_L_23 : Cond.methodLink RL 23 yX11_lose ∈ TB := tw_1410
theorem cl_L_26 : Cond.methodLink RL 26 yX11_isOpen ∈ TB := tw_1417
theorem cl_L_30 : Cond.methodLink RL 30 yX11_size ∈ TB := tw_1424
theorem cl_L_34 : Cond.methodLink RL 34 yX11_out ∈ TB := tw_1431
theorem cl_L_38 : Cond.methodLink RL 38 yX11_take ∈ TB := tw_1438
theorem cl_L_41 : Cond.methodLink RL 41 yX11_pending ∈ TB := tw_1449
theorem cl_L_44 : Cond.methodLink RL 44 yX11_pass ∈ TB := tw_1456
theorem cl_L_47 : Cond.methodLink RL 47 yX11_session ∈ TB := tw_1499
theorem cl_L_50 : Cond.methodLink RL 50 yX11_expiry ∈ TB := tw_1510
theorem cl_L_54 : Cond.methodLink RL 54 yX11_id ∈ TB := tw_1517
theorem cl_L_57 : Cond.methodLink RL 57 yX11_subscription ∈ TB := tw_1524
theorem cl_L_61 : Cond.methodLink RL 61 yX11_filter ∈ TB := tw_1535
theorem cl_L_64 : Cond.methodLink RL 64 yX11_retained ∈ TB := tw_1542
theorem cl_L_67 : Cond.methodLink RL 67 yX11_told ∈ TB := tw_1551
theorem cl_L_7 : Cond.methodLink RL 7 yX11_open ∈ TB := tw_347
theorem cc_X11_expiry : Cond.code yX11_expiry cX11_expiry 2 (some .long) ∈ TB := tw_1513
theorem cn_X11_expiry : Cond.instanceMethod yX11_expiry ∈ TB := tw_1511
theorem ce_X11_expiry : Cond.selects RX11 yX11_expiry yX11_expiry ∈ TB := tw_1512
theorem cd_X11_expiry : yX11_expiry.cls ≠ "java/lang/invoke/MethodHandle" ∧ yX11_expiry.cls ≠ "java/lang/invoke/VarHandle" ∧ (parseMethodDescriptor yX11_expiry.desc).map (fun d => d.parameters.length) = some 1 := by decide +kernel
theorem cc_X11_feed : Cond.code yX11_feed cX11_feed 13 (some .int) ∈ TB := tw_445
theorem cn_X11_feed : Cond.instanceMethod yX11_feed ∈ TB := tw_443
theorem ce_X11_feed : Cond.selects RX11 yX11_feed yX11_feed ∈ TB := tw_444
theorem cd_X11_feed : yX11_feed.cls ≠ "java/lang/invoke/MethodHandle" ∧ yX11_feed.cls ≠ "java/lang/invoke/VarHandle" ∧ (parseMethodDescriptor yX11_feed.desc).map (fun d => d.parameters.length) = some 4 := by decide +kernel
theorem cc_X11_filter : Cond.code yX11_filter cX11_filter 4 (some .int) ∈ TB := tw_1538
theorem cn_X11_filter : Cond.instanceMethod yX11_filter ∈ TB := tw_1536
theorem ce_X11_filter : Cond.selects RX11 yX11_filter yX11_filter ∈ TB := tw_1537
theorem cd_X11_filter : yX11_filter.cls ≠ "java/lang/invoke/MethodHandle" ∧ yX11_filter.cls ≠ "java/lang/invoke/VarHandle" ∧ (parseMethodDescriptor yX11_filter.desc).map (fun d => d.parameters.length) = some 3 := by decide +kernel
theorem cc_X11_id : Cond.code yX11_id cX11_id 3 (some .int) ∈ TB := tw_1520
theorem cn_X11_id : Cond.instanceMethod yX11_id ∈ TB := tw_1518
theorem ce_X11_id : Cond.selects RX11 yX11_id yX11_id ∈ TB := tw_1519
theorem cd_X11_id : yX11_id.cls ≠ "java/lang/invoke/MethodHandle" ∧ yX11_id.cls ≠ "java/lang/invoke/VarHandle" ∧ (parseMethodDescriptor yX11_id.desc).map (fun d => d.parameters.length) = some 2 := by decide +kernel
theorem cc_X11_isOpen : Cond.code yX11_isOpen cX11_isOpen 2 (some .boolean) ∈ TB := tw_1420
theorem cn_X11_isOpen : Cond.instanceMethod yX11_isOpen ∈ TB := tw_1418
theorem ce_X11_isOpen : Cond.selects RX11 yX11_isOpen yX11_isOpen ∈ TB := tw_1419
theorem cd_X11_isOpen : yX11_isOpen.cls ≠ "java/lang/invoke/MethodHandle" ∧ yX11_isOpen.cls ≠ "java/lang/invoke/VarHandle" ∧ (parseMethodDescriptor yX11_isOpen.desc).map (fun d => d.parameters.length) = some 1 := by decide +kernel
theorem cc_X11_lose : Cond.code yX11_lose cX11_lose 3 none ∈ TB := tw_1413
theorem cn_X11_lose : Cond.instanceMethod yX11_lose ∈ TB := tw_1411
theorem ce_X11_lose : Cond.selects RX11 yX11_lose yX11_lose ∈ TB := tw_1412
theorem cd_X11_lose : yX11_lose.cls ≠ "java/lang/invoke/MethodHandle" ∧ yX11_lose.cls ≠ "java/lang/invoke/VarHandle" ∧ (parseMethodDescriptor yX11_lose.desc).map (fun d => d.parameters.length) = some 1 := by decide +kernel
theorem cc_X11_open : Cond.code yX11_open cX11_open 3 none ∈ TB := tw_350
theorem cn_X11_open : Cond.instanceMethod yX11_open ∈ TB := tw_348
theorem ce_X11_open : Cond.selects RX11 yX11_open yX11_open ∈ TB := tw_349
theorem cd_X11_open : yX11_open.cls ≠ "java/lang/invoke/MethodHandle" ∧ yX11_open.cls ≠ "java/lang/invoke/VarHandle" ∧ (parseMethodDescriptor yX11_open.desc).map (fun d => d.parameters.length) = some 1 := by decide +kernel
theorem cc_X11_out : Cond.code yX11_out cX11_out 4 (some .int) ∈ TB := tw_1434
theorem cn_X11_out : Cond.instanceMethod yX11_out ∈ TB := tw_1432
theorem ce_X11_out : Cond.selects RX11 yX11_out yX11_out ∈ TB := tw_1433
theorem cd_X11_out : yX11_out.cls ≠ "java/lang/invoke/MethodHandle" ∧ yX11_out.cls ≠ "java/lang/invoke/VarHandle" ∧ (parseMethodDescriptor yX11_out.desc).map (fun d => d.parameters.length) = some 2 := by decide +kernel
theorem cc_X11_pass : Cond.code yX11_pass cX11_pass 4 (some .int) ∈ TB := tw_1459
theorem cn_X11_pass : Cond.instanceMethod yX11_pass ∈ TB := tw_1457
theorem ce_X11_pass : Cond.selects RX11 yX11_pass yX11_pass ∈ TB := tw_1458
theorem cd_X11_pass : yX11_pass.cls ≠ "java/lang/invoke/MethodHandle" ∧ yX11_pass.cls ≠ "java/lang/invoke/VarHandle" ∧ (parseMethodDescriptor yX11_pass.desc).map (fun d => d.parameters.length) = some 1 := by decide +kernel
theorem cc_X11_pending : Cond.code yX11_pending cX11_pending 2 (some .int) ∈ TB := tw_1452
theorem cn_X11_pending : Cond.instanceMethod yX11_pending ∈ TB := tw_1450
theorem ce_X11_pending : Cond.selects RX11 yX11_pending yX11_pending ∈ TB := tw_1451
theorem cd_X11_pending : yX11_pending.cls ≠ "java/lang/invoke/MethodHandle" ∧ yX11_pending.cls ≠ "java/lang/invoke/VarHandle" ∧ (parseMethodDescriptor yX11_pending.desc).map (fun d => d.parameters.length) = some 1 := by decide +kernel
theorem cc_X11_retained : Cond.code yX11_retained cX11_retained 4 (some .int) ∈ TB := tw_1545
theorem cn_X11_retained : Cond.instanceMethod yX11_retained ∈ TB := tw_1543
theorem ce_X11_retained : Cond.selects RX11 yX11_retained yX11_retained ∈ TB := tw_1544
theorem cd_X11_retained : yX11_retained.cls ≠ "java/lang/invoke/MethodHandle" ∧ yX11_retained.cls ≠ "java/lang/invoke/VarHandle" ∧ (parseMethodDescriptor yX11_retained.desc).map (fun d => d.parameters.length) = some 2 := by decide +kernel
theorem cc_X11_session : Cond.code yX11_session cX11_session 4 (some .int) ∈ TB := tw_1502
theorem cn_X11_session : Cond.instanceMethod yX11_session ∈ TB := tw_1500
theorem ce_X11_session : Cond.selects RX11 yX11_session yX11_session ∈ TB := tw_1501
theorem cd_X11_session : yX11_session.cls ≠ "java/lang/invoke/MethodHandle" ∧ yX11_session.cls ≠ "java/lang/invoke/VarHandle" ∧ (parseMethodDescriptor yX11_session.desc).map (fun d => d.parameters.length) = some 2 := by decide +kernel
theorem cc_X11_size : Cond.code yX11_size cX11_size 2 (some .int) ∈ TB := tw_1427
theorem cn_X11_size : Cond.instanceMethod yX11_size ∈ TB := tw_1425
theorem ce_X11_size : Cond.selects RX11 yX11_size yX11_size ∈ TB := tw_1426
theorem cd_X11_size : yX11_size.cls ≠ "java/lang/invoke/MethodHandle" ∧ yX11_size.cls ≠ "java/lang/invoke/VarHandle" ∧ (parseMethodDescriptor yX11_size.desc).map (fun d => d.parameters.length) = some 1 := by decide +kernel
theorem cc_X11_subscription : Cond.code yX11_subscription cX11_subscription 5 (some .int) ∈ TB := tw_1527
theorem cn_X11_subscription : Cond.instanceMethod yX11_subscription ∈ TB := tw_1525
theorem ce_X11_subscription : Cond.selects RX11 yX11_subscription yX11_subscription ∈ TB := tw_1526
theorem cd_X11_subscription : yX11_subscription.cls ≠ "java/lang/invoke/MethodHandle" ∧ yX11_subscription.cls ≠ "java/lang/invoke/VarHandle" ∧ (parseMethodDescriptor yX11_subscription.desc).map (fun d => d.parameters.length) = some 3 := by decide +kernel
theorem cc_X11_take : Cond.code yX11_take cX11_take 4 (some .int) ∈ TB := tw_1441
theorem cn_X11_take : Cond.instanceMethod yX11_take ∈ TB := tw_1439
theorem ce_X11_take : Cond.selects RX11 yX11_take yX11_take ∈ TB := tw_1440
theorem cd_X11_take : yX11_take.cls ≠ "java/lang/invoke/MethodHandle" ∧ yX11_take.cls ≠ "java/lang/invoke/VarHandle" ∧ (parseMethodDescriptor yX11_take.desc).map (fun d => d.parameters.length) = some 2 := by decide +kernel
theorem cc_X11_told : Cond.code yX11_told cX11_told 2 (some .int) ∈ TB := tw_1554
theorem cn_X11_told : Cond.instanceMethod yX11_told ∈ TB := tw_1552
theorem ce_X11_told : Cond.selects RX11 yX11_told yX11_told ∈ TB := tw_1553
theorem cd_X11_told : yX11_told.cls ≠ "java/lang/invoke/MethodHandle" ∧ yX11_told.cls ≠ "java/lang/invoke/VarHandle" ∧ (parseMethodDescriptor yX11_told.desc).map (fun d => d.parameters.length) = some 1 := by decide +kernel
theorem lc_0 : Cond.classLink RL 13 (enm 0) ∈ TB := tw_345
theorem lc_1 : Cond.classLink RL 21 (enm 1) ∈ TB := tw_441
theorem lc_2 : Cond.classLink RL 15 (enm 2) ∈ TB := tw_346
