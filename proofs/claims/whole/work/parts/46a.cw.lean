theorem cl_L_103 : Cond.methodLink RL 103 yX12_out ∈ TB := tw_2185
theorem cl_L_106 : Cond.methodLink RL 106 yX12_take ∈ TB := tw_2189
theorem cl_L_109 : Cond.methodLink RL 109 yX12_pending ∈ TB := tw_2193
theorem cl_L_112 : Cond.methodLink RL 112 yX12_pass ∈ TB := tw_2197
theorem cl_L_113 : Cond.methodLink RL 113 yX11_isSession ∈ TB := tw_326
theorem cl_L_116 : Cond.methodLink RL 116 yX12_isSession ∈ TB := tw_2207
theorem cl_L_119 : Cond.methodLink RL 119 yX12_session ∈ TB := tw_2215
theorem cl_L_122 : Cond.methodLink RL 122 yX12_expiry ∈ TB := tw_2219
theorem cl_L_125 : Cond.methodLink RL 125 yX12_id ∈ TB := tw_2223
theorem cl_L_129 : Cond.methodLink RL 129 yX12_subscription ∈ TB := tw_2227
theorem cl_L_132 : Cond.methodLink RL 132 yX12_filter ∈ TB := tw_2235
theorem cl_L_135 : Cond.methodLink RL 135 yX12_retained ∈ TB := tw_2239
theorem cl_L_136 : Cond.methodLink RL 136 yX11_kept ∈ TB := tw_330
theorem cl_L_140 : Cond.methodLink RL 140 yX12_kept ∈ TB := tw_2245
theorem cl_L_143 : Cond.methodLink RL 143 yX12_told ∈ TB := tw_2249
theorem cl_L_79 : Cond.methodLink RL 79 yX12_open ∈ TB := tw_1869
theorem cl_L_80 : Cond.methodLink RL 80 yX12_thrown ∈ TB := tw_1559
theorem cl_L_89 : Cond.methodLink RL 89 yX12_feed ∈ TB := tw_1880
theorem cl_L_92 : Cond.methodLink RL 92 yX12_lose ∈ TB := tw_2173
theorem cl_L_96 : Cond.methodLink RL 96 yX12_isOpen ∈ TB := tw_2177
theorem cl_L_99 : Cond.methodLink RL 99 yX12_size ∈ TB := tw_2181
theorem cc_X11_isSession : Cond.code yX11_isSession cX11_isSession 2 (some .boolean) ∈ TB := tw_329
theorem cn_X11_isSession : Cond.instanceMethod yX11_isSession ∈ TB := tw_327
theorem ce_X11_isSession : Cond.selects RX11 yX11_isSession yX11_isSession ∈ TB := tw_328
theorem cd_X11_isSession : yX11_isSession.cls ≠ "java/lang/invoke/MethodHandle" ∧ yX11_isSession.cls ≠ "java/lang/invoke/VarHandle" ∧ (parseMethodDescriptor yX11_isSession.desc).map (fun d => d.parameters.length) = some 1 := by decide +kernel
theorem cc_X11_kept : Cond.code yX11_kept cX11_kept 5 (some .int) ∈ TB := tw_333
theorem cn_X11_kept : Cond.instanceMethod yX11_kept ∈ TB := tw_331
theorem ce_X11_kept : Cond.selects RX11 yX11_kept yX11_kept ∈ TB := tw_332
theorem cd_X11_kept : yX11_kept.cls ≠ "java/lang/invoke/MethodHandle" ∧ yX11_kept.cls ≠ "java/lang/invoke/VarHandle" ∧ (parseMethodDescriptor yX11_kept.desc).map (fun d => d.parameters.length) = some 3 := by decide +kernel
theorem cc_X12_expiry : Cond.code yX12_expiry cX12_expiry 2 (some .long) ∈ TB := tw_2222
theorem cn_X12_expiry : Cond.instanceMethod yX12_expiry ∈ TB := tw_2220
theorem ce_X12_expiry : Cond.selects RX12 yX12_expiry yX12_expiry ∈ TB := tw_2221
theorem cd_X12_expiry : yX12_expiry.cls ≠ "java/lang/invoke/MethodHandle" ∧ yX12_expiry.cls ≠ "java/lang/invoke/VarHandle" ∧ (parseMethodDescriptor yX12_expiry.desc).map (fun d => d.parameters.length) = some 1 := by decide +kernel
theorem cc_X12_feed : Cond.code yX12_feed cX12_feed 9 (some .int) ∈ TB := tw_1883
theorem cn_X12_feed : Cond.instanceMethod yX12_feed ∈ TB := tw_1881
theorem ce_X12_feed : Cond.selects RX12 yX12_feed yX12_feed ∈ TB := tw_1882
theorem cd_X12_feed : yX12_feed.cls ≠ "java/lang/invoke/MethodHandle" ∧ yX12_feed.cls ≠ "java/lang/invoke/VarHandle" ∧ (parseMethodDescriptor yX12_feed.desc).map (fun d => d.parameters.length) = some 4 := by decide +kernel
theorem cc_X12_filter : Cond.code yX12_filter cX12_filter 5 (some .int) ∈ TB := tw_2238
theorem cn_X12_filter : Cond.instanceMethod yX12_filter ∈ TB := tw_2236
theorem ce_X12_filter : Cond.selects RX12 yX12_filter yX12_filter ∈ TB := tw_2237
theorem cd_X12_filter : yX12_filter.cls ≠ "java/lang/invoke/MethodHandle" ∧ yX12_filter.cls ≠ "java/lang/invoke/VarHandle" ∧ (parseMethodDescriptor yX12_filter.desc).map (fun d => d.parameters.length) = some 3 := by decide +kernel
theorem cc_X12_id : Cond.code yX12_id cX12_id 3 (some .int) ∈ TB := tw_2226
theorem cn_X12_id : Cond.instanceMethod yX12_id ∈ TB := tw_2224
theorem ce_X12_id : Cond.selects RX12 yX12_id yX12_id ∈ TB := tw_2225
theorem cd_X12_id : yX12_id.cls ≠ "java/lang/invoke/MethodHandle" ∧ yX12_id.cls ≠ "java/lang/invoke/VarHandle" ∧ (parseMethodDescriptor yX12_id.desc).map (fun d => d.parameters.length) = some 2 := by decide +kernel
theorem cc_X12_isOpen : Cond.code yX12_isOpen cX12_isOpen 2 (some .boolean) ∈ TB := tw_2180
theorem cn_X12_isOpen : Cond.instanceMethod yX12_isOpen ∈ TB := tw_2178
theorem ce_X12_isOpen : Cond.selects RX12 yX12_isOpen yX12_isOpen ∈ TB := tw_2179
theorem cd_X12_isOpen : yX12_isOpen.cls ≠ "java/lang/invoke/MethodHandle" ∧ yX12_isOpen.cls ≠ "java/lang/invoke/VarHandle" ∧ (parseMethodDescriptor yX12_isOpen.desc).map (fun d => d.parameters.length) = some 1 := by decide +kernel
theorem cc_X12_isSession : Cond.code yX12_isSession cX12_isSession 2 (some .boolean) ∈ TB := tw_2210
theorem cn_X12_isSession : Cond.instanceMethod yX12_isSession ∈ TB := tw_2208
theorem ce_X12_isSession : Cond.selects RX12 yX12_isSession yX12_isSession ∈ TB := tw_2209
theorem cd_X12_isSession : yX12_isSession.cls ≠ "java/lang/invoke/MethodHandle" ∧ yX12_isSession.cls ≠ "java/lang/invoke/VarHandle" ∧ (parseMethodDescriptor yX12_isSession.desc).map (fun d => d.parameters.length) = some 1 := by decide +kernel
theorem cc_X12_kept : Cond.code yX12_kept cX12_kept 6 (some .int) ∈ TB := tw_2248
theorem cn_X12_kept : Cond.instanceMethod yX12_kept ∈ TB := tw_2246
theorem ce_X12_kept : Cond.selects RX12 yX12_kept yX12_kept ∈ TB := tw_2247
theorem cd_X12_kept : yX12_kept.cls ≠ "java/lang/invoke/MethodHandle" ∧ yX12_kept.cls ≠ "java/lang/invoke/VarHandle" ∧ (parseMethodDescriptor yX12_kept.desc).map (fun d => d.parameters.length) = some 3 := by decide +kernel
theorem cc_X12_lose : Cond.code yX12_lose cX12_lose 2 none ∈ TB := tw_2176
theorem cn_X12_lose : Cond.instanceMethod yX12_lose ∈ TB := tw_2174
theorem ce_X12_lose : Cond.selects RX12 yX12_lose yX12_lose ∈ TB := tw_2175
theorem cd_X12_lose : yX12_lose.cls ≠ "java/lang/invoke/MethodHandle" ∧ yX12_lose.cls ≠ "java/lang/invoke/VarHandle" ∧ (parseMethodDescriptor yX12_lose.desc).map (fun d => d.parameters.length) = some 1 := by decide +kernel
theorem cc_X12_open : Cond.code yX12_open cX12_open 3 none ∈ TB := tw_1872
theorem cn_X12_open : Cond.instanceMethod yX12_open ∈ TB := tw_1870
theorem ce_X12_open : Cond.selects RX12 yX12_open yX12_open ∈ TB := tw_1871
theorem cd_X12_open : yX12_open.cls ≠ "java/lang/invoke/MethodHandle" ∧ yX12_open.cls ≠ "java/lang/invoke/VarHandle" ∧ (parseMethodDescriptor yX12_open.desc).map (fun d => d.parameters.length) = some 1 := by decide +kernel
theorem cc_X12_out : Cond.code yX12_out cX12_out 3 (some .int) ∈ TB := tw_2188
theorem cn_X12_out : Cond.instanceMethod yX12_out ∈ TB := tw_2186
theorem ce_X12_out : Cond.selects RX12 yX12_out yX12_out ∈ TB := tw_2187
theorem cd_X12_out : yX12_out.cls ≠ "java/lang/invoke/MethodHandle" ∧ yX12_out.cls ≠ "java/lang/invoke/VarHandle" ∧ (parseMethodDescriptor yX12_out.desc).map (fun d => d.parameters.length) = some 2 := by decide +kernel
theorem cc_X12_pass : Cond.code yX12_pass cX12_pass 4 (some .int) ∈ TB := tw_2200
theorem cn_X12_pass : Cond.instanceMethod yX12_pass ∈ TB := tw_2198
theorem ce_X12_pass : Cond.selects RX12 yX12_pass yX12_pass ∈ TB := tw_2199
theorem cd_X12_pass : yX12_pass.cls ≠ "java/lang/invoke/MethodHandle" ∧ yX12_pass.cls ≠ "java/lang/invoke/VarHandle" ∧ (parseMethodDescriptor yX12_pass.desc).map (fun d => d.parameters.length) = some 1 := by decide +kernel
theorem cc_X12_pending : Cond.code yX12_pending cX12_pending 2 (some .int) ∈ TB := tw_2196
theorem cn_X12_pending : Cond.instanceMethod yX12_pending ∈ TB := tw_2194
theorem ce_X12_pending : Cond.selects RX12 yX12_pending yX12_pending ∈ TB := tw_2195
theorem cd_X12_pending : yX12_pending.cls ≠ "java/lang/invoke/MethodHandle" ∧ yX12_pending.cls ≠ "java/lang/invoke/VarHandle" ∧ (parseMethodDescriptor yX12_pending.desc).map (fun d => d.parameters.length) = some 1 := by decide +kernel
theorem cc_X12_retained : Cond.code yX12_retained cX12_retained 4 (some .int) ∈ TB := tw_2242
theorem cn_X12_retained : Cond.instanceMethod yX12_retained ∈ TB := tw_2240
theorem ce_X12_retained : Cond.selects RX12 yX12_retained yX12_retained ∈ TB := tw_2241
theorem cd_X12_retained : yX12_retained.cls ≠ "java/lang/invoke/MethodHandle" ∧ yX12_retained.cls ≠ "java/lang/invoke/VarHandle" ∧ (parseMethodDescriptor yX12_retained.desc).map (fun d => d.parameters.length) = some 2 := by decide +kernel
theorem cc_X12_session : Cond.code yX12_session cX12_session 3 (some .int) ∈ TB := tw_2218
theorem cn_X12_session : Cond.instanceMethod yX12_session ∈ TB := tw_2216
theorem ce_X12_session : Cond.selects RX12 yX12_session yX12_session ∈ TB := tw_2217
theorem cd_X12_session : yX12_session.cls ≠ "java/lang/invoke/MethodHandle" ∧ yX12_session.cls ≠ "java/lang/invoke/VarHandle" ∧ (parseMethodDescriptor yX12_session.desc).map (fun d => d.parameters.length) = some 2 := by decide +kernel
theorem cc_X12_size : Cond.code yX12_size cX12_size 2 (some .int) ∈ TB := tw_2184
theorem cn_X12_size : Cond.instanceMethod yX12_size ∈ TB := tw_2182
theorem ce_X12_size : Cond.selects RX12 yX12_size yX12_size ∈ TB := tw_2183
theorem cd_X12_size : yX12_size.cls ≠ "java/lang/invoke/MethodHandle" ∧ yX12_size.cls ≠ "java/lang/invoke/VarHandle" ∧ (parseMethodDescriptor yX12_size.desc).map (fun d => d.parameters.length) = some 1 := by decide +kernel
theorem cc_X12_subscription : Cond.code yX12_subscription cX12_subscription 5 (some .int) ∈ TB := tw_2230
theorem cn_X12_subscription : Cond.instanceMethod yX12_subscription ∈ TB := tw_2228
theorem ce_X12_subscription : Cond.selects RX12 yX12_subscription yX12_subscription ∈ TB := tw_2229
theorem cd_X12_subscription : yX12_subscription.cls ≠ "java/lang/invoke/MethodHandle" ∧ yX12_subscription.cls ≠ "java/lang/invoke/VarHandle" ∧ (parseMethodDescriptor yX12_subscription.desc).map (fun d => d.parameters.length) = some 3 := by decide +kernel
theorem cc_X12_take : Cond.code yX12_take cX12_take 5 (some .int) ∈ TB := tw_2192
theorem cn_X12_take : Cond.instanceMethod yX12_take ∈ TB := tw_2190
theorem ce_X12_take : Cond.selects RX12 yX12_take yX12_take ∈ TB := tw_2191
theorem cd_X12_take : yX12_take.cls ≠ "java/lang/invoke/MethodHandle" ∧ yX12_take.cls ≠ "java/lang/invoke/VarHandle" ∧ (parseMethodDescriptor yX12_take.desc).map (fun d => d.parameters.length) = some 2 := by decide +kernel
theorem cc_X12_thrown : Cond.code yX12_thrown cX12_thrown 1 (some .int) ∈ TB := tw_1562
theorem cn_X12_thrown : Cond.instanceMethod yX12_thrown ∈ TB := tw_1560
theorem ce_X12_thrown : Cond.selects RX12 yX12_thrown yX12_thrown ∈ TB := tw_1561
theorem cd_X12_thrown : yX12_thrown.cls ≠ "java/lang/invoke/MethodHandle" ∧ yX12_thrown.cls ≠ "java/lang/invoke/VarHandle" ∧ (parseMethodDescriptor yX12_thrown.desc).map (fun d => d.parameters.length) = some 0 := by decide +kernel
theorem cc_X12_told : Cond.code yX12_told cX12_told 4 (some .int) ∈ TB := tw_2252
theorem cn_X12_told : Cond.instanceMethod yX12_told ∈ TB := tw_2250
theorem ce_X12_told : Cond.selects RX12 yX12_told yX12_told ∈ TB := tw_2251
theorem cd_X12_told : yX12_told.cls ≠ "java/lang/invoke/MethodHandle" ∧ yX12_told.cls ≠ "java/lang/invoke/VarHandle" ∧ (parseMethodDescriptor yX12_told.desc).map (fun d => d.parameters.length) = some 1 := by decide +kernel
theorem ci_X12 : Cond.initialized RX12 ∈ TB := tw_10
theorem wc_L_expiry : Cond.codeWith yL_expiry cL_expiry 4 (some .int) hh_L_expiry ∈ TB := tw_1509
theorem ws_L_expiry : Cond.static yL_expiry ∈ TB := tw_1508
theorem wd_L_expiry : yL_expiry.cls ≠ "java/lang/invoke/MethodHandle" ∧ yL_expiry.cls ≠ "java/lang/invoke/VarHandle" ∧ (parseMethodDescriptor yL_expiry.desc).map (fun d => d.parameters.length) = some 3 := by decide +kernel
theorem ll_120 : Cond.methodLink RL 120 yL_expiry ∈ TB := tw_1507
theorem wc_L_feed : Cond.codeWith yL_feed cL_feed 9 (some .int) hh_L_feed ∈ TB := tw_440
theorem ws_L_feed : Cond.static yL_feed ∈ TB := tw_439
theorem wd_L_feed : yL_feed.cls ≠ "java/lang/invoke/MethodHandle" ∧ yL_feed.cls ≠ "java/lang/invoke/VarHandle" ∧ (parseMethodDescriptor yL_feed.desc).map (fun d => d.parameters.length) = some 6 := by decide +kernel
theorem ll_86 : Cond.methodLink RL 86 yL_feed ∈ TB := tw_438
theorem wc_L_filter : Cond.codeWith yL_filter cL_filter 6 (some .int) hh_L_filter ∈ TB := tw_1534
theorem ws_L_filter : Cond.static yL_filter ∈ TB := tw_1533
theorem wd_L_filter : yL_filter.cls ≠ "java/lang/invoke/MethodHandle" ∧ yL_filter.cls ≠ "java/lang/invoke/VarHandle" ∧ (parseMethodDescriptor yL_filter.desc).map (fun d => d.parameters.length) = some 5 := by decide +kernel
theorem ll_130 : Cond.methodLink RL 130 yL_filter ∈ TB := tw_1532
theorem wc_L_id : Cond.codeWith yL_id cL_id 5 (some .int) hh_L_id ∈ TB := tw_1516
theorem ws_L_id : Cond.static yL_id ∈ TB := tw_1515
theorem wd_L_id : yL_id.cls ≠ "java/lang/invoke/MethodHandle" ∧ yL_id.cls ≠ "java/lang/invoke/VarHandle" ∧ (parseMethodDescriptor yL_id.desc).map (fun d => d.parameters.length) = some 4 := by decide +kernel
theorem ll_123 : Cond.methodLink RL 123 yL_id ∈ TB := tw_1514
theorem wc_L_isOpen : Cond.codeWith yL_isOpen cL_isOpen 4 (some .int) hh_L_isOpen ∈ TB := tw_1416
theorem ws_L_isOpen : Cond.static yL_isOpen ∈ TB := tw_1415
theorem wd_L_isOpen : yL_isOpen.cls ≠ "java/lang/invoke/MethodHandle" ∧ yL_isOpen.cls ≠ "java/lang/invoke/VarHandle" ∧ (parseMethodDescriptor yL_isOpen.desc).map (fun d => d.parameters.length) = some 3 := by decide +kernel
theorem ll_93 : Cond.methodLink RL 93 yL_isOpen ∈ TB := tw_1414
theorem wc_L_lose : Cond.codeWith yL_lose cL_lose 3 (some .int) hh_L_lose ∈ TB := tw_1409
theorem ws_L_lose : Cond.static yL_lose ∈ TB := tw_1408
theorem wd_L_lose : yL_lose.cls ≠ "java/lang/invoke/MethodHandle" ∧ yL_lose.cls ≠ "java/lang/invoke/VarHandle" ∧ (parseMethodDescriptor yL_lose.desc).map (fun d => d.parameters.length) = some 2 := by decide +kernel
theorem ll_90 : Cond.methodLink RL 90 yL_lose ∈ TB := tw_1407
theorem wc_L_open : Cond.codeWith yL_open cL_open 3 (some .int) hh_L_open ∈ TB := tw_344
theorem ws_L_open : Cond.static yL_open ∈ TB := tw_343
theorem wd_L_open : yL_open.cls ≠ "java/lang/invoke/MethodHandle" ∧ yL_open.cls ≠ "java/lang/invoke/VarHandle" ∧ (parseMethodDescriptor yL_open.desc).map (fun d => d.parameters.length) = some 2 := by decide +kernel
theorem ll_74 : Cond.methodLink RL 74 yL_open ∈ TB := tw_342
theorem wc_L_out : Cond.codeWith yL_out cL_out 5 (some .int) hh_L_out ∈ TB := tw_1430
theorem ws_L_out : Cond.static yL_out ∈ TB := tw_1429
theorem wd_L_out : yL_out.cls ≠ "java/lang/invoke/MethodHandle" ∧ yL_out.cls ≠ "java/lang/invoke/VarHandle" ∧ (parseMethodDescriptor yL_out.desc).map (fun d => d.parameters.length) = some 4 := by decide +kernel
theorem ll_100 : Cond.methodLink RL 100 yL_out ∈ TB := tw_1428
theorem wc_L_pass : Cond.codeWith yL_pass cL_pass 4 (some .int) hh_L_pass ∈ TB := tw_1455
theorem ws_L_pass : Cond.static yL_pass ∈ TB := tw_1454
theorem wd_L_pass : yL_pass.cls ≠ "java/lang/invoke/MethodHandle" ∧ yL_pass.cls ≠ "java/lang/invoke/VarHandle" ∧ (parseMethodDescriptor yL_pass.desc).map (fun d => d.parameters.length) = some 3 := by decide +kernel
theorem ll_110 : Cond.methodLink RL 110 yL_pass ∈ TB := tw_1453
theorem wc_L_pending : Cond.codeWith yL_pending cL_pending 4 (some .int) hh_L_pending ∈ TB := tw_1448
theorem ws_L_pending : Cond.static yL_pending ∈ TB := tw_1447
theorem wd_L_pending : yL_pending.cls ≠ "java/lang/invoke/MethodHandle" ∧ yL_pending.cls ≠ "java/lang/invoke/VarHandle" ∧ (parseMethodDescriptor yL_pending.desc).map (fun d => d.parameters.length) = some 3 := by decide +kernel
theorem ll_107 : Cond.methodLink RL 107 yL_pending ∈ TB := tw_1446
theorem wc_L_retained : Cond.codeWith yL_retained cL_retained 5 (some .int) hh_L_retained ∈ TB := tw_1541
theorem ws_L_retained : Cond.static yL_retained ∈ TB := tw_1540
theorem wd_L_retained : yL_retained.cls ≠ "java/lang/invoke/MethodHandle" ∧ yL_retained.cls ≠ "java/lang/invoke/VarHandle" ∧ (parseMethodDescriptor yL_retained.desc).map (fun d => d.parameters.length) = some 4 := by decide +kernel
theorem ll_133 : Cond.methodLink RL 133 yL_retained ∈ TB := tw_1539
theorem wc_L_session : Cond.codeWith yL_session cL_session 5 (some .int) hh_L_session ∈ TB := tw_1498
theorem ws_L_session : Cond.static yL_session ∈ TB := tw_1497
theorem wd_L_session : yL_session.cls ≠ "java/lang/invoke/MethodHandle" ∧ yL_session.cls ≠ "java/lang/invoke/VarHandle" ∧ (parseMethodDescriptor yL_session.desc).map (fun d => d.parameters.length) = some 4 := by decide +kernel
theorem ll_117 : Cond.methodLink RL 117 yL_session ∈ TB := tw_1496
theorem wc_L_size : Cond.codeWith yL_size cL_size 4 (some .int) hh_L_size ∈ TB := tw_1423
theorem ws_L_size : Cond.static yL_size ∈ TB := tw_1422
theorem wd_L_size : yL_size.cls ≠ "java/lang/invoke/MethodHandle" ∧ yL_size.cls ≠ "java/lang/invoke/VarHandle" ∧ (parseMethodDescriptor yL_size.desc).map (fun d => d.parameters.length) = some 3 := by decide +kernel
theorem ll_97 : Cond.methodLink RL 97 yL_size ∈ TB := tw_1421
theorem wc_L_subscription : Cond.codeWith yL_subscription cL_subscription 6 (some .int) hh_L_subscription ∈ TB := tw_1523
theorem ws_L_subscription : Cond.static yL_subscription ∈ TB := tw_1522
theorem wd_L_subscription : yL_subscription.cls ≠ "java/lang/invoke/MethodHandle" ∧ yL_subscription.cls ≠ "java/lang/invoke/VarHandle" ∧ (parseMethodDescriptor yL_subscription.desc).map (fun d => d.parameters.length) = some 5 := by decide +kernel
theorem ll_126 : Cond.methodLink RL 126 yL_subscription ∈ TB := tw_1521
theorem wc_L_take : Cond.codeWith yL_take cL_take 5 (some .int) hh_L_take ∈ TB := tw_1437
theorem ws_L_take : Cond.static yL_take ∈ TB := tw_1436
theorem wd_L_take : yL_take.cls ≠ "java/lang/invoke/MethodHandle" ∧ yL_take.cls ≠ "java/lang/invoke/VarHandle" ∧ (parseMethodDescriptor yL_take.desc).map (fun d => d.parameters.length) = some 4 := by decide +kernel
theorem ll_104 : Cond.methodLink RL 104 yL_take ∈ TB := tw_1435
theorem wc_L_told : Cond.codeWith yL_told cL_told 4 (some .int) hh_L_told ∈ TB := tw_1550
theorem ws_L_told : Cond.static yL_told ∈ TB := tw_1549
theorem wd_L_told : yL_told.cls ≠ "java/lang/invoke/MethodHandle" ∧ yL_told.cls ≠ "java/lang/invoke/VarHandle" ∧ (parseMethodDescriptor yL_told.desc).map (fun d => d.parameters.length) = some 3 := by decide +kernel
theorem ll_141 : Cond.methodLink RL 141 yL_told ∈ TB := tw_1548
theorem ci_L : Cond.initialized RL ∈ TB := tw_0
