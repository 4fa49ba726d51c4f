set_option maxRecDepth 20000 in
theorem gi_wsL_law_0 : GoodIn wsL_law wsL_law_r1 := goodIn_sub (fun w h => (List.mem_append_left _ (List.mem_append_left _ (List.mem_append_left _ (List.mem_append_left _ (List.mem_append_left _ (List.mem_append_left _ (List.mem_append_left _ (List.mem_append_left _ (List.mem_append_left _ (List.mem_append_left _ (List.mem_append_left _ h)))))))))))) (by decide +kernel)
set_option maxRecDepth 20000 in
theorem gi_wsL_law_1 : GoodIn wsL_law wsL_law_r2 := goodIn_sub (fun w h => (List.mem_append_left _ (List.mem_append_left _ (List.mem_append_left _ (List.mem_append_left _ (List.mem_append_left _ (List.mem_append_left _ (List.mem_append_left _ (List.mem_append_left _ (List.mem_append_left _ (List.mem_append_left _ (List.mem_append_right _ (List.mem_append_left _ h))))))))))))) (by decide +kernel)
set_option maxRecDepth 20000 in
theorem gi_wsL_law_2 : GoodIn wsL_law wsL_law_r3 := goodIn_sub (fun w h => (List.mem_append_left _ (List.mem_append_left _ (List.mem_append_left _ (List.mem_append_left _ (List.mem_append_left _ (List.mem_append_left _ (List.mem_append_left _ (List.mem_append_left _ (List.mem_append_left _ (List.mem_append_left _ (List.mem_append_right _ (List.mem_append_right _ (List.mem_append_left _ h)))))))))))))) (by decide +kernel)
set_option maxRecDepth 20000 in
theorem gi_wsL_law_3 : GoodIn wsL_law wsL_law_r4 := goodIn_sub (fun w h => (List.mem_append_left _ (List.mem_append_left _ (List.mem_append_left _ (List.mem_append_left _ (List.mem_append_left _ (List.mem_append_left _ (List.mem_append_left _ (List.mem_append_left _ (List.mem_append_left _ (List.mem_append_left _ (List.mem_append_right _ (List.mem_append_right _ (List.mem_append_right _ (List.mem_append_left _ h))))))))))))))) (by decide +kernel)
set_option maxRecDepth 20000 in
theorem gi_wsL_law_4 : GoodIn wsL_law wsL_law_r5 := goodIn_sub (fun w h => (List.mem_append_left _ (List.mem_append_left _ (List.mem_append_left _ (List.mem_append_left _ (List.mem_append_left _ (List.mem_append_left _ (List.mem_append_left _ (List.mem_append_left _ (List.mem_append_left _ (List.mem_append_left _ (List.mem_append_right _ (List.mem_append_right _ (List.mem_append_right _ (List.mem_append_right _ (List.mem_append_left _ h)))))))))))))))) (by decide +kernel)
set_option maxRecDepth 20000 in
theorem gi_wsL_law_5 : GoodIn wsL_law wsL_law_r6 := goodIn_sub (fun w h => (List.mem_append_left _ (List.mem_append_left _ (List.mem_append_left _ (List.mem_append_left _ (List.mem_append_left _ (List.mem_append_left _ (List.mem_append_left _ (List.mem_append_left _ (List.mem_append_left _ (List.mem_append_left _ (List.mem_append_right _ (List.mem_append_right _ (List.mem_append_right _ (List.mem_append_right _ (List.mem_append_right _ (List.mem_append_left _ h))))))))))))))))) (by decide +kernel)
set_option maxRecDepth 20000 in
theorem gi_wsL_law_6 : GoodIn wsL_law wsL_law_r7 := goodIn_sub (fun w h => (List.mem_append_left _ (List.mem_append_left _ (List.mem_append_left _ (List.mem_append_left _ (List.mem_append_left _ (List.mem_append_left _ (List.mem_append_left _ (List.mem_append_left _ (List.mem_append_left _ (List.mem_append_left _ (List.mem_append_right _ (List.mem_append_right _ (List.mem_append_right _ (List.mem_append_right _ (List.mem_append_right _ (List.mem_append_right _ (List.mem_append_left _ h)))))))))))))))))) (by decide +kernel)
set_option maxRecDepth 20000 in
theorem gi_wsL_law_7 : GoodIn wsL_law wsL_law_r8 := goodIn_sub (fun w h => (List.mem_append_left _ (List.mem_append_left _ (List.mem_append_left _ (List.mem_append_left _ (List.mem_append_left _ (List.mem_append_left _ (List.mem_append_left _ (List.mem_append_left _ (List.mem_append_left _ (List.mem_append_left _ (List.mem_append_right _ (List.mem_append_right _ (List.mem_append_right _ (List.mem_append_right _ (List.mem_append_right _ (List.mem_append_right _ (List.mem_append_right _ (List.mem_append_left _ h))))))))))))))))))) (by decide +kernel)
set_option maxRecDepth 20000 in
theorem gi_wsL_law_8 : GoodIn wsL_law wsL_law_r9 := goodIn_sub (fun w h => (List.mem_append_left _ (List.mem_append_left _ (List.mem_append_left _ (List.mem_append_left _ (List.mem_append_left _ (List.mem_append_left _ (List.mem_append_left _ (List.mem_append_left _ (List.mem_append_left _ (List.mem_append_left _ (List.mem_append_right _ (List.mem_append_right _ (List.mem_append_right _ (List.mem_append_right _ (List.mem_append_right _ (List.mem_append_right _ (List.mem_append_right _ (List.mem_append_right _ (List.mem_append_left _ h)))))))))))))))))))) (by decide +kernel)
set_option maxRecDepth 20000 in
theorem gi_wsL_law_9 : GoodIn wsL_law wsL_law_r10 := goodIn_sub (fun w h => (List.mem_append_left _ (List.mem_append_left _ (List.mem_append_left _ (List.mem_append_left _ (List.mem_append_left _ (List.mem_append_left _ (List.mem_append_left _ (List.mem_append_left _ (List.mem_append_left _ (List.mem_append_left _ (List.mem_append_right _ (List.mem_append_right _ (List.mem_append_right _ (List.mem_append_right _ (List.mem_append_right _ (List.mem_append_right _ (List.mem_append_right _ (List.mem_append_right _ (List.mem_append_right _ (List.mem_append_left _ h))))))))))))))))))))) (by decide +kernel)
set_option maxRecDepth 20000 in
theorem gi_wsL_law_10 : GoodIn wsL_law wsL_law_r11 := goodIn_sub (fun w h => (List.mem_append_left _ (List.mem_append_left _ (List.mem_append_left _ (List.mem_append_left _ (List.mem_append_left _ (List.mem_append_left _ (List.mem_append_left _ (List.mem_append_left _ (List.mem_append_left _ (List.mem_append_left _ (List.mem_append_right _ (List.mem_append_right _ (List.mem_append_right _ (List.mem_append_right _ (List.mem_append_right _ (List.mem_append_right _ (List.mem_append_right _ (List.mem_append_right _ (List.mem_append_right _ (List.mem_append_right _ (List.mem_append_left _ h)))))))))))))))))))))) (by decide +kernel)
set_option maxRecDepth 20000 in
theorem gi_wsL_law_11 : GoodIn wsL_law wsL_law_r12 := goodIn_sub (fun w h => (List.mem_append_left _ (List.mem_append_left _ (List.mem_append_left _ (List.mem_append_left _ (List.mem_append_left _ (List.mem_append_left _ (List.mem_append_left _ (List.mem_append_left _ (List.mem_append_left _ (List.mem_append_left _ (List.mem_append_right _ (List.mem_append_right _ (List.mem_append_right _ (List.mem_append_right _ (List.mem_append_right _ (List.mem_append_right _ (List.mem_append_right _ (List.mem_append_right _ (List.mem_append_right _ (List.mem_append_right _ (List.mem_append_right _ (List.mem_append_left _ h))))))))))))))))))))))) (by decide +kernel)
set_option maxRecDepth 20000 in
theorem gi_wsL_law_12 : GoodIn wsL_law wsL_law_r13 := goodIn_sub (fun w h => (List.mem_append_left _ (List.mem_append_left _ (List.mem_append_left _ (List.mem_append_left _ (List.mem_append_left _ (List.mem_append_left _ (List.mem_append_left _ (List.mem_append_left _ (List.mem_append_left _ (List.mem_append_left _ (List.mem_append_right _ (List.mem_append_right _ (List.mem_append_right _ (List.mem_append_right _ (List.mem_append_right _ (List.mem_append_right _ (List.mem_append_right _ (List.mem_append_right _ (List.mem_append_right _ (List.mem_append_right _ (List.mem_append_right _ (List.mem_append_right _ (List.mem_append_left _ h)))))))))))))))))))))))) (by decide +kernel)
set_option maxRecDepth 20000 in
theorem gi_wsL_law_13 : GoodIn wsL_law wsL_law_r14 := goodIn_sub (fun w h => (List.mem_append_left _ (List.mem_append_left _ (List.mem_append_left _ (List.mem_append_left _ (List.mem_append_left _ (List.mem_append_left _ (List.mem_append_left _ (List.mem_append_left _ (List.mem_append_left _ (List.mem_append_left _ (List.mem_append_right _ (List.mem_append_right _ (List.mem_append_right _ (List.mem_append_right _ (List.mem_append_right _ (List.mem_append_right _ (List.mem_append_right _ (List.mem_append_right _ (List.mem_append_right _ (List.mem_append_right _ (List.mem_append_right _ (List.mem_append_right _ (List.mem_append_right _ (List.mem_append_left _ h))))))))))))))))))))))))) (by decide +kernel)
set_option maxRecDepth 20000 in
theorem gi_wsL_law_14 : GoodIn wsL_law wsL_law_r15 := goodIn_sub (fun w h => (List.mem_append_left _ (List.mem_append_left _ (List.mem_append_left _ (List.mem_append_left _ (List.mem_append_left _ (List.mem_append_left _ (List.mem_append_left _ (List.mem_append_left _ (List.mem_append_left _ (List.mem_append_left _ (List.mem_append_right _ (List.mem_append_right _ (List.mem_append_right _ (List.mem_append_right _ (List.mem_append_right _ (List.mem_append_right _ (List.mem_append_right _ (List.mem_append_right _ (List.mem_append_right _ (List.mem_append_right _ (List.mem_append_right _ (List.mem_append_right _ (List.mem_append_right _ (List.mem_append_right _ (List.mem_append_left _ h)))))))))))))))))))))))))) (by decide +kernel)
set_option maxRecDepth 20000 in
theorem gi_wsL_law_15 : GoodIn wsL_law wsL_law_r16 := goodIn_sub (fun w h => (List.mem_append_left _ (List.mem_append_left _ (List.mem_append_left _ (List.mem_append_left _ (List.mem_append_left _ (List.mem_append_left _ (List.mem_append_left _ (List.mem_append_left _ (List.mem_append_left _ (List.mem_append_left _ (List.mem_append_right _ (List.mem_append_right _ (List.mem_append_right _ (List.mem_append_right _ (List.mem_append_right _ (List.mem_append_right _ (List.mem_append_right _ (List.mem_append_right _ (List.mem_append_right _ (List.mem_append_right _ (List.mem_append_right _ (List.mem_append_right _ (List.mem_append_right _ (List.mem_append_right _ (List.mem_append_right _ (List.mem_append_left _ h))))))))))))))))))))))))))) (by decide +kernel)
set_option maxRecDepth 20000 in
theorem gi_wsL_law_16 : GoodIn wsL_law wsL_law_r17 := goodIn_sub (fun w h => (List.mem_append_left _ (List.mem_append_left _ (List.mem_append_left _ (List.mem_append_left _ (List.mem_append_left _ (List.mem_append_left _ (List.mem_append_left _ (List.mem_append_left _ (List.mem_append_left _ (List.mem_append_left _ (List.mem_append_right _ (List.mem_append_right _ (List.mem_append_right _ (List.mem_append_right _ (List.mem_append_right _ (List.mem_append_right _ (List.mem_append_right _ (List.mem_append_right _ (List.mem_append_right _ (List.mem_append_right _ (List.mem_append_right _ (List.mem_append_right _ (List.mem_append_right _ (List.mem_append_right _ (List.mem_append_right _ (List.mem_append_right _ (List.mem_append_left _ h)))))))))))))))))))))))))))) (by decide +kernel)
set_option maxRecDepth 20000 in
theorem gi_wsL_law_17 : GoodIn wsL_law wsL_law_r18 := goodIn_sub (fun w h => (List.mem_append_left _ (List.mem_append_left _ (List.mem_append_left _ (List.mem_append_left _ (List.mem_append_left _ (List.mem_append_left _ (List.mem_append_left _ (List.mem_append_left _ (List.mem_append_left _ (List.mem_append_left _ (List.mem_append_right _ (List.mem_append_right _ (List.mem_append_right _ (List.mem_append_right _ (List.mem_append_right _ (List.mem_append_right _ (List.mem_append_right _ (List.mem_append_right _ (List.mem_append_right _ (List.mem_append_right _ (List.mem_append_right _ (List.mem_append_right _ (List.mem_append_right _ (List.mem_append_right _ (List.mem_append_right _ (List.mem_append_right _ (List.mem_append_right _ (List.mem_append_left _ h))))))))))))))))))))))))))))) (by decide +kernel)
set_option maxRecDepth 20000 in
theorem gi_wsL_law_18 : GoodIn wsL_law wsL_law_r19 := goodIn_sub (fun w h => (List.mem_append_left _ (List.mem_append_left _ (List.mem_append_left _ (List.mem_append_left _ (List.mem_append_left _ (List.mem_append_left _ (List.mem_append_left _ (List.mem_append_left _ (List.mem_append_left _ (List.mem_append_left _ (List.mem_append_right _ (List.mem_append_right _ (List.mem_append_right _ (List.mem_append_right _ (List.mem_append_right _ (List.mem_append_right _ (List.mem_append_right _ (List.mem_append_right _ (List.mem_append_right _ (List.mem_append_right _ (List.mem_append_right _ (List.mem_append_right _ (List.mem_append_right _ (List.mem_append_right _ (List.mem_append_right _ (List.mem_append_right _ (List.mem_append_right _ (List.mem_append_right _ (List.mem_append_left _ h)))))))))))))))))))))))))))))) (by decide +kernel)
set_option maxRecDepth 20000 in
theorem gi_wsL_law_19 : GoodIn wsL_law wsL_law_r20 := goodIn_sub (fun w h => (List.mem_append_left _ (List.mem_append_left _ (List.mem_append_left _ (List.mem_append_left _ (List.mem_append_left _ (List.mem_append_left _ (List.mem_append_left _ (List.mem_append_left _ (List.mem_append_left _ (List.mem_append_left _ (List.mem_append_right _ (List.mem_append_right _ (List.mem_append_right _ (List.mem_append_right _ (List.mem_append_right _ (List.mem_append_right _ (List.mem_append_right _ (List.mem_append_right _ (List.mem_append_right _ (List.mem_append_right _ (List.mem_append_right _ (List.mem_append_right _ (List.mem_append_right _ (List.mem_append_right _ (List.mem_append_right _ (List.mem_append_right _ (List.mem_append_right _ (List.mem_append_right _ (List.mem_append_right _ (List.mem_append_left _ h))))))))))))))))))))))))))))))) (by decide +kernel)
set_option maxRecDepth 20000 in
theorem gi_wsL_law_20 : GoodIn wsL_law wsL_law_r21 := goodIn_sub (fun w h => (List.mem_append_left _ (List.mem_append_left _ (List.mem_append_left _ (List.mem_append_left _ (List.mem_append_left _ (List.mem_append_left _ (List.mem_append_left _ (List.mem_append_left _ (List.mem_append_left _ (List.mem_append_left _ (List.mem_append_right _ (List.mem_append_right _ (List.mem_append_right _ (List.mem_append_right _ (List.mem_append_right _ (List.mem_append_right _ (List.mem_append_right _ (List.mem_append_right _ (List.mem_append_right _ (List.mem_append_right _ (List.mem_append_right _ (List.mem_append_right _ (List.mem_append_right _ (List.mem_append_right _ (List.mem_append_right _ (List.mem_append_right _ (List.mem_append_right _ (List.mem_append_right _ (List.mem_append_right _ (List.mem_append_right _ (List.mem_append_left _ h)))))))))))))))))))))))))))))))) (by decide +kernel)
set_option maxRecDepth 20000 in
theorem gi_wsL_law_21 : GoodIn wsL_law wsL_law_r22 := goodIn_sub (fun w h => (List.mem_append_left _ (List.mem_append_left _ (List.mem_append_left _ (List.mem_append_left _ (List.mem_append_left _ (List.mem_append_left _ (List.mem_append_left _ (List.mem_append_left _ (List.mem_append_left _ (List.mem_append_left _ (List.mem_append_right _ (List.mem_append_right _ (List.mem_append_right _ (List.mem_append_right _ (List.mem_append_right _ (List.mem_append_right _ (List.mem_append_right _ (List.mem_append_right _ (List.mem_append_right _ (List.mem_append_right _ (List.mem_append_right _ (List.mem_append_right _ (List.mem_append_right _ (List.mem_append_right _ (List.mem_append_right _ (List.mem_append_right _ (List.mem_append_right _ (List.mem_append_right _ (List.mem_append_right _ (List.mem_append_right _ (List.mem_append_right _ (List.mem_append_left _ h))))))))))))))))))))))))))))))))) (by decide +kernel)
set_option maxRecDepth 20000 in
theorem gi_wsL_law_22 : GoodIn wsL_law wsL_law_r23 := goodIn_sub (fun w h => (List.mem_append_left _ (List.mem_append_left _ (List.mem_append_left _ (List.mem_append_left _ (List.mem_append_left _ (List.mem_append_left _ (List.mem_append_left _ (List.mem_append_left _ (List.mem_append_left _ (List.mem_append_left _ (List.mem_append_right _ (List.mem_append_right _ (List.mem_append_right _ (List.mem_append_right _ (List.mem_append_right _ (List.mem_append_right _ (List.mem_append_right _ (List.mem_append_right _ (List.mem_append_right _ (List.mem_append_right _ (List.mem_append_right _ (List.mem_append_right _ (List.mem_append_right _ (List.mem_append_right _ (List.mem_append_right _ (List.mem_append_right _ (List.mem_append_right _ (List.mem_append_right _ (List.mem_append_right _ (List.mem_append_right _ (List.mem_append_right _ (List.mem_append_right _ (List.mem_append_left _ h)))))))))))))))))))))))))))))))))) (by decide +kernel)
set_option maxRecDepth 20000 in
theorem gi_wsL_law_23 : GoodIn wsL_law wsL_law_r24 := goodIn_sub (fun w h => (List.mem_append_left _ (List.mem_append_left _ (List.mem_append_left _ (List.mem_append_left _ (List.mem_append_left _ (List.mem_append_left _ (List.mem_append_left _ (List.mem_append_left _ (List.mem_append_left _ (List.mem_append_left _ (List.mem_append_right _ (List.mem_append_right _ (List.mem_append_right _ (List.mem_append_right _ (List.mem_append_right _ (List.mem_append_right _ (List.mem_append_right _ (List.mem_append_right _ (List.mem_append_right _ (List.mem_append_right _ (List.mem_append_right _ (List.mem_append_right _ (List.mem_append_right _ (List.mem_append_right _ (List.mem_append_right _ (List.mem_append_right _ (List.mem_append_right _ (List.mem_append_right _ (List.mem_append_right _ (List.mem_append_right _ (List.mem_append_right _ (List.mem_append_right _ (List.mem_append_right _ (List.mem_append_left _ h))))))))))))))))))))))))))))))))))) (by decide +kernel)
set_option maxRecDepth 20000 in
theorem gi_wsL_law_24 : GoodIn wsL_law wsL_law_r25 := goodIn_sub (fun w h => (List.mem_append_left _ (List.mem_append_left _ (List.mem_append_left _ (List.mem_append_left _ (List.mem_append_left _ (List.mem_append_left _ (List.mem_append_left _ (List.mem_append_left _ (List.mem_append_left _ (List.mem_append_left _ (List.mem_append_right _ (List.mem_append_right _ (List.mem_append_right _ (List.mem_append_right _ (List.mem_append_right _ (List.mem_append_right _ (List.mem_append_right _ (List.mem_append_right _ (List.mem_append_right _ (List.mem_append_right _ (List.mem_append_right _ (List.mem_append_right _ (List.mem_append_right _ (List.mem_append_right _ (List.mem_append_right _ (List.mem_append_right _ (List.mem_append_right _ (List.mem_append_right _ (List.mem_append_right _ (List.mem_append_right _ (List.mem_append_right _ (List.mem_append_right _ (List.mem_append_right _ (List.mem_append_right _ (List.mem_append_left _ h)))))))))))))))))))))))))))))))))))) (by decide +kernel)
set_option maxRecDepth 20000 in
theorem gi_wsL_law_25 : GoodIn wsL_law wsL_law_r26 := goodIn_sub (fun w h => (List.mem_append_left _ (List.mem_append_left _ (List.mem_append_left _ (List.mem_append_left _ (List.mem_append_left _ (List.mem_append_left _ (List.mem_append_left _ (List.mem_append_left _ (List.mem_append_left _ (List.mem_append_left _ (List.mem_append_right _ (List.mem_append_right _ (List.mem_append_right _ (List.mem_append_right _ (List.mem_append_right _ (List.mem_append_right _ (List.mem_append_right _ (List.mem_append_right _ (List.mem_append_right _ (List.mem_append_right _ (List.mem_append_right _ (List.mem_append_right _ (List.mem_append_right _ (List.mem_append_right _ (List.mem_append_right _ (List.mem_append_right _ (List.mem_append_right _ (List.mem_append_right _ (List.mem_append_right _ (List.mem_append_right _ (List.mem_append_right _ (List.mem_append_right _ (List.mem_append_right _ (List.mem_append_right _ (List.mem_append_right _ (List.mem_append_left _ h))))))))))))))))))))))))))))))))))))) (by decide +kernel)
set_option maxRecDepth 20000 in
theorem gi_wsL_law_26 : GoodIn wsL_law wsL_law_r27 := goodIn_sub (fun w h => (List.mem_append_left _ (List.mem_append_left _ (List.mem_append_left _ (List.mem_append_left _ (List.mem_append_left _ (List.mem_append_left _ (List.mem_append_left _ (List.mem_append_left _ (List.mem_append_left _ (List.mem_append_left _ (List.mem_append_right _ (List.mem_append_right _ (List.mem_append_right _ (List.mem_append_right _ (List.mem_append_right _ (List.mem_append_right _ (List.mem_append_right _ (List.mem_append_right _ (List.mem_append_right _ (List.mem_append_right _ (List.mem_append_right _ (List.mem_append_right _ (List.mem_append_right _ (List.mem_append_right _ (List.mem_append_right _ (List.mem_append_right _ (List.mem_append_right _ (List.mem_append_right _ (List.mem_append_right _ (List.mem_append_right _ (List.mem_append_right _ (List.mem_append_right _ (List.mem_append_right _ (List.mem_append_right _ (List.mem_append_right _ (List.mem_append_right _ (List.mem_append_left _ h)))))))))))))))))))))))))))))))))))))) (by decide +kernel)
set_option maxRecDepth 20000 in
theorem gi_wsL_law_27 : GoodIn wsL_law wsL_law_r28 := goodIn_sub (fun w h => (List.mem_append_left _ (List.mem_append_left _ (List.mem_append_left _ (List.mem_append_left _ (List.mem_append_left _ (List.mem_append_left _ (List.mem_append_left _ (List.mem_append_left _ (List.mem_append_left _ (List.mem_append_left _ (List.mem_append_right _ (List.mem_append_right _ (List.mem_append_right _ (List.mem_append_right _ (List.mem_append_right _ (List.mem_append_right _ (List.mem_append_right _ (List.mem_append_right _ (List.mem_append_right _ (List.mem_append_right _ (List.mem_append_right _ (List.mem_append_right _ (List.mem_append_right _ (List.mem_append_right _ (List.mem_append_right _ (List.mem_append_right _ (List.mem_append_right _ (List.mem_append_right _ (List.mem_append_right _ (List.mem_append_right _ (List.mem_append_right _ (List.mem_append_right _ (List.mem_append_right _ (List.mem_append_right _ (List.mem_append_right _ (List.mem_append_right _ (List.mem_append_right _ (List.mem_append_left _ h))))))))))))))))))))))))))))))))))))))) (by decide +kernel)
set_option maxRecDepth 20000 in
theorem gi_wsL_law_28 : GoodIn wsL_law wsL_law_r29 := goodIn_sub (fun w h => (List.mem_append_left _ (List.mem_append_left _ (List.mem_append_left _ (List.mem_append_left _ (List.mem_append_left _ (List.mem_append_left _ (List.mem_append_left _ (List.mem_append_left _ (List.mem_append_left _ (List.mem_append_left _ (List.mem_append_right _ (List.mem_append_right _ (List.mem_append_right _ (List.mem_append_right _ (List.mem_append_right _ (List.mem_append_right _ (List.mem_append_right _ (List.mem_append_right _ (List.mem_append_right _ (List.mem_append_right _ (List.mem_append_right _ (List.mem_append_right _ (List.mem_append_right _ (List.mem_append_right _ (List.mem_append_right _ (List.mem_append_right _ (List.mem_append_right _ (List.mem_append_right _ (List.mem_append_right _ (List.mem_append_right _ (List.mem_append_right _ (List.mem_append_right _ (List.mem_append_right _ (List.mem_append_right _ (List.mem_append_right _ (List.mem_append_right _ (List.mem_append_right _ (List.mem_append_right _ (List.mem_append_left _ h)))))))))))))))))))))))))))))))))))))))) (by decide +kernel)
set_option maxRecDepth 20000 in
theorem gi_wsL_law_29 : GoodIn wsL_law wsL_law_r30 := goodIn_sub (fun w h => (List.mem_append_left _ (List.mem_append_left _ (List.mem_append_left _ (List.mem_append_left _ (List.mem_append_left _ (List.mem_append_left _ (List.mem_append_left _ (List.mem_append_left _ (List.mem_append_left _ (List.mem_append_left _ (List.mem_append_right _ (List.mem_append_right _ (List.mem_append_right _ (List.mem_append_right _ (List.mem_append_right _ (List.mem_append_right _ (List.mem_append_right _ (List.mem_append_right _ (List.mem_append_right _ (List.mem_append_right _ (List.mem_append_right _ (List.mem_append_right _ (List.mem_append_right _ (List.mem_append_right _ (List.mem_append_right _ (List.mem_append_right _ (List.mem_append_right _ (List.mem_append_right _ (List.mem_append_right _ (List.mem_append_right _ (List.mem_append_right _ (List.mem_append_right _ (List.mem_append_right _ (List.mem_append_right _ (List.mem_append_right _ (List.mem_append_right _ (List.mem_append_right _ (List.mem_append_right _ (List.mem_append_right _ (List.mem_append_left _ h))))))))))))))))))))))))))))))))))))))))) (by decide +kernel)
set_option maxRecDepth 20000 in
theorem gi_wsL_law_30 : GoodIn wsL_law wsL_law_r31 := goodIn_sub (fun w h => (List.mem_append_left _ (List.mem_append_left _ (List.mem_append_left _ (List.mem_append_left _ (List.mem_append_left _ (List.mem_append_left _ (List.mem_append_left _ (List.mem_append_left _ (List.mem_append_left _ (List.mem_append_left _ (List.mem_append_right _ (List.mem_append_right _ (List.mem_append_right _ (List.mem_append_right _ (List.mem_append_right _ (List.mem_append_right _ (List.mem_append_right _ (List.mem_append_right _ (List.mem_append_right _ (List.mem_append_right _ (List.mem_append_right _ (List.mem_append_right _ (List.mem_append_right _ (List.mem_append_right _ (List.mem_append_right _ (List.mem_append_right _ (List.mem_append_right _ (List.mem_append_right _ (List.mem_append_right _ (List.mem_append_right _ (List.mem_append_right _ (List.mem_append_right _ (List.mem_append_right _ (List.mem_append_right _ (List.mem_append_right _ (List.mem_append_right _ (List.mem_append_right _ (List.mem_append_right _ (List.mem_append_right _ (List.mem_append_right _ (List.mem_append_left _ h)))))))))))))))))))))))))))))))))))))))))) (by decide +kernel)
set_option maxRecDepth 20000 in
theorem gi_wsL_law_31 : GoodIn wsL_law wsL_law_r32 := goodIn_sub (fun w h => (List.mem_append_left _ (List.mem_append_left _ (List.mem_append_left _ (List.mem_append_left _ (List.mem_append_left _ (List.mem_append_left _ (List.mem_append_left _ (List.mem_append_left _ (List.mem_append_left _ (List.mem_append_left _ (List.mem_append_right _ (List.mem_append_right _ (List.mem_append_right _ (List.mem_append_right _ (List.mem_append_right _ (List.mem_append_right _ (List.mem_append_right _ (List.mem_append_right _ (List.mem_append_right _ (List.mem_append_right _ (List.mem_append_right _ (List.mem_append_right _ (List.mem_append_right _ (List.mem_append_right _ (List.mem_append_right _ (List.mem_append_right _ (List.mem_append_right _ (List.mem_append_right _ (List.mem_append_right _ (List.mem_append_right _ (List.mem_append_right _ (List.mem_append_right _ (List.mem_append_right _ (List.mem_append_right _ (List.mem_append_right _ (List.mem_append_right _ (List.mem_append_right _ (List.mem_append_right _ (List.mem_append_right _ (List.mem_append_right _ (List.mem_append_right _ (List.mem_append_left _ h))))))))))))))))))))))))))))))))))))))))))) (by decide +kernel)
set_option maxRecDepth 20000 in
theorem gi_wsL_law_32 : GoodIn wsL_law wsL_law_r33 := goodIn_sub (fun w h => (List.mem_append_left _ (List.mem_append_left _ (List.mem_append_left _ (List.mem_append_left _ (List.mem_append_left _ (List.mem_append_left _ (List.mem_append_left _ (List.mem_append_left _ (List.mem_append_left _ (List.mem_append_left _ (List.mem_append_right _ (List.mem_append_right _ (List.mem_append_right _ (List.mem_append_right _ (List.mem_append_right _ (List.mem_append_right _ (List.mem_append_right _ (List.mem_append_right _ (List.mem_append_right _ (List.mem_append_right _ (List.mem_append_right _ (List.mem_append_right _ (List.mem_append_right _ (List.mem_append_right _ (List.mem_append_right _ (List.mem_append_right _ (List.mem_append_right _ (List.mem_append_right _ (List.mem_append_right _ (List.mem_append_right _ (List.mem_append_right _ (List.mem_append_right _ (List.mem_append_right _ (List.mem_append_right _ (List.mem_append_right _ (List.mem_append_right _ (List.mem_append_right _ (List.mem_append_right _ (List.mem_append_right _ (List.mem_append_right _ (List.mem_append_right _ (List.mem_append_right _ (List.mem_append_left _ h)))))))))))))))))))))))))))))))))))))))))))) (by decide +kernel)
set_option maxRecDepth 20000 in
theorem gi_wsL_law_33 : GoodIn wsL_law wsL_law_r34 := goodIn_sub (fun w h => (List.mem_append_left _ (List.mem_append_left _ (List.mem_append_left _ (List.mem_append_left _ (List.mem_append_left _ (List.mem_append_left _ (List.mem_append_left _ (List.mem_append_left _ (List.mem_append_left _ (List.mem_append_left _ (List.mem_append_right _ (List.mem_append_right _ (List.mem_append_right _ (List.mem_append_right _ (List.mem_append_right _ (List.mem_append_right _ (List.mem_append_right _ (List.mem_append_right _ (List.mem_append_right _ (List.mem_append_right _ (List.mem_append_right _ (List.mem_append_right _ (List.mem_append_right _ (List.mem_append_right _ (List.mem_append_right _ (List.mem_append_right _ (List.mem_append_right _ (List.mem_append_right _ (List.mem_append_right _ (List.mem_append_right _ (List.mem_append_right _ (List.mem_append_right _ (List.mem_append_right _ (List.mem_append_right _ (List.mem_append_right _ (List.mem_append_right _ (List.mem_append_right _ (List.mem_append_right _ (List.mem_append_right _ (List.mem_append_right _ (List.mem_append_right _ (List.mem_append_right _ (List.mem_append_right _ (List.mem_append_left _ h))))))))))))))))))))))))))))))))))))))))))))) (by decide +kernel)
set_option maxRecDepth 20000 in
theorem gi_wsL_law_34 : GoodIn wsL_law wsL_law_r35 := goodIn_sub (fun w h => (List.mem_append_left _ (List.mem_append_left _ (List.mem_append_left _ (List.mem_append_left _ (List.mem_append_left _ (List.mem_append_left _ (List.mem_append_left _ (List.mem_append_left _ (List.mem_append_left _ (List.mem_append_left _ (List.mem_append_right _ (List.mem_append_right _ (List.mem_append_right _ (List.mem_append_right _ (List.mem_append_right _ (List.mem_append_right _ (List.mem_append_right _ (List.mem_append_right _ (List.mem_append_right _ (List.mem_append_right _ (List.mem_append_right _ (List.mem_append_right _ (List.mem_append_right _ (List.mem_append_right _ (List.mem_append_right _ (List.mem_append_right _ (List.mem_append_right _ (List.mem_append_right _ (List.mem_append_right _ (List.mem_append_right _ (List.mem_append_right _ (List.mem_append_right _ (List.mem_append_right _ (List.mem_append_right _ (List.mem_append_right _ (List.mem_append_right _ (List.mem_append_right _ (List.mem_append_right _ (List.mem_append_right _ (List.mem_append_right _ (List.mem_append_right _ (List.mem_append_right _ (List.mem_append_right _ (List.mem_append_right _ (List.mem_append_left _ h)))))))))))))))))))))))))))))))))))))))))))))) (by decide +kernel)
set_option maxRecDepth 20000 in
theorem gi_wsL_law_35 : GoodIn wsL_law wsL_law_r36 := goodIn_sub (fun w h => (List.mem_append_left _ (List.mem_append_left _ (List.mem_append_left _ (List.mem_append_left _ (List.mem_append_left _ (List.mem_append_left _ (List.mem_append_left _ (List.mem_append_left _ (List.mem_append_left _ (List.mem_append_left _ (List.mem_append_right _ (List.mem_append_right _ (List.mem_append_right _ (List.mem_append_right _ (List.mem_append_right _ (List.mem_append_right _ (List.mem_append_right _ (List.mem_append_right _ (List.mem_append_right _ (List.mem_append_right _ (List.mem_append_right _ (List.mem_append_right _ (List.mem_append_right _ (List.mem_append_right _ (List.mem_append_right _ (List.mem_append_right _ (List.mem_append_right _ (List.mem_append_right _ (List.mem_append_right _ (List.mem_append_right _ (List.mem_append_right _ (List.mem_append_right _ (List.mem_append_right _ (List.mem_append_right _ (List.mem_append_right _ (List.mem_append_right _ (List.mem_append_right _ (List.mem_append_right _ (List.mem_append_right _ (List.mem_append_right _ (List.mem_append_right _ (List.mem_append_right _ (List.mem_append_right _ (List.mem_append_right _ (List.mem_append_right _ (List.mem_append_left _ h))))))))))))))))))))))))))))))))))))))))))))))) (by decide +kernel)
set_option maxRecDepth 20000 in
theorem gi_wsL_law_36 : GoodIn wsL_law wsL_law_r37 := goodIn_sub (fun w h => (List.mem_append_left _ (List.mem_append_left _ (List.mem_append_left _ (List.mem_append_left _ (List.mem_append_left _ (List.mem_append_left _ (List.mem_append_left _ (List.mem_append_left _ (List.mem_append_left _ (List.mem_append_left _ (List.mem_append_right _ (List.mem_append_right _ (List.mem_append_right _ (List.mem_append_right _ (List.mem_append_right _ (List.mem_append_right _ (List.mem_append_right _ (List.mem_append_right _ (List.mem_append_right _ (List.mem_append_right _ (List.mem_append_right _ (List.mem_append_right _ (List.mem_append_right _ (List.mem_append_right _ (List.mem_append_right _ (List.mem_append_right _ (List.mem_append_right _ (List.mem_append_right _ (List.mem_append_right _ (List.mem_append_right _ (List.mem_append_right _ (List.mem_append_right _ (List.mem_append_right _ (List.mem_append_right _ (List.mem_append_right _ (List.mem_append_right _ (List.mem_append_right _ (List.mem_append_right _ (List.mem_append_right _ (List.mem_append_right _ (List.mem_append_right _ (List.mem_append_right _ (List.mem_append_right _ (List.mem_append_right _ (List.mem_append_right _ (List.mem_append_right _ h))))))))))))))))))))))))))))))))))))))))))))))) (by decide +kernel)
set_option maxRecDepth 20000 in
theorem gi_wsL_law_37 : GoodIn wsL_law wsX70 := goodIn_sub (fun w h => (List.mem_append_left _ (List.mem_append_left _ (List.mem_append_left _ (List.mem_append_left _ (List.mem_append_left _ (List.mem_append_left _ (List.mem_append_left _ (List.mem_append_left _ (List.mem_append_left _ (List.mem_append_right _ h))))))))))) (by decide +kernel)
set_option maxRecDepth 20000 in
theorem gi_wsL_law_38 : GoodIn wsL_law wsX80 := goodIn_sub (fun w h => (List.mem_append_left _ (List.mem_append_left _ (List.mem_append_left _ (List.mem_append_left _ (List.mem_append_left _ (List.mem_append_left _ (List.mem_append_left _ (List.mem_append_left _ (List.mem_append_right _ h)))))))))) (by decide +kernel)
set_option maxRecDepth 20000 in
theorem gi_wsL_law_39 : GoodIn wsL_law wsX20 := goodIn_sub (fun w h => (List.mem_append_left _ (List.mem_append_left _ (List.mem_append_left _ (List.mem_append_left _ (List.mem_append_left _ (List.mem_append_left _ (List.mem_append_left _ (List.mem_append_right _ h))))))))) (by decide +kernel)
set_option maxRecDepth 20000 in
theorem gi_wsL_law_40 : GoodIn wsL_law wsX50 := goodIn_sub (fun w h => (List.mem_append_left _ (List.mem_append_left _ (List.mem_append_left _ (List.mem_append_left _ (List.mem_append_left _ (List.mem_append_left _ (List.mem_append_right _ h)))))))) (by decide +kernel)
set_option maxRecDepth 20000 in
theorem gi_wsL_law_41 : GoodIn wsL_law wsX30 := goodIn_sub (fun w h => (List.mem_append_left _ (List.mem_append_left _ (List.mem_append_left _ (List.mem_append_left _ (List.mem_append_left _ (List.mem_append_right _ h))))))) (by decide +kernel)
set_option maxRecDepth 20000 in
theorem gi_wsL_law_42 : GoodIn wsL_law wsX40 := goodIn_sub (fun w h => (List.mem_append_left _ (List.mem_append_left _ (List.mem_append_left _ (List.mem_append_left _ (List.mem_append_right _ h)))))) (by decide +kernel)
set_option maxRecDepth 20000 in
theorem gi_wsL_law_43 : GoodIn wsL_law wsX10 := goodIn_sub (fun w h => (List.mem_append_left _ (List.mem_append_left _ (List.mem_append_left _ (List.mem_append_right _ h))))) (by decide +kernel)
set_option maxRecDepth 20000 in
theorem gi_wsL_law_44 : GoodIn wsL_law wsX00 := goodIn_sub (fun w h => (List.mem_append_left _ (List.mem_append_left _ (List.mem_append_right _ h)))) (by decide +kernel)
set_option maxRecDepth 20000 in
theorem gi_wsL_law_45 : GoodIn wsL_law wsX60 := goodIn_sub (fun w h => (List.mem_append_left _ (List.mem_append_right _ h))) (by decide +kernel)
def bs_wsL_law : List (List Cond) := [wsL_law_r1, wsL_law_r2, wsL_law_r3, wsL_law_r4, wsL_law_r5, wsL_law_r6, wsL_law_r7, wsL_law_r8, wsL_law_r9, wsL_law_r10, wsL_law_r11, wsL_law_r12, wsL_law_r13, wsL_law_r14, wsL_law_r15, wsL_law_r16, wsL_law_r17, wsL_law_r18, wsL_law_r19, wsL_law_r20, wsL_law_r21, wsL_law_r22, wsL_law_r23, wsL_law_r24, wsL_law_r25, wsL_law_r26, wsL_law_r27, wsL_law_r28, wsL_law_r29, wsL_law_r30, wsL_law_r31, wsL_law_r32, wsL_law_r33, wsL_law_r34, wsL_law_r35, wsL_law_r36, wsL_law_r37, wsX70, wsX80, wsX20, wsX50, wsX30, wsX40, wsX10, wsX00, wsX60]
theorem bs_wsL_law_in : ∀ b ∈ bs_wsL_law, GoodIn wsL_law b := List.forall_mem_cons.mpr ⟨gi_wsL_law_0, List.forall_mem_cons.mpr ⟨gi_wsL_law_1, List.forall_mem_cons.mpr ⟨gi_wsL_law_2, List.forall_mem_cons.mpr ⟨gi_wsL_law_3, List.forall_mem_cons.mpr ⟨gi_wsL_law_4, List.forall_mem_cons.mpr ⟨gi_wsL_law_5, List.forall_mem_cons.mpr ⟨gi_wsL_law_6, List.forall_mem_cons.mpr ⟨gi_wsL_law_7, List.forall_mem_cons.mpr ⟨gi_wsL_law_8, List.forall_mem_cons.mpr ⟨gi_wsL_law_9, List.forall_mem_cons.mpr ⟨gi_wsL_law_10, List.forall_mem_cons.mpr ⟨gi_wsL_law_11, List.forall_mem_cons.mpr ⟨gi_wsL_law_12, List.forall_mem_cons.mpr ⟨gi_wsL_law_13, List.forall_mem_cons.mpr ⟨gi_wsL_law_14, List.forall_mem_cons.mpr ⟨gi_wsL_law_15, List.forall_mem_cons.mpr ⟨gi_wsL_law_16, List.forall_mem_cons.mpr ⟨gi_wsL_law_17, List.forall_mem_cons.mpr ⟨gi_wsL_law_18, List.forall_mem_cons.mpr ⟨gi_wsL_law_19, List.forall_mem_cons.mpr ⟨gi_wsL_law_20, List.forall_mem_cons.mpr ⟨gi_wsL_law_21, List.forall_mem_cons.mpr ⟨gi_wsL_law_22, List.forall_mem_cons.mpr ⟨gi_wsL_law_23, List.forall_mem_cons.mpr ⟨gi_wsL_law_24, List.forall_mem_cons.mpr ⟨gi_wsL_law_25, List.forall_mem_cons.mpr ⟨gi_wsL_law_26, List.forall_mem_cons.mpr ⟨gi_wsL_law_27, List.forall_mem_cons.mpr ⟨gi_wsL_law_28, List.forall_mem_cons.mpr ⟨gi_wsL_law_29, List.forall_mem_cons.mpr ⟨gi_wsL_law_30, List.forall_mem_cons.mpr ⟨gi_wsL_law_31, List.forall_mem_cons.mpr ⟨gi_wsL_law_32, List.forall_mem_cons.mpr ⟨gi_wsL_law_33, List.forall_mem_cons.mpr ⟨gi_wsL_law_34, List.forall_mem_cons.mpr ⟨gi_wsL_law_35, List.forall_mem_cons.mpr ⟨gi_wsL_law_36, List.forall_mem_cons.mpr ⟨gi_wsL_law_37, List.forall_mem_cons.mpr ⟨gi_wsL_law_38, List.forall_mem_cons.mpr ⟨gi_wsL_law_39, List.forall_mem_cons.mpr ⟨gi_wsL_law_40, List.forall_mem_cons.mpr ⟨gi_wsL_law_41, List.forall_mem_cons.mpr ⟨gi_wsL_law_42, List.forall_mem_cons.mpr ⟨gi_wsL_law_43, List.forall_mem_cons.mpr ⟨gi_wsL_law_44, List.forall_mem_cons.mpr ⟨gi_wsL_law_45, (fun _ h => absurd h List.not_mem_nil)⟩⟩⟩⟩⟩⟩⟩⟩⟩⟩⟩⟩⟩⟩⟩⟩⟩⟩⟩⟩⟩⟩⟩⟩⟩⟩⟩⟩⟩⟩⟩⟩⟩⟩⟩⟩⟩⟩⟩⟩⟩⟩⟩⟩⟩⟩
set_option maxRecDepth 20000 in
theorem ggL_law_X7_init : GoodIn wsL_law wsX7_init := goodIn_k (gi_q bs_wsL_law_in _ [(0, 9)] rfl) (goodIn_app (goodIn_app (goodIn_app (goodIn_app (goodIn_app (goodIn_app (goodIn_app (goodIn_app (goodIn_app (gi_q bs_wsL_law_in _ [(0, 10), (0, 11), (0, 12), (0, 13), (0, 14), (0, 15), (0, 16), (0, 17), (0, 18), (0, 19), (0, 20), (0, 21), (0, 22), (0, 23), (1, 0), (1, 1), (1, 2), (1, 3), (1, 4), (1, 5), (1, 6), (1, 7), (1, 8), (1, 9)] rfl) (goodIn_app (gi_q bs_wsL_law_in _ [(1, 10), (1, 11), (1, 12), (1, 13), (1, 14), (1, 15), (1, 16), (1, 17), (1, 18), (1, 19), (1, 20), (1, 21), (1, 22), (1, 23), (2, 0), (2, 1), (2, 2), (2, 3), (2, 4), (2, 5), (2, 6), (2, 7), (2, 8), (2, 9)] rfl) (goodIn_app (gi_q bs_wsL_law_in _ [(2, 10), (2, 11), (2, 12), (2, 13), (2, 14), (2, 15), (2, 16), (2, 17), (2, 18), (2, 19), (2, 20), (2, 21), (2, 22), (2, 23), (3, 0), (3, 1), (3, 2), (3, 3), (3, 4), (3, 5), (3, 6), (3, 7), (3, 8), (3, 9)] rfl) (goodIn_app (gi_q bs_wsL_law_in _ [(3, 10), (3, 11), (3, 12), (3, 13), (3, 14), (3, 15), (3, 16), (3, 17), (3, 18), (3, 19), (3, 20), (3, 21), (3, 22), (3, 23), (4, 0), (4, 1), (4, 2), (4, 3), (4, 4), (4, 5), (4, 6), (4, 7), (4, 8), (4, 9)] rfl) (goodIn_app (gi_q bs_wsL_law_in _ [(4, 10), (4, 11), (4, 12), (4, 13), (4, 14), (4, 15), (4, 16), (4, 17), (4, 18), (4, 19), (4, 20), (4, 21), (4, 22), (4, 23), (5, 0), (5, 1), (5, 2), (5, 3), (5, 4), (5, 5), (5, 6), (5, 7), (5, 8), (5, 9)] rfl) (gi_q bs_wsL_law_in _ [(5, 10), (5, 11)] rfl)))))) (gi_wsL_law_39)) (gi_wsL_law_37)) (gi_wsL_law_40)) (gi_wsL_law_41)) (gi_wsL_law_42)) (gi_wsL_law_43)) (gi_wsL_law_44)) (gi_wsL_law_45))
set_option maxRecDepth 20000 in
theorem gL_law_X7_init : GoodIn wsL_law (wsX7_init) := ggL_law_X7_init
set_option maxRecDepth 20000 in
theorem ggL_law_X8_init : GoodIn wsL_law wsX8_init := goodIn_k (gi_q bs_wsL_law_in _ [(5, 14)] rfl) (goodIn_app (goodIn_app (gi_q bs_wsL_law_in _ [(5, 15), (0, 11), (0, 12), (1, 16), (5, 16), (5, 17), (5, 18), (5, 19), (5, 20), (1, 13), (5, 21), (5, 22), (5, 23), (6, 0), (6, 1), (6, 2), (6, 3), (6, 4), (6, 5), (6, 6), (6, 7), (6, 8), (6, 9), (3, 0)] rfl) (gi_q bs_wsL_law_in _ [(6, 10), (6, 11), (6, 12), (6, 13), (6, 14), (6, 15), (6, 16), (6, 17), (6, 18), (6, 19), (6, 20), (6, 21), (6, 22), (6, 23), (7, 0), (7, 1), (7, 2)] rfl)) (gi_wsL_law_38))
set_option maxRecDepth 20000 in
theorem gL_law_X8_init : GoodIn wsL_law (wsX8_init) := ggL_law_X8_init
set_option maxRecDepth 20000 in
theorem ggL_law_X7_width : GoodIn wsL_law wsX7_width := goodIn_k (gi_q bs_wsL_law_in _ [(7, 6)] rfl) (goodIn_app (goodIn_app (gi_q bs_wsL_law_in _ [(0, 16), (7, 7), (7, 8), (7, 9), (7, 10), (0, 2), (7, 11), (7, 12), (7, 13), (7, 14), (7, 15), (1, 20), (7, 16), (7, 17), (7, 18), (0, 15), (7, 19), (2, 3), (7, 20), (7, 21), (7, 22), (7, 23), (2, 2)] rfl) (gi_wsL_law_37)) (gi_wsL_law_39))
set_option maxRecDepth 20000 in
theorem gL_law_X7_width : GoodIn wsL_law (wsV RL 13 RX7 yX7_width wsX7_width) := goodIn_app (gi_q bs_wsL_law_in _ [(7, 3), (7, 4), (7, 5), (0, 2)] rfl) ggL_law_X7_width
set_option maxRecDepth 20000 in
theorem ggL_law_X8_width : GoodIn wsL_law wsX8_width := goodIn_k (gi_q bs_wsL_law_in _ [(8, 3)] rfl) (goodIn_app (gi_q bs_wsL_law_in _ [(8, 4), (5, 21), (5, 16), (8, 5), (8, 6), (0, 5), (8, 7), (8, 8), (8, 9), (8, 10), (8, 11), (6, 4), (8, 12), (8, 13), (8, 14), (8, 15), (8, 16), (8, 17), (8, 18)] rfl) (gi_wsL_law_38))
set_option maxRecDepth 20000 in
theorem gL_law_X8_width : GoodIn wsL_law (wsV RL 17 RX8 yX8_width wsX8_width) := goodIn_app (gi_q bs_wsL_law_in _ [(8, 0), (8, 1), (8, 2), (0, 5)] rfl) ggL_law_X8_width
set_option maxRecDepth 20000 in
theorem ggL_law_X7_set : GoodIn wsL_law wsX7_set := goodIn_k (gi_q bs_wsL_law_in _ [(8, 22)] rfl) (goodIn_app (goodIn_app (gi_q bs_wsL_law_in _ [(0, 16), (7, 9), (7, 10), (0, 2), (7, 11), (7, 12), (7, 13), (7, 14), (7, 15), (1, 20), (7, 16), (7, 17), (7, 18), (0, 15), (7, 19), (2, 3), (7, 20), (7, 21), (7, 22), (7, 23), (2, 2)] rfl) (gi_wsL_law_37)) (gi_wsL_law_39))
set_option maxRecDepth 20000 in
theorem gL_law_X7_set : GoodIn wsL_law (wsV RL 20 RX7 yX7_set wsX7_set) := goodIn_app (gi_q bs_wsL_law_in _ [(8, 19), (8, 20), (8, 21), (0, 2)] rfl) ggL_law_X7_set
set_option maxRecDepth 20000 in
theorem ggL_law_X8_set : GoodIn wsL_law wsX8_set := goodIn_k (gi_q bs_wsL_law_in _ [(9, 2)] rfl) (goodIn_app (gi_q bs_wsL_law_in _ [(5, 16), (8, 5), (8, 6), (0, 5), (8, 7), (8, 8), (8, 9), (8, 10), (8, 11), (6, 4), (8, 15), (8, 16), (8, 17), (8, 18), (5, 21)] rfl) (gi_wsL_law_38))
set_option maxRecDepth 20000 in
theorem gL_law_X8_set : GoodIn wsL_law (wsV RL 24 RX8 yX8_set wsX8_set) := goodIn_app (gi_q bs_wsL_law_in _ [(8, 23), (9, 0), (9, 1), (0, 5)] rfl) ggL_law_X8_set
set_option maxRecDepth 20000 in
theorem ggL_law_X7_register : GoodIn wsL_law wsX7_register := goodIn_k (gi_q bs_wsL_law_in _ [(9, 6)] rfl) (goodIn_app (goodIn_app (gi_q bs_wsL_law_in _ [(0, 16), (7, 8), (7, 9), (7, 10), (0, 2), (7, 11), (7, 12), (7, 13), (7, 14), (7, 15), (1, 20)] rfl) (gi_wsL_law_37)) (gi_wsL_law_39))
set_option maxRecDepth 20000 in
theorem gL_law_X7_register : GoodIn wsL_law (wsV RL 25 RX7 yX7_register wsX7_register) := goodIn_app (gi_q bs_wsL_law_in _ [(9, 3), (9, 4), (9, 5), (0, 2)] rfl) ggL_law_X7_register
set_option maxRecDepth 20000 in
theorem ggL_law_X8_register : GoodIn wsL_law wsX8_register := goodIn_k (gi_q bs_wsL_law_in _ [(9, 10)] rfl) (goodIn_app (gi_q bs_wsL_law_in _ [(5, 16), (8, 5), (8, 6), (0, 5), (8, 7), (8, 8), (8, 9), (8, 10), (8, 11), (6, 4)] rfl) (gi_wsL_law_38))
set_option maxRecDepth 20000 in
theorem gL_law_X8_register : GoodIn wsL_law (wsV RL 29 RX8 yX8_register wsX8_register) := goodIn_app (gi_q bs_wsL_law_in _ [(9, 7), (9, 8), (9, 9), (0, 5)] rfl) ggL_law_X8_register
set_option maxRecDepth 20000 in
theorem ggL_law_X7_poke : GoodIn wsL_law wsX7_poke := goodIn_k (gi_q bs_wsL_law_in _ [(9, 14)] rfl) (goodIn_app (goodIn_app (gi_q bs_wsL_law_in _ [(0, 16), (9, 15), (9, 16), (0, 2), (9, 17), (9, 18), (7, 12), (7, 13), (7, 14), (7, 15), (1, 20), (7, 16), (7, 17), (7, 18), (0, 15), (7, 19), (2, 3), (7, 20), (7, 21), (7, 22), (7, 23), (2, 2)] rfl) (gi_wsL_law_37)) (gi_wsL_law_39))
set_option maxRecDepth 20000 in
theorem gL_law_X7_poke : GoodIn wsL_law (wsV RL 30 RX7 yX7_poke wsX7_poke) := goodIn_app (gi_q bs_wsL_law_in _ [(9, 11), (9, 12), (9, 13), (0, 2)] rfl) ggL_law_X7_poke
set_option maxRecDepth 20000 in
theorem ggL_law_X8_poke : GoodIn wsL_law wsX8_poke := goodIn_k (gi_q bs_wsL_law_in _ [(9, 22)] rfl) (goodIn_app (gi_q bs_wsL_law_in _ [(5, 16), (9, 23), (10, 0), (10, 1), (0, 5), (10, 2), (8, 8), (8, 9), (8, 10), (8, 11), (6, 4)] rfl) (gi_wsL_law_38))
set_option maxRecDepth 20000 in
theorem gL_law_X8_poke : GoodIn wsL_law (wsV RL 33 RX8 yX8_poke wsX8_poke) := goodIn_app (gi_q bs_wsL_law_in _ [(9, 19), (9, 20), (9, 21), (0, 5)] rfl) ggL_law_X8_poke
set_option maxRecDepth 20000 in
theorem ggL_law_X7_cell : GoodIn wsL_law wsX7_cell := goodIn_k (gi_q bs_wsL_law_in _ [(10, 6)] rfl) (goodIn_app (goodIn_app (gi_q bs_wsL_law_in _ [(0, 16), (7, 8), (9, 15), (9, 16), (0, 2), (9, 17), (9, 18), (7, 12), (7, 13), (7, 14), (7, 15), (1, 20)] rfl) (gi_wsL_law_37)) (gi_wsL_law_39))
set_option maxRecDepth 20000 in
theorem gL_law_X7_cell : GoodIn wsL_law (wsV RL 34 RX7 yX7_cell wsX7_cell) := goodIn_app (gi_q bs_wsL_law_in _ [(10, 3), (10, 4), (10, 5), (0, 2)] rfl) ggL_law_X7_cell
set_option maxRecDepth 20000 in
theorem ggL_law_X8_cell : GoodIn wsL_law wsX8_cell := goodIn_k (gi_q bs_wsL_law_in _ [(10, 10)] rfl) (goodIn_app (gi_q bs_wsL_law_in _ [(5, 16), (10, 0), (10, 1), (0, 5), (10, 2), (8, 8), (8, 9), (8, 10), (8, 11), (6, 4)] rfl) (gi_wsL_law_38))
set_option maxRecDepth 20000 in
theorem gL_law_X8_cell : GoodIn wsL_law (wsV RL 37 RX8 yX8_cell wsX8_cell) := goodIn_app (gi_q bs_wsL_law_in _ [(10, 7), (10, 8), (10, 9), (0, 5)] rfl) ggL_law_X8_cell
set_option maxRecDepth 20000 in
theorem ggL_law_X7_flag : GoodIn wsL_law wsX7_flag := goodIn_k (gi_q bs_wsL_law_in _ [(10, 14)] rfl) (goodIn_app (goodIn_app (gi_q bs_wsL_law_in _ [(0, 16), (7, 8), (7, 12), (7, 13), (7, 14), (0, 2), (7, 15), (1, 20), (7, 16), (7, 17), (7, 18), (0, 15), (7, 19), (2, 3), (7, 20), (7, 21), (7, 22), (7, 23), (2, 2)] rfl) (gi_wsL_law_37)) (gi_wsL_law_39))
set_option maxRecDepth 20000 in
theorem gL_law_X7_flag : GoodIn wsL_law (wsV RL 38 RX7 yX7_flag wsX7_flag) := goodIn_app (gi_q bs_wsL_law_in _ [(10, 11), (10, 12), (10, 13), (0, 2)] rfl) ggL_law_X7_flag
set_option maxRecDepth 20000 in
theorem ggL_law_X8_flag : GoodIn wsL_law wsX8_flag := goodIn_k (gi_q bs_wsL_law_in _ [(10, 18)] rfl) (goodIn_app (gi_q bs_wsL_law_in _ [(5, 16), (8, 12), (8, 13), (0, 5), (8, 14), (8, 8), (8, 9), (8, 10), (8, 11), (6, 4)] rfl) (gi_wsL_law_38))
set_option maxRecDepth 20000 in
theorem gL_law_X8_flag : GoodIn wsL_law (wsV RL 42 RX8 yX8_flag wsX8_flag) := goodIn_app (gi_q bs_wsL_law_in _ [(10, 15), (10, 16), (10, 17), (0, 5)] rfl) ggL_law_X8_flag
set_option maxRecDepth 20000 in
theorem ggL_law_X7_flags : GoodIn wsL_law wsX7_flags := goodIn_k (gi_q bs_wsL_law_in _ [(10, 22)] rfl) (goodIn_app (goodIn_app (gi_q bs_wsL_law_in _ [(0, 16), (7, 8), (10, 23)] rfl) (gi_wsL_law_37)) (gi_wsL_law_39))
set_option maxRecDepth 20000 in
theorem gL_law_X7_flags : GoodIn wsL_law (wsV RL 43 RX7 yX7_flags wsX7_flags) := goodIn_app (gi_q bs_wsL_law_in _ [(10, 19), (10, 20), (10, 21), (0, 2)] rfl) ggL_law_X7_flags
set_option maxRecDepth 20000 in
theorem ggL_law_X8_flags : GoodIn wsL_law wsX8_flags := goodIn_k (gi_q bs_wsL_law_in _ [(11, 3)] rfl) (goodIn_app (gi_q bs_wsL_law_in _ [(5, 16), (11, 4)] rfl) (gi_wsL_law_38))
set_option maxRecDepth 20000 in
theorem gL_law_X8_flags : GoodIn wsL_law (wsV RL 47 RX8 yX8_flags wsX8_flags) := goodIn_app (gi_q bs_wsL_law_in _ [(11, 0), (11, 1), (11, 2), (0, 5)] rfl) ggL_law_X8_flags
set_option maxRecDepth 20000 in
theorem ggL_law_X7_act : GoodIn wsL_law wsX7_act := goodIn_k (gi_q bs_wsL_law_in _ [(11, 8)] rfl) (goodIn_app (goodIn_app (goodIn_app (goodIn_app (goodIn_app (gi_q bs_wsL_law_in _ [(0, 20), (11, 9), (11, 10), (11, 11), (0, 2), (11, 12), (7, 12), (7, 13), (7, 14), (7, 15), (1, 20), (11, 13), (11, 14), (11, 15), (11, 16), (11, 17), (11, 18), (11, 19), (11, 20), (11, 21), (11, 22), (11, 23), (12, 0), (12, 1)] rfl) (goodIn_app (gi_q bs_wsL_law_in _ [(12, 2), (0, 19), (12, 3), (2, 13), (2, 14), (2, 15), (2, 16), (2, 17), (2, 18), (2, 19), (12, 4), (12, 5), (12, 6), (12, 7), (12, 8), (12, 9), (12, 10), (12, 11), (12, 12), (12, 13), (12, 14), (12, 15), (1, 0), (12, 16)] rfl) (gi_q bs_wsL_law_in _ [(1, 4), (12, 17)] rfl))) (gi_wsL_law_37)) (gi_wsL_law_40)) (gi_wsL_law_41)) (gi_wsL_law_42))
set_option maxRecDepth 20000 in
theorem gL_law_X7_act : GoodIn wsL_law (wsV RL 48 RX7 yX7_act wsX7_act) := goodIn_app (gi_q bs_wsL_law_in _ [(11, 5), (11, 6), (11, 7), (0, 2)] rfl) ggL_law_X7_act
set_option maxRecDepth 20000 in
theorem ggL_law_X8_act : GoodIn wsL_law wsX8_act := goodIn_k (gi_q bs_wsL_law_in _ [(12, 21)] rfl) (goodIn_app (goodIn_app (gi_q bs_wsL_law_in _ [(6, 2), (5, 22), (5, 23), (6, 0), (6, 1), (6, 10), (12, 22), (12, 23), (13, 0), (0, 5), (13, 1), (8, 8), (8, 9), (8, 10), (8, 11), (6, 4), (13, 2), (13, 3), (13, 4), (13, 5), (13, 6), (13, 7), (13, 8), (8, 12)] rfl) (gi_q bs_wsL_law_in _ [(8, 13), (8, 14), (13, 9), (13, 10), (13, 11), (8, 5), (8, 6), (8, 7), (13, 12), (13, 13), (13, 14)] rfl)) (gi_wsL_law_38))
set_option maxRecDepth 20000 in
theorem gL_law_X8_act : GoodIn wsL_law (wsV RL 52 RX8 yX8_act wsX8_act) := goodIn_app (gi_q bs_wsL_law_in _ [(12, 18), (12, 19), (12, 20), (0, 5)] rfl) ggL_law_X8_act
set_option maxRecDepth 20000 in
theorem ggL_law_X7_clear : GoodIn wsL_law wsX7_clear := goodIn_k (gi_q bs_wsL_law_in _ [(13, 18)] rfl) (goodIn_app (goodIn_app (goodIn_app (goodIn_app (gi_q bs_wsL_law_in _ [(0, 20), (11, 9), (11, 10), (11, 11), (0, 2), (11, 12), (7, 12), (7, 13), (7, 14), (7, 15), (1, 20), (12, 12), (12, 13), (12, 14), (12, 15), (1, 0), (12, 16), (1, 4), (12, 17)] rfl) (gi_wsL_law_37)) (gi_wsL_law_40)) (gi_wsL_law_41)) (gi_wsL_law_42))
set_option maxRecDepth 20000 in
theorem gL_law_X7_clear : GoodIn wsL_law (wsV RL 53 RX7 yX7_clear wsX7_clear) := goodIn_app (gi_q bs_wsL_law_in _ [(13, 15), (13, 16), (13, 17), (0, 2)] rfl) ggL_law_X7_clear
set_option maxRecDepth 20000 in
theorem ggL_law_X8_clear : GoodIn wsL_law wsX8_clear := goodIn_k (gi_q bs_wsL_law_in _ [(13, 22)] rfl) (goodIn_app (gi_q bs_wsL_law_in _ [(6, 2), (6, 10), (12, 22), (12, 23), (13, 0), (0, 5), (13, 1), (8, 8), (8, 9), (8, 10), (8, 11), (6, 4)] rfl) (gi_wsL_law_38))
set_option maxRecDepth 20000 in
theorem gL_law_X8_clear : GoodIn wsL_law (wsV RL 57 RX8 yX8_clear wsX8_clear) := goodIn_app (gi_q bs_wsL_law_in _ [(13, 19), (13, 20), (13, 21), (0, 5)] rfl) ggL_law_X8_clear
set_option maxRecDepth 20000 in
theorem ggL_law_X7_look : GoodIn wsL_law wsX7_look := goodIn_k (gi_q bs_wsL_law_in _ [(14, 2)] rfl) (goodIn_app (goodIn_app (goodIn_app (gi_q bs_wsL_law_in _ [(0, 20), (14, 3), (14, 4), (14, 5), (14, 6), (14, 7), (14, 8), (14, 9), (0, 2), (14, 10), (11, 9), (11, 10), (11, 11), (11, 12), (7, 12), (7, 13), (7, 14), (7, 15), (1, 20), (14, 11), (12, 4), (12, 5), (14, 12), (14, 13)] rfl) (gi_q bs_wsL_law_in _ [(14, 14), (0, 19), (14, 15), (2, 14), (14, 16), (14, 17), (14, 18), (14, 19)] rfl)) (gi_wsL_law_37)) (gi_wsL_law_40))
set_option maxRecDepth 20000 in
theorem gL_law_X7_look : GoodIn wsL_law (wsV RL 58 RX7 yX7_look wsX7_look) := goodIn_app (gi_q bs_wsL_law_in _ [(13, 23), (14, 0), (14, 1), (0, 2)] rfl) ggL_law_X7_look
set_option maxRecDepth 20000 in
theorem ggL_law_X8_look : GoodIn wsL_law wsX8_look := goodIn_k (gi_q bs_wsL_law_in _ [(14, 23)] rfl) (goodIn_app (gi_q bs_wsL_law_in _ [(5, 22), (5, 23), (6, 0), (6, 1), (15, 0), (15, 1), (15, 2), (0, 5), (15, 3), (6, 2), (12, 23), (13, 0), (13, 1), (8, 8), (8, 9), (8, 10), (8, 11), (6, 4), (15, 4), (15, 5), (15, 6), (15, 7), (15, 8), (15, 9)] rfl) (gi_wsL_law_38))
set_option maxRecDepth 20000 in
theorem gL_law_X8_look : GoodIn wsL_law (wsV RL 62 RX8 yX8_look wsX8_look) := goodIn_app (gi_q bs_wsL_law_in _ [(14, 20), (14, 21), (14, 22), (0, 5)] rfl) ggL_law_X8_look
set_option maxRecDepth 20000 in
theorem ggL_law_X7_buses : GoodIn wsL_law wsX7_buses := goodIn_k (gi_q bs_wsL_law_in _ [(15, 13)] rfl) (goodIn_app (goodIn_app (goodIn_app (gi_q bs_wsL_law_in _ [(1, 0), (15, 14), (1, 4), (12, 17), (7, 12), (7, 13), (7, 14), (0, 2), (7, 15), (1, 20), (15, 15), (15, 16), (15, 17), (0, 23), (15, 18), (3, 1)] rfl) (gi_wsL_law_37)) (gi_wsL_law_41)) (gi_wsL_law_42))
set_option maxRecDepth 20000 in
theorem gL_law_X7_buses : GoodIn wsL_law (wsV RL 63 RX7 yX7_buses wsX7_buses) := goodIn_app (gi_q bs_wsL_law_in _ [(15, 10), (15, 11), (15, 12), (0, 2)] rfl) ggL_law_X7_buses
set_option maxRecDepth 20000 in
theorem ggL_law_X8_buses : GoodIn wsL_law wsX8_buses := goodIn_k (gi_q bs_wsL_law_in _ [(15, 22)] rfl) (goodIn_app (gi_q bs_wsL_law_in _ [(15, 23), (6, 3), (6, 10), (12, 22), (8, 12), (8, 13), (0, 5), (8, 14), (8, 8), (8, 9), (8, 10), (8, 11), (6, 4)] rfl) (gi_wsL_law_38))
set_option maxRecDepth 20000 in
theorem gL_law_X8_buses : GoodIn wsL_law (wsV RL 66 RX8 yX8_buses wsX8_buses) := goodIn_app (gi_q bs_wsL_law_in _ [(15, 19), (15, 20), (15, 21), (0, 5)] rfl) ggL_law_X8_buses
set_option maxRecDepth 20000 in
theorem ggL_law_X7_needs : GoodIn wsL_law wsX7_needs := goodIn_k (gi_q bs_wsL_law_in _ [(16, 3)] rfl) (goodIn_app (goodIn_app (goodIn_app (gi_q bs_wsL_law_in _ [(0, 20), (14, 7), (14, 8), (14, 9), (0, 2), (14, 10), (11, 9), (11, 10), (11, 11), (11, 12), (7, 12), (7, 13), (7, 14), (7, 15), (1, 20), (14, 11), (12, 4), (12, 5), (16, 4), (16, 5), (16, 6), (0, 19), (16, 7), (2, 19)] rfl) (gi_q bs_wsL_law_in _ [(2, 18), (2, 14), (16, 8), (14, 17), (14, 18), (14, 19)] rfl)) (gi_wsL_law_37)) (gi_wsL_law_40))
set_option maxRecDepth 20000 in
theorem gL_law_X7_needs : GoodIn wsL_law (wsV RL 67 RX7 yX7_needs wsX7_needs) := goodIn_app (gi_q bs_wsL_law_in _ [(16, 0), (16, 1), (16, 2), (0, 2)] rfl) ggL_law_X7_needs
set_option maxRecDepth 20000 in
theorem ggL_law_X8_needs : GoodIn wsL_law wsX8_needs := goodIn_k (gi_q bs_wsL_law_in _ [(16, 12)] rfl) (goodIn_app (goodIn_app (gi_q bs_wsL_law_in _ [(15, 0), (15, 1), (15, 2), (0, 5), (15, 3), (6, 2), (12, 23), (13, 0), (13, 1), (8, 8), (8, 9), (8, 10), (8, 11), (6, 4), (16, 13), (16, 14), (16, 15), (16, 16), (5, 22), (16, 17), (16, 18), (16, 19), (16, 20), (5, 23)] rfl) (gi_q bs_wsL_law_in _ [(13, 9), (13, 10), (13, 11), (16, 21), (16, 22), (16, 23), (17, 0), (6, 0), (6, 1), (15, 7), (15, 8), (15, 9)] rfl)) (gi_wsL_law_38))
set_option maxRecDepth 20000 in
theorem gL_law_X8_needs : GoodIn wsL_law (wsV RL 70 RX8 yX8_needs wsX8_needs) := goodIn_app (gi_q bs_wsL_law_in _ [(16, 9), (16, 10), (16, 11), (0, 5)] rfl) ggL_law_X8_needs
set_option maxRecDepth 20000 in
theorem ggL_law_X7_pack : GoodIn wsL_law wsX7_pack := goodIn_k (gi_q bs_wsL_law_in _ [(17, 4)] rfl) (goodIn_app (goodIn_app (goodIn_app (goodIn_app (goodIn_app (gi_q bs_wsL_law_in _ [(1, 0), (17, 5), (11, 10), (11, 11), (0, 2), (11, 12), (7, 12), (7, 13), (7, 14), (7, 15), (1, 20), (17, 6), (17, 7), (17, 8), (0, 23), (17, 9), (3, 1), (3, 10), (3, 5), (17, 10), (3, 4), (3, 3), (3, 2), (17, 11)] rfl) (goodIn_app (gi_q bs_wsL_law_in _ [(17, 12), (17, 13), (3, 9), (17, 14), (3, 23), (17, 15), (17, 16), (3, 22), (17, 17), (17, 18), (17, 19), (17, 20), (17, 21), (3, 19), (3, 20), (17, 22), (2, 7), (2, 8), (2, 9), (12, 4), (12, 5), (17, 23), (14, 13), (14, 14)] rfl) (goodIn_app (gi_q bs_wsL_law_in _ [(0, 19), (14, 15), (2, 14), (18, 0), (18, 1), (18, 2), (18, 3), (3, 16), (3, 17), (3, 18), (18, 4), (18, 5), (18, 6), (18, 7), (18, 8), (16, 5), (16, 6), (16, 7), (2, 19), (2, 18), (16, 8), (14, 17), (14, 18), (14, 19)] rfl) (goodIn_app (gi_q bs_wsL_law_in _ [(18, 9), (18, 10), (18, 11), (3, 15), (18, 12), (18, 13), (18, 14), (18, 15), (18, 16), (18, 17), (18, 18), (18, 19), (18, 20), (18, 21), (18, 22), (18, 23), (19, 0), (19, 1), (19, 2), (19, 3), (19, 4), (19, 5), (19, 6), (19, 7)] rfl) (gi_q bs_wsL_law_in _ [(19, 8), (19, 9), (19, 10), (19, 11), (19, 12)] rfl))))) (gi_wsL_law_37)) (gi_wsL_law_41)) (gi_wsL_law_45)) (gi_wsL_law_40))
set_option maxRecDepth 20000 in
theorem gL_law_X7_pack : GoodIn wsL_law (wsV RL 71 RX7 yX7_pack wsX7_pack) := goodIn_app (gi_q bs_wsL_law_in _ [(17, 1), (17, 2), (17, 3), (0, 2)] rfl) ggL_law_X7_pack
set_option maxRecDepth 20000 in
theorem ggL_law_X8_pack : GoodIn wsL_law wsX8_pack := goodIn_k (gi_q bs_wsL_law_in _ [(19, 16)] rfl) (goodIn_app (goodIn_app (gi_q bs_wsL_law_in _ [(6, 7), (12, 23), (13, 0), (0, 5), (13, 1), (8, 8), (8, 9), (8, 10), (8, 11), (6, 4), (19, 17), (19, 18), (19, 19), (19, 20), (6, 10), (6, 2), (6, 8), (6, 9), (6, 5), (6, 6), (16, 13), (16, 14), (16, 15), (16, 16)] rfl) (goodIn_app (gi_q bs_wsL_law_in _ [(5, 22), (16, 17), (16, 18), (16, 19), (16, 20), (5, 23), (13, 9), (13, 10), (13, 11), (16, 21), (16, 22), (16, 23), (17, 0), (6, 0), (6, 1), (15, 7), (15, 8), (15, 9), (19, 21), (19, 22), (19, 23), (20, 0), (6, 3), (15, 4)] rfl) (gi_q bs_wsL_law_in _ [(15, 5), (15, 6)] rfl))) (gi_wsL_law_38))
set_option maxRecDepth 20000 in
theorem gL_law_X8_pack : GoodIn wsL_law (wsV RL 74 RX8 yX8_pack wsX8_pack) := goodIn_app (gi_q bs_wsL_law_in _ [(19, 13), (19, 14), (19, 15), (0, 5)] rfl) ggL_law_X8_pack
set_option maxRecDepth 20000 in
theorem ggL_law_X7_word : GoodIn wsL_law wsX7_word := goodIn_k (gi_q bs_wsL_law_in _ [(20, 4)] rfl) (goodIn_app (goodIn_app (goodIn_app (gi_q bs_wsL_law_in _ [(1, 0), (12, 16), (20, 5), (14, 7), (14, 8), (14, 9), (0, 2), (14, 10), (0, 20), (11, 9), (11, 10), (11, 11), (11, 12), (7, 12), (7, 13), (7, 14), (7, 15), (1, 20), (14, 11), (12, 4), (12, 5)] rfl) (gi_wsL_law_37)) (gi_wsL_law_41)) (gi_wsL_law_40))
set_option maxRecDepth 20000 in
theorem gL_law_X7_word : GoodIn wsL_law (wsV RL 75 RX7 yX7_word wsX7_word) := goodIn_app (gi_q bs_wsL_law_in _ [(20, 1), (20, 2), (20, 3), (0, 2)] rfl) ggL_law_X7_word
set_option maxRecDepth 20000 in
theorem ggL_law_X8_word : GoodIn wsL_law wsX8_word := goodIn_k (gi_q bs_wsL_law_in _ [(20, 9)] rfl) (goodIn_app (gi_q bs_wsL_law_in _ [(6, 10), (6, 6), (15, 0), (15, 1), (15, 2), (0, 5), (15, 3), (6, 2), (12, 23), (13, 0), (13, 1), (8, 8), (8, 9), (8, 10), (8, 11), (6, 4)] rfl) (gi_wsL_law_38))
set_option maxRecDepth 20000 in
theorem gL_law_X8_word : GoodIn wsL_law (wsV RL 78 RX8 yX8_word wsX8_word) := goodIn_app (gi_q bs_wsL_law_in _ [(20, 6), (20, 7), (20, 8), (0, 5)] rfl) ggL_law_X8_word
set_option maxRecDepth 20000 in
theorem ggL_law_X7_why : GoodIn wsL_law wsX7_why := goodIn_k (gi_q bs_wsL_law_in _ [(20, 13)] rfl) (goodIn_app (goodIn_app (goodIn_app (goodIn_app (gi_q bs_wsL_law_in _ [(1, 0), (12, 16), (14, 7), (14, 8), (14, 9), (0, 2), (14, 10), (0, 20), (11, 9), (11, 10), (11, 11), (11, 12), (7, 12), (7, 13), (7, 14), (7, 15), (1, 20), (20, 14), (20, 15), (20, 16), (0, 23), (20, 17), (3, 6), (3, 3)] rfl) (gi_q bs_wsL_law_in _ [(12, 4), (12, 5), (20, 18), (16, 5), (16, 6), (0, 19), (16, 7), (2, 19), (2, 18), (2, 14), (16, 8), (14, 17), (14, 18), (14, 19)] rfl)) (gi_wsL_law_37)) (gi_wsL_law_41)) (gi_wsL_law_40))
set_option maxRecDepth 20000 in
theorem gL_law_X7_why : GoodIn wsL_law (wsV RL 79 RX7 yX7_why wsX7_why) := goodIn_app (gi_q bs_wsL_law_in _ [(20, 10), (20, 11), (20, 12), (0, 2)] rfl) ggL_law_X7_why
set_option maxRecDepth 20000 in
theorem ggL_law_X8_why : GoodIn wsL_law wsX8_why := goodIn_k (gi_q bs_wsL_law_in _ [(20, 22)] rfl) (goodIn_app (goodIn_app (gi_q bs_wsL_law_in _ [(6, 10), (6, 6), (15, 0), (15, 1), (15, 2), (0, 5), (15, 3), (6, 2), (12, 23), (13, 0), (13, 1), (8, 8), (8, 9), (8, 10), (8, 11), (6, 4), (16, 13), (16, 14), (16, 15), (16, 16), (5, 22), (16, 17), (16, 18), (16, 19)] rfl) (gi_q bs_wsL_law_in _ [(16, 20), (5, 23), (13, 9), (13, 10), (13, 11), (16, 21), (16, 22), (16, 23), (17, 0), (6, 0), (6, 1), (15, 7), (15, 8), (15, 9)] rfl)) (gi_wsL_law_38))
set_option maxRecDepth 20000 in
theorem gL_law_X8_why : GoodIn wsL_law (wsV RL 82 RX8 yX8_why wsX8_why) := goodIn_app (gi_q bs_wsL_law_in _ [(20, 19), (20, 20), (20, 21), (0, 5)] rfl) ggL_law_X8_why
set_option maxRecDepth 20000 in
theorem ggL_law_X7_store : GoodIn wsL_law wsX7_store := goodIn_k (gi_q bs_wsL_law_in _ [(21, 2)] rfl) (goodIn_app (goodIn_app (goodIn_app (goodIn_app (goodIn_app (goodIn_app (goodIn_app (gi_q bs_wsL_law_in _ [(1, 4), (12, 17), (1, 0), (1, 8), (21, 3), (17, 6), (17, 7), (17, 8), (0, 23), (17, 9), (3, 1), (3, 10), (3, 5), (17, 10), (3, 4), (3, 3), (3, 2), (17, 11), (17, 12), (17, 13), (3, 9), (17, 14), (3, 23), (17, 15)] rfl) (goodIn_app (gi_q bs_wsL_law_in _ [(17, 16), (3, 22), (17, 17), (17, 18), (17, 19), (17, 20), (17, 21), (3, 19), (3, 20), (17, 22), (2, 7), (2, 8), (2, 9), (12, 4), (0, 2), (12, 5), (17, 23), (14, 13), (14, 14), (0, 19), (14, 15), (2, 14), (18, 0), (18, 1)] rfl) (goodIn_app (gi_q bs_wsL_law_in _ [(18, 2), (18, 3), (3, 16), (3, 17), (3, 18), (18, 4), (18, 5), (18, 6), (18, 7), (18, 8), (16, 5), (16, 6), (16, 7), (2, 19), (2, 18), (16, 8), (14, 17), (14, 18), (14, 19), (18, 9), (18, 10), (18, 11), (3, 15), (18, 12)] rfl) (goodIn_app (gi_q bs_wsL_law_in _ [(18, 13), (18, 14), (18, 15), (18, 16), (18, 17), (18, 18), (18, 19), (18, 20), (18, 21), (18, 22), (18, 23), (19, 0), (19, 1), (19, 2), (19, 3), (19, 4), (19, 5), (19, 6), (19, 7), (19, 8), (19, 9), (19, 10), (19, 11), (19, 12)] rfl) (goodIn_app (gi_q bs_wsL_law_in _ [(21, 4), (21, 5), (21, 6), (1, 3), (21, 7), (21, 8), (4, 10), (21, 9), (21, 10), (4, 7), (4, 8), (21, 11), (21, 12), (21, 13), (21, 14), (21, 15), (4, 6), (4, 4), (4, 5), (21, 16), (21, 17), (21, 18), (21, 19), (4, 9)] rfl) (goodIn_app (gi_q bs_wsL_law_in _ [(21, 20), (21, 21), (21, 22), (21, 23), (22, 0), (22, 1), (22, 2), (22, 3), (2, 15), (2, 16), (2, 17), (22, 4), (22, 5), (22, 6), (1, 7), (22, 7), (22, 8), (4, 18), (4, 19), (4, 23), (22, 9), (22, 10), (22, 11), (22, 12)] rfl) (goodIn_app (gi_q bs_wsL_law_in _ [(22, 13), (4, 21), (22, 14), (22, 15), (22, 16), (22, 17), (22, 18), (4, 22), (22, 19), (22, 20), (22, 21), (22, 22), (22, 23), (4, 17), (4, 16), (23, 0), (23, 1), (23, 2), (23, 3), (23, 4), (23, 5), (23, 6), (23, 7), (23, 8)] rfl) (gi_q bs_wsL_law_in _ [(4, 20), (4, 15), (23, 9), (23, 10), (23, 11), (23, 12), (23, 13), (23, 14), (23, 15), (23, 16)] rfl)))))))) (gi_wsL_law_37)) (gi_wsL_law_42)) (gi_wsL_law_41)) (gi_wsL_law_45)) (gi_wsL_law_40)) (gi_wsL_law_43))
set_option maxRecDepth 20000 in
theorem gL_law_X7_store : GoodIn wsL_law (wsV RL 83 RX7 yX7_store wsX7_store) := goodIn_app (gi_q bs_wsL_law_in _ [(20, 23), (21, 0), (21, 1), (0, 2)] rfl) ggL_law_X7_store
set_option maxRecDepth 20000 in
theorem ggL_law_X8_store : GoodIn wsL_law wsX8_store := goodIn_k (gi_q bs_wsL_law_in _ [(23, 20)] rfl) (goodIn_app (goodIn_app (gi_q bs_wsL_law_in _ [(23, 21), (6, 7), (6, 15), (12, 22), (19, 17), (19, 18), (19, 19), (0, 5), (19, 20), (6, 10), (6, 2), (6, 8), (6, 9), (6, 5), (6, 6), (16, 13), (16, 14), (16, 15), (16, 16), (5, 22), (16, 17), (16, 18), (16, 19), (16, 20)] rfl) (goodIn_app (gi_q bs_wsL_law_in _ [(5, 23), (13, 9), (13, 10), (13, 11), (16, 21), (16, 22), (16, 23), (17, 0), (6, 0), (6, 1), (15, 7), (15, 8), (15, 9), (19, 21), (19, 22), (19, 23), (20, 0), (6, 3), (15, 4), (15, 5), (15, 6), (23, 22), (23, 23), (24, 0)] rfl) (goodIn_app (gi_q bs_wsL_law_in _ [(24, 1), (6, 13), (6, 14), (6, 11), (6, 12), (24, 2), (24, 3), (24, 4), (24, 5), (24, 6), (24, 7), (24, 8), (24, 9), (24, 10), (24, 11), (24, 12), (24, 13), (24, 14), (24, 15), (24, 16), (24, 17), (6, 17), (6, 18), (6, 16)] rfl) (gi_q bs_wsL_law_in _ [(24, 18), (24, 19), (24, 20), (24, 21), (24, 22), (24, 23), (25, 0), (25, 1), (25, 2), (25, 3), (25, 4), (25, 5), (25, 6), (6, 19), (6, 20), (25, 7), (25, 8), (25, 9), (25, 10)] rfl)))) (gi_wsL_law_38))
set_option maxRecDepth 20000 in
theorem gL_law_X8_store : GoodIn wsL_law (wsV RL 86 RX8 yX8_store wsX8_store) := goodIn_app (gi_q bs_wsL_law_in _ [(23, 17), (23, 18), (23, 19), (0, 5)] rfl) ggL_law_X8_store
set_option maxRecDepth 20000 in
theorem ggL_law_X7_place : GoodIn wsL_law wsX7_place := goodIn_k (gi_q bs_wsL_law_in _ [(25, 14)] rfl) (goodIn_app (goodIn_app (goodIn_app (gi_q bs_wsL_law_in _ [(1, 4), (12, 17), (1, 0), (17, 5), (25, 15), (11, 10), (11, 11), (0, 2), (11, 12), (7, 12), (7, 13), (7, 14), (7, 15), (1, 20), (14, 11), (12, 4), (12, 5)] rfl) (gi_wsL_law_37)) (gi_wsL_law_42)) (gi_wsL_law_41))
set_option maxRecDepth 20000 in
theorem gL_law_X7_place : GoodIn wsL_law (wsV RL 87 RX7 yX7_place wsX7_place) := goodIn_app (gi_q bs_wsL_law_in _ [(25, 11), (25, 12), (25, 13), (0, 2)] rfl) ggL_law_X7_place
set_option maxRecDepth 20000 in
theorem ggL_law_X8_place : GoodIn wsL_law wsX8_place := goodIn_k (gi_q bs_wsL_law_in _ [(25, 19)] rfl) (goodIn_app (gi_q bs_wsL_law_in _ [(12, 22), (6, 7), (6, 15), (12, 23), (13, 0), (0, 5), (13, 1), (8, 8), (8, 9), (8, 10), (8, 11), (6, 4), (8, 12), (8, 13), (8, 14)] rfl) (gi_wsL_law_38))
set_option maxRecDepth 20000 in
theorem gL_law_X8_place : GoodIn wsL_law (wsV RL 90 RX8 yX8_place wsX8_place) := goodIn_app (gi_q bs_wsL_law_in _ [(25, 16), (25, 17), (25, 18), (0, 5)] rfl) ggL_law_X8_place
set_option maxRecDepth 20000 in
theorem ggL_law_X7_at : GoodIn wsL_law wsX7_at := goodIn_k (gi_q bs_wsL_law_in _ [(25, 23)] rfl) (goodIn_app (goodIn_app (gi_q bs_wsL_law_in _ [(1, 4), (12, 17), (21, 3), (26, 0), (26, 1), (26, 2), (7, 12), (7, 13), (7, 14), (0, 2), (7, 15), (1, 20), (26, 3), (18, 17), (18, 18), (18, 19), (18, 20), (18, 21), (18, 22)] rfl) (gi_wsL_law_37)) (gi_wsL_law_42))
set_option maxRecDepth 20000 in
theorem gL_law_X7_at : GoodIn wsL_law (wsV RL 91 RX7 yX7_at wsX7_at) := goodIn_app (gi_q bs_wsL_law_in _ [(25, 20), (25, 21), (25, 22), (0, 2)] rfl) ggL_law_X7_at
set_option maxRecDepth 20000 in
theorem ggL_law_X8_at : GoodIn wsL_law wsX8_at := goodIn_k (gi_q bs_wsL_law_in _ [(26, 7)] rfl) (goodIn_app (goodIn_app (gi_q bs_wsL_law_in _ [(12, 22), (23, 21), (6, 13), (6, 14), (8, 8), (8, 9), (8, 10), (0, 5), (8, 11), (6, 4), (8, 12), (8, 13), (8, 14), (24, 18), (24, 19), (24, 20), (24, 21), (6, 11), (6, 12), (24, 6), (24, 7), (24, 8), (24, 9), (6, 2)] rfl) (gi_q bs_wsL_law_in _ [(6, 6)] rfl)) (gi_wsL_law_38))
set_option maxRecDepth 20000 in
theorem gL_law_X8_at : GoodIn wsL_law (wsV RL 94 RX8 yX8_at wsX8_at) := goodIn_app (gi_q bs_wsL_law_in _ [(26, 4), (26, 5), (26, 6), (0, 5)] rfl) ggL_law_X8_at
set_option maxRecDepth 20000 in
theorem ggL_law_X7_group : GoodIn wsL_law wsX7_group := goodIn_k (gi_q bs_wsL_law_in _ [(26, 11)] rfl) (goodIn_app (goodIn_app (goodIn_app (gi_q bs_wsL_law_in _ [(1, 4), (12, 17), (1, 8), (26, 12), (7, 12), (7, 13), (7, 14), (0, 2), (7, 15), (1, 20)] rfl) (gi_wsL_law_37)) (gi_wsL_law_42)) (gi_wsL_law_43))
set_option maxRecDepth 20000 in
theorem gL_law_X7_group : GoodIn wsL_law (wsV RL 95 RX7 yX7_group wsX7_group) := goodIn_app (gi_q bs_wsL_law_in _ [(26, 8), (26, 9), (26, 10), (0, 2)] rfl) ggL_law_X7_group
set_option maxRecDepth 20000 in
theorem ggL_law_X8_group : GoodIn wsL_law wsX8_group := goodIn_k (gi_q bs_wsL_law_in _ [(26, 16)] rfl) (goodIn_app (gi_q bs_wsL_law_in _ [(26, 17), (12, 22), (6, 19), (8, 12), (8, 13), (0, 5), (8, 14), (8, 8), (8, 9), (8, 10), (8, 11), (6, 4)] rfl) (gi_wsL_law_38))
set_option maxRecDepth 20000 in
theorem gL_law_X8_group : GoodIn wsL_law (wsV RL 98 RX8 yX8_group wsX8_group) := goodIn_app (gi_q bs_wsL_law_in _ [(26, 13), (26, 14), (26, 15), (0, 5)] rfl) ggL_law_X8_group
set_option maxRecDepth 20000 in
theorem ggL_law_X7_narrow : GoodIn wsL_law wsX7_narrow := goodIn_k (gi_q bs_wsL_law_in _ [(26, 21)] rfl) (goodIn_app (goodIn_app (goodIn_app (gi_q bs_wsL_law_in _ [(1, 4), (12, 17), (1, 8), (26, 22), (21, 3), (26, 23), (27, 0), (7, 12), (7, 13), (7, 14), (0, 2), (7, 15), (1, 20)] rfl) (gi_wsL_law_37)) (gi_wsL_law_42)) (gi_wsL_law_43))
set_option maxRecDepth 20000 in
theorem gL_law_X7_narrow : GoodIn wsL_law (wsV RL 99 RX7 yX7_narrow wsX7_narrow) := goodIn_app (gi_q bs_wsL_law_in _ [(26, 18), (26, 19), (26, 20), (0, 2)] rfl) ggL_law_X7_narrow
set_option maxRecDepth 20000 in
theorem ggL_law_X8_narrow : GoodIn wsL_law wsX8_narrow := goodIn_k (gi_q bs_wsL_law_in _ [(27, 4)] rfl) (goodIn_app (gi_q bs_wsL_law_in _ [(12, 22), (15, 23), (25, 6), (6, 17), (6, 20), (23, 21), (8, 8), (8, 9), (8, 10), (0, 5), (8, 11), (6, 4), (8, 12), (8, 13), (8, 14), (27, 5), (27, 6), (27, 7)] rfl) (gi_wsL_law_38))
set_option maxRecDepth 20000 in
theorem gL_law_X8_narrow : GoodIn wsL_law (wsV RL 102 RX8 yX8_narrow wsX8_narrow) := goodIn_app (gi_q bs_wsL_law_in _ [(27, 1), (27, 2), (27, 3), (0, 5)] rfl) ggL_law_X8_narrow
set_option maxRecDepth 20000 in
theorem ggL_law_X7_run : GoodIn wsL_law wsX7_run := goodIn_k (gi_q bs_wsL_law_in _ [(27, 11)] rfl) (goodIn_app (goodIn_app (goodIn_app (goodIn_app (goodIn_app (goodIn_app (goodIn_app (gi_q bs_wsL_law_in _ [(1, 0), (1, 12), (11, 10), (11, 11), (0, 2), (11, 12), (7, 12), (7, 13), (7, 14), (7, 15), (1, 20), (17, 6), (17, 7), (17, 8), (0, 23), (17, 9), (3, 1), (3, 10), (3, 5), (17, 10), (3, 4), (3, 3), (3, 2), (17, 11)] rfl) (goodIn_app (gi_q bs_wsL_law_in _ [(17, 12), (17, 13), (3, 9), (17, 14), (3, 23), (17, 15), (17, 16), (3, 22), (17, 17), (17, 18), (17, 19), (17, 20), (17, 21), (3, 19), (3, 20), (17, 22), (2, 7), (2, 8), (2, 9), (12, 4), (12, 5), (17, 23), (14, 13), (14, 14)] rfl) (goodIn_app (gi_q bs_wsL_law_in _ [(0, 19), (14, 15), (2, 14), (18, 0), (18, 1), (18, 2), (18, 3), (3, 16), (3, 17), (3, 18), (18, 4), (18, 5), (18, 6), (18, 7), (18, 8), (16, 5), (16, 6), (16, 7), (2, 19), (2, 18), (16, 8), (14, 17), (14, 18), (14, 19)] rfl) (goodIn_app (gi_q bs_wsL_law_in _ [(18, 9), (18, 10), (18, 11), (3, 15), (18, 12), (18, 13), (18, 14), (18, 15), (18, 16), (18, 17), (18, 18), (18, 19), (18, 20), (18, 21), (18, 22), (18, 23), (19, 0), (19, 1), (19, 2), (19, 3), (19, 4), (19, 5), (19, 6), (19, 7)] rfl) (goodIn_app (gi_q bs_wsL_law_in _ [(19, 8), (19, 9), (19, 10), (19, 11), (19, 12), (27, 12), (27, 13), (27, 14), (1, 11), (27, 15), (5, 8), (5, 4), (27, 16), (27, 17), (5, 10), (27, 18), (5, 9), (27, 19), (27, 20), (27, 21), (27, 22), (27, 23), (0, 15), (28, 0)] rfl) (goodIn_app (gi_q bs_wsL_law_in _ [(28, 1), (28, 2), (28, 3), (28, 4), (28, 5), (28, 6), (5, 5), (5, 6), (28, 7), (28, 8), (28, 9), (28, 10), (28, 11), (28, 12), (28, 13), (28, 14), (28, 15), (28, 16), (28, 17), (28, 18), (28, 19), (28, 20), (28, 21), (28, 22)] rfl) (goodIn_app (gi_q bs_wsL_law_in _ [(28, 23), (9, 16), (9, 17), (9, 18), (29, 0), (29, 1), (29, 2), (29, 3), (29, 4), (29, 5), (29, 6), (29, 7), (29, 8), (7, 21), (7, 22), (7, 23), (2, 2), (29, 9), (29, 10), (29, 11), (29, 12), (2, 3), (2, 4), (2, 5)] rfl) (gi_q bs_wsL_law_in _ [(29, 13), (29, 14), (29, 15), (29, 16), (29, 17), (7, 17), (7, 18), (7, 19), (7, 20), (29, 18), (29, 19), (29, 20), (29, 21), (29, 22), (1, 14), (29, 23), (30, 0), (30, 1)] rfl)))))))) (gi_wsL_law_37)) (gi_wsL_law_41)) (gi_wsL_law_45)) (gi_wsL_law_40)) (gi_wsL_law_44)) (gi_wsL_law_39))
set_option maxRecDepth 20000 in
theorem gL_law_X7_run : GoodIn wsL_law (wsV RL 103 RX7 yX7_run wsX7_run) := goodIn_app (gi_q bs_wsL_law_in _ [(27, 8), (27, 9), (27, 10), (0, 2)] rfl) ggL_law_X7_run
set_option maxRecDepth 20000 in
theorem ggL_law_X8_run : GoodIn wsL_law wsX8_run := goodIn_k (gi_q bs_wsL_law_in _ [(30, 5)] rfl) (goodIn_app (goodIn_app (gi_q bs_wsL_law_in _ [(12, 23), (13, 0), (0, 5), (13, 1), (8, 8), (8, 9), (8, 10), (8, 11), (6, 4), (30, 6), (30, 7), (30, 8), (30, 9), (5, 16), (5, 19), (30, 10), (30, 11), (6, 21), (6, 7), (5, 18), (6, 2), (6, 6), (5, 22), (19, 17)] rfl) (goodIn_app (gi_q bs_wsL_law_in _ [(19, 18), (19, 19), (19, 20), (6, 10), (6, 8), (6, 9), (6, 5), (16, 13), (16, 14), (16, 15), (16, 16), (16, 17), (16, 18), (16, 19), (16, 20), (5, 23), (13, 9), (13, 10), (13, 11), (16, 21), (16, 22), (16, 23), (17, 0), (6, 0)] rfl) (goodIn_app (gi_q bs_wsL_law_in _ [(6, 1), (15, 7), (15, 8), (15, 9), (19, 21), (19, 22), (19, 23), (20, 0), (6, 3), (15, 4), (15, 5), (15, 6), (30, 12), (30, 13), (30, 14), (30, 15), (30, 16), (30, 17), (30, 18), (30, 19), (30, 20), (30, 21), (30, 22), (30, 23)] rfl) (gi_q bs_wsL_law_in _ [(31, 0), (31, 1), (31, 2), (31, 3), (8, 15), (8, 16), (8, 17), (8, 18), (5, 21), (31, 4), (31, 5), (31, 6), (31, 7), (31, 8), (31, 9), (31, 10), (31, 11)] rfl)))) (gi_wsL_law_38))
set_option maxRecDepth 20000 in
theorem gL_law_X8_run : GoodIn wsL_law (wsV RL 106 RX8 yX8_run wsX8_run) := goodIn_app (gi_q bs_wsL_law_in _ [(30, 2), (30, 3), (30, 4), (0, 5)] rfl) ggL_law_X8_run
set_option maxRecDepth 20000 in
theorem ggL_law_X7_told : GoodIn wsL_law wsX7_told := goodIn_k (gi_q bs_wsL_law_in _ [(31, 15)] rfl) (goodIn_app (gi_q bs_wsL_law_in _ [(1, 14), (7, 12), (7, 13), (7, 14), (0, 2), (7, 15), (1, 20)] rfl) (gi_wsL_law_37))
set_option maxRecDepth 20000 in
theorem gL_law_X7_told : GoodIn wsL_law (wsV RL 107 RX7 yX7_told wsX7_told) := goodIn_app (gi_q bs_wsL_law_in _ [(31, 12), (31, 13), (31, 14), (0, 2)] rfl) ggL_law_X7_told
set_option maxRecDepth 20000 in
theorem ggL_law_X8_told : GoodIn wsL_law wsX8_told := goodIn_k (gi_q bs_wsL_law_in _ [(31, 19)] rfl) (goodIn_app (gi_q bs_wsL_law_in _ [(11, 4), (30, 10), (30, 11), (6, 21), (8, 12), (8, 13), (0, 5), (8, 14), (8, 8), (8, 9), (8, 10), (8, 11), (6, 4)] rfl) (gi_wsL_law_38))
set_option maxRecDepth 20000 in
theorem gL_law_X8_told : GoodIn wsL_law (wsV RL 110 RX8 yX8_told wsX8_told) := goodIn_app (gi_q bs_wsL_law_in _ [(31, 16), (31, 17), (31, 18), (0, 5)] rfl) ggL_law_X8_told
set_option maxRecDepth 20000 in
theorem ggL_law_X7_beside : GoodIn wsL_law wsX7_beside := goodIn_k (gi_q bs_wsL_law_in _ [(31, 23)] rfl) (goodIn_app (goodIn_app (goodIn_app (goodIn_app (goodIn_app (goodIn_app (goodIn_app (gi_q bs_wsL_law_in _ [(1, 0), (12, 16), (1, 12), (11, 10), (11, 11), (0, 2), (11, 12), (7, 12), (7, 13), (7, 14), (7, 15), (1, 20), (17, 6), (17, 7), (17, 8), (0, 23), (17, 9), (3, 1), (3, 10), (3, 5), (17, 10), (3, 4), (3, 3), (3, 2)] rfl) (goodIn_app (gi_q bs_wsL_law_in _ [(17, 11), (17, 12), (17, 13), (3, 9), (17, 14), (3, 23), (17, 15), (17, 16), (3, 22), (17, 17), (17, 18), (17, 19), (17, 20), (17, 21), (3, 19), (3, 20), (17, 22), (2, 7), (2, 8), (2, 9), (12, 4), (12, 5), (17, 23), (14, 13)] rfl) (goodIn_app (gi_q bs_wsL_law_in _ [(14, 14), (0, 19), (14, 15), (2, 14), (18, 0), (18, 1), (18, 2), (18, 3), (3, 16), (3, 17), (3, 18), (18, 4), (18, 5), (18, 6), (18, 7), (18, 8), (16, 5), (16, 6), (16, 7), (2, 19), (2, 18), (16, 8), (14, 17), (14, 18)] rfl) (goodIn_app (gi_q bs_wsL_law_in _ [(14, 19), (18, 9), (18, 10), (18, 11), (3, 15), (18, 12), (18, 13), (18, 14), (18, 15), (18, 16), (18, 17), (18, 18), (18, 19), (18, 20), (18, 21), (18, 22), (18, 23), (19, 0), (19, 1), (19, 2), (19, 3), (19, 4), (19, 5), (19, 6)] rfl) (goodIn_app (gi_q bs_wsL_law_in _ [(19, 7), (19, 8), (19, 9), (19, 10), (19, 11), (19, 12), (32, 0), (32, 1), (32, 2), (1, 11), (32, 3), (5, 8), (28, 15), (5, 7), (32, 4), (32, 5), (32, 6), (32, 7), (32, 8), (27, 13), (27, 14), (27, 15), (5, 4), (27, 16)] rfl) (goodIn_app (gi_q bs_wsL_law_in _ [(27, 17), (5, 10), (27, 18), (5, 9), (27, 19), (27, 20), (27, 21), (27, 22), (27, 23), (0, 15), (28, 0), (28, 1), (28, 2), (28, 3), (28, 4), (28, 5), (28, 6), (5, 5), (5, 6), (28, 7), (28, 8), (28, 9), (28, 10), (28, 11)] rfl) (goodIn_app (gi_q bs_wsL_law_in _ [(28, 12), (28, 13), (28, 14), (28, 16), (28, 17), (28, 18), (28, 19), (28, 20), (28, 21), (28, 22), (28, 23), (9, 16), (9, 17), (9, 18), (29, 0), (29, 1), (29, 2), (29, 3), (29, 4), (29, 5), (29, 6), (29, 7), (29, 8), (7, 21)] rfl) (gi_q bs_wsL_law_in _ [(7, 22), (7, 23), (2, 2), (29, 9), (29, 10), (29, 11), (29, 12), (2, 3), (2, 4), (2, 5), (29, 13), (29, 14), (29, 15), (29, 16), (29, 17), (7, 17), (7, 18), (7, 19), (7, 20), (29, 18), (32, 9), (32, 10), (32, 11), (32, 12)] rfl)))))))) (gi_wsL_law_37)) (gi_wsL_law_41)) (gi_wsL_law_45)) (gi_wsL_law_40)) (gi_wsL_law_44)) (gi_wsL_law_39))
set_option maxRecDepth 20000 in
theorem gL_law_X7_beside : GoodIn wsL_law (wsV RL 111 RX7 yX7_beside wsX7_beside) := goodIn_app (gi_q bs_wsL_law_in _ [(31, 20), (31, 21), (31, 22), (0, 2)] rfl) ggL_law_X7_beside
set_option maxRecDepth 20000 in
theorem ggL_law_X8_beside : GoodIn wsL_law wsX8_beside := goodIn_k (gi_q bs_wsL_law_in _ [(32, 16)] rfl) (goodIn_app (goodIn_app (gi_q bs_wsL_law_in _ [(30, 10), (30, 11), (6, 21), (5, 16), (6, 22), (5, 20), (12, 23), (13, 0), (0, 5), (13, 1), (8, 8), (8, 9), (8, 10), (8, 11), (6, 4), (30, 12), (30, 13), (30, 14), (31, 8), (31, 9), (31, 10), (31, 11), (5, 19), (6, 2)] rfl) (goodIn_app (gi_q bs_wsL_law_in _ [(5, 18), (5, 22), (30, 15), (30, 16), (30, 17), (30, 18), (6, 0), (6, 1), (30, 19), (30, 20), (30, 21), (30, 22), (30, 23), (31, 0), (31, 1), (31, 2), (31, 3), (5, 23), (8, 15), (8, 16), (8, 17), (8, 18), (5, 21), (31, 4)] rfl) (goodIn_app (gi_q bs_wsL_law_in _ [(31, 5), (31, 6), (31, 7), (30, 6), (30, 7), (30, 8), (30, 9), (6, 7), (6, 6), (19, 17), (19, 18), (19, 19), (19, 20), (6, 10), (6, 8), (6, 9), (6, 5), (16, 13), (16, 14), (16, 15), (16, 16), (16, 17), (16, 18), (16, 19)] rfl) (gi_q bs_wsL_law_in _ [(16, 20), (13, 9), (13, 10), (13, 11), (16, 21), (16, 22), (16, 23), (17, 0), (15, 7), (15, 8), (15, 9), (19, 21), (19, 22), (19, 23), (20, 0), (6, 3), (15, 4), (15, 5), (15, 6)] rfl)))) (gi_wsL_law_38))
set_option maxRecDepth 20000 in
theorem gL_law_X8_beside : GoodIn wsL_law (wsV RL 114 RX8 yX8_beside wsX8_beside) := goodIn_app (gi_q bs_wsL_law_in _ [(32, 13), (32, 14), (32, 15), (0, 5)] rfl) ggL_law_X8_beside
set_option maxRecDepth 20000 in
theorem ggL_law_X7_code : GoodIn wsL_law wsX7_code := goodIn_k (gi_q bs_wsL_law_in _ [(32, 20)] rfl) (goodIn_app (gi_q bs_wsL_law_in _ [(1, 15), (7, 12), (7, 13), (7, 14), (0, 2), (7, 15), (1, 20), (11, 10), (11, 11), (11, 12)] rfl) (gi_wsL_law_37))
set_option maxRecDepth 20000 in
theorem gL_law_X7_code : GoodIn wsL_law (wsV RL 115 RX7 yX7_code wsX7_code) := goodIn_app (gi_q bs_wsL_law_in _ [(32, 17), (32, 18), (32, 19), (0, 2)] rfl) ggL_law_X7_code
set_option maxRecDepth 20000 in
theorem ggL_law_X8_code : GoodIn wsL_law wsX8_code := goodIn_k (gi_q bs_wsL_law_in _ [(33, 0)] rfl) (goodIn_app (gi_q bs_wsL_law_in _ [(33, 1), (6, 23), (8, 12), (8, 13), (0, 5), (8, 14), (12, 23), (13, 0), (13, 1), (8, 8), (8, 9), (8, 10), (8, 11), (6, 4)] rfl) (gi_wsL_law_38))
set_option maxRecDepth 20000 in
theorem gL_law_X8_code : GoodIn wsL_law (wsV RL 118 RX8 yX8_code wsX8_code) := goodIn_app (gi_q bs_wsL_law_in _ [(32, 21), (32, 22), (32, 23), (0, 5)] rfl) ggL_law_X8_code
set_option maxRecDepth 20000 in
theorem ggL_law_X7_step : GoodIn wsL_law wsX7_step := goodIn_k (gi_q bs_wsL_law_in _ [(33, 5)] rfl) (goodIn_app (goodIn_app (goodIn_app (goodIn_app (goodIn_app (goodIn_app (goodIn_app (gi_q bs_wsL_law_in _ [(33, 6), (33, 7), (7, 12), (7, 13), (7, 14), (0, 2), (7, 15), (1, 20), (33, 8), (33, 9), (33, 10), (33, 11), (0, 16), (7, 8), (9, 18), (1, 15), (33, 12), (1, 0), (1, 12), (33, 13), (17, 6), (17, 7), (17, 8), (0, 23)] rfl) (goodIn_app (gi_q bs_wsL_law_in _ [(17, 9), (3, 1), (3, 10), (3, 5), (17, 10), (3, 4), (3, 3), (3, 2), (17, 11), (17, 12), (17, 13), (3, 9), (17, 14), (3, 23), (17, 15), (17, 16), (3, 22), (17, 17), (17, 18), (17, 19), (17, 20), (17, 21), (3, 19), (3, 20)] rfl) (goodIn_app (gi_q bs_wsL_law_in _ [(17, 22), (2, 7), (2, 8), (2, 9), (12, 4), (12, 5), (17, 23), (14, 13), (14, 14), (0, 19), (14, 15), (2, 14), (18, 0), (18, 1), (18, 2), (18, 3), (3, 16), (3, 17), (3, 18), (18, 4), (18, 5), (18, 6), (18, 7), (18, 8)] rfl) (goodIn_app (gi_q bs_wsL_law_in _ [(16, 5), (16, 6), (16, 7), (2, 19), (2, 18), (16, 8), (14, 17), (14, 18), (14, 19), (18, 9), (18, 10), (18, 11), (3, 15), (18, 12), (18, 13), (18, 14), (18, 15), (18, 16), (18, 17), (18, 18), (18, 19), (18, 20), (18, 21), (18, 22)] rfl) (goodIn_app (gi_q bs_wsL_law_in _ [(18, 23), (19, 0), (19, 1), (19, 2), (19, 3), (19, 4), (19, 5), (19, 6), (19, 7), (19, 8), (19, 9), (19, 10), (19, 11), (19, 12), (7, 16), (7, 17), (7, 18), (0, 15), (7, 19), (2, 3), (7, 20), (7, 21), (7, 22), (7, 23)] rfl) (goodIn_app (gi_q bs_wsL_law_in _ [(2, 2), (27, 12), (27, 13), (27, 14), (1, 11), (27, 15), (5, 8), (5, 4), (27, 16), (27, 17), (5, 10), (27, 18), (5, 9), (27, 19), (27, 20), (27, 21), (27, 22), (27, 23), (28, 0), (28, 1), (28, 2), (28, 3), (28, 4), (28, 5)] rfl) (goodIn_app (gi_q bs_wsL_law_in _ [(28, 6), (5, 5), (5, 6), (28, 7), (28, 8), (28, 9), (28, 10), (28, 11), (28, 12), (28, 13), (28, 14), (28, 15), (28, 16), (28, 17), (28, 18), (28, 19), (28, 20), (28, 21), (28, 22), (28, 23), (9, 16), (9, 17), (29, 0), (29, 1)] rfl) (goodIn_app (gi_q bs_wsL_law_in _ [(29, 2), (29, 3), (29, 4), (29, 5), (29, 6), (29, 7), (29, 8), (29, 9), (29, 10), (29, 11), (29, 12), (2, 4), (2, 5), (29, 13), (29, 14), (29, 15), (29, 16), (29, 17), (29, 18), (29, 19), (29, 20), (29, 21), (29, 22), (1, 14)] rfl) (gi_q bs_wsL_law_in _ [(29, 23), (30, 0), (30, 1)] rfl))))))))) (gi_wsL_law_37)) (gi_wsL_law_39)) (gi_wsL_law_41)) (gi_wsL_law_45)) (gi_wsL_law_40)) (gi_wsL_law_44))
set_option maxRecDepth 20000 in
theorem gL_law_X7_step : GoodIn wsL_law (wsV RL 119 RX7 yX7_step wsX7_step) := goodIn_app (gi_q bs_wsL_law_in _ [(33, 2), (33, 3), (33, 4), (0, 2)] rfl) ggL_law_X7_step
set_option maxRecDepth 20000 in
theorem ggL_law_X8_step : GoodIn wsL_law wsX8_step := goodIn_k (gi_q bs_wsL_law_in _ [(33, 17)] rfl) (goodIn_app (goodIn_app (gi_q bs_wsL_law_in _ [(33, 18), (33, 19), (5, 16), (30, 19), (6, 23), (33, 20), (33, 21), (33, 22), (8, 8), (8, 9), (8, 10), (0, 5), (8, 11), (6, 4), (8, 12), (8, 13), (8, 14), (8, 15), (8, 16), (8, 17), (8, 18), (5, 21), (30, 6), (30, 7)] rfl) (goodIn_app (gi_q bs_wsL_law_in _ [(30, 8), (30, 9), (5, 19), (30, 10), (30, 11), (6, 21), (6, 7), (5, 18), (6, 2), (6, 6), (5, 22), (19, 17), (19, 18), (19, 19), (19, 20), (6, 10), (6, 8), (6, 9), (6, 5), (16, 13), (16, 14), (16, 15), (16, 16), (16, 17)] rfl) (goodIn_app (gi_q bs_wsL_law_in _ [(16, 18), (16, 19), (16, 20), (5, 23), (13, 9), (13, 10), (13, 11), (16, 21), (16, 22), (16, 23), (17, 0), (6, 0), (6, 1), (15, 7), (15, 8), (15, 9), (19, 21), (19, 22), (19, 23), (20, 0), (6, 3), (15, 4), (15, 5), (15, 6)] rfl) (gi_q bs_wsL_law_in _ [(30, 12), (30, 13), (30, 14), (30, 15), (30, 16), (30, 17), (30, 18), (30, 20), (30, 21), (30, 22), (30, 23), (31, 0), (31, 1), (31, 2), (31, 3), (31, 4), (31, 5), (31, 6), (31, 7)] rfl)))) (gi_wsL_law_38))
set_option maxRecDepth 20000 in
theorem gL_law_X8_step : GoodIn wsL_law (wsV RL 122 RX8 yX8_step wsX8_step) := goodIn_app (gi_q bs_wsL_law_in _ [(33, 14), (33, 15), (33, 16), (0, 5)] rfl) ggL_law_X8_step
set_option maxRecDepth 20000 in
theorem ggL_law_X7_count : GoodIn wsL_law wsX7_count := goodIn_k (gi_q bs_wsL_law_in _ [(34, 2)] rfl) (goodIn_app (gi_q bs_wsL_law_in _ [(33, 7), (33, 13), (33, 6), (7, 12), (7, 13), (7, 14), (0, 2), (7, 15), (1, 20)] rfl) (gi_wsL_law_37))
set_option maxRecDepth 20000 in
theorem gL_law_X7_count : GoodIn wsL_law (wsV RL 123 RX7 yX7_count wsX7_count) := goodIn_app (gi_q bs_wsL_law_in _ [(33, 23), (34, 0), (34, 1), (0, 2)] rfl) ggL_law_X7_count
set_option maxRecDepth 20000 in
theorem ggL_law_X8_count : GoodIn wsL_law wsX8_count := goodIn_k (gi_q bs_wsL_law_in _ [(34, 6)] rfl) (goodIn_app (gi_q bs_wsL_law_in _ [(33, 22), (33, 21), (33, 19), (8, 8), (8, 9), (8, 10), (0, 5), (8, 11), (6, 4)] rfl) (gi_wsL_law_38))
set_option maxRecDepth 20000 in
theorem gL_law_X8_count : GoodIn wsL_law (wsV RL 126 RX8 yX8_count wsX8_count) := goodIn_app (gi_q bs_wsL_law_in _ [(34, 3), (34, 4), (34, 5), (0, 5)] rfl) ggL_law_X8_count
set_option maxRecDepth 20000 in
theorem ggL_law_X7_image : GoodIn wsL_law wsX7_image := goodIn_k (gi_q bs_wsL_law_in _ [(34, 10)] rfl) (goodIn_app (goodIn_app (gi_q bs_wsL_law_in _ [(1, 17), (0, 16), (7, 8), (34, 11)] rfl) (gi_wsL_law_37)) (gi_wsL_law_39))
set_option maxRecDepth 20000 in
theorem gL_law_X7_image : GoodIn wsL_law (wsV RL 127 RX7 yX7_image wsX7_image) := goodIn_app (gi_q bs_wsL_law_in _ [(34, 7), (34, 8), (34, 9), (0, 2)] rfl) ggL_law_X7_image
set_option maxRecDepth 20000 in
theorem ggL_law_X8_image : GoodIn wsL_law wsX8_image := goodIn_k (gi_q bs_wsL_law_in _ [(34, 15)] rfl) (goodIn_app (gi_q bs_wsL_law_in _ [(5, 16), (5, 17), (34, 16), (30, 12), (30, 13), (0, 5), (30, 14)] rfl) (gi_wsL_law_38))
set_option maxRecDepth 20000 in
theorem gL_law_X8_image : GoodIn wsL_law (wsV RL 130 RX8 yX8_image wsX8_image) := goodIn_app (gi_q bs_wsL_law_in _ [(34, 12), (34, 13), (34, 14), (0, 5)] rfl) ggL_law_X8_image
set_option maxRecDepth 20000 in
theorem ggL_law_X7_restore : GoodIn wsL_law wsX7_restore := goodIn_k (gi_q bs_wsL_law_in _ [(34, 20)] rfl) (goodIn_app (goodIn_app (gi_q bs_wsL_law_in _ [(34, 11), (0, 16), (1, 17), (7, 12), (7, 13), (7, 14), (0, 2), (7, 15), (1, 20), (7, 16), (7, 17), (7, 18), (0, 15), (7, 19), (2, 3), (7, 20), (7, 21), (7, 22), (7, 23), (2, 2)] rfl) (gi_wsL_law_37)) (gi_wsL_law_39))
set_option maxRecDepth 20000 in
theorem gL_law_X7_restore : GoodIn wsL_law (wsV RL 131 RX7 yX7_restore wsX7_restore) := goodIn_app (gi_q bs_wsL_law_in _ [(34, 17), (34, 18), (34, 19), (0, 2)] rfl) ggL_law_X7_restore
set_option maxRecDepth 20000 in
theorem ggL_law_X8_restore : GoodIn wsL_law wsX8_restore := goodIn_k (gi_q bs_wsL_law_in _ [(35, 0)] rfl) (goodIn_app (gi_q bs_wsL_law_in _ [(34, 16), (5, 17), (5, 16), (8, 8), (8, 9), (8, 10), (0, 5), (8, 11), (6, 4), (8, 15), (8, 16), (8, 17), (8, 18), (5, 21)] rfl) (gi_wsL_law_38))
set_option maxRecDepth 20000 in
theorem gL_law_X8_restore : GoodIn wsL_law (wsV RL 134 RX8 yX8_restore wsX8_restore) := goodIn_app (gi_q bs_wsL_law_in _ [(34, 21), (34, 22), (34, 23), (0, 5)] rfl) ggL_law_X8_restore
set_option maxRecDepth 20000 in
theorem ggL_law_X7_lay : GoodIn wsL_law wsX7_lay := goodIn_k (gi_q bs_wsL_law_in _ [(35, 4)] rfl) (goodIn_app (goodIn_app (gi_q bs_wsL_law_in _ [(1, 19), (0, 16), (7, 8), (1, 21), (7, 12), (7, 13), (7, 14), (0, 2), (7, 15), (1, 20)] rfl) (gi_wsL_law_37)) (gi_wsL_law_39))
set_option maxRecDepth 20000 in
theorem gL_law_X7_lay : GoodIn wsL_law (wsV RL 135 RX7 yX7_lay wsX7_lay) := goodIn_app (gi_q bs_wsL_law_in _ [(35, 1), (35, 2), (35, 3), (0, 2)] rfl) ggL_law_X7_lay
set_option maxRecDepth 20000 in
theorem ggL_law_X8_lay : GoodIn wsL_law wsX8_lay := goodIn_k (gi_q bs_wsL_law_in _ [(35, 8)] rfl) (goodIn_app (gi_q bs_wsL_law_in _ [(35, 9), (7, 2), (5, 16), (35, 10), (7, 0), (35, 11), (8, 8), (8, 9), (8, 10), (0, 5), (8, 11), (6, 4)] rfl) (gi_wsL_law_38))
set_option maxRecDepth 20000 in
theorem gL_law_X8_lay : GoodIn wsL_law (wsV RL 138 RX8 yX8_lay wsX8_lay) := goodIn_app (gi_q bs_wsL_law_in _ [(35, 5), (35, 6), (35, 7), (0, 5)] rfl) ggL_law_X8_lay
set_option maxRecDepth 20000 in
theorem ggL_law_X7_tear : GoodIn wsL_law wsX7_tear := goodIn_k (gi_q bs_wsL_law_in _ [(35, 15)] rfl) (goodIn_app (gi_q bs_wsL_law_in _ [(1, 21)] rfl) (gi_wsL_law_37))
set_option maxRecDepth 20000 in
theorem gL_law_X7_tear : GoodIn wsL_law (wsV RL 139 RX7 yX7_tear wsX7_tear) := goodIn_app (gi_q bs_wsL_law_in _ [(35, 12), (35, 13), (35, 14), (0, 2)] rfl) ggL_law_X7_tear
set_option maxRecDepth 20000 in
theorem ggL_law_X8_tear : GoodIn wsL_law wsX8_tear := goodIn_k (gi_q bs_wsL_law_in _ [(35, 19)] rfl) (goodIn_app (gi_q bs_wsL_law_in _ [(7, 2)] rfl) (gi_wsL_law_38))
set_option maxRecDepth 20000 in
theorem gL_law_X8_tear : GoodIn wsL_law (wsV RL 142 RX8 yX8_tear wsX8_tear) := goodIn_app (gi_q bs_wsL_law_in _ [(35, 16), (35, 17), (35, 18), (0, 5)] rfl) ggL_law_X8_tear
set_option maxRecDepth 20000 in
theorem ggL_law_X7_row : GoodIn wsL_law wsX7_row := goodIn_k (gi_q bs_wsL_law_in _ [(35, 23)] rfl) (goodIn_app (gi_q bs_wsL_law_in _ [(1, 21), (1, 19), (7, 12), (7, 13), (7, 14), (0, 2), (7, 15), (1, 20)] rfl) (gi_wsL_law_37))
set_option maxRecDepth 20000 in
theorem gL_law_X7_row : GoodIn wsL_law (wsV RL 143 RX7 yX7_row wsX7_row) := goodIn_app (gi_q bs_wsL_law_in _ [(35, 20), (35, 21), (35, 22), (0, 2)] rfl) ggL_law_X7_row
set_option maxRecDepth 20000 in
theorem ggL_law_X8_row : GoodIn wsL_law wsX8_row := goodIn_k (gi_q bs_wsL_law_in _ [(36, 3)] rfl) (goodIn_app (gi_q bs_wsL_law_in _ [(7, 2), (7, 0), (8, 8), (8, 9), (8, 10), (0, 5), (8, 11), (6, 4), (8, 12), (8, 13), (8, 14)] rfl) (gi_wsL_law_38))
set_option maxRecDepth 20000 in
theorem gL_law_X8_row : GoodIn wsL_law (wsV RL 146 RX8 yX8_row wsX8_row) := goodIn_app (gi_q bs_wsL_law_in _ [(36, 0), (36, 1), (36, 2), (0, 5)] rfl) ggL_law_X8_row
set_option maxRecDepth 20000 in
theorem ggL_law_X7_copy : GoodIn wsL_law wsX7_copy := goodIn_k (gi_q bs_wsL_law_in _ [(36, 7)] rfl) (goodIn_app (gi_q bs_wsL_law_in _ [(1, 21), (1, 19), (36, 8), (32, 5), (32, 6), (32, 7), (7, 12), (7, 13), (7, 14), (0, 2), (7, 15), (1, 20)] rfl) (gi_wsL_law_37))
set_option maxRecDepth 20000 in
theorem gL_law_X7_copy : GoodIn wsL_law (wsV RL 147 RX7 yX7_copy wsX7_copy) := goodIn_app (gi_q bs_wsL_law_in _ [(36, 4), (36, 5), (36, 6), (0, 2)] rfl) ggL_law_X7_copy
set_option maxRecDepth 20000 in
theorem ggL_law_X8_copy : GoodIn wsL_law wsX8_copy := goodIn_k (gi_q bs_wsL_law_in _ [(36, 12)] rfl) (goodIn_app (gi_q bs_wsL_law_in _ [(7, 2), (7, 1), (7, 0), (8, 8), (8, 9), (8, 10), (0, 5), (8, 11), (6, 4)] rfl) (gi_wsL_law_38))
set_option maxRecDepth 20000 in
theorem gL_law_X8_copy : GoodIn wsL_law (wsV RL 150 RX8 yX8_copy wsX8_copy) := goodIn_app (gi_q bs_wsL_law_in _ [(36, 9), (36, 10), (36, 11), (0, 5)] rfl) ggL_law_X8_copy
set_option maxRecDepth 20000 in
theorem ggL_law_X7_status : GoodIn wsL_law wsX7_status := goodIn_k (gi_q bs_wsL_law_in _ [(36, 16)] rfl) (goodIn_app (gi_q bs_wsL_law_in _ [(1, 20), (7, 12), (7, 13), (7, 14), (0, 2), (7, 15)] rfl) (gi_wsL_law_37))
set_option maxRecDepth 20000 in
theorem gL_law_X7_status : GoodIn wsL_law (wsV RL 151 RX7 yX7_status wsX7_status) := goodIn_app (gi_q bs_wsL_law_in _ [(36, 13), (36, 14), (36, 15), (0, 2)] rfl) ggL_law_X7_status
set_option maxRecDepth 20000 in
theorem ggL_law_X8_status : GoodIn wsL_law wsX8_status := goodIn_k (gi_q bs_wsL_law_in _ [(36, 20)] rfl) (goodIn_app (gi_q bs_wsL_law_in _ [(36, 21), (36, 22), (6, 4), (8, 12), (8, 13), (0, 5), (8, 14), (8, 8), (8, 9), (8, 10), (8, 11)] rfl) (gi_wsL_law_38))
set_option maxRecDepth 20000 in
theorem gL_law_X8_status : GoodIn wsL_law (wsV RL 154 RX8 yX8_status wsX8_status) := goodIn_app (gi_q bs_wsL_law_in _ [(36, 17), (36, 18), (36, 19), (0, 5)] rfl) ggL_law_X8_status
def fw_dL_law_0 : List (Nat × Instr × Nat) := [(0, .new 7, 3), (3, .dup, 1), (4, .invokespecial 9, 3), (7, .astore_n 1, 1), (8, .new 10, 3), (11, .dup, 1), (12, .invokespecial 12, 3), (15, .astore_n 2, 1), (16, .iconst 0, 1), (17, .istore_n 3, 1), (18, .iload_n 3, 1), (19, .aload_n 0, 1), (20, .arraylength, 1), (21, .bipush 6, 2), (23, .isub, 1), (24, .if_icmp .gt 1173, 3), (27, .aload_n 0, 1), (28, .iload_n 3, 1), (29, .iaload, 1), (30, .bipush 63, 2)]
theorem fw_dL_law_0_c : fchk 0 (cL_law.data.toList.drop 0) fw_dL_law_0 = true := by decide +kernel
theorem dL_law_0 : Eq (decode cL_law 0) (Except.ok (Instr.new 7, 3)) := fE fw_dL_law_0_c 0 rfl
theorem dL_law_3 : Eq (decode cL_law 3) (Except.ok (Instr.dup, 1)) := fE fw_dL_law_0_c 1 rfl
theorem dL_law_4 : Eq (decode cL_law 4) (Except.ok (Instr.invokespecial 9, 3)) := fE fw_dL_law_0_c 2 rfl
theorem dL_law_7 : Eq (decode cL_law 7) (Except.ok (Instr.astore_n 1, 1)) := fE fw_dL_law_0_c 3 rfl
theorem dL_law_8 : Eq (decode cL_law 8) (Except.ok (Instr.new 10, 3)) := fE fw_dL_law_0_c 4 rfl
theorem dL_law_11 : Eq (decode cL_law 11) (Except.ok (Instr.dup, 1)) := fE fw_dL_law_0_c 5 rfl
theorem dL_law_12 : Eq (decode cL_law 12) (Except.ok (Instr.invokespecial 12, 3)) := fE fw_dL_law_0_c 6 rfl
theorem dL_law_15 : Eq (decode cL_law 15) (Except.ok (Instr.astore_n 2, 1)) := fE fw_dL_law_0_c 7 rfl
theorem dL_law_16 : Eq (decode cL_law 16) (Except.ok (Instr.iconst 0, 1)) := fE fw_dL_law_0_c 8 rfl
theorem dL_law_17 : Eq (decode cL_law 17) (Except.ok (Instr.istore_n 3, 1)) := fE fw_dL_law_0_c 9 rfl
theorem dL_law_18 : Eq (decode cL_law 18) (Except.ok (Instr.iload_n 3, 1)) := fE fw_dL_law_0_c 10 rfl
theorem dL_law_19 : Eq (decode cL_law 19) (Except.ok (Instr.aload_n 0, 1)) := fE fw_dL_law_0_c 11 rfl
theorem dL_law_20 : Eq (decode cL_law 20) (Except.ok (Instr.arraylength, 1)) := fE fw_dL_law_0_c 12 rfl
theorem dL_law_21 : Eq (decode cL_law 21) (Except.ok (Instr.bipush 6, 2)) := fE fw_dL_law_0_c 13 rfl
theorem dL_law_23 : Eq (decode cL_law 23) (Except.ok (Instr.isub, 1)) := fE fw_dL_law_0_c 14 rfl
theorem dL_law_24 : Eq (decode cL_law 24) (Except.ok (Instr.if_icmp .gt 1173, 3)) := fE fw_dL_law_0_c 15 rfl
theorem dL_law_27 : Eq (decode cL_law 27) (Except.ok (Instr.aload_n 0, 1)) := fE fw_dL_law_0_c 16 rfl
theorem dL_law_28 : Eq (decode cL_law 28) (Except.ok (Instr.iload_n 3, 1)) := fE fw_dL_law_0_c 17 rfl
theorem dL_law_29 : Eq (decode cL_law 29) (Except.ok (Instr.iaload, 1)) := fE fw_dL_law_0_c 18 rfl
theorem dL_law_30 : Eq (decode cL_law 30) (Except.ok (Instr.bipush 63, 2)) := fE fw_dL_law_0_c 19 rfl
def fw_dL_law_32 : List (Nat × Instr × Nat) := [(32, .iand, 1)]
theorem fw_dL_law_32_c : fchk 32 (cL_law.data.toList.drop 32) fw_dL_law_32 = true := by decide +kernel
theorem dL_law_32 : Eq (decode cL_law 32) (Except.ok (Instr.iand, 1)) := fE fw_dL_law_32_c 0 rfl
theorem dL_law_33 : decode cL_law 33 = .ok (.tableswitch 1158 0 32 #[147, 180, 243, 266, 329, 352, 401, 414, 477, 500, 543, 566, 609, 632, 665, 698, 711, 744, 777, 800, 823, 872, 895, 918, 951, 974, 997, 1010, 1023, 1056, 1069, 1092, 1135], 147) := by decide +kernel
def fw_dL_law_180 : List (Nat × Instr × Nat) := [(180, .aload_n 1, 1), (181, .aload_n 0, 1), (182, .iload_n 3, 1), (183, .iconst 1, 1), (184, .iadd, 1), (185, .iaload, 1), (186, .aload_n 0, 1), (187, .iload_n 3, 1), (188, .iconst 2, 1), (189, .iadd, 1), (190, .iaload, 1), (191, .invokevirtual 13, 3), (194, .pop, 1), (195, .aload_n 2, 1), (196, .aload_n 0, 1), (197, .iload_n 3, 1), (198, .iconst 1, 1), (199, .iadd, 1), (200, .iaload, 1), (201, .aload_n 0, 1)]
theorem fw_dL_law_180_c : fchk 180 (cL_law.data.toList.drop 180) fw_dL_law_180 = true := by decide +kernel
theorem dL_law_180 : Eq (decode cL_law 180) (Except.ok (Instr.aload_n 1, 1)) := fE fw_dL_law_180_c 0 rfl
theorem dL_law_181 : Eq (decode cL_law 181) (Except.ok (Instr.aload_n 0, 1)) := fE fw_dL_law_180_c 1 rfl
theorem dL_law_182 : Eq (decode cL_law 182) (Except.ok (Instr.iload_n 3, 1)) := fE fw_dL_law_180_c 2 rfl
theorem dL_law_183 : Eq (decode cL_law 183) (Except.ok (Instr.iconst 1, 1)) := fE fw_dL_law_180_c 3 rfl
theorem dL_law_184 : Eq (decode cL_law 184) (Except.ok (Instr.iadd, 1)) := fE fw_dL_law_180_c 4 rfl
theorem dL_law_185 : Eq (decode cL_law 185) (Except.ok (Instr.iaload, 1)) := fE fw_dL_law_180_c 5 rfl
theorem dL_law_186 : Eq (decode cL_law 186) (Except.ok (Instr.aload_n 0, 1)) := fE fw_dL_law_180_c 6 rfl
theorem dL_law_187 : Eq (decode cL_law 187) (Except.ok (Instr.iload_n 3, 1)) := fE fw_dL_law_180_c 7 rfl
theorem dL_law_188 : Eq (decode cL_law 188) (Except.ok (Instr.iconst 2, 1)) := fE fw_dL_law_180_c 8 rfl
theorem dL_law_189 : Eq (decode cL_law 189) (Except.ok (Instr.iadd, 1)) := fE fw_dL_law_180_c 9 rfl
theorem dL_law_190 : Eq (decode cL_law 190) (Except.ok (Instr.iaload, 1)) := fE fw_dL_law_180_c 10 rfl
theorem dL_law_191 : Eq (decode cL_law 191) (Except.ok (Instr.invokevirtual 13, 3)) := fE fw_dL_law_180_c 11 rfl
theorem dL_law_194 : Eq (decode cL_law 194) (Except.ok (Instr.pop, 1)) := fE fw_dL_law_180_c 12 rfl
theorem dL_law_195 : Eq (decode cL_law 195) (Except.ok (Instr.aload_n 2, 1)) := fE fw_dL_law_180_c 13 rfl
theorem dL_law_196 : Eq (decode cL_law 196) (Except.ok (Instr.aload_n 0, 1)) := fE fw_dL_law_180_c 14 rfl
theorem dL_law_197 : Eq (decode cL_law 197) (Except.ok (Instr.iload_n 3, 1)) := fE fw_dL_law_180_c 15 rfl
theorem dL_law_198 : Eq (decode cL_law 198) (Except.ok (Instr.iconst 1, 1)) := fE fw_dL_law_180_c 16 rfl
theorem dL_law_199 : Eq (decode cL_law 199) (Except.ok (Instr.iadd, 1)) := fE fw_dL_law_180_c 17 rfl
theorem dL_law_200 : Eq (decode cL_law 200) (Except.ok (Instr.iaload, 1)) := fE fw_dL_law_180_c 18 rfl
theorem dL_law_201 : Eq (decode cL_law 201) (Except.ok (Instr.aload_n 0, 1)) := fE fw_dL_law_180_c 19 rfl
def fw_dL_law_202 : List (Nat × Instr × Nat) := [(202, .iload_n 3, 1), (203, .iconst 2, 1), (204, .iadd, 1), (205, .iaload, 1), (206, .invokevirtual 17, 3), (209, .pop, 1), (210, .goto 981, 3), (213, .aload_n 1, 1), (214, .aload_n 0, 1), (215, .iload_n 3, 1), (216, .iconst 1, 1), (217, .iadd, 1), (218, .iaload, 1), (219, .aload_n 0, 1), (220, .iload_n 3, 1), (221, .iconst 2, 1), (222, .iadd, 1), (223, .iaload, 1), (224, .i2l, 1), (225, .bipush 32, 2)]
theorem fw_dL_law_202_c : fchk 202 (cL_law.data.toList.drop 202) fw_dL_law_202 = true := by decide +kernel
theorem dL_law_202 : Eq (decode cL_law 202) (Except.ok (Instr.iload_n 3, 1)) := fE fw_dL_law_202_c 0 rfl
theorem dL_law_203 : Eq (decode cL_law 203) (Except.ok (Instr.iconst 2, 1)) := fE fw_dL_law_202_c 1 rfl
theorem dL_law_204 : Eq (decode cL_law 204) (Except.ok (Instr.iadd, 1)) := fE fw_dL_law_202_c 2 rfl
theorem dL_law_205 : Eq (decode cL_law 205) (Except.ok (Instr.iaload, 1)) := fE fw_dL_law_202_c 3 rfl
theorem dL_law_206 : Eq (decode cL_law 206) (Except.ok (Instr.invokevirtual 17, 3)) := fE fw_dL_law_202_c 4 rfl
theorem dL_law_209 : Eq (decode cL_law 209) (Except.ok (Instr.pop, 1)) := fE fw_dL_law_202_c 5 rfl
theorem dL_law_210 : Eq (decode cL_law 210) (Except.ok (Instr.goto 981, 3)) := fE fw_dL_law_202_c 6 rfl
theorem dL_law_213 : Eq (decode cL_law 213) (Except.ok (Instr.aload_n 1, 1)) := fE fw_dL_law_202_c 7 rfl
theorem dL_law_214 : Eq (decode cL_law 214) (Except.ok (Instr.aload_n 0, 1)) := fE fw_dL_law_202_c 8 rfl
theorem dL_law_215 : Eq (decode cL_law 215) (Except.ok (Instr.iload_n 3, 1)) := fE fw_dL_law_202_c 9 rfl
theorem dL_law_216 : Eq (decode cL_law 216) (Except.ok (Instr.iconst 1, 1)) := fE fw_dL_law_202_c 10 rfl
theorem dL_law_217 : Eq (decode cL_law 217) (Except.ok (Instr.iadd, 1)) := fE fw_dL_law_202_c 11 rfl
theorem dL_law_218 : Eq (decode cL_law 218) (Except.ok (Instr.iaload, 1)) := fE fw_dL_law_202_c 12 rfl
theorem dL_law_219 : Eq (decode cL_law 219) (Except.ok (Instr.aload_n 0, 1)) := fE fw_dL_law_202_c 13 rfl
theorem dL_law_220 : Eq (decode cL_law 220) (Except.ok (Instr.iload_n 3, 1)) := fE fw_dL_law_202_c 14 rfl
theorem dL_law_221 : Eq (decode cL_law 221) (Except.ok (Instr.iconst 2, 1)) := fE fw_dL_law_202_c 15 rfl
theorem dL_law_222 : Eq (decode cL_law 222) (Except.ok (Instr.iadd, 1)) := fE fw_dL_law_202_c 16 rfl
theorem dL_law_223 : Eq (decode cL_law 223) (Except.ok (Instr.iaload, 1)) := fE fw_dL_law_202_c 17 rfl
theorem dL_law_224 : Eq (decode cL_law 224) (Except.ok (Instr.i2l, 1)) := fE fw_dL_law_202_c 18 rfl
theorem dL_law_225 : Eq (decode cL_law 225) (Except.ok (Instr.bipush 32, 2)) := fE fw_dL_law_202_c 19 rfl
def fw_dL_law_227 : List (Nat × Instr × Nat) := [(227, .lshl, 1), (228, .aload_n 0, 1), (229, .iload_n 3, 1), (230, .iconst 3, 1), (231, .iadd, 1), (232, .iaload, 1), (233, .i2l, 1), (234, .ldc2_w 18, 3), (237, .land, 1), (238, .lor, 1), (239, .invokevirtual 20, 3), (242, .pop, 1), (243, .aload_n 2, 1), (244, .aload_n 0, 1), (245, .iload_n 3, 1), (246, .iconst 1, 1), (247, .iadd, 1), (248, .iaload, 1), (249, .aload_n 0, 1), (250, .iload_n 3, 1)]
theorem fw_dL_law_227_c : fchk 227 (cL_law.data.toList.drop 227) fw_dL_law_227 = true := by decide +kernel
theorem dL_law_227 : Eq (decode cL_law 227) (Except.ok (Instr.lshl, 1)) := fE fw_dL_law_227_c 0 rfl
theorem dL_law_228 : Eq (decode cL_law 228) (Except.ok (Instr.aload_n 0, 1)) := fE fw_dL_law_227_c 1 rfl
theorem dL_law_229 : Eq (decode cL_law 229) (Except.ok (Instr.iload_n 3, 1)) := fE fw_dL_law_227_c 2 rfl
theorem dL_law_230 : Eq (decode cL_law 230) (Except.ok (Instr.iconst 3, 1)) := fE fw_dL_law_227_c 3 rfl
theorem dL_law_231 : Eq (decode cL_law 231) (Except.ok (Instr.iadd, 1)) := fE fw_dL_law_227_c 4 rfl
theorem dL_law_232 : Eq (decode cL_law 232) (Except.ok (Instr.iaload, 1)) := fE fw_dL_law_227_c 5 rfl
theorem dL_law_233 : Eq (decode cL_law 233) (Except.ok (Instr.i2l, 1)) := fE fw_dL_law_227_c 6 rfl
theorem dL_law_234 : Eq (decode cL_law 234) (Except.ok (Instr.ldc2_w 18, 3)) := fE fw_dL_law_227_c 7 rfl
theorem dL_law_237 : Eq (decode cL_law 237) (Except.ok (Instr.land, 1)) := fE fw_dL_law_227_c 8 rfl
theorem dL_law_238 : Eq (decode cL_law 238) (Except.ok (Instr.lor, 1)) := fE fw_dL_law_227_c 9 rfl
theorem dL_law_239 : Eq (decode cL_law 239) (Except.ok (Instr.invokevirtual 20, 3)) := fE fw_dL_law_227_c 10 rfl
theorem dL_law_242 : Eq (decode cL_law 242) (Except.ok (Instr.pop, 1)) := fE fw_dL_law_227_c 11 rfl
theorem dL_law_243 : Eq (decode cL_law 243) (Except.ok (Instr.aload_n 2, 1)) := fE fw_dL_law_227_c 12 rfl
theorem dL_law_244 : Eq (decode cL_law 244) (Except.ok (Instr.aload_n 0, 1)) := fE fw_dL_law_227_c 13 rfl
theorem dL_law_245 : Eq (decode cL_law 245) (Except.ok (Instr.iload_n 3, 1)) := fE fw_dL_law_227_c 14 rfl
theorem dL_law_246 : Eq (decode cL_law 246) (Except.ok (Instr.iconst 1, 1)) := fE fw_dL_law_227_c 15 rfl
theorem dL_law_247 : Eq (decode cL_law 247) (Except.ok (Instr.iadd, 1)) := fE fw_dL_law_227_c 16 rfl
theorem dL_law_248 : Eq (decode cL_law 248) (Except.ok (Instr.iaload, 1)) := fE fw_dL_law_227_c 17 rfl
theorem dL_law_249 : Eq (decode cL_law 249) (Except.ok (Instr.aload_n 0, 1)) := fE fw_dL_law_227_c 18 rfl
theorem dL_law_250 : Eq (decode cL_law 250) (Except.ok (Instr.iload_n 3, 1)) := fE fw_dL_law_227_c 19 rfl
def fw_dL_law_251 : List (Nat × Instr × Nat) := [(251, .iconst 2, 1), (252, .iadd, 1), (253, .iaload, 1), (254, .i2l, 1), (255, .bipush 32, 2), (257, .lshl, 1), (258, .aload_n 0, 1), (259, .iload_n 3, 1), (260, .iconst 3, 1), (261, .iadd, 1), (262, .iaload, 1), (263, .i2l, 1), (264, .ldc2_w 18, 3), (267, .land, 1), (268, .lor, 1), (269, .invokevirtual 24, 3), (272, .pop, 1), (273, .goto 918, 3), (276, .aload_n 1, 1), (277, .aload_n 0, 1)]
theorem fw_dL_law_251_c : fchk 251 (cL_law.data.toList.drop 251) fw_dL_law_251 = true := by decide +kernel
theorem dL_law_251 : Eq (decode cL_law 251) (Except.ok (Instr.iconst 2, 1)) := fE fw_dL_law_251_c 0 rfl
theorem dL_law_252 : Eq (decode cL_law 252) (Except.ok (Instr.iadd, 1)) := fE fw_dL_law_251_c 1 rfl
theorem dL_law_253 : Eq (decode cL_law 253) (Except.ok (Instr.iaload, 1)) := fE fw_dL_law_251_c 2 rfl
theorem dL_law_254 : Eq (decode cL_law 254) (Except.ok (Instr.i2l, 1)) := fE fw_dL_law_251_c 3 rfl
theorem dL_law_255 : Eq (decode cL_law 255) (Except.ok (Instr.bipush 32, 2)) := fE fw_dL_law_251_c 4 rfl
theorem dL_law_257 : Eq (decode cL_law 257) (Except.ok (Instr.lshl, 1)) := fE fw_dL_law_251_c 5 rfl
theorem dL_law_258 : Eq (decode cL_law 258) (Except.ok (Instr.aload_n 0, 1)) := fE fw_dL_law_251_c 6 rfl
theorem dL_law_259 : Eq (decode cL_law 259) (Except.ok (Instr.iload_n 3, 1)) := fE fw_dL_law_251_c 7 rfl
theorem dL_law_260 : Eq (decode cL_law 260) (Except.ok (Instr.iconst 3, 1)) := fE fw_dL_law_251_c 8 rfl
theorem dL_law_261 : Eq (decode cL_law 261) (Except.ok (Instr.iadd, 1)) := fE fw_dL_law_251_c 9 rfl
theorem dL_law_262 : Eq (decode cL_law 262) (Except.ok (Instr.iaload, 1)) := fE fw_dL_law_251_c 10 rfl
theorem dL_law_263 : Eq (decode cL_law 263) (Except.ok (Instr.i2l, 1)) := fE fw_dL_law_251_c 11 rfl
theorem dL_law_264 : Eq (decode cL_law 264) (Except.ok (Instr.ldc2_w 18, 3)) := fE fw_dL_law_251_c 12 rfl
theorem dL_law_267 : Eq (decode cL_law 267) (Except.ok (Instr.land, 1)) := fE fw_dL_law_251_c 13 rfl
theorem dL_law_268 : Eq (decode cL_law 268) (Except.ok (Instr.lor, 1)) := fE fw_dL_law_251_c 14 rfl
theorem dL_law_269 : Eq (decode cL_law 269) (Except.ok (Instr.invokevirtual 24, 3)) := fE fw_dL_law_251_c 15 rfl
theorem dL_law_272 : Eq (decode cL_law 272) (Except.ok (Instr.pop, 1)) := fE fw_dL_law_251_c 16 rfl
theorem dL_law_273 : Eq (decode cL_law 273) (Except.ok (Instr.goto 918, 3)) := fE fw_dL_law_251_c 17 rfl
theorem dL_law_276 : Eq (decode cL_law 276) (Except.ok (Instr.aload_n 1, 1)) := fE fw_dL_law_251_c 18 rfl
theorem dL_law_277 : Eq (decode cL_law 277) (Except.ok (Instr.aload_n 0, 1)) := fE fw_dL_law_251_c 19 rfl
def fw_dL_law_278 : List (Nat × Instr × Nat) := [(278, .iload_n 3, 1), (279, .iconst 1, 1), (280, .iadd, 1), (281, .iaload, 1), (282, .invokevirtual 25, 3), (285, .pop2, 1), (286, .aload_n 2, 1), (287, .aload_n 0, 1), (288, .iload_n 3, 1), (289, .iconst 1, 1), (290, .iadd, 1), (291, .iaload, 1), (292, .invokevirtual 29, 3), (295, .pop2, 1), (296, .goto 895, 3), (299, .aload_n 1, 1), (300, .aload_n 0, 1), (301, .iload_n 3, 1), (302, .iconst 1, 1), (303, .iadd, 1)]
theorem fw_dL_law_278_c : fchk 278 (cL_law.data.toList.drop 278) fw_dL_law_278 = true := by decide +kernel
theorem dL_law_278 : Eq (decode cL_law 278) (Except.ok (Instr.iload_n 3, 1)) := fE fw_dL_law_278_c 0 rfl
theorem dL_law_279 : Eq (decode cL_law 279) (Except.ok (Instr.iconst 1, 1)) := fE fw_dL_law_278_c 1 rfl
theorem dL_law_280 : Eq (decode cL_law 280) (Except.ok (Instr.iadd, 1)) := fE fw_dL_law_278_c 2 rfl
theorem dL_law_281 : Eq (decode cL_law 281) (Except.ok (Instr.iaload, 1)) := fE fw_dL_law_278_c 3 rfl
theorem dL_law_282 : Eq (decode cL_law 282) (Except.ok (Instr.invokevirtual 25, 3)) := fE fw_dL_law_278_c 4 rfl
theorem dL_law_285 : Eq (decode cL_law 285) (Except.ok (Instr.pop2, 1)) := fE fw_dL_law_278_c 5 rfl
theorem dL_law_286 : Eq (decode cL_law 286) (Except.ok (Instr.aload_n 2, 1)) := fE fw_dL_law_278_c 6 rfl
theorem dL_law_287 : Eq (decode cL_law 287) (Except.ok (Instr.aload_n 0, 1)) := fE fw_dL_law_278_c 7 rfl
theorem dL_law_288 : Eq (decode cL_law 288) (Except.ok (Instr.iload_n 3, 1)) := fE fw_dL_law_278_c 8 rfl
theorem dL_law_289 : Eq (decode cL_law 289) (Except.ok (Instr.iconst 1, 1)) := fE fw_dL_law_278_c 9 rfl
theorem dL_law_290 : Eq (decode cL_law 290) (Except.ok (Instr.iadd, 1)) := fE fw_dL_law_278_c 10 rfl
theorem dL_law_291 : Eq (decode cL_law 291) (Except.ok (Instr.iaload, 1)) := fE fw_dL_law_278_c 11 rfl
theorem dL_law_292 : Eq (decode cL_law 292) (Except.ok (Instr.invokevirtual 29, 3)) := fE fw_dL_law_278_c 12 rfl
theorem dL_law_295 : Eq (decode cL_law 295) (Except.ok (Instr.pop2, 1)) := fE fw_dL_law_278_c 13 rfl
theorem dL_law_296 : Eq (decode cL_law 296) (Except.ok (Instr.goto 895, 3)) := fE fw_dL_law_278_c 14 rfl
theorem dL_law_299 : Eq (decode cL_law 299) (Except.ok (Instr.aload_n 1, 1)) := fE fw_dL_law_278_c 15 rfl
theorem dL_law_300 : Eq (decode cL_law 300) (Except.ok (Instr.aload_n 0, 1)) := fE fw_dL_law_278_c 16 rfl
theorem dL_law_301 : Eq (decode cL_law 301) (Except.ok (Instr.iload_n 3, 1)) := fE fw_dL_law_278_c 17 rfl
theorem dL_law_302 : Eq (decode cL_law 302) (Except.ok (Instr.iconst 1, 1)) := fE fw_dL_law_278_c 18 rfl
theorem dL_law_303 : Eq (decode cL_law 303) (Except.ok (Instr.iadd, 1)) := fE fw_dL_law_278_c 19 rfl
def fw_dL_law_304 : List (Nat × Instr × Nat) := [(304, .iaload, 1), (305, .aload_n 0, 1), (306, .iload_n 3, 1), (307, .iconst 2, 1), (308, .iadd, 1), (309, .iaload, 1), (310, .i2l, 1), (311, .bipush 32, 2), (313, .lshl, 1), (314, .aload_n 0, 1), (315, .iload_n 3, 1), (316, .iconst 3, 1), (317, .iadd, 1), (318, .iaload, 1), (319, .i2l, 1), (320, .ldc2_w 18, 3), (323, .land, 1), (324, .lor, 1), (325, .invokevirtual 30, 3), (328, .pop, 1)]
theorem fw_dL_law_304_c : fchk 304 (cL_law.data.toList.drop 304) fw_dL_law_304 = true := by decide +kernel
theorem dL_law_304 : Eq (decode cL_law 304) (Except.ok (Instr.iaload, 1)) := fE fw_dL_law_304_c 0 rfl
theorem dL_law_305 : Eq (decode cL_law 305) (Except.ok (Instr.aload_n 0, 1)) := fE fw_dL_law_304_c 1 rfl
theorem dL_law_306 : Eq (decode cL_law 306) (Except.ok (Instr.iload_n 3, 1)) := fE fw_dL_law_304_c 2 rfl
theorem dL_law_307 : Eq (decode cL_law 307) (Except.ok (Instr.iconst 2, 1)) := fE fw_dL_law_304_c 3 rfl
theorem dL_law_308 : Eq (decode cL_law 308) (Except.ok (Instr.iadd, 1)) := fE fw_dL_law_304_c 4 rfl
theorem dL_law_309 : Eq (decode cL_law 309) (Except.ok (Instr.iaload, 1)) := fE fw_dL_law_304_c 5 rfl
theorem dL_law_310 : Eq (decode cL_law 310) (Except.ok (Instr.i2l, 1)) := fE fw_dL_law_304_c 6 rfl
theorem dL_law_311 : Eq (decode cL_law 311) (Except.ok (Instr.bipush 32, 2)) := fE fw_dL_law_304_c 7 rfl
theorem dL_law_313 : Eq (decode cL_law 313) (Except.ok (Instr.lshl, 1)) := fE fw_dL_law_304_c 8 rfl
theorem dL_law_314 : Eq (decode cL_law 314) (Except.ok (Instr.aload_n 0, 1)) := fE fw_dL_law_304_c 9 rfl
theorem dL_law_315 : Eq (decode cL_law 315) (Except.ok (Instr.iload_n 3, 1)) := fE fw_dL_law_304_c 10 rfl
theorem dL_law_316 : Eq (decode cL_law 316) (Except.ok (Instr.iconst 3, 1)) := fE fw_dL_law_304_c 11 rfl
theorem dL_law_317 : Eq (decode cL_law 317) (Except.ok (Instr.iadd, 1)) := fE fw_dL_law_304_c 12 rfl
theorem dL_law_318 : Eq (decode cL_law 318) (Except.ok (Instr.iaload, 1)) := fE fw_dL_law_304_c 13 rfl
theorem dL_law_319 : Eq (decode cL_law 319) (Except.ok (Instr.i2l, 1)) := fE fw_dL_law_304_c 14 rfl
theorem dL_law_320 : Eq (decode cL_law 320) (Except.ok (Instr.ldc2_w 18, 3)) := fE fw_dL_law_304_c 15 rfl
theorem dL_law_323 : Eq (decode cL_law 323) (Except.ok (Instr.land, 1)) := fE fw_dL_law_304_c 16 rfl
theorem dL_law_324 : Eq (decode cL_law 324) (Except.ok (Instr.lor, 1)) := fE fw_dL_law_304_c 17 rfl
theorem dL_law_325 : Eq (decode cL_law 325) (Except.ok (Instr.invokevirtual 30, 3)) := fE fw_dL_law_304_c 18 rfl
theorem dL_law_328 : Eq (decode cL_law 328) (Except.ok (Instr.pop, 1)) := fE fw_dL_law_304_c 19 rfl
def fw_dL_law_329 : List (Nat × Instr × Nat) := [(329, .aload_n 2, 1), (330, .aload_n 0, 1), (331, .iload_n 3, 1), (332, .iconst 1, 1), (333, .iadd, 1), (334, .iaload, 1), (335, .aload_n 0, 1), (336, .iload_n 3, 1), (337, .iconst 2, 1), (338, .iadd, 1), (339, .iaload, 1), (340, .i2l, 1), (341, .bipush 32, 2), (343, .lshl, 1), (344, .aload_n 0, 1), (345, .iload_n 3, 1), (346, .iconst 3, 1), (347, .iadd, 1), (348, .iaload, 1), (349, .i2l, 1)]
theorem fw_dL_law_329_c : fchk 329 (cL_law.data.toList.drop 329) fw_dL_law_329 = true := by decide +kernel
theorem dL_law_329 : Eq (decode cL_law 329) (Except.ok (Instr.aload_n 2, 1)) := fE fw_dL_law_329_c 0 rfl
theorem dL_law_330 : Eq (decode cL_law 330) (Except.ok (Instr.aload_n 0, 1)) := fE fw_dL_law_329_c 1 rfl
theorem dL_law_331 : Eq (decode cL_law 331) (Except.ok (Instr.iload_n 3, 1)) := fE fw_dL_law_329_c 2 rfl
theorem dL_law_332 : Eq (decode cL_law 332) (Except.ok (Instr.iconst 1, 1)) := fE fw_dL_law_329_c 3 rfl
theorem dL_law_333 : Eq (decode cL_law 333) (Except.ok (Instr.iadd, 1)) := fE fw_dL_law_329_c 4 rfl
theorem dL_law_334 : Eq (decode cL_law 334) (Except.ok (Instr.iaload, 1)) := fE fw_dL_law_329_c 5 rfl
theorem dL_law_335 : Eq (decode cL_law 335) (Except.ok (Instr.aload_n 0, 1)) := fE fw_dL_law_329_c 6 rfl
theorem dL_law_336 : Eq (decode cL_law 336) (Except.ok (Instr.iload_n 3, 1)) := fE fw_dL_law_329_c 7 rfl
theorem dL_law_337 : Eq (decode cL_law 337) (Except.ok (Instr.iconst 2, 1)) := fE fw_dL_law_329_c 8 rfl
theorem dL_law_338 : Eq (decode cL_law 338) (Except.ok (Instr.iadd, 1)) := fE fw_dL_law_329_c 9 rfl
theorem dL_law_339 : Eq (decode cL_law 339) (Except.ok (Instr.iaload, 1)) := fE fw_dL_law_329_c 10 rfl
theorem dL_law_340 : Eq (decode cL_law 340) (Except.ok (Instr.i2l, 1)) := fE fw_dL_law_329_c 11 rfl
theorem dL_law_341 : Eq (decode cL_law 341) (Except.ok (Instr.bipush 32, 2)) := fE fw_dL_law_329_c 12 rfl
theorem dL_law_343 : Eq (decode cL_law 343) (Except.ok (Instr.lshl, 1)) := fE fw_dL_law_329_c 13 rfl
theorem dL_law_344 : Eq (decode cL_law 344) (Except.ok (Instr.aload_n 0, 1)) := fE fw_dL_law_329_c 14 rfl
theorem dL_law_345 : Eq (decode cL_law 345) (Except.ok (Instr.iload_n 3, 1)) := fE fw_dL_law_329_c 15 rfl
theorem dL_law_346 : Eq (decode cL_law 346) (Except.ok (Instr.iconst 3, 1)) := fE fw_dL_law_329_c 16 rfl
theorem dL_law_347 : Eq (decode cL_law 347) (Except.ok (Instr.iadd, 1)) := fE fw_dL_law_329_c 17 rfl
theorem dL_law_348 : Eq (decode cL_law 348) (Except.ok (Instr.iaload, 1)) := fE fw_dL_law_329_c 18 rfl
theorem dL_law_349 : Eq (decode cL_law 349) (Except.ok (Instr.i2l, 1)) := fE fw_dL_law_329_c 19 rfl
def fw_dL_law_350 : List (Nat × Instr × Nat) := [(350, .ldc2_w 18, 3), (353, .land, 1), (354, .lor, 1), (355, .invokevirtual 33, 3), (358, .pop, 1), (359, .goto 832, 3), (362, .aload_n 1, 1), (363, .aload_n 0, 1), (364, .iload_n 3, 1), (365, .iconst 1, 1), (366, .iadd, 1), (367, .iaload, 1), (368, .invokevirtual 34, 3), (371, .pop2, 1), (372, .aload_n 2, 1), (373, .aload_n 0, 1), (374, .iload_n 3, 1), (375, .iconst 1, 1), (376, .iadd, 1), (377, .iaload, 1)]
theorem fw_dL_law_350_c : fchk 350 (cL_law.data.toList.drop 350) fw_dL_law_350 = true := by decide +kernel
theorem dL_law_350 : Eq (decode cL_law 350) (Except.ok (Instr.ldc2_w 18, 3)) := fE fw_dL_law_350_c 0 rfl
theorem dL_law_353 : Eq (decode cL_law 353) (Except.ok (Instr.land, 1)) := fE fw_dL_law_350_c 1 rfl
theorem dL_law_354 : Eq (decode cL_law 354) (Except.ok (Instr.lor, 1)) := fE fw_dL_law_350_c 2 rfl
theorem dL_law_355 : Eq (decode cL_law 355) (Except.ok (Instr.invokevirtual 33, 3)) := fE fw_dL_law_350_c 3 rfl
theorem dL_law_358 : Eq (decode cL_law 358) (Except.ok (Instr.pop, 1)) := fE fw_dL_law_350_c 4 rfl
theorem dL_law_359 : Eq (decode cL_law 359) (Except.ok (Instr.goto 832, 3)) := fE fw_dL_law_350_c 5 rfl
theorem dL_law_362 : Eq (decode cL_law 362) (Except.ok (Instr.aload_n 1, 1)) := fE fw_dL_law_350_c 6 rfl
theorem dL_law_363 : Eq (decode cL_law 363) (Except.ok (Instr.aload_n 0, 1)) := fE fw_dL_law_350_c 7 rfl
theorem dL_law_364 : Eq (decode cL_law 364) (Except.ok (Instr.iload_n 3, 1)) := fE fw_dL_law_350_c 8 rfl
theorem dL_law_365 : Eq (decode cL_law 365) (Except.ok (Instr.iconst 1, 1)) := fE fw_dL_law_350_c 9 rfl
theorem dL_law_366 : Eq (decode cL_law 366) (Except.ok (Instr.iadd, 1)) := fE fw_dL_law_350_c 10 rfl
theorem dL_law_367 : Eq (decode cL_law 367) (Except.ok (Instr.iaload, 1)) := fE fw_dL_law_350_c 11 rfl
theorem dL_law_368 : Eq (decode cL_law 368) (Except.ok (Instr.invokevirtual 34, 3)) := fE fw_dL_law_350_c 12 rfl
theorem dL_law_371 : Eq (decode cL_law 371) (Except.ok (Instr.pop2, 1)) := fE fw_dL_law_350_c 13 rfl
theorem dL_law_372 : Eq (decode cL_law 372) (Except.ok (Instr.aload_n 2, 1)) := fE fw_dL_law_350_c 14 rfl
theorem dL_law_373 : Eq (decode cL_law 373) (Except.ok (Instr.aload_n 0, 1)) := fE fw_dL_law_350_c 15 rfl
theorem dL_law_374 : Eq (decode cL_law 374) (Except.ok (Instr.iload_n 3, 1)) := fE fw_dL_law_350_c 16 rfl
theorem dL_law_375 : Eq (decode cL_law 375) (Except.ok (Instr.iconst 1, 1)) := fE fw_dL_law_350_c 17 rfl
theorem dL_law_376 : Eq (decode cL_law 376) (Except.ok (Instr.iadd, 1)) := fE fw_dL_law_350_c 18 rfl
theorem dL_law_377 : Eq (decode cL_law 377) (Except.ok (Instr.iaload, 1)) := fE fw_dL_law_350_c 19 rfl
def fw_dL_law_378 : List (Nat × Instr × Nat) := [(378, .invokevirtual 37, 3), (381, .pop2, 1), (382, .goto 809, 3), (385, .aload_n 1, 1), (386, .aload_n 0, 1), (387, .iload_n 3, 1), (388, .iconst 1, 1), (389, .iadd, 1), (390, .iaload, 1), (391, .aload_n 0, 1), (392, .iload_n 3, 1), (393, .iconst 2, 1), (394, .iadd, 1), (395, .iaload, 1), (396, .ifCond .eq 7, 3), (399, .iconst 1, 1), (400, .goto 4, 3), (403, .iconst 0, 1), (404, .invokevirtual 38, 3), (407, .pop, 1)]
theorem fw_dL_law_378_c : fchk 378 (cL_law.data.toList.drop 378) fw_dL_law_378 = true := by decide +kernel
theorem dL_law_378 : Eq (decode cL_law 378) (Except.ok (Instr.invokevirtual 37, 3)) := fE fw_dL_law_378_c 0 rfl
theorem dL_law_381 : Eq (decode cL_law 381) (Except.ok (Instr.pop2, 1)) := fE fw_dL_law_378_c 1 rfl
theorem dL_law_382 : Eq (decode cL_law 382) (Except.ok (Instr.goto 809, 3)) := fE fw_dL_law_378_c 2 rfl
theorem dL_law_385 : Eq (decode cL_law 385) (Except.ok (Instr.aload_n 1, 1)) := fE fw_dL_law_378_c 3 rfl
theorem dL_law_386 : Eq (decode cL_law 386) (Except.ok (Instr.aload_n 0, 1)) := fE fw_dL_law_378_c 4 rfl
theorem dL_law_387 : Eq (decode cL_law 387) (Except.ok (Instr.iload_n 3, 1)) := fE fw_dL_law_378_c 5 rfl
theorem dL_law_388 : Eq (decode cL_law 388) (Except.ok (Instr.iconst 1, 1)) := fE fw_dL_law_378_c 6 rfl
theorem dL_law_389 : Eq (decode cL_law 389) (Except.ok (Instr.iadd, 1)) := fE fw_dL_law_378_c 7 rfl
theorem dL_law_390 : Eq (decode cL_law 390) (Except.ok (Instr.iaload, 1)) := fE fw_dL_law_378_c 8 rfl
theorem dL_law_391 : Eq (decode cL_law 391) (Except.ok (Instr.aload_n 0, 1)) := fE fw_dL_law_378_c 9 rfl
theorem dL_law_392 : Eq (decode cL_law 392) (Except.ok (Instr.iload_n 3, 1)) := fE fw_dL_law_378_c 10 rfl
theorem dL_law_393 : Eq (decode cL_law 393) (Except.ok (Instr.iconst 2, 1)) := fE fw_dL_law_378_c 11 rfl
theorem dL_law_394 : Eq (decode cL_law 394) (Except.ok (Instr.iadd, 1)) := fE fw_dL_law_378_c 12 rfl
theorem dL_law_395 : Eq (decode cL_law 395) (Except.ok (Instr.iaload, 1)) := fE fw_dL_law_378_c 13 rfl
theorem dL_law_396 : Eq (decode cL_law 396) (Except.ok (Instr.ifCond .eq 7, 3)) := fE fw_dL_law_378_c 14 rfl
theorem dL_law_399 : Eq (decode cL_law 399) (Except.ok (Instr.iconst 1, 1)) := fE fw_dL_law_378_c 15 rfl
theorem dL_law_400 : Eq (decode cL_law 400) (Except.ok (Instr.goto 4, 3)) := fE fw_dL_law_378_c 16 rfl
theorem dL_law_403 : Eq (decode cL_law 403) (Except.ok (Instr.iconst 0, 1)) := fE fw_dL_law_378_c 17 rfl
theorem dL_law_404 : Eq (decode cL_law 404) (Except.ok (Instr.invokevirtual 38, 3)) := fE fw_dL_law_378_c 18 rfl
theorem dL_law_407 : Eq (decode cL_law 407) (Except.ok (Instr.pop, 1)) := fE fw_dL_law_378_c 19 rfl
def fw_dL_law_408 : List (Nat × Instr × Nat) := [(408, .aload_n 2, 1), (409, .aload_n 0, 1), (410, .iload_n 3, 1), (411, .iconst 1, 1), (412, .iadd, 1), (413, .iaload, 1), (414, .aload_n 0, 1), (415, .iload_n 3, 1), (416, .iconst 2, 1), (417, .iadd, 1), (418, .iaload, 1), (419, .ifCond .eq 7, 3), (422, .iconst 1, 1), (423, .goto 4, 3), (426, .iconst 0, 1), (427, .invokevirtual 42, 3), (430, .pop, 1), (431, .goto 760, 3), (434, .aload_n 1, 1), (435, .invokevirtual 43, 3)]
theorem fw_dL_law_408_c : fchk 408 (cL_law.data.toList.drop 408) fw_dL_law_408 = true := by decide +kernel
theorem dL_law_408 : Eq (decode cL_law 408) (Except.ok (Instr.aload_n 2, 1)) := fE fw_dL_law_408_c 0 rfl
theorem dL_law_409 : Eq (decode cL_law 409) (Except.ok (Instr.aload_n 0, 1)) := fE fw_dL_law_408_c 1 rfl
theorem dL_law_410 : Eq (decode cL_law 410) (Except.ok (Instr.iload_n 3, 1)) := fE fw_dL_law_408_c 2 rfl
theorem dL_law_411 : Eq (decode cL_law 411) (Except.ok (Instr.iconst 1, 1)) := fE fw_dL_law_408_c 3 rfl
theorem dL_law_412 : Eq (decode cL_law 412) (Except.ok (Instr.iadd, 1)) := fE fw_dL_law_408_c 4 rfl
theorem dL_law_413 : Eq (decode cL_law 413) (Except.ok (Instr.iaload, 1)) := fE fw_dL_law_408_c 5 rfl
theorem dL_law_414 : Eq (decode cL_law 414) (Except.ok (Instr.aload_n 0, 1)) := fE fw_dL_law_408_c 6 rfl
theorem dL_law_415 : Eq (decode cL_law 415) (Except.ok (Instr.iload_n 3, 1)) := fE fw_dL_law_408_c 7 rfl
theorem dL_law_416 : Eq (decode cL_law 416) (Except.ok (Instr.iconst 2, 1)) := fE fw_dL_law_408_c 8 rfl
theorem dL_law_417 : Eq (decode cL_law 417) (Except.ok (Instr.iadd, 1)) := fE fw_dL_law_408_c 9 rfl
theorem dL_law_418 : Eq (decode cL_law 418) (Except.ok (Instr.iaload, 1)) := fE fw_dL_law_408_c 10 rfl
theorem dL_law_419 : Eq (decode cL_law 419) (Except.ok (Instr.ifCond .eq 7, 3)) := fE fw_dL_law_408_c 11 rfl
theorem dL_law_422 : Eq (decode cL_law 422) (Except.ok (Instr.iconst 1, 1)) := fE fw_dL_law_408_c 12 rfl
theorem dL_law_423 : Eq (decode cL_law 423) (Except.ok (Instr.goto 4, 3)) := fE fw_dL_law_408_c 13 rfl
theorem dL_law_426 : Eq (decode cL_law 426) (Except.ok (Instr.iconst 0, 1)) := fE fw_dL_law_408_c 14 rfl
theorem dL_law_427 : Eq (decode cL_law 427) (Except.ok (Instr.invokevirtual 42, 3)) := fE fw_dL_law_408_c 15 rfl
theorem dL_law_430 : Eq (decode cL_law 430) (Except.ok (Instr.pop, 1)) := fE fw_dL_law_408_c 16 rfl
theorem dL_law_431 : Eq (decode cL_law 431) (Except.ok (Instr.goto 760, 3)) := fE fw_dL_law_408_c 17 rfl
theorem dL_law_434 : Eq (decode cL_law 434) (Except.ok (Instr.aload_n 1, 1)) := fE fw_dL_law_408_c 18 rfl
theorem dL_law_435 : Eq (decode cL_law 435) (Except.ok (Instr.invokevirtual 43, 3)) := fE fw_dL_law_408_c 19 rfl
def fw_dL_law_438 : List (Nat × Instr × Nat) := [(438, .pop, 1), (439, .aload_n 2, 1), (440, .invokevirtual 47, 3), (443, .pop, 1), (444, .goto 747, 3), (447, .aload_n 1, 1), (448, .aload_n 0, 1), (449, .iload_n 3, 1), (450, .iconst 1, 1), (451, .iadd, 1), (452, .iaload, 1), (453, .aload_n 0, 1), (454, .iload_n 3, 1), (455, .iconst 2, 1), (456, .iadd, 1), (457, .iaload, 1), (458, .aload_n 0, 1), (459, .iload_n 3, 1), (460, .iconst 3, 1), (461, .iadd, 1)]
theorem fw_dL_law_438_c : fchk 438 (cL_law.data.toList.drop 438) fw_dL_law_438 = true := by decide +kernel
theorem dL_law_438 : Eq (decode cL_law 438) (Except.ok (Instr.pop, 1)) := fE fw_dL_law_438_c 0 rfl
theorem dL_law_439 : Eq (decode cL_law 439) (Except.ok (Instr.aload_n 2, 1)) := fE fw_dL_law_438_c 1 rfl
theorem dL_law_440 : Eq (decode cL_law 440) (Except.ok (Instr.invokevirtual 47, 3)) := fE fw_dL_law_438_c 2 rfl
theorem dL_law_443 : Eq (decode cL_law 443) (Except.ok (Instr.pop, 1)) := fE fw_dL_law_438_c 3 rfl
theorem dL_law_444 : Eq (decode cL_law 444) (Except.ok (Instr.goto 747, 3)) := fE fw_dL_law_438_c 4 rfl
theorem dL_law_447 : Eq (decode cL_law 447) (Except.ok (Instr.aload_n 1, 1)) := fE fw_dL_law_438_c 5 rfl
theorem dL_law_448 : Eq (decode cL_law 448) (Except.ok (Instr.aload_n 0, 1)) := fE fw_dL_law_438_c 6 rfl
theorem dL_law_449 : Eq (decode cL_law 449) (Except.ok (Instr.iload_n 3, 1)) := fE fw_dL_law_438_c 7 rfl
theorem dL_law_450 : Eq (decode cL_law 450) (Except.ok (Instr.iconst 1, 1)) := fE fw_dL_law_438_c 8 rfl
theorem dL_law_451 : Eq (decode cL_law 451) (Except.ok (Instr.iadd, 1)) := fE fw_dL_law_438_c 9 rfl
theorem dL_law_452 : Eq (decode cL_law 452) (Except.ok (Instr.iaload, 1)) := fE fw_dL_law_438_c 10 rfl
theorem dL_law_453 : Eq (decode cL_law 453) (Except.ok (Instr.aload_n 0, 1)) := fE fw_dL_law_438_c 11 rfl
theorem dL_law_454 : Eq (decode cL_law 454) (Except.ok (Instr.iload_n 3, 1)) := fE fw_dL_law_438_c 12 rfl
theorem dL_law_455 : Eq (decode cL_law 455) (Except.ok (Instr.iconst 2, 1)) := fE fw_dL_law_438_c 13 rfl
theorem dL_law_456 : Eq (decode cL_law 456) (Except.ok (Instr.iadd, 1)) := fE fw_dL_law_438_c 14 rfl
theorem dL_law_457 : Eq (decode cL_law 457) (Except.ok (Instr.iaload, 1)) := fE fw_dL_law_438_c 15 rfl
theorem dL_law_458 : Eq (decode cL_law 458) (Except.ok (Instr.aload_n 0, 1)) := fE fw_dL_law_438_c 16 rfl
theorem dL_law_459 : Eq (decode cL_law 459) (Except.ok (Instr.iload_n 3, 1)) := fE fw_dL_law_438_c 17 rfl
theorem dL_law_460 : Eq (decode cL_law 460) (Except.ok (Instr.iconst 3, 1)) := fE fw_dL_law_438_c 18 rfl
theorem dL_law_461 : Eq (decode cL_law 461) (Except.ok (Instr.iadd, 1)) := fE fw_dL_law_438_c 19 rfl
def fw_dL_law_462 : List (Nat × Instr × Nat) := [(462, .iaload, 1), (463, .aload_n 0, 1), (464, .iload_n 3, 1), (465, .iconst 4, 1), (466, .iadd, 1), (467, .iaload, 1), (468, .aload_n 0, 1), (469, .iload_n 3, 1), (470, .iconst 5, 1), (471, .iadd, 1), (472, .iaload, 1), (473, .invokevirtual 48, 3), (476, .pop, 1), (477, .aload_n 2, 1), (478, .aload_n 0, 1), (479, .iload_n 3, 1), (480, .iconst 1, 1), (481, .iadd, 1), (482, .iaload, 1), (483, .aload_n 0, 1)]
theorem fw_dL_law_462_c : fchk 462 (cL_law.data.toList.drop 462) fw_dL_law_462 = true := by decide +kernel
theorem dL_law_462 : Eq (decode cL_law 462) (Except.ok (Instr.iaload, 1)) := fE fw_dL_law_462_c 0 rfl
theorem dL_law_463 : Eq (decode cL_law 463) (Except.ok (Instr.aload_n 0, 1)) := fE fw_dL_law_462_c 1 rfl
theorem dL_law_464 : Eq (decode cL_law 464) (Except.ok (Instr.iload_n 3, 1)) := fE fw_dL_law_462_c 2 rfl
theorem dL_law_465 : Eq (decode cL_law 465) (Except.ok (Instr.iconst 4, 1)) := fE fw_dL_law_462_c 3 rfl
theorem dL_law_466 : Eq (decode cL_law 466) (Except.ok (Instr.iadd, 1)) := fE fw_dL_law_462_c 4 rfl
theorem dL_law_467 : Eq (decode cL_law 467) (Except.ok (Instr.iaload, 1)) := fE fw_dL_law_462_c 5 rfl
theorem dL_law_468 : Eq (decode cL_law 468) (Except.ok (Instr.aload_n 0, 1)) := fE fw_dL_law_462_c 6 rfl
theorem dL_law_469 : Eq (decode cL_law 469) (Except.ok (Instr.iload_n 3, 1)) := fE fw_dL_law_462_c 7 rfl
theorem dL_law_470 : Eq (decode cL_law 470) (Except.ok (Instr.iconst 5, 1)) := fE fw_dL_law_462_c 8 rfl
theorem dL_law_471 : Eq (decode cL_law 471) (Except.ok (Instr.iadd, 1)) := fE fw_dL_law_462_c 9 rfl
theorem dL_law_472 : Eq (decode cL_law 472) (Except.ok (Instr.iaload, 1)) := fE fw_dL_law_462_c 10 rfl
theorem dL_law_473 : Eq (decode cL_law 473) (Except.ok (Instr.invokevirtual 48, 3)) := fE fw_dL_law_462_c 11 rfl
theorem dL_law_476 : Eq (decode cL_law 476) (Except.ok (Instr.pop, 1)) := fE fw_dL_law_462_c 12 rfl
theorem dL_law_477 : Eq (decode cL_law 477) (Except.ok (Instr.aload_n 2, 1)) := fE fw_dL_law_462_c 13 rfl
theorem dL_law_478 : Eq (decode cL_law 478) (Except.ok (Instr.aload_n 0, 1)) := fE fw_dL_law_462_c 14 rfl
theorem dL_law_479 : Eq (decode cL_law 479) (Except.ok (Instr.iload_n 3, 1)) := fE fw_dL_law_462_c 15 rfl
theorem dL_law_480 : Eq (decode cL_law 480) (Except.ok (Instr.iconst 1, 1)) := fE fw_dL_law_462_c 16 rfl
theorem dL_law_481 : Eq (decode cL_law 481) (Except.ok (Instr.iadd, 1)) := fE fw_dL_law_462_c 17 rfl
theorem dL_law_482 : Eq (decode cL_law 482) (Except.ok (Instr.iaload, 1)) := fE fw_dL_law_462_c 18 rfl
theorem dL_law_483 : Eq (decode cL_law 483) (Except.ok (Instr.aload_n 0, 1)) := fE fw_dL_law_462_c 19 rfl
def fw_dL_law_484 : List (Nat × Instr × Nat) := [(484, .iload_n 3, 1), (485, .iconst 2, 1), (486, .iadd, 1), (487, .iaload, 1), (488, .aload_n 0, 1), (489, .iload_n 3, 1), (490, .iconst 3, 1), (491, .iadd, 1), (492, .iaload, 1), (493, .aload_n 0, 1), (494, .iload_n 3, 1), (495, .iconst 4, 1), (496, .iadd, 1), (497, .iaload, 1), (498, .aload_n 0, 1), (499, .iload_n 3, 1), (500, .iconst 5, 1), (501, .iadd, 1), (502, .iaload, 1), (503, .invokevirtual 52, 3)]
theorem fw_dL_law_484_c : fchk 484 (cL_law.data.toList.drop 484) fw_dL_law_484 = true := by decide +kernel
theorem dL_law_484 : Eq (decode cL_law 484) (Except.ok (Instr.iload_n 3, 1)) := fE fw_dL_law_484_c 0 rfl
theorem dL_law_485 : Eq (decode cL_law 485) (Except.ok (Instr.iconst 2, 1)) := fE fw_dL_law_484_c 1 rfl
theorem dL_law_486 : Eq (decode cL_law 486) (Except.ok (Instr.iadd, 1)) := fE fw_dL_law_484_c 2 rfl
theorem dL_law_487 : Eq (decode cL_law 487) (Except.ok (Instr.iaload, 1)) := fE fw_dL_law_484_c 3 rfl
theorem dL_law_488 : Eq (decode cL_law 488) (Except.ok (Instr.aload_n 0, 1)) := fE fw_dL_law_484_c 4 rfl
theorem dL_law_489 : Eq (decode cL_law 489) (Except.ok (Instr.iload_n 3, 1)) := fE fw_dL_law_484_c 5 rfl
theorem dL_law_490 : Eq (decode cL_law 490) (Except.ok (Instr.iconst 3, 1)) := fE fw_dL_law_484_c 6 rfl
theorem dL_law_491 : Eq (decode cL_law 491) (Except.ok (Instr.iadd, 1)) := fE fw_dL_law_484_c 7 rfl
theorem dL_law_492 : Eq (decode cL_law 492) (Except.ok (Instr.iaload, 1)) := fE fw_dL_law_484_c 8 rfl
theorem dL_law_493 : Eq (decode cL_law 493) (Except.ok (Instr.aload_n 0, 1)) := fE fw_dL_law_484_c 9 rfl
theorem dL_law_494 : Eq (decode cL_law 494) (Except.ok (Instr.iload_n 3, 1)) := fE fw_dL_law_484_c 10 rfl
theorem dL_law_495 : Eq (decode cL_law 495) (Except.ok (Instr.iconst 4, 1)) := fE fw_dL_law_484_c 11 rfl
theorem dL_law_496 : Eq (decode cL_law 496) (Except.ok (Instr.iadd, 1)) := fE fw_dL_law_484_c 12 rfl
theorem dL_law_497 : Eq (decode cL_law 497) (Except.ok (Instr.iaload, 1)) := fE fw_dL_law_484_c 13 rfl
theorem dL_law_498 : Eq (decode cL_law 498) (Except.ok (Instr.aload_n 0, 1)) := fE fw_dL_law_484_c 14 rfl
theorem dL_law_499 : Eq (decode cL_law 499) (Except.ok (Instr.iload_n 3, 1)) := fE fw_dL_law_484_c 15 rfl
theorem dL_law_500 : Eq (decode cL_law 500) (Except.ok (Instr.iconst 5, 1)) := fE fw_dL_law_484_c 16 rfl
theorem dL_law_501 : Eq (decode cL_law 501) (Except.ok (Instr.iadd, 1)) := fE fw_dL_law_484_c 17 rfl
theorem dL_law_502 : Eq (decode cL_law 502) (Except.ok (Instr.iaload, 1)) := fE fw_dL_law_484_c 18 rfl
theorem dL_law_503 : Eq (decode cL_law 503) (Except.ok (Instr.invokevirtual 52, 3)) := fE fw_dL_law_484_c 19 rfl
def fw_dL_law_506 : List (Nat × Instr × Nat) := [(506, .pop, 1), (507, .goto 684, 3), (510, .aload_n 1, 1), (511, .aload_n 0, 1), (512, .iload_n 3, 1), (513, .iconst 1, 1), (514, .iadd, 1), (515, .iaload, 1), (516, .invokevirtual 53, 3), (519, .pop, 1), (520, .aload_n 2, 1), (521, .aload_n 0, 1), (522, .iload_n 3, 1), (523, .iconst 1, 1), (524, .iadd, 1), (525, .iaload, 1), (526, .invokevirtual 57, 3), (529, .pop, 1), (530, .goto 661, 3), (533, .aload_n 1, 1)]
theorem fw_dL_law_506_c : fchk 506 (cL_law.data.toList.drop 506) fw_dL_law_506 = true := by decide +kernel
theorem dL_law_506 : Eq (decode cL_law 506) (Except.ok (Instr.pop, 1)) := fE fw_dL_law_506_c 0 rfl
theorem dL_law_507 : Eq (decode cL_law 507) (Except.ok (Instr.goto 684, 3)) := fE fw_dL_law_506_c 1 rfl
theorem dL_law_510 : Eq (decode cL_law 510) (Except.ok (Instr.aload_n 1, 1)) := fE fw_dL_law_506_c 2 rfl
theorem dL_law_511 : Eq (decode cL_law 511) (Except.ok (Instr.aload_n 0, 1)) := fE fw_dL_law_506_c 3 rfl
theorem dL_law_512 : Eq (decode cL_law 512) (Except.ok (Instr.iload_n 3, 1)) := fE fw_dL_law_506_c 4 rfl
theorem dL_law_513 : Eq (decode cL_law 513) (Except.ok (Instr.iconst 1, 1)) := fE fw_dL_law_506_c 5 rfl
theorem dL_law_514 : Eq (decode cL_law 514) (Except.ok (Instr.iadd, 1)) := fE fw_dL_law_506_c 6 rfl
theorem dL_law_515 : Eq (decode cL_law 515) (Except.ok (Instr.iaload, 1)) := fE fw_dL_law_506_c 7 rfl
theorem dL_law_516 : Eq (decode cL_law 516) (Except.ok (Instr.invokevirtual 53, 3)) := fE fw_dL_law_506_c 8 rfl
theorem dL_law_519 : Eq (decode cL_law 519) (Except.ok (Instr.pop, 1)) := fE fw_dL_law_506_c 9 rfl
theorem dL_law_520 : Eq (decode cL_law 520) (Except.ok (Instr.aload_n 2, 1)) := fE fw_dL_law_506_c 10 rfl
theorem dL_law_521 : Eq (decode cL_law 521) (Except.ok (Instr.aload_n 0, 1)) := fE fw_dL_law_506_c 11 rfl
theorem dL_law_522 : Eq (decode cL_law 522) (Except.ok (Instr.iload_n 3, 1)) := fE fw_dL_law_506_c 12 rfl
theorem dL_law_523 : Eq (decode cL_law 523) (Except.ok (Instr.iconst 1, 1)) := fE fw_dL_law_506_c 13 rfl
theorem dL_law_524 : Eq (decode cL_law 524) (Except.ok (Instr.iadd, 1)) := fE fw_dL_law_506_c 14 rfl
theorem dL_law_525 : Eq (decode cL_law 525) (Except.ok (Instr.iaload, 1)) := fE fw_dL_law_506_c 15 rfl
theorem dL_law_526 : Eq (decode cL_law 526) (Except.ok (Instr.invokevirtual 57, 3)) := fE fw_dL_law_506_c 16 rfl
theorem dL_law_529 : Eq (decode cL_law 529) (Except.ok (Instr.pop, 1)) := fE fw_dL_law_506_c 17 rfl
theorem dL_law_530 : Eq (decode cL_law 530) (Except.ok (Instr.goto 661, 3)) := fE fw_dL_law_506_c 18 rfl
theorem dL_law_533 : Eq (decode cL_law 533) (Except.ok (Instr.aload_n 1, 1)) := fE fw_dL_law_506_c 19 rfl
def fw_dL_law_534 : List (Nat × Instr × Nat) := [(534, .aload_n 0, 1), (535, .iload_n 3, 1), (536, .iconst 1, 1), (537, .iadd, 1), (538, .iaload, 1), (539, .aload_n 0, 1), (540, .iload_n 3, 1), (541, .iconst 2, 1), (542, .iadd, 1), (543, .iaload, 1), (544, .aload_n 0, 1), (545, .iload_n 3, 1), (546, .iconst 3, 1), (547, .iadd, 1), (548, .iaload, 1), (549, .invokevirtual 58, 3), (552, .pop, 1), (553, .aload_n 2, 1), (554, .aload_n 0, 1), (555, .iload_n 3, 1)]
theorem fw_dL_law_534_c : fchk 534 (cL_law.data.toList.drop 534) fw_dL_law_534 = true := by decide +kernel
theorem dL_law_534 : Eq (decode cL_law 534) (Except.ok (Instr.aload_n 0, 1)) := fE fw_dL_law_534_c 0 rfl
theorem dL_law_535 : Eq (decode cL_law 535) (Except.ok (Instr.iload_n 3, 1)) := fE fw_dL_law_534_c 1 rfl
theorem dL_law_536 : Eq (decode cL_law 536) (Except.ok (Instr.iconst 1, 1)) := fE fw_dL_law_534_c 2 rfl
theorem dL_law_537 : Eq (decode cL_law 537) (Except.ok (Instr.iadd, 1)) := fE fw_dL_law_534_c 3 rfl
theorem dL_law_538 : Eq (decode cL_law 538) (Except.ok (Instr.iaload, 1)) := fE fw_dL_law_534_c 4 rfl
theorem dL_law_539 : Eq (decode cL_law 539) (Except.ok (Instr.aload_n 0, 1)) := fE fw_dL_law_534_c 5 rfl
theorem dL_law_540 : Eq (decode cL_law 540) (Except.ok (Instr.iload_n 3, 1)) := fE fw_dL_law_534_c 6 rfl
theorem dL_law_541 : Eq (decode cL_law 541) (Except.ok (Instr.iconst 2, 1)) := fE fw_dL_law_534_c 7 rfl
theorem dL_law_542 : Eq (decode cL_law 542) (Except.ok (Instr.iadd, 1)) := fE fw_dL_law_534_c 8 rfl
theorem dL_law_543 : Eq (decode cL_law 543) (Except.ok (Instr.iaload, 1)) := fE fw_dL_law_534_c 9 rfl
theorem dL_law_544 : Eq (decode cL_law 544) (Except.ok (Instr.aload_n 0, 1)) := fE fw_dL_law_534_c 10 rfl
theorem dL_law_545 : Eq (decode cL_law 545) (Except.ok (Instr.iload_n 3, 1)) := fE fw_dL_law_534_c 11 rfl
theorem dL_law_546 : Eq (decode cL_law 546) (Except.ok (Instr.iconst 3, 1)) := fE fw_dL_law_534_c 12 rfl
theorem dL_law_547 : Eq (decode cL_law 547) (Except.ok (Instr.iadd, 1)) := fE fw_dL_law_534_c 13 rfl
theorem dL_law_548 : Eq (decode cL_law 548) (Except.ok (Instr.iaload, 1)) := fE fw_dL_law_534_c 14 rfl
theorem dL_law_549 : Eq (decode cL_law 549) (Except.ok (Instr.invokevirtual 58, 3)) := fE fw_dL_law_534_c 15 rfl
theorem dL_law_552 : Eq (decode cL_law 552) (Except.ok (Instr.pop, 1)) := fE fw_dL_law_534_c 16 rfl
theorem dL_law_553 : Eq (decode cL_law 553) (Except.ok (Instr.aload_n 2, 1)) := fE fw_dL_law_534_c 17 rfl
theorem dL_law_554 : Eq (decode cL_law 554) (Except.ok (Instr.aload_n 0, 1)) := fE fw_dL_law_534_c 18 rfl
theorem dL_law_555 : Eq (decode cL_law 555) (Except.ok (Instr.iload_n 3, 1)) := fE fw_dL_law_534_c 19 rfl
def fw_dL_law_556 : List (Nat × Instr × Nat) := [(556, .iconst 1, 1), (557, .iadd, 1), (558, .iaload, 1), (559, .aload_n 0, 1), (560, .iload_n 3, 1), (561, .iconst 2, 1), (562, .iadd, 1), (563, .iaload, 1), (564, .aload_n 0, 1), (565, .iload_n 3, 1), (566, .iconst 3, 1), (567, .iadd, 1), (568, .iaload, 1), (569, .invokevirtual 62, 3), (572, .pop, 1), (573, .goto 618, 3), (576, .aload_n 1, 1), (577, .aload_n 0, 1), (578, .iload_n 3, 1), (579, .iconst 1, 1)]
theorem fw_dL_law_556_c : fchk 556 (cL_law.data.toList.drop 556) fw_dL_law_556 = true := by decide +kernel
theorem dL_law_556 : Eq (decode cL_law 556) (Except.ok (Instr.iconst 1, 1)) := fE fw_dL_law_556_c 0 rfl
theorem dL_law_557 : Eq (decode cL_law 557) (Except.ok (Instr.iadd, 1)) := fE fw_dL_law_556_c 1 rfl
theorem dL_law_558 : Eq (decode cL_law 558) (Except.ok (Instr.iaload, 1)) := fE fw_dL_law_556_c 2 rfl
theorem dL_law_559 : Eq (decode cL_law 559) (Except.ok (Instr.aload_n 0, 1)) := fE fw_dL_law_556_c 3 rfl
theorem dL_law_560 : Eq (decode cL_law 560) (Except.ok (Instr.iload_n 3, 1)) := fE fw_dL_law_556_c 4 rfl
theorem dL_law_561 : Eq (decode cL_law 561) (Except.ok (Instr.iconst 2, 1)) := fE fw_dL_law_556_c 5 rfl
theorem dL_law_562 : Eq (decode cL_law 562) (Except.ok (Instr.iadd, 1)) := fE fw_dL_law_556_c 6 rfl
theorem dL_law_563 : Eq (decode cL_law 563) (Except.ok (Instr.iaload, 1)) := fE fw_dL_law_556_c 7 rfl
theorem dL_law_564 : Eq (decode cL_law 564) (Except.ok (Instr.aload_n 0, 1)) := fE fw_dL_law_556_c 8 rfl
theorem dL_law_565 : Eq (decode cL_law 565) (Except.ok (Instr.iload_n 3, 1)) := fE fw_dL_law_556_c 9 rfl
theorem dL_law_566 : Eq (decode cL_law 566) (Except.ok (Instr.iconst 3, 1)) := fE fw_dL_law_556_c 10 rfl
theorem dL_law_567 : Eq (decode cL_law 567) (Except.ok (Instr.iadd, 1)) := fE fw_dL_law_556_c 11 rfl
theorem dL_law_568 : Eq (decode cL_law 568) (Except.ok (Instr.iaload, 1)) := fE fw_dL_law_556_c 12 rfl
theorem dL_law_569 : Eq (decode cL_law 569) (Except.ok (Instr.invokevirtual 62, 3)) := fE fw_dL_law_556_c 13 rfl
theorem dL_law_572 : Eq (decode cL_law 572) (Except.ok (Instr.pop, 1)) := fE fw_dL_law_556_c 14 rfl
theorem dL_law_573 : Eq (decode cL_law 573) (Except.ok (Instr.goto 618, 3)) := fE fw_dL_law_556_c 15 rfl
theorem dL_law_576 : Eq (decode cL_law 576) (Except.ok (Instr.aload_n 1, 1)) := fE fw_dL_law_556_c 16 rfl
theorem dL_law_577 : Eq (decode cL_law 577) (Except.ok (Instr.aload_n 0, 1)) := fE fw_dL_law_556_c 17 rfl
theorem dL_law_578 : Eq (decode cL_law 578) (Except.ok (Instr.iload_n 3, 1)) := fE fw_dL_law_556_c 18 rfl
theorem dL_law_579 : Eq (decode cL_law 579) (Except.ok (Instr.iconst 1, 1)) := fE fw_dL_law_556_c 19 rfl
def fw_dL_law_580 : List (Nat × Instr × Nat) := [(580, .iadd, 1), (581, .iaload, 1), (582, .invokevirtual 63, 3), (585, .pop, 1), (586, .aload_n 2, 1), (587, .aload_n 0, 1), (588, .iload_n 3, 1), (589, .iconst 1, 1), (590, .iadd, 1), (591, .iaload, 1), (592, .invokevirtual 66, 3), (595, .pop, 1), (596, .goto 595, 3), (599, .aload_n 1, 1), (600, .aload_n 0, 1), (601, .iload_n 3, 1), (602, .iconst 1, 1), (603, .iadd, 1), (604, .iaload, 1), (605, .aload_n 0, 1)]
theorem fw_dL_law_580_c : fchk 580 (cL_law.data.toList.drop 580) fw_dL_law_580 = true := by decide +kernel
theorem dL_law_580 : Eq (decode cL_law 580) (Except.ok (Instr.iadd, 1)) := fE fw_dL_law_580_c 0 rfl
theorem dL_law_581 : Eq (decode cL_law 581) (Except.ok (Instr.iaload, 1)) := fE fw_dL_law_580_c 1 rfl
theorem dL_law_582 : Eq (decode cL_law 582) (Except.ok (Instr.invokevirtual 63, 3)) := fE fw_dL_law_580_c 2 rfl
theorem dL_law_585 : Eq (decode cL_law 585) (Except.ok (Instr.pop, 1)) := fE fw_dL_law_580_c 3 rfl
theorem dL_law_586 : Eq (decode cL_law 586) (Except.ok (Instr.aload_n 2, 1)) := fE fw_dL_law_580_c 4 rfl
theorem dL_law_587 : Eq (decode cL_law 587) (Except.ok (Instr.aload_n 0, 1)) := fE fw_dL_law_580_c 5 rfl
theorem dL_law_588 : Eq (decode cL_law 588) (Except.ok (Instr.iload_n 3, 1)) := fE fw_dL_law_580_c 6 rfl
theorem dL_law_589 : Eq (decode cL_law 589) (Except.ok (Instr.iconst 1, 1)) := fE fw_dL_law_580_c 7 rfl
theorem dL_law_590 : Eq (decode cL_law 590) (Except.ok (Instr.iadd, 1)) := fE fw_dL_law_580_c 8 rfl
theorem dL_law_591 : Eq (decode cL_law 591) (Except.ok (Instr.iaload, 1)) := fE fw_dL_law_580_c 9 rfl
theorem dL_law_592 : Eq (decode cL_law 592) (Except.ok (Instr.invokevirtual 66, 3)) := fE fw_dL_law_580_c 10 rfl
theorem dL_law_595 : Eq (decode cL_law 595) (Except.ok (Instr.pop, 1)) := fE fw_dL_law_580_c 11 rfl
theorem dL_law_596 : Eq (decode cL_law 596) (Except.ok (Instr.goto 595, 3)) := fE fw_dL_law_580_c 12 rfl
theorem dL_law_599 : Eq (decode cL_law 599) (Except.ok (Instr.aload_n 1, 1)) := fE fw_dL_law_580_c 13 rfl
theorem dL_law_600 : Eq (decode cL_law 600) (Except.ok (Instr.aload_n 0, 1)) := fE fw_dL_law_580_c 14 rfl
theorem dL_law_601 : Eq (decode cL_law 601) (Except.ok (Instr.iload_n 3, 1)) := fE fw_dL_law_580_c 15 rfl
theorem dL_law_602 : Eq (decode cL_law 602) (Except.ok (Instr.iconst 1, 1)) := fE fw_dL_law_580_c 16 rfl
theorem dL_law_603 : Eq (decode cL_law 603) (Except.ok (Instr.iadd, 1)) := fE fw_dL_law_580_c 17 rfl
theorem dL_law_604 : Eq (decode cL_law 604) (Except.ok (Instr.iaload, 1)) := fE fw_dL_law_580_c 18 rfl
theorem dL_law_605 : Eq (decode cL_law 605) (Except.ok (Instr.aload_n 0, 1)) := fE fw_dL_law_580_c 19 rfl
def fw_dL_law_606 : List (Nat × Instr × Nat) := [(606, .iload_n 3, 1), (607, .iconst 2, 1), (608, .iadd, 1), (609, .iaload, 1), (610, .aload_n 0, 1), (611, .iload_n 3, 1), (612, .iconst 3, 1), (613, .iadd, 1), (614, .iaload, 1), (615, .invokevirtual 67, 3), (618, .pop, 1), (619, .aload_n 2, 1), (620, .aload_n 0, 1), (621, .iload_n 3, 1), (622, .iconst 1, 1), (623, .iadd, 1), (624, .iaload, 1), (625, .aload_n 0, 1), (626, .iload_n 3, 1), (627, .iconst 2, 1)]
theorem fw_dL_law_606_c : fchk 606 (cL_law.data.toList.drop 606) fw_dL_law_606 = true := by decide +kernel
theorem dL_law_606 : Eq (decode cL_law 606) (Except.ok (Instr.iload_n 3, 1)) := fE fw_dL_law_606_c 0 rfl
theorem dL_law_607 : Eq (decode cL_law 607) (Except.ok (Instr.iconst 2, 1)) := fE fw_dL_law_606_c 1 rfl
theorem dL_law_608 : Eq (decode cL_law 608) (Except.ok (Instr.iadd, 1)) := fE fw_dL_law_606_c 2 rfl
theorem dL_law_609 : Eq (decode cL_law 609) (Except.ok (Instr.iaload, 1)) := fE fw_dL_law_606_c 3 rfl
theorem dL_law_610 : Eq (decode cL_law 610) (Except.ok (Instr.aload_n 0, 1)) := fE fw_dL_law_606_c 4 rfl
theorem dL_law_611 : Eq (decode cL_law 611) (Except.ok (Instr.iload_n 3, 1)) := fE fw_dL_law_606_c 5 rfl
theorem dL_law_612 : Eq (decode cL_law 612) (Except.ok (Instr.iconst 3, 1)) := fE fw_dL_law_606_c 6 rfl
theorem dL_law_613 : Eq (decode cL_law 613) (Except.ok (Instr.iadd, 1)) := fE fw_dL_law_606_c 7 rfl
theorem dL_law_614 : Eq (decode cL_law 614) (Except.ok (Instr.iaload, 1)) := fE fw_dL_law_606_c 8 rfl
theorem dL_law_615 : Eq (decode cL_law 615) (Except.ok (Instr.invokevirtual 67, 3)) := fE fw_dL_law_606_c 9 rfl
theorem dL_law_618 : Eq (decode cL_law 618) (Except.ok (Instr.pop, 1)) := fE fw_dL_law_606_c 10 rfl
theorem dL_law_619 : Eq (decode cL_law 619) (Except.ok (Instr.aload_n 2, 1)) := fE fw_dL_law_606_c 11 rfl
theorem dL_law_620 : Eq (decode cL_law 620) (Except.ok (Instr.aload_n 0, 1)) := fE fw_dL_law_606_c 12 rfl
theorem dL_law_621 : Eq (decode cL_law 621) (Except.ok (Instr.iload_n 3, 1)) := fE fw_dL_law_606_c 13 rfl
theorem dL_law_622 : Eq (decode cL_law 622) (Except.ok (Instr.iconst 1, 1)) := fE fw_dL_law_606_c 14 rfl
theorem dL_law_623 : Eq (decode cL_law 623) (Except.ok (Instr.iadd, 1)) := fE fw_dL_law_606_c 15 rfl
theorem dL_law_624 : Eq (decode cL_law 624) (Except.ok (Instr.iaload, 1)) := fE fw_dL_law_606_c 16 rfl
theorem dL_law_625 : Eq (decode cL_law 625) (Except.ok (Instr.aload_n 0, 1)) := fE fw_dL_law_606_c 17 rfl
theorem dL_law_626 : Eq (decode cL_law 626) (Except.ok (Instr.iload_n 3, 1)) := fE fw_dL_law_606_c 18 rfl
theorem dL_law_627 : Eq (decode cL_law 627) (Except.ok (Instr.iconst 2, 1)) := fE fw_dL_law_606_c 19 rfl
def fw_dL_law_628 : List (Nat × Instr × Nat) := [(628, .iadd, 1), (629, .iaload, 1), (630, .aload_n 0, 1), (631, .iload_n 3, 1), (632, .iconst 3, 1), (633, .iadd, 1), (634, .iaload, 1), (635, .invokevirtual 70, 3), (638, .pop, 1), (639, .goto 552, 3), (642, .aload_n 1, 1), (643, .aload_n 0, 1), (644, .iload_n 3, 1), (645, .iconst 1, 1), (646, .iadd, 1), (647, .iaload, 1), (648, .invokevirtual 71, 3), (651, .pop, 1), (652, .aload_n 2, 1), (653, .aload_n 0, 1)]
theorem fw_dL_law_628_c : fchk 628 (cL_law.data.toList.drop 628) fw_dL_law_628 = true := by decide +kernel
theorem dL_law_628 : Eq (decode cL_law 628) (Except.ok (Instr.iadd, 1)) := fE fw_dL_law_628_c 0 rfl
theorem dL_law_629 : Eq (decode cL_law 629) (Except.ok (Instr.iaload, 1)) := fE fw_dL_law_628_c 1 rfl
theorem dL_law_630 : Eq (decode cL_law 630) (Except.ok (Instr.aload_n 0, 1)) := fE fw_dL_law_628_c 2 rfl
theorem dL_law_631 : Eq (decode cL_law 631) (Except.ok (Instr.iload_n 3, 1)) := fE fw_dL_law_628_c 3 rfl
theorem dL_law_632 : Eq (decode cL_law 632) (Except.ok (Instr.iconst 3, 1)) := fE fw_dL_law_628_c 4 rfl
theorem dL_law_633 : Eq (decode cL_law 633) (Except.ok (Instr.iadd, 1)) := fE fw_dL_law_628_c 5 rfl
theorem dL_law_634 : Eq (decode cL_law 634) (Except.ok (Instr.iaload, 1)) := fE fw_dL_law_628_c 6 rfl
theorem dL_law_635 : Eq (decode cL_law 635) (Except.ok (Instr.invokevirtual 70, 3)) := fE fw_dL_law_628_c 7 rfl
theorem dL_law_638 : Eq (decode cL_law 638) (Except.ok (Instr.pop, 1)) := fE fw_dL_law_628_c 8 rfl
theorem dL_law_639 : Eq (decode cL_law 639) (Except.ok (Instr.goto 552, 3)) := fE fw_dL_law_628_c 9 rfl
theorem dL_law_642 : Eq (decode cL_law 642) (Except.ok (Instr.aload_n 1, 1)) := fE fw_dL_law_628_c 10 rfl
theorem dL_law_643 : Eq (decode cL_law 643) (Except.ok (Instr.aload_n 0, 1)) := fE fw_dL_law_628_c 11 rfl
theorem dL_law_644 : Eq (decode cL_law 644) (Except.ok (Instr.iload_n 3, 1)) := fE fw_dL_law_628_c 12 rfl
theorem dL_law_645 : Eq (decode cL_law 645) (Except.ok (Instr.iconst 1, 1)) := fE fw_dL_law_628_c 13 rfl
theorem dL_law_646 : Eq (decode cL_law 646) (Except.ok (Instr.iadd, 1)) := fE fw_dL_law_628_c 14 rfl
theorem dL_law_647 : Eq (decode cL_law 647) (Except.ok (Instr.iaload, 1)) := fE fw_dL_law_628_c 15 rfl
theorem dL_law_648 : Eq (decode cL_law 648) (Except.ok (Instr.invokevirtual 71, 3)) := fE fw_dL_law_628_c 16 rfl
theorem dL_law_651 : Eq (decode cL_law 651) (Except.ok (Instr.pop, 1)) := fE fw_dL_law_628_c 17 rfl
theorem dL_law_652 : Eq (decode cL_law 652) (Except.ok (Instr.aload_n 2, 1)) := fE fw_dL_law_628_c 18 rfl
theorem dL_law_653 : Eq (decode cL_law 653) (Except.ok (Instr.aload_n 0, 1)) := fE fw_dL_law_628_c 19 rfl
def fw_dL_law_654 : List (Nat × Instr × Nat) := [(654, .iload_n 3, 1), (655, .iconst 1, 1), (656, .iadd, 1), (657, .iaload, 1), (658, .invokevirtual 74, 3), (661, .pop, 1), (662, .goto 529, 3), (665, .aload_n 1, 1), (666, .aload_n 0, 1), (667, .iload_n 3, 1), (668, .iconst 1, 1), (669, .iadd, 1), (670, .iaload, 1), (671, .aload_n 0, 1), (672, .iload_n 3, 1), (673, .iconst 2, 1), (674, .iadd, 1), (675, .iaload, 1), (676, .invokevirtual 75, 3), (679, .pop, 1)]
theorem fw_dL_law_654_c : fchk 654 (cL_law.data.toList.drop 654) fw_dL_law_654 = true := by decide +kernel
theorem dL_law_654 : Eq (decode cL_law 654) (Except.ok (Instr.iload_n 3, 1)) := fE fw_dL_law_654_c 0 rfl
theorem dL_law_655 : Eq (decode cL_law 655) (Except.ok (Instr.iconst 1, 1)) := fE fw_dL_law_654_c 1 rfl
theorem dL_law_656 : Eq (decode cL_law 656) (Except.ok (Instr.iadd, 1)) := fE fw_dL_law_654_c 2 rfl
theorem dL_law_657 : Eq (decode cL_law 657) (Except.ok (Instr.iaload, 1)) := fE fw_dL_law_654_c 3 rfl
theorem dL_law_658 : Eq (decode cL_law 658) (Except.ok (Instr.invokevirtual 74, 3)) := fE fw_dL_law_654_c 4 rfl
theorem dL_law_661 : Eq (decode cL_law 661) (Except.ok (Instr.pop, 1)) := fE fw_dL_law_654_c 5 rfl
theorem dL_law_662 : Eq (decode cL_law 662) (Except.ok (Instr.goto 529, 3)) := fE fw_dL_law_654_c 6 rfl
theorem dL_law_665 : Eq (decode cL_law 665) (Except.ok (Instr.aload_n 1, 1)) := fE fw_dL_law_654_c 7 rfl
theorem dL_law_666 : Eq (decode cL_law 666) (Except.ok (Instr.aload_n 0, 1)) := fE fw_dL_law_654_c 8 rfl
theorem dL_law_667 : Eq (decode cL_law 667) (Except.ok (Instr.iload_n 3, 1)) := fE fw_dL_law_654_c 9 rfl
theorem dL_law_668 : Eq (decode cL_law 668) (Except.ok (Instr.iconst 1, 1)) := fE fw_dL_law_654_c 10 rfl
theorem dL_law_669 : Eq (decode cL_law 669) (Except.ok (Instr.iadd, 1)) := fE fw_dL_law_654_c 11 rfl
theorem dL_law_670 : Eq (decode cL_law 670) (Except.ok (Instr.iaload, 1)) := fE fw_dL_law_654_c 12 rfl
theorem dL_law_671 : Eq (decode cL_law 671) (Except.ok (Instr.aload_n 0, 1)) := fE fw_dL_law_654_c 13 rfl
theorem dL_law_672 : Eq (decode cL_law 672) (Except.ok (Instr.iload_n 3, 1)) := fE fw_dL_law_654_c 14 rfl
theorem dL_law_673 : Eq (decode cL_law 673) (Except.ok (Instr.iconst 2, 1)) := fE fw_dL_law_654_c 15 rfl
theorem dL_law_674 : Eq (decode cL_law 674) (Except.ok (Instr.iadd, 1)) := fE fw_dL_law_654_c 16 rfl
theorem dL_law_675 : Eq (decode cL_law 675) (Except.ok (Instr.iaload, 1)) := fE fw_dL_law_654_c 17 rfl
theorem dL_law_676 : Eq (decode cL_law 676) (Except.ok (Instr.invokevirtual 75, 3)) := fE fw_dL_law_654_c 18 rfl
theorem dL_law_679 : Eq (decode cL_law 679) (Except.ok (Instr.pop, 1)) := fE fw_dL_law_654_c 19 rfl
def fw_dL_law_680 : List (Nat × Instr × Nat) := [(680, .aload_n 2, 1), (681, .aload_n 0, 1), (682, .iload_n 3, 1), (683, .iconst 1, 1), (684, .iadd, 1), (685, .iaload, 1), (686, .aload_n 0, 1), (687, .iload_n 3, 1), (688, .iconst 2, 1), (689, .iadd, 1), (690, .iaload, 1), (691, .invokevirtual 78, 3), (694, .pop, 1), (695, .goto 496, 3), (698, .aload_n 1, 1), (699, .aload_n 0, 1), (700, .iload_n 3, 1), (701, .iconst 1, 1), (702, .iadd, 1), (703, .iaload, 1)]
theorem fw_dL_law_680_c : fchk 680 (cL_law.data.toList.drop 680) fw_dL_law_680 = true := by decide +kernel
theorem dL_law_680 : Eq (decode cL_law 680) (Except.ok (Instr.aload_n 2, 1)) := fE fw_dL_law_680_c 0 rfl
theorem dL_law_681 : Eq (decode cL_law 681) (Except.ok (Instr.aload_n 0, 1)) := fE fw_dL_law_680_c 1 rfl
theorem dL_law_682 : Eq (decode cL_law 682) (Except.ok (Instr.iload_n 3, 1)) := fE fw_dL_law_680_c 2 rfl
theorem dL_law_683 : Eq (decode cL_law 683) (Except.ok (Instr.iconst 1, 1)) := fE fw_dL_law_680_c 3 rfl
theorem dL_law_684 : Eq (decode cL_law 684) (Except.ok (Instr.iadd, 1)) := fE fw_dL_law_680_c 4 rfl
theorem dL_law_685 : Eq (decode cL_law 685) (Except.ok (Instr.iaload, 1)) := fE fw_dL_law_680_c 5 rfl
theorem dL_law_686 : Eq (decode cL_law 686) (Except.ok (Instr.aload_n 0, 1)) := fE fw_dL_law_680_c 6 rfl
theorem dL_law_687 : Eq (decode cL_law 687) (Except.ok (Instr.iload_n 3, 1)) := fE fw_dL_law_680_c 7 rfl
theorem dL_law_688 : Eq (decode cL_law 688) (Except.ok (Instr.iconst 2, 1)) := fE fw_dL_law_680_c 8 rfl
theorem dL_law_689 : Eq (decode cL_law 689) (Except.ok (Instr.iadd, 1)) := fE fw_dL_law_680_c 9 rfl
theorem dL_law_690 : Eq (decode cL_law 690) (Except.ok (Instr.iaload, 1)) := fE fw_dL_law_680_c 10 rfl
theorem dL_law_691 : Eq (decode cL_law 691) (Except.ok (Instr.invokevirtual 78, 3)) := fE fw_dL_law_680_c 11 rfl
theorem dL_law_694 : Eq (decode cL_law 694) (Except.ok (Instr.pop, 1)) := fE fw_dL_law_680_c 12 rfl
theorem dL_law_695 : Eq (decode cL_law 695) (Except.ok (Instr.goto 496, 3)) := fE fw_dL_law_680_c 13 rfl
theorem dL_law_698 : Eq (decode cL_law 698) (Except.ok (Instr.aload_n 1, 1)) := fE fw_dL_law_680_c 14 rfl
theorem dL_law_699 : Eq (decode cL_law 699) (Except.ok (Instr.aload_n 0, 1)) := fE fw_dL_law_680_c 15 rfl
theorem dL_law_700 : Eq (decode cL_law 700) (Except.ok (Instr.iload_n 3, 1)) := fE fw_dL_law_680_c 16 rfl
theorem dL_law_701 : Eq (decode cL_law 701) (Except.ok (Instr.iconst 1, 1)) := fE fw_dL_law_680_c 17 rfl
theorem dL_law_702 : Eq (decode cL_law 702) (Except.ok (Instr.iadd, 1)) := fE fw_dL_law_680_c 18 rfl
theorem dL_law_703 : Eq (decode cL_law 703) (Except.ok (Instr.iaload, 1)) := fE fw_dL_law_680_c 19 rfl
def fw_dL_law_704 : List (Nat × Instr × Nat) := [(704, .aload_n 0, 1), (705, .iload_n 3, 1), (706, .iconst 2, 1), (707, .iadd, 1), (708, .iaload, 1), (709, .invokevirtual 79, 3), (712, .pop, 1), (713, .aload_n 2, 1), (714, .aload_n 0, 1), (715, .iload_n 3, 1), (716, .iconst 1, 1), (717, .iadd, 1), (718, .iaload, 1), (719, .aload_n 0, 1), (720, .iload_n 3, 1), (721, .iconst 2, 1), (722, .iadd, 1), (723, .iaload, 1), (724, .invokevirtual 82, 3), (727, .pop, 1)]
theorem fw_dL_law_704_c : fchk 704 (cL_law.data.toList.drop 704) fw_dL_law_704 = true := by decide +kernel
theorem dL_law_704 : Eq (decode cL_law 704) (Except.ok (Instr.aload_n 0, 1)) := fE fw_dL_law_704_c 0 rfl
theorem dL_law_705 : Eq (decode cL_law 705) (Except.ok (Instr.iload_n 3, 1)) := fE fw_dL_law_704_c 1 rfl
theorem dL_law_706 : Eq (decode cL_law 706) (Except.ok (Instr.iconst 2, 1)) := fE fw_dL_law_704_c 2 rfl
theorem dL_law_707 : Eq (decode cL_law 707) (Except.ok (Instr.iadd, 1)) := fE fw_dL_law_704_c 3 rfl
theorem dL_law_708 : Eq (decode cL_law 708) (Except.ok (Instr.iaload, 1)) := fE fw_dL_law_704_c 4 rfl
theorem dL_law_709 : Eq (decode cL_law 709) (Except.ok (Instr.invokevirtual 79, 3)) := fE fw_dL_law_704_c 5 rfl
theorem dL_law_712 : Eq (decode cL_law 712) (Except.ok (Instr.pop, 1)) := fE fw_dL_law_704_c 6 rfl
theorem dL_law_713 : Eq (decode cL_law 713) (Except.ok (Instr.aload_n 2, 1)) := fE fw_dL_law_704_c 7 rfl
theorem dL_law_714 : Eq (decode cL_law 714) (Except.ok (Instr.aload_n 0, 1)) := fE fw_dL_law_704_c 8 rfl
theorem dL_law_715 : Eq (decode cL_law 715) (Except.ok (Instr.iload_n 3, 1)) := fE fw_dL_law_704_c 9 rfl
theorem dL_law_716 : Eq (decode cL_law 716) (Except.ok (Instr.iconst 1, 1)) := fE fw_dL_law_704_c 10 rfl
theorem dL_law_717 : Eq (decode cL_law 717) (Except.ok (Instr.iadd, 1)) := fE fw_dL_law_704_c 11 rfl
theorem dL_law_718 : Eq (decode cL_law 718) (Except.ok (Instr.iaload, 1)) := fE fw_dL_law_704_c 12 rfl
theorem dL_law_719 : Eq (decode cL_law 719) (Except.ok (Instr.aload_n 0, 1)) := fE fw_dL_law_704_c 13 rfl
theorem dL_law_720 : Eq (decode cL_law 720) (Except.ok (Instr.iload_n 3, 1)) := fE fw_dL_law_704_c 14 rfl
theorem dL_law_721 : Eq (decode cL_law 721) (Except.ok (Instr.iconst 2, 1)) := fE fw_dL_law_704_c 15 rfl
theorem dL_law_722 : Eq (decode cL_law 722) (Except.ok (Instr.iadd, 1)) := fE fw_dL_law_704_c 16 rfl
theorem dL_law_723 : Eq (decode cL_law 723) (Except.ok (Instr.iaload, 1)) := fE fw_dL_law_704_c 17 rfl
theorem dL_law_724 : Eq (decode cL_law 724) (Except.ok (Instr.invokevirtual 82, 3)) := fE fw_dL_law_704_c 18 rfl
theorem dL_law_727 : Eq (decode cL_law 727) (Except.ok (Instr.pop, 1)) := fE fw_dL_law_704_c 19 rfl
def fw_dL_law_728 : List (Nat × Instr × Nat) := [(728, .goto 463, 3), (731, .aload_n 1, 1), (732, .invokevirtual 83, 3), (735, .pop, 1), (736, .aload_n 2, 1), (737, .invokevirtual 86, 3), (740, .pop, 1), (741, .goto 450, 3), (744, .aload_n 1, 1), (745, .aload_n 0, 1), (746, .iload_n 3, 1), (747, .iconst 1, 1), (748, .iadd, 1), (749, .iaload, 1), (750, .aload_n 0, 1), (751, .iload_n 3, 1), (752, .iconst 2, 1), (753, .iadd, 1), (754, .iaload, 1), (755, .invokevirtual 87, 3)]
theorem fw_dL_law_728_c : fchk 728 (cL_law.data.toList.drop 728) fw_dL_law_728 = true := by decide +kernel
theorem dL_law_728 : Eq (decode cL_law 728) (Except.ok (Instr.goto 463, 3)) := fE fw_dL_law_728_c 0 rfl
theorem dL_law_731 : Eq (decode cL_law 731) (Except.ok (Instr.aload_n 1, 1)) := fE fw_dL_law_728_c 1 rfl
theorem dL_law_732 : Eq (decode cL_law 732) (Except.ok (Instr.invokevirtual 83, 3)) := fE fw_dL_law_728_c 2 rfl
theorem dL_law_735 : Eq (decode cL_law 735) (Except.ok (Instr.pop, 1)) := fE fw_dL_law_728_c 3 rfl
theorem dL_law_736 : Eq (decode cL_law 736) (Except.ok (Instr.aload_n 2, 1)) := fE fw_dL_law_728_c 4 rfl
theorem dL_law_737 : Eq (decode cL_law 737) (Except.ok (Instr.invokevirtual 86, 3)) := fE fw_dL_law_728_c 5 rfl
theorem dL_law_740 : Eq (decode cL_law 740) (Except.ok (Instr.pop, 1)) := fE fw_dL_law_728_c 6 rfl
theorem dL_law_741 : Eq (decode cL_law 741) (Except.ok (Instr.goto 450, 3)) := fE fw_dL_law_728_c 7 rfl
theorem dL_law_744 : Eq (decode cL_law 744) (Except.ok (Instr.aload_n 1, 1)) := fE fw_dL_law_728_c 8 rfl
theorem dL_law_745 : Eq (decode cL_law 745) (Except.ok (Instr.aload_n 0, 1)) := fE fw_dL_law_728_c 9 rfl
theorem dL_law_746 : Eq (decode cL_law 746) (Except.ok (Instr.iload_n 3, 1)) := fE fw_dL_law_728_c 10 rfl
theorem dL_law_747 : Eq (decode cL_law 747) (Except.ok (Instr.iconst 1, 1)) := fE fw_dL_law_728_c 11 rfl
theorem dL_law_748 : Eq (decode cL_law 748) (Except.ok (Instr.iadd, 1)) := fE fw_dL_law_728_c 12 rfl
theorem dL_law_749 : Eq (decode cL_law 749) (Except.ok (Instr.iaload, 1)) := fE fw_dL_law_728_c 13 rfl
theorem dL_law_750 : Eq (decode cL_law 750) (Except.ok (Instr.aload_n 0, 1)) := fE fw_dL_law_728_c 14 rfl
theorem dL_law_751 : Eq (decode cL_law 751) (Except.ok (Instr.iload_n 3, 1)) := fE fw_dL_law_728_c 15 rfl
theorem dL_law_752 : Eq (decode cL_law 752) (Except.ok (Instr.iconst 2, 1)) := fE fw_dL_law_728_c 16 rfl
theorem dL_law_753 : Eq (decode cL_law 753) (Except.ok (Instr.iadd, 1)) := fE fw_dL_law_728_c 17 rfl
theorem dL_law_754 : Eq (decode cL_law 754) (Except.ok (Instr.iaload, 1)) := fE fw_dL_law_728_c 18 rfl
theorem dL_law_755 : Eq (decode cL_law 755) (Except.ok (Instr.invokevirtual 87, 3)) := fE fw_dL_law_728_c 19 rfl
def fw_dL_law_758 : List (Nat × Instr × Nat) := [(758, .pop, 1), (759, .aload_n 2, 1), (760, .aload_n 0, 1), (761, .iload_n 3, 1), (762, .iconst 1, 1), (763, .iadd, 1), (764, .iaload, 1), (765, .aload_n 0, 1), (766, .iload_n 3, 1), (767, .iconst 2, 1), (768, .iadd, 1), (769, .iaload, 1), (770, .invokevirtual 90, 3), (773, .pop, 1), (774, .goto 417, 3), (777, .aload_n 1, 1), (778, .aload_n 0, 1), (779, .iload_n 3, 1), (780, .iconst 1, 1), (781, .iadd, 1)]
theorem fw_dL_law_758_c : fchk 758 (cL_law.data.toList.drop 758) fw_dL_law_758 = true := by decide +kernel
theorem dL_law_758 : Eq (decode cL_law 758) (Except.ok (Instr.pop, 1)) := fE fw_dL_law_758_c 0 rfl
theorem dL_law_759 : Eq (decode cL_law 759) (Except.ok (Instr.aload_n 2, 1)) := fE fw_dL_law_758_c 1 rfl
theorem dL_law_760 : Eq (decode cL_law 760) (Except.ok (Instr.aload_n 0, 1)) := fE fw_dL_law_758_c 2 rfl
theorem dL_law_761 : Eq (decode cL_law 761) (Except.ok (Instr.iload_n 3, 1)) := fE fw_dL_law_758_c 3 rfl
theorem dL_law_762 : Eq (decode cL_law 762) (Except.ok (Instr.iconst 1, 1)) := fE fw_dL_law_758_c 4 rfl
theorem dL_law_763 : Eq (decode cL_law 763) (Except.ok (Instr.iadd, 1)) := fE fw_dL_law_758_c 5 rfl
theorem dL_law_764 : Eq (decode cL_law 764) (Except.ok (Instr.iaload, 1)) := fE fw_dL_law_758_c 6 rfl
theorem dL_law_765 : Eq (decode cL_law 765) (Except.ok (Instr.aload_n 0, 1)) := fE fw_dL_law_758_c 7 rfl
theorem dL_law_766 : Eq (decode cL_law 766) (Except.ok (Instr.iload_n 3, 1)) := fE fw_dL_law_758_c 8 rfl
theorem dL_law_767 : Eq (decode cL_law 767) (Except.ok (Instr.iconst 2, 1)) := fE fw_dL_law_758_c 9 rfl
theorem dL_law_768 : Eq (decode cL_law 768) (Except.ok (Instr.iadd, 1)) := fE fw_dL_law_758_c 10 rfl
theorem dL_law_769 : Eq (decode cL_law 769) (Except.ok (Instr.iaload, 1)) := fE fw_dL_law_758_c 11 rfl
theorem dL_law_770 : Eq (decode cL_law 770) (Except.ok (Instr.invokevirtual 90, 3)) := fE fw_dL_law_758_c 12 rfl
theorem dL_law_773 : Eq (decode cL_law 773) (Except.ok (Instr.pop, 1)) := fE fw_dL_law_758_c 13 rfl
theorem dL_law_774 : Eq (decode cL_law 774) (Except.ok (Instr.goto 417, 3)) := fE fw_dL_law_758_c 14 rfl
theorem dL_law_777 : Eq (decode cL_law 777) (Except.ok (Instr.aload_n 1, 1)) := fE fw_dL_law_758_c 15 rfl
theorem dL_law_778 : Eq (decode cL_law 778) (Except.ok (Instr.aload_n 0, 1)) := fE fw_dL_law_758_c 16 rfl
theorem dL_law_779 : Eq (decode cL_law 779) (Except.ok (Instr.iload_n 3, 1)) := fE fw_dL_law_758_c 17 rfl
theorem dL_law_780 : Eq (decode cL_law 780) (Except.ok (Instr.iconst 1, 1)) := fE fw_dL_law_758_c 18 rfl
theorem dL_law_781 : Eq (decode cL_law 781) (Except.ok (Instr.iadd, 1)) := fE fw_dL_law_758_c 19 rfl
def fw_dL_law_782 : List (Nat × Instr × Nat) := [(782, .iaload, 1), (783, .aload_n 0, 1), (784, .iload_n 3, 1), (785, .iconst 2, 1), (786, .iadd, 1), (787, .iaload, 1), (788, .invokevirtual 91, 3), (791, .pop, 1), (792, .aload_n 2, 1), (793, .aload_n 0, 1), (794, .iload_n 3, 1), (795, .iconst 1, 1), (796, .iadd, 1), (797, .iaload, 1), (798, .aload_n 0, 1), (799, .iload_n 3, 1), (800, .iconst 2, 1), (801, .iadd, 1), (802, .iaload, 1), (803, .invokevirtual 94, 3)]
theorem fw_dL_law_782_c : fchk 782 (cL_law.data.toList.drop 782) fw_dL_law_782 = true := by decide +kernel
theorem dL_law_782 : Eq (decode cL_law 782) (Except.ok (Instr.iaload, 1)) := fE fw_dL_law_782_c 0 rfl
theorem dL_law_783 : Eq (decode cL_law 783) (Except.ok (Instr.aload_n 0, 1)) := fE fw_dL_law_782_c 1 rfl
theorem dL_law_784 : Eq (decode cL_law 784) (Except.ok (Instr.iload_n 3, 1)) := fE fw_dL_law_782_c 2 rfl
theorem dL_law_785 : Eq (decode cL_law 785) (Except.ok (Instr.iconst 2, 1)) := fE fw_dL_law_782_c 3 rfl
theorem dL_law_786 : Eq (decode cL_law 786) (Except.ok (Instr.iadd, 1)) := fE fw_dL_law_782_c 4 rfl
theorem dL_law_787 : Eq (decode cL_law 787) (Except.ok (Instr.iaload, 1)) := fE fw_dL_law_782_c 5 rfl
theorem dL_law_788 : Eq (decode cL_law 788) (Except.ok (Instr.invokevirtual 91, 3)) := fE fw_dL_law_782_c 6 rfl
theorem dL_law_791 : Eq (decode cL_law 791) (Except.ok (Instr.pop, 1)) := fE fw_dL_law_782_c 7 rfl
theorem dL_law_792 : Eq (decode cL_law 792) (Except.ok (Instr.aload_n 2, 1)) := fE fw_dL_law_782_c 8 rfl
theorem dL_law_793 : Eq (decode cL_law 793) (Except.ok (Instr.aload_n 0, 1)) := fE fw_dL_law_782_c 9 rfl
theorem dL_law_794 : Eq (decode cL_law 794) (Except.ok (Instr.iload_n 3, 1)) := fE fw_dL_law_782_c 10 rfl
theorem dL_law_795 : Eq (decode cL_law 795) (Except.ok (Instr.iconst 1, 1)) := fE fw_dL_law_782_c 11 rfl
theorem dL_law_796 : Eq (decode cL_law 796) (Except.ok (Instr.iadd, 1)) := fE fw_dL_law_782_c 12 rfl
theorem dL_law_797 : Eq (decode cL_law 797) (Except.ok (Instr.iaload, 1)) := fE fw_dL_law_782_c 13 rfl
theorem dL_law_798 : Eq (decode cL_law 798) (Except.ok (Instr.aload_n 0, 1)) := fE fw_dL_law_782_c 14 rfl
theorem dL_law_799 : Eq (decode cL_law 799) (Except.ok (Instr.iload_n 3, 1)) := fE fw_dL_law_782_c 15 rfl
theorem dL_law_800 : Eq (decode cL_law 800) (Except.ok (Instr.iconst 2, 1)) := fE fw_dL_law_782_c 16 rfl
theorem dL_law_801 : Eq (decode cL_law 801) (Except.ok (Instr.iadd, 1)) := fE fw_dL_law_782_c 17 rfl
theorem dL_law_802 : Eq (decode cL_law 802) (Except.ok (Instr.iaload, 1)) := fE fw_dL_law_782_c 18 rfl
theorem dL_law_803 : Eq (decode cL_law 803) (Except.ok (Instr.invokevirtual 94, 3)) := fE fw_dL_law_782_c 19 rfl
def fw_dL_law_806 : List (Nat × Instr × Nat) := [(806, .pop, 1), (807, .goto 384, 3), (810, .aload_n 1, 1), (811, .aload_n 0, 1), (812, .iload_n 3, 1), (813, .iconst 1, 1), (814, .iadd, 1), (815, .iaload, 1), (816, .invokevirtual 95, 3), (819, .pop, 1), (820, .aload_n 2, 1), (821, .aload_n 0, 1), (822, .iload_n 3, 1), (823, .iconst 1, 1), (824, .iadd, 1), (825, .iaload, 1), (826, .invokevirtual 98, 3), (829, .pop, 1), (830, .goto 361, 3), (833, .aload_n 1, 1)]
theorem fw_dL_law_806_c : fchk 806 (cL_law.data.toList.drop 806) fw_dL_law_806 = true := by decide +kernel
theorem dL_law_806 : Eq (decode cL_law 806) (Except.ok (Instr.pop, 1)) := fE fw_dL_law_806_c 0 rfl
theorem dL_law_807 : Eq (decode cL_law 807) (Except.ok (Instr.goto 384, 3)) := fE fw_dL_law_806_c 1 rfl
theorem dL_law_810 : Eq (decode cL_law 810) (Except.ok (Instr.aload_n 1, 1)) := fE fw_dL_law_806_c 2 rfl
theorem dL_law_811 : Eq (decode cL_law 811) (Except.ok (Instr.aload_n 0, 1)) := fE fw_dL_law_806_c 3 rfl
theorem dL_law_812 : Eq (decode cL_law 812) (Except.ok (Instr.iload_n 3, 1)) := fE fw_dL_law_806_c 4 rfl
theorem dL_law_813 : Eq (decode cL_law 813) (Except.ok (Instr.iconst 1, 1)) := fE fw_dL_law_806_c 5 rfl
theorem dL_law_814 : Eq (decode cL_law 814) (Except.ok (Instr.iadd, 1)) := fE fw_dL_law_806_c 6 rfl
theorem dL_law_815 : Eq (decode cL_law 815) (Except.ok (Instr.iaload, 1)) := fE fw_dL_law_806_c 7 rfl
theorem dL_law_816 : Eq (decode cL_law 816) (Except.ok (Instr.invokevirtual 95, 3)) := fE fw_dL_law_806_c 8 rfl
theorem dL_law_819 : Eq (decode cL_law 819) (Except.ok (Instr.pop, 1)) := fE fw_dL_law_806_c 9 rfl
theorem dL_law_820 : Eq (decode cL_law 820) (Except.ok (Instr.aload_n 2, 1)) := fE fw_dL_law_806_c 10 rfl
theorem dL_law_821 : Eq (decode cL_law 821) (Except.ok (Instr.aload_n 0, 1)) := fE fw_dL_law_806_c 11 rfl
theorem dL_law_822 : Eq (decode cL_law 822) (Except.ok (Instr.iload_n 3, 1)) := fE fw_dL_law_806_c 12 rfl
theorem dL_law_823 : Eq (decode cL_law 823) (Except.ok (Instr.iconst 1, 1)) := fE fw_dL_law_806_c 13 rfl
theorem dL_law_824 : Eq (decode cL_law 824) (Except.ok (Instr.iadd, 1)) := fE fw_dL_law_806_c 14 rfl
theorem dL_law_825 : Eq (decode cL_law 825) (Except.ok (Instr.iaload, 1)) := fE fw_dL_law_806_c 15 rfl
theorem dL_law_826 : Eq (decode cL_law 826) (Except.ok (Instr.invokevirtual 98, 3)) := fE fw_dL_law_806_c 16 rfl
theorem dL_law_829 : Eq (decode cL_law 829) (Except.ok (Instr.pop, 1)) := fE fw_dL_law_806_c 17 rfl
theorem dL_law_830 : Eq (decode cL_law 830) (Except.ok (Instr.goto 361, 3)) := fE fw_dL_law_806_c 18 rfl
theorem dL_law_833 : Eq (decode cL_law 833) (Except.ok (Instr.aload_n 1, 1)) := fE fw_dL_law_806_c 19 rfl
def fw_dL_law_834 : List (Nat × Instr × Nat) := [(834, .aload_n 0, 1), (835, .iload_n 3, 1), (836, .iconst 1, 1), (837, .iadd, 1), (838, .iaload, 1), (839, .invokevirtual 99, 3), (842, .aload_n 2, 1), (843, .aload_n 0, 1), (844, .iload_n 3, 1), (845, .iconst 1, 1), (846, .iadd, 1), (847, .iaload, 1), (848, .invokevirtual 102, 3), (851, .if_icmp .eq 340, 3), (854, .iconst 0, 1), (855, .ireturn, 1), (856, .aload_n 1, 1), (857, .aload_n 0, 1), (858, .iload_n 3, 1), (859, .iconst 1, 1)]
theorem fw_dL_law_834_c : fchk 834 (cL_law.data.toList.drop 834) fw_dL_law_834 = true := by decide +kernel
theorem dL_law_834 : Eq (decode cL_law 834) (Except.ok (Instr.aload_n 0, 1)) := fE fw_dL_law_834_c 0 rfl
theorem dL_law_835 : Eq (decode cL_law 835) (Except.ok (Instr.iload_n 3, 1)) := fE fw_dL_law_834_c 1 rfl
theorem dL_law_836 : Eq (decode cL_law 836) (Except.ok (Instr.iconst 1, 1)) := fE fw_dL_law_834_c 2 rfl
theorem dL_law_837 : Eq (decode cL_law 837) (Except.ok (Instr.iadd, 1)) := fE fw_dL_law_834_c 3 rfl
theorem dL_law_838 : Eq (decode cL_law 838) (Except.ok (Instr.iaload, 1)) := fE fw_dL_law_834_c 4 rfl
theorem dL_law_839 : Eq (decode cL_law 839) (Except.ok (Instr.invokevirtual 99, 3)) := fE fw_dL_law_834_c 5 rfl
theorem dL_law_842 : Eq (decode cL_law 842) (Except.ok (Instr.aload_n 2, 1)) := fE fw_dL_law_834_c 6 rfl
theorem dL_law_843 : Eq (decode cL_law 843) (Except.ok (Instr.aload_n 0, 1)) := fE fw_dL_law_834_c 7 rfl
theorem dL_law_844 : Eq (decode cL_law 844) (Except.ok (Instr.iload_n 3, 1)) := fE fw_dL_law_834_c 8 rfl
theorem dL_law_845 : Eq (decode cL_law 845) (Except.ok (Instr.iconst 1, 1)) := fE fw_dL_law_834_c 9 rfl
theorem dL_law_846 : Eq (decode cL_law 846) (Except.ok (Instr.iadd, 1)) := fE fw_dL_law_834_c 10 rfl
theorem dL_law_847 : Eq (decode cL_law 847) (Except.ok (Instr.iaload, 1)) := fE fw_dL_law_834_c 11 rfl
theorem dL_law_848 : Eq (decode cL_law 848) (Except.ok (Instr.invokevirtual 102, 3)) := fE fw_dL_law_834_c 12 rfl
theorem dL_law_851 : Eq (decode cL_law 851) (Except.ok (Instr.if_icmp .eq 340, 3)) := fE fw_dL_law_834_c 13 rfl
theorem dL_law_854 : Eq (decode cL_law 854) (Except.ok (Instr.iconst 0, 1)) := fE fw_dL_law_834_c 14 rfl
theorem dL_law_855 : Eq (decode cL_law 855) (Except.ok (Instr.ireturn, 1)) := fE fw_dL_law_834_c 15 rfl
theorem dL_law_856 : Eq (decode cL_law 856) (Except.ok (Instr.aload_n 1, 1)) := fE fw_dL_law_834_c 16 rfl
theorem dL_law_857 : Eq (decode cL_law 857) (Except.ok (Instr.aload_n 0, 1)) := fE fw_dL_law_834_c 17 rfl
theorem dL_law_858 : Eq (decode cL_law 858) (Except.ok (Instr.iload_n 3, 1)) := fE fw_dL_law_834_c 18 rfl
theorem dL_law_859 : Eq (decode cL_law 859) (Except.ok (Instr.iconst 1, 1)) := fE fw_dL_law_834_c 19 rfl
def fw_dL_law_860 : List (Nat × Instr × Nat) := [(860, .iadd, 1), (861, .iaload, 1), (862, .aload_n 0, 1), (863, .iload_n 3, 1), (864, .iconst 2, 1), (865, .iadd, 1), (866, .iaload, 1), (867, .ifCond .eq 7, 3), (870, .iconst 1, 1), (871, .goto 4, 3), (874, .iconst 0, 1), (875, .invokevirtual 103, 3), (878, .pop, 1), (879, .aload_n 2, 1), (880, .aload_n 0, 1), (881, .iload_n 3, 1), (882, .iconst 1, 1), (883, .iadd, 1), (884, .iaload, 1), (885, .aload_n 0, 1)]
theorem fw_dL_law_860_c : fchk 860 (cL_law.data.toList.drop 860) fw_dL_law_860 = true := by decide +kernel
theorem dL_law_860 : Eq (decode cL_law 860) (Except.ok (Instr.iadd, 1)) := fE fw_dL_law_860_c 0 rfl
theorem dL_law_861 : Eq (decode cL_law 861) (Except.ok (Instr.iaload, 1)) := fE fw_dL_law_860_c 1 rfl
theorem dL_law_862 : Eq (decode cL_law 862) (Except.ok (Instr.aload_n 0, 1)) := fE fw_dL_law_860_c 2 rfl
theorem dL_law_863 : Eq (decode cL_law 863) (Except.ok (Instr.iload_n 3, 1)) := fE fw_dL_law_860_c 3 rfl
theorem dL_law_864 : Eq (decode cL_law 864) (Except.ok (Instr.iconst 2, 1)) := fE fw_dL_law_860_c 4 rfl
theorem dL_law_865 : Eq (decode cL_law 865) (Except.ok (Instr.iadd, 1)) := fE fw_dL_law_860_c 5 rfl
theorem dL_law_866 : Eq (decode cL_law 866) (Except.ok (Instr.iaload, 1)) := fE fw_dL_law_860_c 6 rfl
theorem dL_law_867 : Eq (decode cL_law 867) (Except.ok (Instr.ifCond .eq 7, 3)) := fE fw_dL_law_860_c 7 rfl
theorem dL_law_870 : Eq (decode cL_law 870) (Except.ok (Instr.iconst 1, 1)) := fE fw_dL_law_860_c 8 rfl
theorem dL_law_871 : Eq (decode cL_law 871) (Except.ok (Instr.goto 4, 3)) := fE fw_dL_law_860_c 9 rfl
theorem dL_law_874 : Eq (decode cL_law 874) (Except.ok (Instr.iconst 0, 1)) := fE fw_dL_law_860_c 10 rfl
theorem dL_law_875 : Eq (decode cL_law 875) (Except.ok (Instr.invokevirtual 103, 3)) := fE fw_dL_law_860_c 11 rfl
theorem dL_law_878 : Eq (decode cL_law 878) (Except.ok (Instr.pop, 1)) := fE fw_dL_law_860_c 12 rfl
theorem dL_law_879 : Eq (decode cL_law 879) (Except.ok (Instr.aload_n 2, 1)) := fE fw_dL_law_860_c 13 rfl
theorem dL_law_880 : Eq (decode cL_law 880) (Except.ok (Instr.aload_n 0, 1)) := fE fw_dL_law_860_c 14 rfl
theorem dL_law_881 : Eq (decode cL_law 881) (Except.ok (Instr.iload_n 3, 1)) := fE fw_dL_law_860_c 15 rfl
theorem dL_law_882 : Eq (decode cL_law 882) (Except.ok (Instr.iconst 1, 1)) := fE fw_dL_law_860_c 16 rfl
theorem dL_law_883 : Eq (decode cL_law 883) (Except.ok (Instr.iadd, 1)) := fE fw_dL_law_860_c 17 rfl
theorem dL_law_884 : Eq (decode cL_law 884) (Except.ok (Instr.iaload, 1)) := fE fw_dL_law_860_c 18 rfl
theorem dL_law_885 : Eq (decode cL_law 885) (Except.ok (Instr.aload_n 0, 1)) := fE fw_dL_law_860_c 19 rfl
def fw_dL_law_886 : List (Nat × Instr × Nat) := [(886, .iload_n 3, 1), (887, .iconst 2, 1), (888, .iadd, 1), (889, .iaload, 1), (890, .ifCond .eq 7, 3), (893, .iconst 1, 1), (894, .goto 4, 3), (897, .iconst 0, 1), (898, .invokevirtual 106, 3), (901, .pop, 1), (902, .goto 289, 3), (905, .aload_n 1, 1), (906, .aload_n 0, 1), (907, .iload_n 3, 1), (908, .iconst 1, 1), (909, .iadd, 1), (910, .iaload, 1), (911, .invokevirtual 107, 3), (914, .pop, 1), (915, .aload_n 2, 1)]
theorem fw_dL_law_886_c : fchk 886 (cL_law.data.toList.drop 886) fw_dL_law_886 = true := by decide +kernel
theorem dL_law_886 : Eq (decode cL_law 886) (Except.ok (Instr.iload_n 3, 1)) := fE fw_dL_law_886_c 0 rfl
theorem dL_law_887 : Eq (decode cL_law 887) (Except.ok (Instr.iconst 2, 1)) := fE fw_dL_law_886_c 1 rfl
theorem dL_law_888 : Eq (decode cL_law 888) (Except.ok (Instr.iadd, 1)) := fE fw_dL_law_886_c 2 rfl
theorem dL_law_889 : Eq (decode cL_law 889) (Except.ok (Instr.iaload, 1)) := fE fw_dL_law_886_c 3 rfl
theorem dL_law_890 : Eq (decode cL_law 890) (Except.ok (Instr.ifCond .eq 7, 3)) := fE fw_dL_law_886_c 4 rfl
theorem dL_law_893 : Eq (decode cL_law 893) (Except.ok (Instr.iconst 1, 1)) := fE fw_dL_law_886_c 5 rfl
theorem dL_law_894 : Eq (decode cL_law 894) (Except.ok (Instr.goto 4, 3)) := fE fw_dL_law_886_c 6 rfl
theorem dL_law_897 : Eq (decode cL_law 897) (Except.ok (Instr.iconst 0, 1)) := fE fw_dL_law_886_c 7 rfl
theorem dL_law_898 : Eq (decode cL_law 898) (Except.ok (Instr.invokevirtual 106, 3)) := fE fw_dL_law_886_c 8 rfl
theorem dL_law_901 : Eq (decode cL_law 901) (Except.ok (Instr.pop, 1)) := fE fw_dL_law_886_c 9 rfl
theorem dL_law_902 : Eq (decode cL_law 902) (Except.ok (Instr.goto 289, 3)) := fE fw_dL_law_886_c 10 rfl
theorem dL_law_905 : Eq (decode cL_law 905) (Except.ok (Instr.aload_n 1, 1)) := fE fw_dL_law_886_c 11 rfl
theorem dL_law_906 : Eq (decode cL_law 906) (Except.ok (Instr.aload_n 0, 1)) := fE fw_dL_law_886_c 12 rfl
theorem dL_law_907 : Eq (decode cL_law 907) (Except.ok (Instr.iload_n 3, 1)) := fE fw_dL_law_886_c 13 rfl
theorem dL_law_908 : Eq (decode cL_law 908) (Except.ok (Instr.iconst 1, 1)) := fE fw_dL_law_886_c 14 rfl
theorem dL_law_909 : Eq (decode cL_law 909) (Except.ok (Instr.iadd, 1)) := fE fw_dL_law_886_c 15 rfl
theorem dL_law_910 : Eq (decode cL_law 910) (Except.ok (Instr.iaload, 1)) := fE fw_dL_law_886_c 16 rfl
theorem dL_law_911 : Eq (decode cL_law 911) (Except.ok (Instr.invokevirtual 107, 3)) := fE fw_dL_law_886_c 17 rfl
theorem dL_law_914 : Eq (decode cL_law 914) (Except.ok (Instr.pop, 1)) := fE fw_dL_law_886_c 18 rfl
theorem dL_law_915 : Eq (decode cL_law 915) (Except.ok (Instr.aload_n 2, 1)) := fE fw_dL_law_886_c 19 rfl
def fw_dL_law_916 : List (Nat × Instr × Nat) := [(916, .aload_n 0, 1), (917, .iload_n 3, 1), (918, .iconst 1, 1), (919, .iadd, 1), (920, .iaload, 1), (921, .invokevirtual 110, 3), (924, .pop, 1), (925, .goto 266, 3), (928, .aload_n 1, 1), (929, .aload_n 0, 1), (930, .iload_n 3, 1), (931, .iconst 1, 1), (932, .iadd, 1), (933, .iaload, 1), (934, .invokevirtual 111, 3), (937, .pop, 1), (938, .aload_n 2, 1), (939, .aload_n 0, 1), (940, .iload_n 3, 1), (941, .iconst 1, 1)]
theorem fw_dL_law_916_c : fchk 916 (cL_law.data.toList.drop 916) fw_dL_law_916 = true := by decide +kernel
theorem dL_law_916 : Eq (decode cL_law 916) (Except.ok (Instr.aload_n 0, 1)) := fE fw_dL_law_916_c 0 rfl
theorem dL_law_917 : Eq (decode cL_law 917) (Except.ok (Instr.iload_n 3, 1)) := fE fw_dL_law_916_c 1 rfl
theorem dL_law_918 : Eq (decode cL_law 918) (Except.ok (Instr.iconst 1, 1)) := fE fw_dL_law_916_c 2 rfl
theorem dL_law_919 : Eq (decode cL_law 919) (Except.ok (Instr.iadd, 1)) := fE fw_dL_law_916_c 3 rfl
theorem dL_law_920 : Eq (decode cL_law 920) (Except.ok (Instr.iaload, 1)) := fE fw_dL_law_916_c 4 rfl
theorem dL_law_921 : Eq (decode cL_law 921) (Except.ok (Instr.invokevirtual 110, 3)) := fE fw_dL_law_916_c 5 rfl
theorem dL_law_924 : Eq (decode cL_law 924) (Except.ok (Instr.pop, 1)) := fE fw_dL_law_916_c 6 rfl
theorem dL_law_925 : Eq (decode cL_law 925) (Except.ok (Instr.goto 266, 3)) := fE fw_dL_law_916_c 7 rfl
theorem dL_law_928 : Eq (decode cL_law 928) (Except.ok (Instr.aload_n 1, 1)) := fE fw_dL_law_916_c 8 rfl
theorem dL_law_929 : Eq (decode cL_law 929) (Except.ok (Instr.aload_n 0, 1)) := fE fw_dL_law_916_c 9 rfl
theorem dL_law_930 : Eq (decode cL_law 930) (Except.ok (Instr.iload_n 3, 1)) := fE fw_dL_law_916_c 10 rfl
theorem dL_law_931 : Eq (decode cL_law 931) (Except.ok (Instr.iconst 1, 1)) := fE fw_dL_law_916_c 11 rfl
theorem dL_law_932 : Eq (decode cL_law 932) (Except.ok (Instr.iadd, 1)) := fE fw_dL_law_916_c 12 rfl
theorem dL_law_933 : Eq (decode cL_law 933) (Except.ok (Instr.iaload, 1)) := fE fw_dL_law_916_c 13 rfl
theorem dL_law_934 : Eq (decode cL_law 934) (Except.ok (Instr.invokevirtual 111, 3)) := fE fw_dL_law_916_c 14 rfl
theorem dL_law_937 : Eq (decode cL_law 937) (Except.ok (Instr.pop, 1)) := fE fw_dL_law_916_c 15 rfl
theorem dL_law_938 : Eq (decode cL_law 938) (Except.ok (Instr.aload_n 2, 1)) := fE fw_dL_law_916_c 16 rfl
theorem dL_law_939 : Eq (decode cL_law 939) (Except.ok (Instr.aload_n 0, 1)) := fE fw_dL_law_916_c 17 rfl
theorem dL_law_940 : Eq (decode cL_law 940) (Except.ok (Instr.iload_n 3, 1)) := fE fw_dL_law_916_c 18 rfl
theorem dL_law_941 : Eq (decode cL_law 941) (Except.ok (Instr.iconst 1, 1)) := fE fw_dL_law_916_c 19 rfl
def fw_dL_law_942 : List (Nat × Instr × Nat) := [(942, .iadd, 1), (943, .iaload, 1), (944, .invokevirtual 114, 3), (947, .pop, 1), (948, .goto 243, 3), (951, .aload_n 1, 1), (952, .aload_n 0, 1), (953, .iload_n 3, 1), (954, .iconst 1, 1), (955, .iadd, 1), (956, .iaload, 1), (957, .aload_n 0, 1), (958, .iload_n 3, 1), (959, .iconst 2, 1), (960, .iadd, 1), (961, .iaload, 1), (962, .invokevirtual 115, 3), (965, .pop, 1), (966, .aload_n 2, 1), (967, .aload_n 0, 1)]
theorem fw_dL_law_942_c : fchk 942 (cL_law.data.toList.drop 942) fw_dL_law_942 = true := by decide +kernel
theorem dL_law_942 : Eq (decode cL_law 942) (Except.ok (Instr.iadd, 1)) := fE fw_dL_law_942_c 0 rfl
theorem dL_law_943 : Eq (decode cL_law 943) (Except.ok (Instr.iaload, 1)) := fE fw_dL_law_942_c 1 rfl
theorem dL_law_944 : Eq (decode cL_law 944) (Except.ok (Instr.invokevirtual 114, 3)) := fE fw_dL_law_942_c 2 rfl
theorem dL_law_947 : Eq (decode cL_law 947) (Except.ok (Instr.pop, 1)) := fE fw_dL_law_942_c 3 rfl
theorem dL_law_948 : Eq (decode cL_law 948) (Except.ok (Instr.goto 243, 3)) := fE fw_dL_law_942_c 4 rfl
theorem dL_law_951 : Eq (decode cL_law 951) (Except.ok (Instr.aload_n 1, 1)) := fE fw_dL_law_942_c 5 rfl
theorem dL_law_952 : Eq (decode cL_law 952) (Except.ok (Instr.aload_n 0, 1)) := fE fw_dL_law_942_c 6 rfl
theorem dL_law_953 : Eq (decode cL_law 953) (Except.ok (Instr.iload_n 3, 1)) := fE fw_dL_law_942_c 7 rfl
theorem dL_law_954 : Eq (decode cL_law 954) (Except.ok (Instr.iconst 1, 1)) := fE fw_dL_law_942_c 8 rfl
theorem dL_law_955 : Eq (decode cL_law 955) (Except.ok (Instr.iadd, 1)) := fE fw_dL_law_942_c 9 rfl
theorem dL_law_956 : Eq (decode cL_law 956) (Except.ok (Instr.iaload, 1)) := fE fw_dL_law_942_c 10 rfl
theorem dL_law_957 : Eq (decode cL_law 957) (Except.ok (Instr.aload_n 0, 1)) := fE fw_dL_law_942_c 11 rfl
theorem dL_law_958 : Eq (decode cL_law 958) (Except.ok (Instr.iload_n 3, 1)) := fE fw_dL_law_942_c 12 rfl
theorem dL_law_959 : Eq (decode cL_law 959) (Except.ok (Instr.iconst 2, 1)) := fE fw_dL_law_942_c 13 rfl
theorem dL_law_960 : Eq (decode cL_law 960) (Except.ok (Instr.iadd, 1)) := fE fw_dL_law_942_c 14 rfl
theorem dL_law_961 : Eq (decode cL_law 961) (Except.ok (Instr.iaload, 1)) := fE fw_dL_law_942_c 15 rfl
theorem dL_law_962 : Eq (decode cL_law 962) (Except.ok (Instr.invokevirtual 115, 3)) := fE fw_dL_law_942_c 16 rfl
theorem dL_law_965 : Eq (decode cL_law 965) (Except.ok (Instr.pop, 1)) := fE fw_dL_law_942_c 17 rfl
theorem dL_law_966 : Eq (decode cL_law 966) (Except.ok (Instr.aload_n 2, 1)) := fE fw_dL_law_942_c 18 rfl
theorem dL_law_967 : Eq (decode cL_law 967) (Except.ok (Instr.aload_n 0, 1)) := fE fw_dL_law_942_c 19 rfl
def fw_dL_law_968 : List (Nat × Instr × Nat) := [(968, .iload_n 3, 1), (969, .iconst 1, 1), (970, .iadd, 1), (971, .iaload, 1), (972, .aload_n 0, 1), (973, .iload_n 3, 1), (974, .iconst 2, 1), (975, .iadd, 1), (976, .iaload, 1), (977, .invokevirtual 118, 3), (980, .pop, 1), (981, .goto 210, 3), (984, .aload_n 1, 1), (985, .aload_n 0, 1), (986, .iload_n 3, 1), (987, .iconst 1, 1), (988, .iadd, 1), (989, .iaload, 1), (990, .invokevirtual 119, 3), (993, .pop, 1)]
theorem fw_dL_law_968_c : fchk 968 (cL_law.data.toList.drop 968) fw_dL_law_968 = true := by decide +kernel
theorem dL_law_968 : Eq (decode cL_law 968) (Except.ok (Instr.iload_n 3, 1)) := fE fw_dL_law_968_c 0 rfl
theorem dL_law_969 : Eq (decode cL_law 969) (Except.ok (Instr.iconst 1, 1)) := fE fw_dL_law_968_c 1 rfl
theorem dL_law_970 : Eq (decode cL_law 970) (Except.ok (Instr.iadd, 1)) := fE fw_dL_law_968_c 2 rfl
theorem dL_law_971 : Eq (decode cL_law 971) (Except.ok (Instr.iaload, 1)) := fE fw_dL_law_968_c 3 rfl
theorem dL_law_972 : Eq (decode cL_law 972) (Except.ok (Instr.aload_n 0, 1)) := fE fw_dL_law_968_c 4 rfl
theorem dL_law_973 : Eq (decode cL_law 973) (Except.ok (Instr.iload_n 3, 1)) := fE fw_dL_law_968_c 5 rfl
theorem dL_law_974 : Eq (decode cL_law 974) (Except.ok (Instr.iconst 2, 1)) := fE fw_dL_law_968_c 6 rfl
theorem dL_law_975 : Eq (decode cL_law 975) (Except.ok (Instr.iadd, 1)) := fE fw_dL_law_968_c 7 rfl
theorem dL_law_976 : Eq (decode cL_law 976) (Except.ok (Instr.iaload, 1)) := fE fw_dL_law_968_c 8 rfl
theorem dL_law_977 : Eq (decode cL_law 977) (Except.ok (Instr.invokevirtual 118, 3)) := fE fw_dL_law_968_c 9 rfl
theorem dL_law_980 : Eq (decode cL_law 980) (Except.ok (Instr.pop, 1)) := fE fw_dL_law_968_c 10 rfl
theorem dL_law_981 : Eq (decode cL_law 981) (Except.ok (Instr.goto 210, 3)) := fE fw_dL_law_968_c 11 rfl
theorem dL_law_984 : Eq (decode cL_law 984) (Except.ok (Instr.aload_n 1, 1)) := fE fw_dL_law_968_c 12 rfl
theorem dL_law_985 : Eq (decode cL_law 985) (Except.ok (Instr.aload_n 0, 1)) := fE fw_dL_law_968_c 13 rfl
theorem dL_law_986 : Eq (decode cL_law 986) (Except.ok (Instr.iload_n 3, 1)) := fE fw_dL_law_968_c 14 rfl
theorem dL_law_987 : Eq (decode cL_law 987) (Except.ok (Instr.iconst 1, 1)) := fE fw_dL_law_968_c 15 rfl
theorem dL_law_988 : Eq (decode cL_law 988) (Except.ok (Instr.iadd, 1)) := fE fw_dL_law_968_c 16 rfl
theorem dL_law_989 : Eq (decode cL_law 989) (Except.ok (Instr.iaload, 1)) := fE fw_dL_law_968_c 17 rfl
theorem dL_law_990 : Eq (decode cL_law 990) (Except.ok (Instr.invokevirtual 119, 3)) := fE fw_dL_law_968_c 18 rfl
theorem dL_law_993 : Eq (decode cL_law 993) (Except.ok (Instr.pop, 1)) := fE fw_dL_law_968_c 19 rfl
def fw_dL_law_994 : List (Nat × Instr × Nat) := [(994, .aload_n 2, 1), (995, .aload_n 0, 1), (996, .iload_n 3, 1), (997, .iconst 1, 1), (998, .iadd, 1), (999, .iaload, 1), (1000, .invokevirtual 122, 3), (1003, .pop, 1), (1004, .goto 187, 3), (1007, .aload_n 1, 1), (1008, .aload_n 0, 1), (1009, .iload_n 3, 1), (1010, .iconst 1, 1), (1011, .iadd, 1), (1012, .iaload, 1), (1013, .invokevirtual 123, 3), (1016, .pop, 1), (1017, .aload_n 2, 1), (1018, .aload_n 0, 1), (1019, .iload_n 3, 1)]
theorem fw_dL_law_994_c : fchk 994 (cL_law.data.toList.drop 994) fw_dL_law_994 = true := by decide +kernel
theorem dL_law_994 : Eq (decode cL_law 994) (Except.ok (Instr.aload_n 2, 1)) := fE fw_dL_law_994_c 0 rfl
theorem dL_law_995 : Eq (decode cL_law 995) (Except.ok (Instr.aload_n 0, 1)) := fE fw_dL_law_994_c 1 rfl
theorem dL_law_996 : Eq (decode cL_law 996) (Except.ok (Instr.iload_n 3, 1)) := fE fw_dL_law_994_c 2 rfl
theorem dL_law_997 : Eq (decode cL_law 997) (Except.ok (Instr.iconst 1, 1)) := fE fw_dL_law_994_c 3 rfl
theorem dL_law_998 : Eq (decode cL_law 998) (Except.ok (Instr.iadd, 1)) := fE fw_dL_law_994_c 4 rfl
theorem dL_law_999 : Eq (decode cL_law 999) (Except.ok (Instr.iaload, 1)) := fE fw_dL_law_994_c 5 rfl
theorem dL_law_1000 : Eq (decode cL_law 1000) (Except.ok (Instr.invokevirtual 122, 3)) := fE fw_dL_law_994_c 6 rfl
theorem dL_law_1003 : Eq (decode cL_law 1003) (Except.ok (Instr.pop, 1)) := fE fw_dL_law_994_c 7 rfl
theorem dL_law_1004 : Eq (decode cL_law 1004) (Except.ok (Instr.goto 187, 3)) := fE fw_dL_law_994_c 8 rfl
theorem dL_law_1007 : Eq (decode cL_law 1007) (Except.ok (Instr.aload_n 1, 1)) := fE fw_dL_law_994_c 9 rfl
theorem dL_law_1008 : Eq (decode cL_law 1008) (Except.ok (Instr.aload_n 0, 1)) := fE fw_dL_law_994_c 10 rfl
theorem dL_law_1009 : Eq (decode cL_law 1009) (Except.ok (Instr.iload_n 3, 1)) := fE fw_dL_law_994_c 11 rfl
theorem dL_law_1010 : Eq (decode cL_law 1010) (Except.ok (Instr.iconst 1, 1)) := fE fw_dL_law_994_c 12 rfl
theorem dL_law_1011 : Eq (decode cL_law 1011) (Except.ok (Instr.iadd, 1)) := fE fw_dL_law_994_c 13 rfl
theorem dL_law_1012 : Eq (decode cL_law 1012) (Except.ok (Instr.iaload, 1)) := fE fw_dL_law_994_c 14 rfl
theorem dL_law_1013 : Eq (decode cL_law 1013) (Except.ok (Instr.invokevirtual 123, 3)) := fE fw_dL_law_994_c 15 rfl
theorem dL_law_1016 : Eq (decode cL_law 1016) (Except.ok (Instr.pop, 1)) := fE fw_dL_law_994_c 16 rfl
theorem dL_law_1017 : Eq (decode cL_law 1017) (Except.ok (Instr.aload_n 2, 1)) := fE fw_dL_law_994_c 17 rfl
theorem dL_law_1018 : Eq (decode cL_law 1018) (Except.ok (Instr.aload_n 0, 1)) := fE fw_dL_law_994_c 18 rfl
theorem dL_law_1019 : Eq (decode cL_law 1019) (Except.ok (Instr.iload_n 3, 1)) := fE fw_dL_law_994_c 19 rfl
def fw_dL_law_1020 : List (Nat × Instr × Nat) := [(1020, .iconst 1, 1), (1021, .iadd, 1), (1022, .iaload, 1), (1023, .invokevirtual 126, 3), (1026, .pop, 1), (1027, .goto 164, 3), (1030, .aload_n 1, 1), (1031, .invokevirtual 127, 3), (1034, .pop, 1), (1035, .aload_n 2, 1), (1036, .invokevirtual 130, 3), (1039, .pop, 1), (1040, .goto 151, 3), (1043, .aload_n 1, 1), (1044, .invokevirtual 131, 3), (1047, .pop, 1), (1048, .aload_n 2, 1), (1049, .invokevirtual 134, 3), (1052, .pop, 1), (1053, .goto 138, 3)]
theorem fw_dL_law_1020_c : fchk 1020 (cL_law.data.toList.drop 1020) fw_dL_law_1020 = true := by decide +kernel
theorem dL_law_1020 : Eq (decode cL_law 1020) (Except.ok (Instr.iconst 1, 1)) := fE fw_dL_law_1020_c 0 rfl
theorem dL_law_1021 : Eq (decode cL_law 1021) (Except.ok (Instr.iadd, 1)) := fE fw_dL_law_1020_c 1 rfl
theorem dL_law_1022 : Eq (decode cL_law 1022) (Except.ok (Instr.iaload, 1)) := fE fw_dL_law_1020_c 2 rfl
theorem dL_law_1023 : Eq (decode cL_law 1023) (Except.ok (Instr.invokevirtual 126, 3)) := fE fw_dL_law_1020_c 3 rfl
theorem dL_law_1026 : Eq (decode cL_law 1026) (Except.ok (Instr.pop, 1)) := fE fw_dL_law_1020_c 4 rfl
theorem dL_law_1027 : Eq (decode cL_law 1027) (Except.ok (Instr.goto 164, 3)) := fE fw_dL_law_1020_c 5 rfl
theorem dL_law_1030 : Eq (decode cL_law 1030) (Except.ok (Instr.aload_n 1, 1)) := fE fw_dL_law_1020_c 6 rfl
theorem dL_law_1031 : Eq (decode cL_law 1031) (Except.ok (Instr.invokevirtual 127, 3)) := fE fw_dL_law_1020_c 7 rfl
theorem dL_law_1034 : Eq (decode cL_law 1034) (Except.ok (Instr.pop, 1)) := fE fw_dL_law_1020_c 8 rfl
theorem dL_law_1035 : Eq (decode cL_law 1035) (Except.ok (Instr.aload_n 2, 1)) := fE fw_dL_law_1020_c 9 rfl
theorem dL_law_1036 : Eq (decode cL_law 1036) (Except.ok (Instr.invokevirtual 130, 3)) := fE fw_dL_law_1020_c 10 rfl
theorem dL_law_1039 : Eq (decode cL_law 1039) (Except.ok (Instr.pop, 1)) := fE fw_dL_law_1020_c 11 rfl
theorem dL_law_1040 : Eq (decode cL_law 1040) (Except.ok (Instr.goto 151, 3)) := fE fw_dL_law_1020_c 12 rfl
theorem dL_law_1043 : Eq (decode cL_law 1043) (Except.ok (Instr.aload_n 1, 1)) := fE fw_dL_law_1020_c 13 rfl
theorem dL_law_1044 : Eq (decode cL_law 1044) (Except.ok (Instr.invokevirtual 131, 3)) := fE fw_dL_law_1020_c 14 rfl
theorem dL_law_1047 : Eq (decode cL_law 1047) (Except.ok (Instr.pop, 1)) := fE fw_dL_law_1020_c 15 rfl
theorem dL_law_1048 : Eq (decode cL_law 1048) (Except.ok (Instr.aload_n 2, 1)) := fE fw_dL_law_1020_c 16 rfl
theorem dL_law_1049 : Eq (decode cL_law 1049) (Except.ok (Instr.invokevirtual 134, 3)) := fE fw_dL_law_1020_c 17 rfl
theorem dL_law_1052 : Eq (decode cL_law 1052) (Except.ok (Instr.pop, 1)) := fE fw_dL_law_1020_c 18 rfl
theorem dL_law_1053 : Eq (decode cL_law 1053) (Except.ok (Instr.goto 138, 3)) := fE fw_dL_law_1020_c 19 rfl
def fw_dL_law_1056 : List (Nat × Instr × Nat) := [(1056, .aload_n 1, 1), (1057, .aload_n 0, 1), (1058, .iload_n 3, 1), (1059, .iconst 1, 1), (1060, .iadd, 1), (1061, .iaload, 1), (1062, .aload_n 0, 1), (1063, .iload_n 3, 1), (1064, .iconst 2, 1), (1065, .iadd, 1), (1066, .iaload, 1), (1067, .invokevirtual 135, 3), (1070, .pop, 1), (1071, .aload_n 2, 1), (1072, .aload_n 0, 1), (1073, .iload_n 3, 1), (1074, .iconst 1, 1), (1075, .iadd, 1), (1076, .iaload, 1), (1077, .aload_n 0, 1)]
theorem fw_dL_law_1056_c : fchk 1056 (cL_law.data.toList.drop 1056) fw_dL_law_1056 = true := by decide +kernel
theorem dL_law_1056 : Eq (decode cL_law 1056) (Except.ok (Instr.aload_n 1, 1)) := fE fw_dL_law_1056_c 0 rfl
theorem dL_law_1057 : Eq (decode cL_law 1057) (Except.ok (Instr.aload_n 0, 1)) := fE fw_dL_law_1056_c 1 rfl
theorem dL_law_1058 : Eq (decode cL_law 1058) (Except.ok (Instr.iload_n 3, 1)) := fE fw_dL_law_1056_c 2 rfl
theorem dL_law_1059 : Eq (decode cL_law 1059) (Except.ok (Instr.iconst 1, 1)) := fE fw_dL_law_1056_c 3 rfl
theorem dL_law_1060 : Eq (decode cL_law 1060) (Except.ok (Instr.iadd, 1)) := fE fw_dL_law_1056_c 4 rfl
theorem dL_law_1061 : Eq (decode cL_law 1061) (Except.ok (Instr.iaload, 1)) := fE fw_dL_law_1056_c 5 rfl
theorem dL_law_1062 : Eq (decode cL_law 1062) (Except.ok (Instr.aload_n 0, 1)) := fE fw_dL_law_1056_c 6 rfl
theorem dL_law_1063 : Eq (decode cL_law 1063) (Except.ok (Instr.iload_n 3, 1)) := fE fw_dL_law_1056_c 7 rfl
theorem dL_law_1064 : Eq (decode cL_law 1064) (Except.ok (Instr.iconst 2, 1)) := fE fw_dL_law_1056_c 8 rfl
theorem dL_law_1065 : Eq (decode cL_law 1065) (Except.ok (Instr.iadd, 1)) := fE fw_dL_law_1056_c 9 rfl
theorem dL_law_1066 : Eq (decode cL_law 1066) (Except.ok (Instr.iaload, 1)) := fE fw_dL_law_1056_c 10 rfl
theorem dL_law_1067 : Eq (decode cL_law 1067) (Except.ok (Instr.invokevirtual 135, 3)) := fE fw_dL_law_1056_c 11 rfl
theorem dL_law_1070 : Eq (decode cL_law 1070) (Except.ok (Instr.pop, 1)) := fE fw_dL_law_1056_c 12 rfl
theorem dL_law_1071 : Eq (decode cL_law 1071) (Except.ok (Instr.aload_n 2, 1)) := fE fw_dL_law_1056_c 13 rfl
theorem dL_law_1072 : Eq (decode cL_law 1072) (Except.ok (Instr.aload_n 0, 1)) := fE fw_dL_law_1056_c 14 rfl
theorem dL_law_1073 : Eq (decode cL_law 1073) (Except.ok (Instr.iload_n 3, 1)) := fE fw_dL_law_1056_c 15 rfl
theorem dL_law_1074 : Eq (decode cL_law 1074) (Except.ok (Instr.iconst 1, 1)) := fE fw_dL_law_1056_c 16 rfl
theorem dL_law_1075 : Eq (decode cL_law 1075) (Except.ok (Instr.iadd, 1)) := fE fw_dL_law_1056_c 17 rfl
theorem dL_law_1076 : Eq (decode cL_law 1076) (Except.ok (Instr.iaload, 1)) := fE fw_dL_law_1056_c 18 rfl
theorem dL_law_1077 : Eq (decode cL_law 1077) (Except.ok (Instr.aload_n 0, 1)) := fE fw_dL_law_1056_c 19 rfl
def fw_dL_law_1078 : List (Nat × Instr × Nat) := [(1078, .iload_n 3, 1), (1079, .iconst 2, 1), (1080, .iadd, 1), (1081, .iaload, 1), (1082, .invokevirtual 138, 3), (1085, .pop, 1), (1086, .goto 105, 3), (1089, .aload_n 1, 1), (1090, .invokevirtual 139, 3), (1093, .pop, 1), (1094, .aload_n 2, 1), (1095, .invokevirtual 142, 3), (1098, .pop, 1), (1099, .goto 92, 3), (1102, .aload_n 1, 1), (1103, .aload_n 0, 1), (1104, .iload_n 3, 1), (1105, .iconst 1, 1), (1106, .iadd, 1), (1107, .iaload, 1)]
theorem fw_dL_law_1078_c : fchk 1078 (cL_law.data.toList.drop 1078) fw_dL_law_1078 = true := by decide +kernel
theorem dL_law_1078 : Eq (decode cL_law 1078) (Except.ok (Instr.iload_n 3, 1)) := fE fw_dL_law_1078_c 0 rfl
theorem dL_law_1079 : Eq (decode cL_law 1079) (Except.ok (Instr.iconst 2, 1)) := fE fw_dL_law_1078_c 1 rfl
theorem dL_law_1080 : Eq (decode cL_law 1080) (Except.ok (Instr.iadd, 1)) := fE fw_dL_law_1078_c 2 rfl
theorem dL_law_1081 : Eq (decode cL_law 1081) (Except.ok (Instr.iaload, 1)) := fE fw_dL_law_1078_c 3 rfl
theorem dL_law_1082 : Eq (decode cL_law 1082) (Except.ok (Instr.invokevirtual 138, 3)) := fE fw_dL_law_1078_c 4 rfl
theorem dL_law_1085 : Eq (decode cL_law 1085) (Except.ok (Instr.pop, 1)) := fE fw_dL_law_1078_c 5 rfl
theorem dL_law_1086 : Eq (decode cL_law 1086) (Except.ok (Instr.goto 105, 3)) := fE fw_dL_law_1078_c 6 rfl
theorem dL_law_1089 : Eq (decode cL_law 1089) (Except.ok (Instr.aload_n 1, 1)) := fE fw_dL_law_1078_c 7 rfl
theorem dL_law_1090 : Eq (decode cL_law 1090) (Except.ok (Instr.invokevirtual 139, 3)) := fE fw_dL_law_1078_c 8 rfl
theorem dL_law_1093 : Eq (decode cL_law 1093) (Except.ok (Instr.pop, 1)) := fE fw_dL_law_1078_c 9 rfl
theorem dL_law_1094 : Eq (decode cL_law 1094) (Except.ok (Instr.aload_n 2, 1)) := fE fw_dL_law_1078_c 10 rfl
theorem dL_law_1095 : Eq (decode cL_law 1095) (Except.ok (Instr.invokevirtual 142, 3)) := fE fw_dL_law_1078_c 11 rfl
theorem dL_law_1098 : Eq (decode cL_law 1098) (Except.ok (Instr.pop, 1)) := fE fw_dL_law_1078_c 12 rfl
theorem dL_law_1099 : Eq (decode cL_law 1099) (Except.ok (Instr.goto 92, 3)) := fE fw_dL_law_1078_c 13 rfl
theorem dL_law_1102 : Eq (decode cL_law 1102) (Except.ok (Instr.aload_n 1, 1)) := fE fw_dL_law_1078_c 14 rfl
theorem dL_law_1103 : Eq (decode cL_law 1103) (Except.ok (Instr.aload_n 0, 1)) := fE fw_dL_law_1078_c 15 rfl
theorem dL_law_1104 : Eq (decode cL_law 1104) (Except.ok (Instr.iload_n 3, 1)) := fE fw_dL_law_1078_c 16 rfl
theorem dL_law_1105 : Eq (decode cL_law 1105) (Except.ok (Instr.iconst 1, 1)) := fE fw_dL_law_1078_c 17 rfl
theorem dL_law_1106 : Eq (decode cL_law 1106) (Except.ok (Instr.iadd, 1)) := fE fw_dL_law_1078_c 18 rfl
theorem dL_law_1107 : Eq (decode cL_law 1107) (Except.ok (Instr.iaload, 1)) := fE fw_dL_law_1078_c 19 rfl
def fw_dL_law_1108 : List (Nat × Instr × Nat) := [(1108, .invokevirtual 143, 3), (1111, .pop, 1), (1112, .aload_n 2, 1), (1113, .aload_n 0, 1), (1114, .iload_n 3, 1), (1115, .iconst 1, 1), (1116, .iadd, 1), (1117, .iaload, 1), (1118, .invokevirtual 146, 3), (1121, .pop, 1), (1122, .goto 69, 3), (1125, .aload_n 1, 1), (1126, .aload_n 0, 1), (1127, .iload_n 3, 1), (1128, .iconst 1, 1), (1129, .iadd, 1), (1130, .iaload, 1), (1131, .aload_n 0, 1), (1132, .iload_n 3, 1), (1133, .iconst 2, 1)]
theorem fw_dL_law_1108_c : fchk 1108 (cL_law.data.toList.drop 1108) fw_dL_law_1108 = true := by decide +kernel
theorem dL_law_1108 : Eq (decode cL_law 1108) (Except.ok (Instr.invokevirtual 143, 3)) := fE fw_dL_law_1108_c 0 rfl
theorem dL_law_1111 : Eq (decode cL_law 1111) (Except.ok (Instr.pop, 1)) := fE fw_dL_law_1108_c 1 rfl
theorem dL_law_1112 : Eq (decode cL_law 1112) (Except.ok (Instr.aload_n 2, 1)) := fE fw_dL_law_1108_c 2 rfl
theorem dL_law_1113 : Eq (decode cL_law 1113) (Except.ok (Instr.aload_n 0, 1)) := fE fw_dL_law_1108_c 3 rfl
theorem dL_law_1114 : Eq (decode cL_law 1114) (Except.ok (Instr.iload_n 3, 1)) := fE fw_dL_law_1108_c 4 rfl
theorem dL_law_1115 : Eq (decode cL_law 1115) (Except.ok (Instr.iconst 1, 1)) := fE fw_dL_law_1108_c 5 rfl
theorem dL_law_1116 : Eq (decode cL_law 1116) (Except.ok (Instr.iadd, 1)) := fE fw_dL_law_1108_c 6 rfl
theorem dL_law_1117 : Eq (decode cL_law 1117) (Except.ok (Instr.iaload, 1)) := fE fw_dL_law_1108_c 7 rfl
theorem dL_law_1118 : Eq (decode cL_law 1118) (Except.ok (Instr.invokevirtual 146, 3)) := fE fw_dL_law_1108_c 8 rfl
theorem dL_law_1121 : Eq (decode cL_law 1121) (Except.ok (Instr.pop, 1)) := fE fw_dL_law_1108_c 9 rfl
theorem dL_law_1122 : Eq (decode cL_law 1122) (Except.ok (Instr.goto 69, 3)) := fE fw_dL_law_1108_c 10 rfl
theorem dL_law_1125 : Eq (decode cL_law 1125) (Except.ok (Instr.aload_n 1, 1)) := fE fw_dL_law_1108_c 11 rfl
theorem dL_law_1126 : Eq (decode cL_law 1126) (Except.ok (Instr.aload_n 0, 1)) := fE fw_dL_law_1108_c 12 rfl
theorem dL_law_1127 : Eq (decode cL_law 1127) (Except.ok (Instr.iload_n 3, 1)) := fE fw_dL_law_1108_c 13 rfl
theorem dL_law_1128 : Eq (decode cL_law 1128) (Except.ok (Instr.iconst 1, 1)) := fE fw_dL_law_1108_c 14 rfl
theorem dL_law_1129 : Eq (decode cL_law 1129) (Except.ok (Instr.iadd, 1)) := fE fw_dL_law_1108_c 15 rfl
theorem dL_law_1130 : Eq (decode cL_law 1130) (Except.ok (Instr.iaload, 1)) := fE fw_dL_law_1108_c 16 rfl
theorem dL_law_1131 : Eq (decode cL_law 1131) (Except.ok (Instr.aload_n 0, 1)) := fE fw_dL_law_1108_c 17 rfl
theorem dL_law_1132 : Eq (decode cL_law 1132) (Except.ok (Instr.iload_n 3, 1)) := fE fw_dL_law_1108_c 18 rfl
theorem dL_law_1133 : Eq (decode cL_law 1133) (Except.ok (Instr.iconst 2, 1)) := fE fw_dL_law_1108_c 19 rfl
def fw_dL_law_1134 : List (Nat × Instr × Nat) := [(1134, .iadd, 1), (1135, .iaload, 1), (1136, .aload_n 0, 1), (1137, .iload_n 3, 1), (1138, .iconst 3, 1), (1139, .iadd, 1), (1140, .iaload, 1), (1141, .invokevirtual 147, 3), (1144, .pop, 1), (1145, .aload_n 2, 1), (1146, .aload_n 0, 1), (1147, .iload_n 3, 1), (1148, .iconst 1, 1), (1149, .iadd, 1), (1150, .iaload, 1), (1151, .aload_n 0, 1), (1152, .iload_n 3, 1), (1153, .iconst 2, 1), (1154, .iadd, 1), (1155, .iaload, 1)]
theorem fw_dL_law_1134_c : fchk 1134 (cL_law.data.toList.drop 1134) fw_dL_law_1134 = true := by decide +kernel
theorem dL_law_1134 : Eq (decode cL_law 1134) (Except.ok (Instr.iadd, 1)) := fE fw_dL_law_1134_c 0 rfl
theorem dL_law_1135 : Eq (decode cL_law 1135) (Except.ok (Instr.iaload, 1)) := fE fw_dL_law_1134_c 1 rfl
theorem dL_law_1136 : Eq (decode cL_law 1136) (Except.ok (Instr.aload_n 0, 1)) := fE fw_dL_law_1134_c 2 rfl
theorem dL_law_1137 : Eq (decode cL_law 1137) (Except.ok (Instr.iload_n 3, 1)) := fE fw_dL_law_1134_c 3 rfl
theorem dL_law_1138 : Eq (decode cL_law 1138) (Except.ok (Instr.iconst 3, 1)) := fE fw_dL_law_1134_c 4 rfl
theorem dL_law_1139 : Eq (decode cL_law 1139) (Except.ok (Instr.iadd, 1)) := fE fw_dL_law_1134_c 5 rfl
theorem dL_law_1140 : Eq (decode cL_law 1140) (Except.ok (Instr.iaload, 1)) := fE fw_dL_law_1134_c 6 rfl
theorem dL_law_1141 : Eq (decode cL_law 1141) (Except.ok (Instr.invokevirtual 147, 3)) := fE fw_dL_law_1134_c 7 rfl
theorem dL_law_1144 : Eq (decode cL_law 1144) (Except.ok (Instr.pop, 1)) := fE fw_dL_law_1134_c 8 rfl
theorem dL_law_1145 : Eq (decode cL_law 1145) (Except.ok (Instr.aload_n 2, 1)) := fE fw_dL_law_1134_c 9 rfl
theorem dL_law_1146 : Eq (decode cL_law 1146) (Except.ok (Instr.aload_n 0, 1)) := fE fw_dL_law_1134_c 10 rfl
theorem dL_law_1147 : Eq (decode cL_law 1147) (Except.ok (Instr.iload_n 3, 1)) := fE fw_dL_law_1134_c 11 rfl
theorem dL_law_1148 : Eq (decode cL_law 1148) (Except.ok (Instr.iconst 1, 1)) := fE fw_dL_law_1134_c 12 rfl
theorem dL_law_1149 : Eq (decode cL_law 1149) (Except.ok (Instr.iadd, 1)) := fE fw_dL_law_1134_c 13 rfl
theorem dL_law_1150 : Eq (decode cL_law 1150) (Except.ok (Instr.iaload, 1)) := fE fw_dL_law_1134_c 14 rfl
theorem dL_law_1151 : Eq (decode cL_law 1151) (Except.ok (Instr.aload_n 0, 1)) := fE fw_dL_law_1134_c 15 rfl
theorem dL_law_1152 : Eq (decode cL_law 1152) (Except.ok (Instr.iload_n 3, 1)) := fE fw_dL_law_1134_c 16 rfl
theorem dL_law_1153 : Eq (decode cL_law 1153) (Except.ok (Instr.iconst 2, 1)) := fE fw_dL_law_1134_c 17 rfl
theorem dL_law_1154 : Eq (decode cL_law 1154) (Except.ok (Instr.iadd, 1)) := fE fw_dL_law_1134_c 18 rfl
theorem dL_law_1155 : Eq (decode cL_law 1155) (Except.ok (Instr.iaload, 1)) := fE fw_dL_law_1134_c 19 rfl
def fw_dL_law_1156 : List (Nat × Instr × Nat) := [(1156, .aload_n 0, 1), (1157, .iload_n 3, 1), (1158, .iconst 3, 1), (1159, .iadd, 1), (1160, .iaload, 1), (1161, .invokevirtual 150, 3), (1164, .pop, 1), (1165, .goto 26, 3), (1168, .aload_n 1, 1), (1169, .aload_n 0, 1), (1170, .iload_n 3, 1), (1171, .iconst 1, 1), (1172, .iadd, 1), (1173, .iaload, 1), (1174, .invokevirtual 151, 3), (1177, .pop, 1), (1178, .aload_n 2, 1), (1179, .aload_n 0, 1), (1180, .iload_n 3, 1), (1181, .iconst 1, 1)]
theorem fw_dL_law_1156_c : fchk 1156 (cL_law.data.toList.drop 1156) fw_dL_law_1156 = true := by decide +kernel
theorem dL_law_1156 : Eq (decode cL_law 1156) (Except.ok (Instr.aload_n 0, 1)) := fE fw_dL_law_1156_c 0 rfl
theorem dL_law_1157 : Eq (decode cL_law 1157) (Except.ok (Instr.iload_n 3, 1)) := fE fw_dL_law_1156_c 1 rfl
theorem dL_law_1158 : Eq (decode cL_law 1158) (Except.ok (Instr.iconst 3, 1)) := fE fw_dL_law_1156_c 2 rfl
theorem dL_law_1159 : Eq (decode cL_law 1159) (Except.ok (Instr.iadd, 1)) := fE fw_dL_law_1156_c 3 rfl
theorem dL_law_1160 : Eq (decode cL_law 1160) (Except.ok (Instr.iaload, 1)) := fE fw_dL_law_1156_c 4 rfl
theorem dL_law_1161 : Eq (decode cL_law 1161) (Except.ok (Instr.invokevirtual 150, 3)) := fE fw_dL_law_1156_c 5 rfl
theorem dL_law_1164 : Eq (decode cL_law 1164) (Except.ok (Instr.pop, 1)) := fE fw_dL_law_1156_c 6 rfl
theorem dL_law_1165 : Eq (decode cL_law 1165) (Except.ok (Instr.goto 26, 3)) := fE fw_dL_law_1156_c 7 rfl
theorem dL_law_1168 : Eq (decode cL_law 1168) (Except.ok (Instr.aload_n 1, 1)) := fE fw_dL_law_1156_c 8 rfl
theorem dL_law_1169 : Eq (decode cL_law 1169) (Except.ok (Instr.aload_n 0, 1)) := fE fw_dL_law_1156_c 9 rfl
theorem dL_law_1170 : Eq (decode cL_law 1170) (Except.ok (Instr.iload_n 3, 1)) := fE fw_dL_law_1156_c 10 rfl
theorem dL_law_1171 : Eq (decode cL_law 1171) (Except.ok (Instr.iconst 1, 1)) := fE fw_dL_law_1156_c 11 rfl
theorem dL_law_1172 : Eq (decode cL_law 1172) (Except.ok (Instr.iadd, 1)) := fE fw_dL_law_1156_c 12 rfl
theorem dL_law_1173 : Eq (decode cL_law 1173) (Except.ok (Instr.iaload, 1)) := fE fw_dL_law_1156_c 13 rfl
theorem dL_law_1174 : Eq (decode cL_law 1174) (Except.ok (Instr.invokevirtual 151, 3)) := fE fw_dL_law_1156_c 14 rfl
theorem dL_law_1177 : Eq (decode cL_law 1177) (Except.ok (Instr.pop, 1)) := fE fw_dL_law_1156_c 15 rfl
theorem dL_law_1178 : Eq (decode cL_law 1178) (Except.ok (Instr.aload_n 2, 1)) := fE fw_dL_law_1156_c 16 rfl
theorem dL_law_1179 : Eq (decode cL_law 1179) (Except.ok (Instr.aload_n 0, 1)) := fE fw_dL_law_1156_c 17 rfl
theorem dL_law_1180 : Eq (decode cL_law 1180) (Except.ok (Instr.iload_n 3, 1)) := fE fw_dL_law_1156_c 18 rfl
theorem dL_law_1181 : Eq (decode cL_law 1181) (Except.ok (Instr.iconst 1, 1)) := fE fw_dL_law_1156_c 19 rfl
def fw_dL_law_1182 : List (Nat × Instr × Nat) := [(1182, .iadd, 1), (1183, .iaload, 1), (1184, .invokevirtual 154, 3), (1187, .pop, 1), (1188, .goto 3, 3)]
theorem fw_dL_law_1182_c : fchk 1182 (cL_law.data.toList.drop 1182) fw_dL_law_1182 = true := by decide +kernel
theorem dL_law_1182 : Eq (decode cL_law 1182) (Except.ok (Instr.iadd, 1)) := fE fw_dL_law_1182_c 0 rfl
theorem dL_law_1183 : Eq (decode cL_law 1183) (Except.ok (Instr.iaload, 1)) := fE fw_dL_law_1182_c 1 rfl
theorem dL_law_1184 : Eq (decode cL_law 1184) (Except.ok (Instr.invokevirtual 154, 3)) := fE fw_dL_law_1182_c 2 rfl
theorem dL_law_1187 : Eq (decode cL_law 1187) (Except.ok (Instr.pop, 1)) := fE fw_dL_law_1182_c 3 rfl
theorem dL_law_1188 : Eq (decode cL_law 1188) (Except.ok (Instr.goto 3, 3)) := fE fw_dL_law_1182_c 4 rfl
theorem dL_law_1191 : decode cL_law 1191 = .ok (.iinc 3 6, 3) := by decide +kernel
def fw_dL_law_1194 : List (Nat × Instr × Nat) := [(1194, .goto (-1176), 3), (1197, .iconst 1, 1), (1198, .ireturn, 1)]
theorem fw_dL_law_1194_c : fchk 1194 (cL_law.data.toList.drop 1194) fw_dL_law_1194 = true := by decide +kernel
theorem dL_law_1194 : Eq (decode cL_law 1194) (Except.ok (Instr.goto (-1176), 3)) := fE fw_dL_law_1194_c 0 rfl
theorem dL_law_1197 : Eq (decode cL_law 1197) (Except.ok (Instr.iconst 1, 1)) := fE fw_dL_law_1194_c 1 rfl
theorem dL_law_1198 : Eq (decode cL_law 1198) (Except.ok (Instr.ireturn, 1)) := fE fw_dL_law_1194_c 2 rfl
