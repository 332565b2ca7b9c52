set_option maxRecDepth 20000 in
theorem inr_1 : GoodIn lw_tbl wsL_law_r1 := goodIn_p wsL_law_r1 [43, 46] rfl (by decide +kernel)
set_option maxRecDepth 20000 in
theorem inr_2 : GoodIn lw_tbl wsL_law_r2 := goodIn_p wsL_law_r2 [51, 83, 102, 129] rfl (by decide +kernel)
set_option maxRecDepth 20000 in
theorem inr_3 : GoodIn lw_tbl wsL_law_r3 := goodIn_p wsL_law_r3 [133, 136, 139, 142, 145, 149] rfl (by decide +kernel)
set_option maxRecDepth 20000 in
theorem inr_4 : GoodIn lw_tbl wsL_law_r4 := goodIn_p wsL_law_r4 [152, 155, 158, 163, 167, 170, 174] rfl (by decide +kernel)
set_option maxRecDepth 20000 in
theorem inr_5 : GoodIn lw_tbl wsL_law_r5 := goodIn_p wsL_law_r5 [178, 406, 201] rfl (by decide +kernel)
set_option maxRecDepth 20000 in
theorem inr_6 : GoodIn lw_tbl wsL_law_r6 := goodIn_p wsL_law_r6 [204, 208, 461, 464, 468, 471, 475] rfl (by decide +kernel)
set_option maxRecDepth 20000 in
theorem inr_7 : GoodIn lw_tbl wsL_law_r7 := goodIn_p wsL_law_r7 [479, 482, 212, 486, 216] rfl (by decide +kernel)
set_option maxRecDepth 20000 in
theorem inr_8 : GoodIn lw_tbl wsL_law_r8 := goodIn_p wsL_law_r8 [220, 490, 224, 228, 232, 237] rfl (by decide +kernel)
set_option maxRecDepth 20000 in
theorem inr_9 : GoodIn lw_tbl wsL_law_r9 := goodIn_p wsL_law_r9 [242, 246, 251, 256, 260, 264] rfl (by decide +kernel)
set_option maxRecDepth 20000 in
theorem inr_10 : GoodIn lw_tbl wsL_law_r10 := goodIn_p wsL_law_r10 [494, 498, 502, 506, 510, 514] rfl (by decide +kernel)
set_option maxRecDepth 20000 in
theorem inr_11 : GoodIn lw_tbl wsL_law_r11 := goodIn_p wsL_law_r11 [518, 522, 268, 272, 276] rfl (by decide +kernel)
set_option maxRecDepth 20000 in
theorem inr_12 : GoodIn lw_tbl wsL_law_r12 := goodIn_p wsL_law_r12 [526, 530, 282, 534, 286] rfl (by decide +kernel)
set_option maxRecDepth 20000 in
theorem inr_13 : GoodIn lw_tbl wsL_law_r13 := goodIn_p wsL_law_r13 [538, 291, 542, 546, 550, 554] rfl (by decide +kernel)
set_option maxRecDepth 20000 in
theorem inr_14 : GoodIn lw_tbl wsL_law_r14 := goodIn_p wsL_law_r14 [296, 300, 306, 311, 316] rfl (by decide +kernel)
set_option maxRecDepth 20000 in
theorem inr_15 : GoodIn lw_tbl wsL_law_r15 := goodIn_p wsL_law_r15 [558, 565, 569, 320, 324] rfl (by decide +kernel)
set_option maxRecDepth 20000 in
theorem inr_16 : GoodIn lw_tbl wsL_law_r16 := goodIn_p wsL_law_r16 [328, 573, 577, 332, 581, 336] rfl (by decide +kernel)
set_option maxRecDepth 20000 in
theorem inr_17 : GoodIn lw_tbl wsL_law_r17 := goodIn_p wsL_law_r17 [340, 344, 585, 348, 352] rfl (by decide +kernel)
set_option maxRecDepth 20000 in
theorem inr_18 : GoodIn lw_tbl wsL_law_r18 := goodIn_p wsL_law_r18 [356, 363, 368, 373, 376] rfl (by decide +kernel)
set_option maxRecDepth 20000 in
theorem inr_19 : GoodIn lw_tbl wsL_law_r19 := goodIn_p wsL_law_r19 [589, 593, 597, 381] rfl (by decide +kernel)
set_option maxRecDepth 20000 in
theorem inr_20 : GoodIn lw_tbl wsL_law_r20 := goodIn_p wsL_law_r20 [385, 601, 389, 605, 393, 609] rfl (by decide +kernel)
set_option maxRecDepth 20000 in
theorem inr_21 : GoodIn lw_tbl wsL_law_r21 := goodIn_p wsL_law_r21 [397, 613, 401, 617] rfl (by decide +kernel)
set_option maxRecDepth 20000 in
theorem inr_wsX30 : GoodIn lw_tbl wsX30 := goodIn_p wsX30 [] rfl (by decide +kernel)
set_option maxRecDepth 20000 in
theorem inr_wsX40 : GoodIn lw_tbl wsX40 := goodIn_p wsX40 [] rfl (by decide +kernel)
set_option maxRecDepth 20000 in
theorem inr_wsX10 : GoodIn lw_tbl wsX10 := goodIn_p wsX10 [] rfl (by decide +kernel)
set_option maxRecDepth 20000 in
theorem inr_wsX20 : GoodIn lw_tbl wsX20 := goodIn_p wsX20 [] rfl (by decide +kernel)
set_option maxRecDepth 20000 in
theorem inr_wsX00 : GoodIn lw_tbl wsX00 := goodIn_p wsX00 [] rfl (by decide +kernel)
theorem wsL_law_good : GoodIn lw_tbl wsL_law := goodIn_app (goodIn_app (goodIn_app (goodIn_app (goodIn_app (goodIn_app ((goodIn_app inr_1 (goodIn_app inr_2 (goodIn_app inr_3 (goodIn_app inr_4 (goodIn_app inr_5 (goodIn_app inr_6 (goodIn_app inr_7 (goodIn_app inr_8 (goodIn_app inr_9 (goodIn_app inr_10 (goodIn_app inr_11 (goodIn_app inr_12 (goodIn_app inr_13 (goodIn_app inr_14 (goodIn_app inr_15 (goodIn_app inr_16 (goodIn_app inr_17 (goodIn_app inr_18 (goodIn_app inr_19 (goodIn_app inr_20 (inr_21)))))))))))))))))))))) inr_wsX30) inr_wsX40) inr_wsX10) inr_wsX20) inr_wsX00) (fun _ h => absurd h List.not_mem_nil)
theorem wsL_law_in : ∀ w ∈ wsL_law, w ∈ lw_tbl := fun w h => (wsL_law_good w h).1
theorem inlX0 : ∀ w ∈ wsX00, w ∈ wsL_law := fun _ h => List.mem_append_left _ (List.mem_append_right _ h)
theorem inX0 : ∀ w ∈ wsX00, w ∈ lw_tbl := fun w h => wsL_law_in w (inlX0 w h)
theorem inlX1 : ∀ w ∈ wsX10, w ∈ wsL_law := fun _ h => List.mem_append_left _ (List.mem_append_left _ (List.mem_append_left _ (List.mem_append_right _ h)))
theorem inX1 : ∀ w ∈ wsX10, w ∈ lw_tbl := fun w h => wsL_law_in w (inlX1 w h)
theorem inlX2 : ∀ w ∈ wsX20, w ∈ wsL_law := fun _ h => List.mem_append_left _ (List.mem_append_left _ (List.mem_append_right _ h))
theorem inX2 : ∀ w ∈ wsX20, w ∈ lw_tbl := fun w h => wsL_law_in w (inlX2 w h)
theorem inlX3 : ∀ w ∈ wsX30, w ∈ wsL_law := fun _ h => List.mem_append_left _ (List.mem_append_left _ (List.mem_append_left _ (List.mem_append_left _ (List.mem_append_left _ (List.mem_append_right _ h)))))
theorem inX3 : ∀ w ∈ wsX30, w ∈ lw_tbl := fun w h => wsL_law_in w (inlX3 w h)
theorem inlX4 : ∀ w ∈ wsX40, w ∈ wsL_law := fun _ h => List.mem_append_left _ (List.mem_append_left _ (List.mem_append_left _ (List.mem_append_left _ (List.mem_append_right _ h))))
theorem inX4 : ∀ w ∈ wsX40, w ∈ lw_tbl := fun w h => wsL_law_in w (inlX4 w h)
theorem inJ9 : ∀ w ∈ wsJ90, w ∈ lw_tbl := by decide +kernel
theorem inJ7 : ∀ w ∈ wsJ70, w ∈ lw_tbl := by decide +kernel
