set_option maxRecDepth 20000 in
theorem wsL_in25_0 : ∀ w ∈ ([Cond.selects RX3 yX3_at yX3_at, Cond.code yX3_at cX3_at 2 (some .int), Cond.methodLink RL 100 yX6_written, Cond.instanceMethod yX6_written, Cond.selects RX6 yX6_written yX6_written] : List Cond), w ∈ lw_tbl := by decide +kernel
set_option maxRecDepth 20000 in
theorem wsL_in25_1 : ∀ w ∈ ([Cond.code yX6_written cX6_written 2 (some .int), Cond.methodLink RL 103 yX5_type, Cond.instanceMethod yX5_type, Cond.selects RX5 yX5_type yX5_type, Cond.code yX5_type cX5_type 4 (some .int)] : List Cond), w ∈ lw_tbl := by decide +kernel
set_option maxRecDepth 20000 in
theorem wsL_in25_2 : ∀ w ∈ ([Cond.fieldLink RX5 172 "IntFile$Tape" "count" "I", Cond.methodLink RX5 165 yX2_hasRoomFor, Cond.instanceMethod yX2_hasRoomFor, Cond.selects RX2 yX2_hasRoomFor yX2_hasRoomFor, Cond.code yX2_hasRoomFor cX2_hasRoomFor 2 (some .boolean)] : List Cond), w ∈ lw_tbl := by decide +kernel
set_option maxRecDepth 20000 in
theorem wsL_in25_3 : ∀ w ∈ ([Cond.methodLink RX5 168 yX2_append, Cond.instanceMethod yX2_append, Cond.selects RX2 yX2_append yX2_append, Cond.code yX2_append cX2_append 5 none, Cond.methodLink RL 107 yX6_type] : List Cond), w ∈ lw_tbl := by decide +kernel
set_option maxRecDepth 20000 in
theorem wsL_in25_4 : ∀ w ∈ ([Cond.instanceMethod yX6_type, Cond.selects RX6 yX6_type yX6_type, Cond.code yX6_type cX6_type 5 (some .int), Cond.fieldLink RX6 105 "IntFileModel" "typed" "I"] : List Cond), w ∈ lw_tbl := by decide +kernel
theorem wsL_in25 : ∀ w ∈ wsL_law_r25, w ∈ lw_tbl := by
  have h := (wsL_app wsL_in25_0 (wsL_app wsL_in25_1 (wsL_app wsL_in25_2 (wsL_app wsL_in25_3 wsL_in25_4))))
  exact h
set_option maxRecDepth 20000 in
theorem wsL_in26_0 : ∀ w ∈ ([Cond.methodLink RL 108 yX5_read, Cond.instanceMethod yX5_read, Cond.selects RX5 yX5_read yX5_read, Cond.code yX5_read cX5_read 3 (some .int), Cond.methodLink RX5 173 yX2_firstWrongPlace] : List Cond), w ∈ lw_tbl := by decide +kernel
set_option maxRecDepth 20000 in
theorem wsL_in26_1 : ∀ w ∈ ([Cond.instanceMethod yX2_firstWrongPlace, Cond.selects RX2 yX2_firstWrongPlace yX2_firstWrongPlace, Cond.code yX2_firstWrongPlace cX2_firstWrongPlace 3 (some .int), Cond.methodLink RX2 17 yX2_digitsBegin, Cond.instanceMethod yX2_digitsBegin] : List Cond), w ∈ lw_tbl := by decide +kernel
set_option maxRecDepth 20000 in
theorem wsL_in26_2 : ∀ w ∈ ([Cond.selects RX2 yX2_digitsBegin yX2_digitsBegin, Cond.code yX2_digitsBegin cX2_digitsBegin 1 (some .int), Cond.methodLink RX5 176 yX2_spell, Cond.instanceMethod yX2_spell, Cond.selects RX2 yX2_spell yX2_spell] : List Cond), w ∈ lw_tbl := by decide +kernel
set_option maxRecDepth 20000 in
theorem wsL_in26_3 : ∀ w ∈ ([Cond.code yX2_spell cX2_spell 6 none, Cond.fieldLink RX2 27 "IntFile$Whole" "count" "I", Cond.fieldLink RX2 38 "IntFile$Whole" "below" "Z", Cond.methodLink RX2 21 yX4_becomeInt, Cond.methodLink RX2 30 yX4_scaleAndAdd] : List Cond), w ∈ lw_tbl := by decide +kernel
set_option maxRecDepth 20000 in
theorem wsL_in26_4 : ∀ w ∈ ([Cond.methodLink RX2 34 yX4_isZero, Cond.methodLink RL 111 yX6_read, Cond.instanceMethod yX6_read, Cond.selects RX6 yX6_read yX6_read] : List Cond), w ∈ lw_tbl := by decide +kernel
theorem wsL_in26 : ∀ w ∈ wsL_law_r26, w ∈ lw_tbl := by
  have h := (wsL_app wsL_in26_0 (wsL_app wsL_in26_1 (wsL_app wsL_in26_2 (wsL_app wsL_in26_3 wsL_in26_4))))
  exact h
set_option maxRecDepth 20000 in
theorem wsL_in27_0 : ∀ w ∈ ([Cond.code yX6_read cX6_read 5 (some .int), Cond.constantLong RX6 108 (10)] : List Cond), w ∈ lw_tbl := by decide +kernel
theorem wsL_in27 : ∀ w ∈ wsL_law_r27, w ∈ lw_tbl := by
  have h := wsL_in27_0
  exact h
set_option maxRecDepth 20000 in
theorem wsL_in_wsX50 : ∀ w ∈ wsX50, w ∈ lw_tbl := by decide +kernel
set_option maxRecDepth 20000 in
theorem wsL_in_wsX60 : ∀ w ∈ wsX60, w ∈ lw_tbl := by decide +kernel
set_option maxRecDepth 20000 in
theorem wsL_in_wsX40 : ∀ w ∈ wsX40, w ∈ lw_tbl := by decide +kernel
set_option maxRecDepth 20000 in
theorem wsL_in_wsX10 : ∀ w ∈ wsX10, w ∈ lw_tbl := by decide +kernel
set_option maxRecDepth 20000 in
theorem wsL_in_wsX00 : ∀ w ∈ wsX00, w ∈ lw_tbl := by decide +kernel
set_option maxRecDepth 20000 in
theorem wsL_in_wsX30 : ∀ w ∈ wsX30, w ∈ lw_tbl := by decide +kernel
set_option maxRecDepth 20000 in
theorem wsL_in_wsX20 : ∀ w ∈ wsX20, w ∈ lw_tbl := by decide +kernel
theorem wsL_law_in : ∀ w ∈ wsL_law, w ∈ lw_tbl := (List.forall_mem_append.mpr ⟨(List.forall_mem_append.mpr ⟨(List.forall_mem_append.mpr ⟨(List.forall_mem_append.mpr ⟨(List.forall_mem_append.mpr ⟨(List.forall_mem_append.mpr ⟨(List.forall_mem_append.mpr ⟨(List.forall_mem_append.mpr ⟨(List.forall_mem_append.mpr ⟨wsL_in1, (List.forall_mem_append.mpr ⟨wsL_in2, (List.forall_mem_append.mpr ⟨wsL_in3, (List.forall_mem_append.mpr ⟨wsL_in4, (List.forall_mem_append.mpr ⟨wsL_in5, (List.forall_mem_append.mpr ⟨wsL_in6, (List.forall_mem_append.mpr ⟨wsL_in7, (List.forall_mem_append.mpr ⟨wsL_in8, (List.forall_mem_append.mpr ⟨wsL_in9, (List.forall_mem_append.mpr ⟨wsL_in10, (List.forall_mem_append.mpr ⟨wsL_in11, (List.forall_mem_append.mpr ⟨wsL_in12, (List.forall_mem_append.mpr ⟨wsL_in13, (List.forall_mem_append.mpr ⟨wsL_in14, (List.forall_mem_append.mpr ⟨wsL_in15, (List.forall_mem_append.mpr ⟨wsL_in16, (List.forall_mem_append.mpr ⟨wsL_in17, (List.forall_mem_append.mpr ⟨wsL_in18, (List.forall_mem_append.mpr ⟨wsL_in19, (List.forall_mem_append.mpr ⟨wsL_in20, (List.forall_mem_append.mpr ⟨wsL_in21, (List.forall_mem_append.mpr ⟨wsL_in22, (List.forall_mem_append.mpr ⟨wsL_in23, (List.forall_mem_append.mpr ⟨wsL_in24, (List.forall_mem_append.mpr ⟨wsL_in25, (List.forall_mem_append.mpr ⟨wsL_in26, wsL_in27⟩)⟩)⟩)⟩)⟩)⟩)⟩)⟩)⟩)⟩)⟩)⟩)⟩)⟩)⟩)⟩)⟩)⟩)⟩)⟩)⟩)⟩)⟩)⟩)⟩)⟩), wsL_in_wsX50⟩), wsL_in_wsX60⟩), wsL_in_wsX40⟩), wsL_in_wsX10⟩), wsL_in_wsX00⟩), wsL_in_wsX30⟩), wsL_in_wsX20⟩), fun _ h => absurd h List.not_mem_nil⟩)
theorem inlX0 : ∀ w ∈ wsX00, w ∈ wsL_law := fun _ h => List.mem_append_left _ (List.mem_append_left _ (List.mem_append_left _ (List.mem_append_right _ h)))
theorem inX0 : ∀ w ∈ wsX00, w ∈ lw_tbl := fun w h => wsL_law_in w (inlX0 w h)
theorem inlX1 : ∀ w ∈ wsX10, w ∈ wsL_law := fun _ h => List.mem_append_left _ (List.mem_append_left _ (List.mem_append_left _ (List.mem_append_left _ (List.mem_append_right _ h))))
theorem inX1 : ∀ w ∈ wsX10, w ∈ lw_tbl := fun w h => wsL_law_in w (inlX1 w h)
theorem inlX2 : ∀ w ∈ wsX20, w ∈ wsL_law := fun _ h => List.mem_append_left _ (List.mem_append_right _ h)
theorem inX2 : ∀ w ∈ wsX20, w ∈ lw_tbl := fun w h => wsL_law_in w (inlX2 w h)
theorem inlX3 : ∀ w ∈ wsX30, w ∈ wsL_law := fun _ h => List.mem_append_left _ (List.mem_append_left _ (List.mem_append_right _ h))
theorem inX3 : ∀ w ∈ wsX30, w ∈ lw_tbl := fun w h => wsL_law_in w (inlX3 w h)
theorem inlX4 : ∀ w ∈ wsX40, w ∈ wsL_law := fun _ h => List.mem_append_left _ (List.mem_append_left _ (List.mem_append_left _ (List.mem_append_left _ (List.mem_append_left _ (List.mem_append_right _ h)))))
theorem inX4 : ∀ w ∈ wsX40, w ∈ lw_tbl := fun w h => wsL_law_in w (inlX4 w h)
theorem inlX5 : ∀ w ∈ wsX50, w ∈ wsL_law := fun _ h => List.mem_append_left _ (List.mem_append_left _ (List.mem_append_left _ (List.mem_append_left _ (List.mem_append_left _ (List.mem_append_left _ (List.mem_append_left _ (List.mem_append_right _ h)))))))
theorem inX5 : ∀ w ∈ wsX50, w ∈ lw_tbl := fun w h => wsL_law_in w (inlX5 w h)
theorem inlX6 : ∀ w ∈ wsX60, w ∈ wsL_law := fun _ h => List.mem_append_left _ (List.mem_append_left _ (List.mem_append_left _ (List.mem_append_left _ (List.mem_append_left _ (List.mem_append_left _ (List.mem_append_right _ h))))))
theorem inX6 : ∀ w ∈ wsX60, w ∈ lw_tbl := fun w h => wsL_law_in w (inlX6 w h)
