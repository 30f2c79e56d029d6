set_option maxRecDepth 20000 in
theorem wsL_law_in_r8 : ∀ w ∈ wsL_law_r8, w ∈ lw_tbl := fun w h => (goodIn_p wsL_law_r8 [381, 385, 155, 159, 389, 163] rfl (by decide +kernel) w h).1
set_option maxRecDepth 20000 in
theorem wsL_law_in_r9 : ∀ w ∈ wsL_law_r9, w ∈ lw_tbl := fun w h => (goodIn_p wsL_law_r9 [393, 168, 172, 176, 180, 184] rfl (by decide +kernel) w h).1
set_option maxRecDepth 20000 in
theorem wsL_law_in_r10 : ∀ w ∈ wsL_law_r10, w ∈ lw_tbl := fun w h => (goodIn_p wsL_law_r10 [188, 192, 397, 402, 196] rfl (by decide +kernel) w h).1
set_option maxRecDepth 20000 in
theorem wsL_law_in_r11 : ∀ w ∈ wsL_law_r11, w ∈ lw_tbl := fun w h => (goodIn_p wsL_law_r11 [407, 200, 411, 204, 208, 211, 216] rfl (by decide +kernel) w h).1
set_option maxRecDepth 20000 in
theorem wsL_law_in_r12 : ∀ w ∈ wsL_law_r12, w ∈ lw_tbl := fun w h => (goodIn_p wsL_law_r12 [221, 226, 230, 415, 419] rfl (by decide +kernel) w h).1
set_option maxRecDepth 20000 in
theorem wsL_law_in_r13 : ∀ w ∈ wsL_law_r13, w ∈ lw_tbl := fun w h => (goodIn_p wsL_law_r13 [423, 427, 430, 234, 238, 434, 242] rfl (by decide +kernel) w h).1
set_option maxRecDepth 20000 in
theorem wsL_law_in_r14 : ∀ w ∈ wsL_law_r14, w ∈ lw_tbl := fun w h => (goodIn_p wsL_law_r14 [246, 250, 253, 438] rfl (by decide +kernel) w h).1
theorem wsL_law_in_x1 : ∀ w ∈ wsX10, w ∈ lw_tbl := fun w h => (goodIn_p wsX10 [] rfl (by decide +kernel) w h).1
theorem wsL_law_in_x3 : ∀ w ∈ wsX30, w ∈ lw_tbl := fun w h => (goodIn_p wsX30 [] rfl (by decide +kernel) w h).1
theorem wsL_law_in_x0 : ∀ w ∈ wsX00, w ∈ lw_tbl := fun w h => (goodIn_p wsX00 [] rfl (by decide +kernel) w h).1
theorem wsL_law_in_x2 : ∀ w ∈ wsX20, w ∈ lw_tbl := fun w h => (goodIn_p wsX20 [] rfl (by decide +kernel) w h).1
theorem wsL_law_in : ∀ w ∈ wsL_law, w ∈ lw_tbl := by
  intro w h
  rcases List.mem_append.mp h with h | h
  · rcases List.mem_append.mp h with h | h
    · rcases List.mem_append.mp h with h | h
      · rcases List.mem_append.mp h with h | h
        · rcases List.mem_append.mp h with h | h
          · refine (List.mem_append.mp h).elim (fun h => wsL_law_in_r1 w h) (fun h => ?_)
            refine (List.mem_append.mp h).elim (fun h => wsL_law_in_r2 w h) (fun h => ?_)
            refine (List.mem_append.mp h).elim (fun h => wsL_law_in_r3 w h) (fun h => ?_)
            refine (List.mem_append.mp h).elim (fun h => wsL_law_in_r4 w h) (fun h => ?_)
            refine (List.mem_append.mp h).elim (fun h => wsL_law_in_r5 w h) (fun h => ?_)
            refine (List.mem_append.mp h).elim (fun h => wsL_law_in_r6 w h) (fun h => ?_)
            refine (List.mem_append.mp h).elim (fun h => wsL_law_in_r7 w h) (fun h => ?_)
            refine (List.mem_append.mp h).elim (fun h => wsL_law_in_r8 w h) (fun h => ?_)
            refine (List.mem_append.mp h).elim (fun h => wsL_law_in_r9 w h) (fun h => ?_)
            refine (List.mem_append.mp h).elim (fun h => wsL_law_in_r10 w h) (fun h => ?_)
            refine (List.mem_append.mp h).elim (fun h => wsL_law_in_r11 w h) (fun h => ?_)
            refine (List.mem_append.mp h).elim (fun h => wsL_law_in_r12 w h) (fun h => ?_)
            refine (List.mem_append.mp h).elim (fun h => wsL_law_in_r13 w h) (fun h => ?_)
            exact wsL_law_in_r14 w h
          · exact wsL_law_in_x1 w h
        · exact wsL_law_in_x3 w h
      · exact wsL_law_in_x0 w h
    · exact wsL_law_in_x2 w h
  · cases h
