set_option maxRecDepth 20000 in
theorem in_wsL_law0_r13 : ∀ w ∈ wsL_law0_r13, w ∈ lw_tbl := by decide +kernel
set_option maxRecDepth 20000 in
theorem in_wsL_law0_r14 : ∀ w ∈ wsL_law0_r14, w ∈ lw_tbl := by decide +kernel
set_option maxRecDepth 20000 in
theorem in_wsL_law0_r15 : ∀ w ∈ wsL_law0_r15, w ∈ lw_tbl := by decide +kernel
theorem in_isSame : Cond.code yX1_isSame cX1_isSame 20 (some .boolean) ∈ lw_tbl := List.mem_of_getElem? (i := 421) (by rfl)
set_option maxRecDepth 20000 in
theorem in_r16a : ∀ w ∈ [Cond.methodLink RL 158 yX0_longestThread, Cond.instanceMethod yX0_longestThread, Cond.selects RX0 yX0_longestThread yX0_longestThread, Cond.code yX0_longestThread cX0_longestThread 5 (some .int), Cond.methodLink RL 161 yX0_meanStrain, Cond.instanceMethod yX0_meanStrain, Cond.selects RX0 yX0_meanStrain yX0_meanStrain, Cond.code yX0_meanStrain cX0_meanStrain 4 (some .double), Cond.methodLink RL 165 yX0_patience, Cond.instanceMethod yX0_patience, Cond.selects RX0 yX0_patience yX0_patience, Cond.code yX0_patience cX0_patience 1 (some .int), Cond.methodLink RL 167 yX1_isSame, Cond.instanceMethod yX1_isSame, Cond.selects RX1 yX1_isSame yX1_isSame], w ∈ lw_tbl := by decide +kernel
set_option maxRecDepth 20000 in
theorem in_r16b : ∀ w ∈ [Cond.fieldLink RX1 45 "SplicedTalkLaw$Sim" "spent" "I", Cond.classLink RX1 82 "[[I", Cond.methodLink RX1 52 yX0_remarks, Cond.methodLink RX1 58 yX0_words, Cond.methodLink RX1 60 yX0_coughs, Cond.methodLink RX1 63 yX0_patience, Cond.methodLink RX1 65 yX0_spent, Cond.instanceMethod yX0_spent], w ∈ lw_tbl := by decide +kernel
theorem in_wsL_law0_r16 : ∀ w ∈ wsL_law0_r16, w ∈ lw_tbl := fun w h => (List.mem_append.mp (show w ∈ [Cond.methodLink RL 158 yX0_longestThread, Cond.instanceMethod yX0_longestThread, Cond.selects RX0 yX0_longestThread yX0_longestThread, Cond.code yX0_longestThread cX0_longestThread 5 (some .int), Cond.methodLink RL 161 yX0_meanStrain, Cond.instanceMethod yX0_meanStrain, Cond.selects RX0 yX0_meanStrain yX0_meanStrain, Cond.code yX0_meanStrain cX0_meanStrain 4 (some .double), Cond.methodLink RL 165 yX0_patience, Cond.instanceMethod yX0_patience, Cond.selects RX0 yX0_patience yX0_patience, Cond.code yX0_patience cX0_patience 1 (some .int), Cond.methodLink RL 167 yX1_isSame, Cond.instanceMethod yX1_isSame, Cond.selects RX1 yX1_isSame yX1_isSame] ++ (Cond.code yX1_isSame cX1_isSame 20 (some .boolean) :: [Cond.fieldLink RX1 45 "SplicedTalkLaw$Sim" "spent" "I", Cond.classLink RX1 82 "[[I", Cond.methodLink RX1 52 yX0_remarks, Cond.methodLink RX1 58 yX0_words, Cond.methodLink RX1 60 yX0_coughs, Cond.methodLink RX1 63 yX0_patience, Cond.methodLink RX1 65 yX0_spent, Cond.instanceMethod yX0_spent]) from h)).elim (in_r16a w) (fun h => (List.mem_cons.mp h).elim (fun e => e ▸ in_isSame) (in_r16b w))
set_option maxRecDepth 20000 in
theorem in_wsL_law0_r17 : ∀ w ∈ wsL_law0_r17, w ∈ lw_tbl := by decide +kernel
set_option maxRecDepth 20000 in
theorem in_wsL_law0_r18 : ∀ w ∈ wsL_law0_r18, w ∈ lw_tbl := by decide +kernel
