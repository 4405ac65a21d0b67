/-! ===== the law's words ===== -/
def wsL_law : List Cond := wsL_law0 ++ va_wsS RL 176 yL_out wsOL
set_option maxRecDepth 100000 in
theorem wsL_law_x0 : ∀ w ∈ va_wsS RL 176 yL_out wsOL, w ∈ lw_tbl := by decide +kernel
theorem wsL_law_in : ∀ w ∈ wsL_law, w ∈ lw_tbl := fun w h => (List.mem_append.mp h).elim (fun h => wsL_law_in0 w h) (fun h => wsL_law_x0 w h)
set_option maxRecDepth 100000 in
theorem gO_law : GoodIn (va_wsS RL 176 yL_out wsOL) (va_wsS RL 176 yL_out wsOL) := goodIn_of _ (by decide +kernel)
theorem gL_law_L_out : GoodIn wsL_law (va_wsS RL 176 yL_out wsOL) := fun w h => ⟨List.mem_append_right _ h, (gO_law w h).2⟩
