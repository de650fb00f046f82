/-! all the law's words -/
theorem wq_law0 : ∀ w ∈ wsL_law0, w ∈ lw_tbl := by
  unfold wsL_law0
  simp only [List.forall_mem_append]
  exact ⟨⟨⟨⟨⟨⟨⟨⟨⟨⟨⟨⟨⟨wq_wsL_law0_r1, ⟨wq_wsL_law0_r2, ⟨wq_wsL_law0_r3, ⟨wq_wsL_law0_r4, ⟨wq_wsL_law0_r5, ⟨wq_wsL_law0_r6, ⟨wq_wsL_law0_r7, ⟨wq_wsL_law0_r8, ⟨wq_wsL_law0_r9, ⟨wq_wsL_law0_r10, ⟨wq_wsL_law0_r11, ⟨wq_wsL_law0_r12, ⟨wq_wsL_law0_r13, ⟨wq_wsL_law0_r14, ⟨wq_wsL_law0_r15, ⟨wq_wsL_law0_r16, ⟨wq_wsL_law0_r17, ⟨wq_wsL_law0_r18, ⟨wq_wsL_law0_r19, ⟨wq_wsL_law0_r20, ⟨wq_wsL_law0_r21, ⟨wq_wsL_law0_r22, wq_wsL_law0_r23⟩⟩⟩⟩⟩⟩⟩⟩⟩⟩⟩⟩⟩⟩⟩⟩⟩⟩⟩⟩⟩⟩, wq_wsX100⟩, wq_wsX30⟩, wq_wsX80⟩, wq_wsX40⟩, wq_wsX50⟩, wq_wsX00⟩, wq_wsX60⟩, wq_wsX10⟩, wq_wsX90⟩, wq_wsX70⟩, wq_wsX20⟩, (fun _ h => absurd h List.not_mem_nil)⟩
theorem wq_law : ∀ w ∈ wsL_law, w ∈ lw_tbl := by
  unfold wsL_law
  simp only [List.forall_mem_append]
  exact ⟨⟨⟨wq_law0, wq_x0 (41, x_IA) (by simp [x_cls])⟩, wq_x0 (60, x_IS) (by simp [x_cls])⟩, wq_x0 (113, x_IX) (by simp [x_cls])⟩
