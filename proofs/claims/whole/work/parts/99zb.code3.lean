theorem okL_law_720 : mm_all ML_law (((ML_law.2.2.1.drop 720).take 120)) 720 = true := by decide +kernel
theorem okL_law_840 : mm_all ML_law (((ML_law.2.2.1.drop 840).take 120)) 840 = true := by decide +kernel
theorem okL_law_960 : mm_all ML_law ((ML_law.2.2.1.drop 960)) 960 = true := by decide +kernel
theorem okL_law : mm_ok ML_law = true := by
  unfold mm_ok
  refine mm_all_cut 120 _ _ okL_law_0 ?_
  refine mm_all_cut 120 _ _ okL_law_120 ?_
  rw [List.drop_drop]
  refine mm_all_cut 120 _ _ okL_law_240 ?_
  rw [List.drop_drop]
  refine mm_all_cut 120 _ _ okL_law_360 ?_
  rw [List.drop_drop]
  refine mm_all_cut 120 _ _ okL_law_480 ?_
  rw [List.drop_drop]
  refine mm_all_cut 120 _ _ okL_law_600 ?_
  rw [List.drop_drop]
  refine mm_all_cut 120 _ _ okL_law_720 ?_
  rw [List.drop_drop]
  refine mm_all_cut 120 _ _ okL_law_840 ?_
  rw [List.drop_drop]
  exact okL_law_960
theorem cmL_law : ∀ S ∈ ML_law.2.2.2.1, mm_cw S ∈ lw_tbl := (List.forall_mem_cons.mpr ⟨cwX5_init, (List.forall_mem_cons.mpr ⟨cwX6_init, (List.forall_mem_cons.mpr ⟨cwL_grant, (List.forall_mem_cons.mpr ⟨cwX6_grant, (List.forall_mem_cons.mpr ⟨cwX6_thrown, (List.forall_mem_cons.mpr ⟨cwL_join, (List.forall_mem_cons.mpr ⟨cwX6_join, (List.forall_mem_cons.mpr ⟨cwL_feed, (List.forall_mem_cons.mpr ⟨cwX6_feed, (List.forall_mem_cons.mpr ⟨cwL_open, (List.forall_mem_cons.mpr ⟨cwX6_open, (List.forall_mem_cons.mpr ⟨cwL_write, (List.forall_mem_cons.mpr ⟨cwX6_write, (List.forall_mem_cons.mpr ⟨cwL_finish, (List.forall_mem_cons.mpr ⟨cwX6_finish, (List.forall_mem_cons.mpr ⟨cwL_reset, (List.forall_mem_cons.mpr ⟨cwX6_reset, (List.forall_mem_cons.mpr ⟨cwL_stop, (List.forall_mem_cons.mpr ⟨cwX6_stop, (List.forall_mem_cons.mpr ⟨cwL_read, (List.forall_mem_cons.mpr ⟨cwX6_read, (List.forall_mem_cons.mpr ⟨cwL_fill, (List.forall_mem_cons.mpr ⟨cwX6_fill, (List.forall_mem_cons.mpr ⟨cwL_deliver, (List.forall_mem_cons.mpr ⟨cwX6_deliver, (List.forall_mem_cons.mpr ⟨cwL_gone, (List.forall_mem_cons.mpr ⟨cwX6_gone, (List.forall_mem_cons.mpr ⟨cwL_take, (List.forall_mem_cons.mpr ⟨cwX6_take, (List.forall_mem_cons.mpr ⟨cwL_line, (List.forall_mem_cons.mpr ⟨cwX6_line, (List.forall_mem_cons.mpr ⟨cwL_data, (List.forall_mem_cons.mpr ⟨cwX6_data, (List.forall_mem_cons.mpr ⟨cwL_outs, (List.forall_mem_cons.mpr ⟨cwX6_outs, (List.forall_mem_cons.mpr ⟨cwL_stream, (List.forall_mem_cons.mpr ⟨cwX6_stream, (List.forall_mem_cons.mpr ⟨cwL_side, (List.forall_mem_cons.mpr ⟨cwX6_side, (fun _ h => absurd h List.not_mem_nil)⟩)⟩)⟩)⟩)⟩)⟩)⟩)⟩)⟩)⟩)⟩)⟩)⟩)⟩)⟩)⟩)⟩)⟩)⟩)⟩)⟩)⟩)⟩)⟩)⟩)⟩)⟩)⟩)⟩)⟩)⟩)⟩)⟩)⟩)⟩)⟩)⟩)⟩)⟩)
