/-! all of them -/
set_option maxRecDepth 20000 in
theorem inX5 : ∀ w ∈ wsX50, w ∈ lw_tbl := by decide +kernel
set_option maxRecDepth 20000 in
theorem inX6 : ∀ w ∈ wsX60, w ∈ lw_tbl := by decide +kernel
set_option maxRecDepth 20000 in
theorem inX4 : ∀ w ∈ wsX40, w ∈ lw_tbl := by decide +kernel
set_option maxRecDepth 20000 in
theorem inX1 : ∀ w ∈ wsX10, w ∈ lw_tbl := by decide +kernel
set_option maxRecDepth 20000 in
theorem inX2 : ∀ w ∈ wsX20, w ∈ lw_tbl := by decide +kernel
set_option maxRecDepth 20000 in
theorem inX0 : ∀ w ∈ wsX00, w ∈ lw_tbl := by decide +kernel
set_option maxRecDepth 20000 in
theorem inX3 : ∀ w ∈ wsX30, w ∈ lw_tbl := by decide +kernel
theorem wsL0_in : ∀ w ∈ wsL_law0, w ∈ lw_tbl := List.forall_mem_append.mpr ⟨List.forall_mem_append.mpr ⟨List.forall_mem_append.mpr ⟨List.forall_mem_append.mpr ⟨List.forall_mem_append.mpr ⟨List.forall_mem_append.mpr ⟨List.forall_mem_append.mpr ⟨List.forall_mem_append.mpr ⟨List.forall_mem_append.mpr ⟨wsL0_i1, List.forall_mem_append.mpr ⟨wsL0_i2, List.forall_mem_append.mpr ⟨wsL0_i3, List.forall_mem_append.mpr ⟨wsL0_i4, List.forall_mem_append.mpr ⟨wsL0_i5, List.forall_mem_append.mpr ⟨wsL0_i6, List.forall_mem_append.mpr ⟨wsL0_i7, List.forall_mem_append.mpr ⟨wsL0_i8, List.forall_mem_append.mpr ⟨wsL0_i9, List.forall_mem_append.mpr ⟨wsL0_i10, List.forall_mem_append.mpr ⟨wsL0_i11, List.forall_mem_append.mpr ⟨wsL0_i12, List.forall_mem_append.mpr ⟨wsL0_i13, List.forall_mem_append.mpr ⟨wsL0_i14, List.forall_mem_append.mpr ⟨wsL0_i15, List.forall_mem_append.mpr ⟨wsL0_i16, List.forall_mem_append.mpr ⟨wsL0_i17, List.forall_mem_append.mpr ⟨wsL0_i18, List.forall_mem_append.mpr ⟨wsL0_i19, List.forall_mem_append.mpr ⟨wsL0_i20, List.forall_mem_append.mpr ⟨wsL0_i21, List.forall_mem_append.mpr ⟨wsL0_i22, List.forall_mem_append.mpr ⟨wsL0_i23, List.forall_mem_append.mpr ⟨wsL0_i24, List.forall_mem_append.mpr ⟨wsL0_i25, List.forall_mem_append.mpr ⟨wsL0_i26, List.forall_mem_append.mpr ⟨wsL0_i27, List.forall_mem_append.mpr ⟨wsL0_i28, List.forall_mem_append.mpr ⟨wsL0_i29, List.forall_mem_append.mpr ⟨wsL0_i30, List.forall_mem_append.mpr ⟨wsL0_i31, List.forall_mem_append.mpr ⟨wsL0_i32, List.forall_mem_append.mpr ⟨wsL0_i33, List.forall_mem_append.mpr ⟨wsL0_i34, List.forall_mem_append.mpr ⟨wsL0_i35, List.forall_mem_append.mpr ⟨wsL0_i36, List.forall_mem_append.mpr ⟨wsL0_i37, List.forall_mem_append.mpr ⟨wsL0_i38, List.forall_mem_append.mpr ⟨wsL0_i39, List.forall_mem_append.mpr ⟨wsL0_i40, List.forall_mem_append.mpr ⟨wsL0_i41, List.forall_mem_append.mpr ⟨wsL0_i42, List.forall_mem_append.mpr ⟨wsL0_i43, List.forall_mem_append.mpr ⟨wsL0_i44, List.forall_mem_append.mpr ⟨wsL0_i45, wsL0_i46⟩⟩⟩⟩⟩⟩⟩⟩⟩⟩⟩⟩⟩⟩⟩⟩⟩⟩⟩⟩⟩⟩⟩⟩⟩⟩⟩⟩⟩⟩⟩⟩⟩⟩⟩⟩⟩⟩⟩⟩⟩⟩⟩⟩⟩, inX5⟩, inX6⟩, inX4⟩, inX1⟩, inX2⟩, inX0⟩, inX3⟩, fun _ h => absurd h List.not_mem_nil⟩
