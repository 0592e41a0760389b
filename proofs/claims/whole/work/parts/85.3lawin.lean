set_option maxRecDepth 20000 in
theorem in_lr28 : ∀ w ∈ wsL_law0_r28, w ∈ lw_tbl := by decide +kernel
set_option maxRecDepth 20000 in
theorem in_lr29 : ∀ w ∈ wsL_law0_r29, w ∈ lw_tbl := by decide +kernel
set_option maxRecDepth 20000 in
theorem in_lr30 : ∀ w ∈ wsL_law0_r30, w ∈ lw_tbl := by decide +kernel
set_option maxRecDepth 20000 in
theorem in_lr31 : ∀ w ∈ wsL_law0_r31, w ∈ lw_tbl := by decide +kernel
set_option maxRecDepth 20000 in
theorem in_lr32 : ∀ w ∈ wsL_law0_r32, w ∈ lw_tbl := by decide +kernel
set_option maxRecDepth 20000 in
theorem in_lr33 : ∀ w ∈ wsL_law0_r33, w ∈ lw_tbl := by decide +kernel
set_option maxRecDepth 20000 in
theorem in_lr34 : ∀ w ∈ wsL_law0_r34, w ∈ lw_tbl := by decide +kernel
set_option maxRecDepth 20000 in
theorem in_lxX70 : ∀ w ∈ wsX70, w ∈ lw_tbl := by decide +kernel
set_option maxRecDepth 20000 in
theorem in_lxX80 : ∀ w ∈ wsX80, w ∈ lw_tbl := by decide +kernel
set_option maxRecDepth 20000 in
theorem in_lxX60 : ∀ w ∈ wsX60, w ∈ lw_tbl := by decide +kernel
set_option maxRecDepth 20000 in
theorem in_lxX20 : ∀ w ∈ wsX20, w ∈ lw_tbl := by decide +kernel
set_option maxRecDepth 20000 in
theorem in_lxX50 : ∀ w ∈ wsX50, w ∈ lw_tbl := by decide +kernel
set_option maxRecDepth 20000 in
theorem in_lxX10 : ∀ w ∈ wsX10, w ∈ lw_tbl := by decide +kernel
set_option maxRecDepth 20000 in
theorem in_lxX00 : ∀ w ∈ wsX00, w ∈ lw_tbl := by decide +kernel
set_option maxRecDepth 20000 in
theorem in_lxX30 : ∀ w ∈ wsX30, w ∈ lw_tbl := by decide +kernel
set_option maxRecDepth 20000 in
theorem in_lxX40 : ∀ w ∈ wsX40, w ∈ lw_tbl := by decide +kernel
