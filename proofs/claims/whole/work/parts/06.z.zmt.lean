theorem zin0 {w : Cond} (h : w ∈ k2_sels lw_privs) : w ∈ lw_tbl := List.mem_append_left _ h
theorem zmT0 {w : Cond} (i : Nat) (h : (k2_sels lw_privs)[i]? = some w) (g : goodWord w = true) : w ∈ zTB := List.mem_filter.mpr ⟨zin0 (List.mem_of_getElem? h), g⟩
theorem zin1 {w : Cond} (h : w ∈ tables_1_1) : w ∈ lw_tbl := List.mem_append_right _ (by unfold tables_1; simp only [List.mem_append]; exact Or.inl h)
theorem zmT1 {w : Cond} (i : Nat) (h : (tables_1_1)[i]? = some w) (g : goodWord w = true) : w ∈ zTB := List.mem_filter.mpr ⟨zin1 (List.mem_of_getElem? h), g⟩
theorem zin2 {w : Cond} (h : w ∈ tables_1_2) : w ∈ lw_tbl := List.mem_append_right _ (by unfold tables_1; simp only [List.mem_append]; exact Or.inr (Or.inl h))
theorem zmT2 {w : Cond} (i : Nat) (h : (tables_1_2)[i]? = some w) (g : goodWord w = true) : w ∈ zTB := List.mem_filter.mpr ⟨zin2 (List.mem_of_getElem? h), g⟩
theorem zin3 {w : Cond} (h : w ∈ tables_1_3) : w ∈ lw_tbl := List.mem_append_right _ (by unfold tables_1; simp only [List.mem_append]; exact Or.inr (Or.inr (Or.inl h)))
theorem zmT3 {w : Cond} (i : Nat) (h : (tables_1_3)[i]? = some w) (g : goodWord w = true) : w ∈ zTB := List.mem_filter.mpr ⟨zin3 (List.mem_of_getElem? h), g⟩
theorem zin4 {w : Cond} (h : w ∈ tables_1_4) : w ∈ lw_tbl := List.mem_append_right _ (by unfold tables_1; simp only [List.mem_append]; exact Or.inr (Or.inr (Or.inr (Or.inl h))))
theorem zmT4 {w : Cond} (i : Nat) (h : (tables_1_4)[i]? = some w) (g : goodWord w = true) : w ∈ zTB := List.mem_filter.mpr ⟨zin4 (List.mem_of_getElem? h), g⟩
theorem zin5 {w : Cond} (h : w ∈ tables_1_5) : w ∈ lw_tbl := List.mem_append_right _ (by unfold tables_1; simp only [List.mem_append]; exact Or.inr (Or.inr (Or.inr (Or.inr (Or.inl h)))))
theorem zmT5 {w : Cond} (i : Nat) (h : (tables_1_5)[i]? = some w) (g : goodWord w = true) : w ∈ zTB := List.mem_filter.mpr ⟨zin5 (List.mem_of_getElem? h), g⟩
theorem zin6 {w : Cond} (h : w ∈ tables_1_6) : w ∈ lw_tbl := List.mem_append_right _ (by unfold tables_1; simp only [List.mem_append]; exact Or.inr (Or.inr (Or.inr (Or.inr (Or.inr (Or.inl h))))))
theorem zmT6 {w : Cond} (i : Nat) (h : (tables_1_6)[i]? = some w) (g : goodWord w = true) : w ∈ zTB := List.mem_filter.mpr ⟨zin6 (List.mem_of_getElem? h), g⟩
theorem zin7 {w : Cond} (h : w ∈ tables_1_7) : w ∈ lw_tbl := List.mem_append_right _ (by unfold tables_1; simp only [List.mem_append]; exact Or.inr (Or.inr (Or.inr (Or.inr (Or.inr (Or.inr (h)))))))
theorem zmT7 {w : Cond} (i : Nat) (h : (tables_1_7)[i]? = some w) (g : goodWord w = true) : w ∈ zTB := List.mem_filter.mpr ⟨zin7 (List.mem_of_getElem? h), g⟩
