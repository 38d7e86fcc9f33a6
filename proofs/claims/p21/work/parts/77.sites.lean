/-! the words of the exceptions that are thrown -/
theorem q9tb_good {w : Cond} (h : w ∈ lw_tbl) (g : goodWord w = true) : w ∈ q9ALLW := List.mem_filter.mpr ⟨h, g⟩
/-- the words of exceptions stand in these pieces -/
noncomputable def q9tbX : List Cond := tables_1_4 ++ (tables_1_1 ++ (tables_1_6 ++ tables_1_11))
theorem q9tbX_in {w : Cond} (h : w ∈ q9tbX) : w ∈ lw_tbl := by
  refine List.mem_append_right _ (show w ∈ tables_1 from ?_)
  rcases List.mem_append.mp h with h | h
  · exact List.mem_append_right _ (List.mem_append_right _ (List.mem_append_right _ (List.mem_append_left _ h)))
  · rcases List.mem_append.mp h with h | h
    · exact List.mem_append_left _ h
    · rcases List.mem_append.mp h with h | h
      · exact List.mem_append_right _ (List.mem_append_right _ (List.mem_append_right _ (List.mem_append_right _ (List.mem_append_right _ (List.mem_append_left _ h)))))
      · exact List.mem_append_right _ (List.mem_append_right _ (List.mem_append_right _ (List.mem_append_right _ (List.mem_append_right _ (List.mem_append_right _ (List.mem_append_right _ (List.mem_append_right _ (List.mem_append_right _ (List.mem_append_right _ h)))))))))
theorem q9at_of {L : List Cond} (h : ∀ w ∈ L.filter goodWord, w ∈ q9tbX) : ∀ w ∈ L.filter goodWord, w ∈ q9ALLW := fun w hw => q9tb_good (q9tbX_in (h w hw)) (List.mem_filter.mp hw).2
theorem q9at_x0 : ∀ w ∈ (vx_atS RX11 350 "java/lang/IndexOutOfBoundsException" q9xNm).filter goodWord, w ∈ q9ALLW := q9at_of (by decide +kernel)
theorem q9at_x1 : ∀ w ∈ (vx_atS RX11 196 "java/lang/IllegalArgumentException" q9xNm).filter goodWord, w ∈ q9ALLW := q9at_of (by decide +kernel)
theorem q9at_x2 : ∀ w ∈ (vx_atS RX11 139 "java/lang/IllegalStateException" q9xNm).filter goodWord, w ∈ q9ALLW := q9at_of (by decide +kernel)
theorem q9ab_x0 : ∀ w ∈ (vx_atS RX11 350 "java/lang/IndexOutOfBoundsException" q9xNm).filter (fun w => !goodWord w), w ∈ gwB := by decide +kernel
theorem q9ab_x1 : ∀ w ∈ (vx_atS RX11 196 "java/lang/IllegalArgumentException" q9xNm).filter (fun w => !goodWord w), w ∈ gwB := by decide +kernel
theorem q9ab_x2 : ∀ w ∈ (vx_atS RX11 139 "java/lang/IllegalStateException" q9xNm).filter (fun w => !goodWord w), w ∈ gwB := by decide +kernel
theorem q9ao_x0 : ∀ w ∈ Cond.classLink RX11 346 "java/lang/IndexOutOfBoundsException" :: Cond.initialized "java/lang/IndexOutOfBoundsException" :: vx_atS RX11 350 "java/lang/IndexOutOfBoundsException" q9xNm, vx_ot w = true := by decide +kernel
theorem q9ao_x1 : ∀ w ∈ Cond.classLink RX11 192 "java/lang/IllegalArgumentException" :: Cond.initialized "java/lang/IllegalArgumentException" :: vx_atS RX11 196 "java/lang/IllegalArgumentException" q9xNm, vx_ot w = true := by decide +kernel
theorem q9ao_x2 : ∀ w ∈ Cond.classLink RX11 135 "java/lang/IllegalStateException" :: Cond.initialized "java/lang/IllegalStateException" :: vx_atS RX11 139 "java/lang/IllegalStateException" q9xNm, vx_ot w = true := by decide +kernel
theorem q9zxw_in : ∀ w ∈ zxw, w ∈ q9ALLW := by
  have h : ∀ w ∈ zxw, w ∈ q9tbX := by decide +kernel
  have g : ∀ w ∈ zxw, goodWord w = true := fun w hw => (List.mem_filter.mp hw).2
  exact fun w hw => q9tb_good (q9tbX_in (h w hw)) (g w hw)
