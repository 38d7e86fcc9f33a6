variable {O : ORC}
set_option maxRecDepth 100000 in
theorem q9wk_X12_counts : GoodIn q9ALLW [.code yX12_counts cX12_counts 8 none, .initialized (yX12_counts).cls] := q9goodW _ (List.forall_mem_cons.mpr ⟨(q9inT10 65 rfl rfl), (List.forall_mem_cons.mpr ⟨(q9inT1 12 rfl rfl), (fun _ h => absurd h List.not_mem_nil)⟩)⟩)
set_option maxRecDepth 100000 in
theorem q9wv_X12_counts : ∀ w ∈ ([.instanceMethod yX12_counts, .selects (yX12_counts).cls yX12_counts yX12_counts] : List Cond), w ∈ q9ALLW := (List.forall_mem_cons.mpr ⟨(q9inT10 64 rfl rfl), (List.forall_mem_cons.mpr ⟨(q9inW 81 rfl rfl), (fun _ h => absurd h List.not_mem_nil)⟩)⟩)
