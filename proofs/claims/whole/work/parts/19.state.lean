theorem c_X4_marksIn {d : Nat} {h : lm_H} {s : Int32} : lm_c d 28 [.int s] h (some (.int (s &&& 255)), h) := by
  refine ⟨by decide, ?_⟩
  show lm_run d 28 0 [.int s] [] h _
  refine lm_r_N 3 (pc' := 5) (ls' := [_]) (st' := [_]) rfl ?_
  refine lm_r_ri rfl rfl ?_
  rfl
theorem c_X4_awakeIn {d : Nat} {h : lm_H} {s : Int32} : lm_c d 34 [.int s] h (some (.int (s >>> 28)), h) := by
  refine ⟨by decide, ?_⟩
  show lm_run d 34 0 [.int s] [] h _
  refine lm_r_N 5 (pc' := 6) (ls' := [_]) (st' := [_]) rfl ?_
  refine lm_r_ri rfl rfl ?_
  rfl
