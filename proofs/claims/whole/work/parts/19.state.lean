/-! contracts of AwakeByHalves$State (made by wip/gen/gen19.py) -/
def b2i (p : Prop) [Decidable p] : Int32 := if p then 1 else 0
theorem b2i_pos {p : Prop} [Decidable p] (h : p) : b2i p = 1 := if_pos h
theorem b2i_neg {p : Prop} [Decidable p] (h : ¬ p) : b2i p = 0 := if_neg h
theorem b2i_or (p : Prop) [Decidable p] : b2i p = 0 ∨ b2i p = 1 := by unfold b2i; split <;> simp
def s_marks (s : Int32) : Int32 := s &&& 255
def s_stand (s m : Int32) : Prop := ¬ (s >>> (m &&& 31)) &&& 1 = 0
def s_turn (s m : Int32) : Int32 := s ^^^ (1 <<< (m &&& 31))
def s_count (s c : Int32) : Int32 := (s >>> ((8 + c * 5) &&& 31)) &&& 31
def s_with (s c v : Int32) : Int32 := (s &&& ((31 <<< ((8 + c * 5) &&& 31)) ^^^ (-1))) ||| (v <<< ((8 + c * 5) &&& 31))
def s_awake (s : Int32) : Int32 := (s >>> (28 &&& 31)) &&& 1
def s_next (s : Int32) : Int32 := s ^^^ 268435456
theorem c_X4_marksIn {d : Nat} {hi : Nat → Nat → Int32} {hl : Nat → Nat → Int64} {X : lm_X} {s : Int32} : lm_c d 28 [.int s] (hi, hl, X) (some (.int (s_marks s)), (hi, hl, X)) := by
  refine ⟨Nat.le_of_ble_eq_true rfl, ?_⟩
  show lm_run d 28 0 [.int s] [] (hi, hl, X) _
  refine lm_r_N 3 5 [.int s] [.int (s &&& 255)] rfl ?_
  refine lm_r_ri rfl rfl ?_
  rfl
theorem c_X4_awakeIn {d : Nat} {hi : Nat → Nat → Int32} {hl : Nat → Nat → Int64} {X : lm_X} {s : Int32} : lm_c d 34 [.int s] (hi, hl, X) (some (.int (s_awake s)), (hi, hl, X)) := by
  refine ⟨Nat.le_of_ble_eq_true rfl, ?_⟩
  show lm_run d 34 0 [.int s] [] (hi, hl, X) _
  refine lm_r_N 5 6 [.int s] [.int ((s >>> (28 &&& 31)) &&& 1)] rfl ?_
  refine lm_r_ri rfl rfl ?_
  rfl
theorem c_X4_turned {d : Nat} {hi : Nat → Nat → Int32} {hl : Nat → Nat → Int64} {X : lm_X} {s m : Int32} : lm_c d 30 [.int s, .int m] (hi, hl, X) (some (.int (s_turn s m)), (hi, hl, X)) := by
  refine ⟨Nat.le_of_ble_eq_true rfl, ?_⟩
  show lm_run d 30 0 [.int s, .int m] [] (hi, hl, X) _
  refine lm_r_N 5 5 [.int s, .int m] [.int (s ^^^ (1 <<< (m &&& 31)))] rfl ?_
  refine lm_r_ri rfl rfl ?_
  rfl
theorem c_X4_countIn {d : Nat} {hi : Nat → Nat → Int32} {hl : Nat → Nat → Int64} {X : lm_X} {s c : Int32} : lm_c d 31 [.int s, .int c] (hi, hl, X) (some (.int (s_count s c)), (hi, hl, X)) := by
  refine ⟨Nat.le_of_ble_eq_true rfl, ?_⟩
  show lm_run d 31 0 [.int s, .int c] [] (hi, hl, X) _
  refine lm_r_N 9 11 [.int s, .int c] [.int ((s >>> ((8 + (c * 5)) &&& 31)) &&& 31)] rfl ?_
  refine lm_r_ri rfl rfl ?_
  rfl
theorem c_X4_withCount {d : Nat} {hi : Nat → Nat → Int32} {hl : Nat → Nat → Int64} {X : lm_X} {s c v : Int32} : lm_c d 32 [.int s, .int c, .int v] (hi, hl, X) (some (.int (s_with s c v)), (hi, hl, X)) := by
  refine ⟨Nat.le_of_ble_eq_true rfl, ?_⟩
  show lm_run d 32 0 [.int s, .int c, .int v, lm_jk] [] (hi, hl, X) _
  refine lm_r_N 17 19 [.int s, .int c, .int v, .int (8 + (c * 5))] [.int ((s &&& ((31 <<< ((8 + (c * 5)) &&& 31)) ^^^ (-1))) ||| (v <<< ((8 + (c * 5)) &&& 31)))] rfl ?_
  refine lm_r_ri rfl rfl ?_
  rfl
theorem c_X4_nextDay {d : Nat} {hi : Nat → Nat → Int32} {hl : Nat → Nat → Int64} {X : lm_X} {s : Int32} : lm_c d 35 [.int s] (hi, hl, X) (some (.int (s_next s)), (hi, hl, X)) := by
  refine ⟨Nat.le_of_ble_eq_true rfl, ?_⟩
  show lm_run d 35 0 [.int s] [] (hi, hl, X) _
  refine lm_r_N 3 4 [.int s] [.int (s ^^^ 268435456)] rfl ?_
  refine lm_r_ri rfl rfl ?_
  rfl
