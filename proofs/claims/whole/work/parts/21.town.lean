/-! shapes (where references lead, kinds, lengths) and contracts of AwakeByHalves$Town -/
def sh_T (X : lm_X) (b : Nat) : Prop := 64 ≤ b ∧ X.2.1 b = 14 ∧ (∀ k, k < 9 → X.1 b k = some (b + (1 + k)) ∧ X.2.1 (b + (1 + k)) = 1) ∧ (∀ k, k < 7 → X.2.2.1 (b + (1 + k)) = 10) ∧ X.2.2.1 (b + 8) = 24 ∧ X.2.2.1 (b + 9) = 2
section
variable {X : lm_X} {b : Nat}
theorem T_64 (S : sh_T X b) : 64 ≤ b := S.1
theorem T_kd (S : sh_T X b) : X.2.1 b = 10 + 4 := S.2.1
theorem T_r0 (S : sh_T X b) : X.1 b 0 = some (b + 1) := (S.2.2.1 0 (by decide)).1
theorem T_k0 (S : sh_T X b) : X.2.1 (b + 1) = 1 := (S.2.2.1 0 (by decide)).2
theorem T_l0 (S : sh_T X b) : X.2.2.1 (b + 1) = 10 := S.2.2.2.1 0 (by decide)
theorem T_r1 (S : sh_T X b) : X.1 b 1 = some (b + 2) := (S.2.2.1 1 (by decide)).1
theorem T_k1 (S : sh_T X b) : X.2.1 (b + 2) = 1 := (S.2.2.1 1 (by decide)).2
theorem T_l1 (S : sh_T X b) : X.2.2.1 (b + 2) = 10 := S.2.2.2.1 1 (by decide)
theorem T_r2 (S : sh_T X b) : X.1 b 2 = some (b + 3) := (S.2.2.1 2 (by decide)).1
theorem T_k2 (S : sh_T X b) : X.2.1 (b + 3) = 1 := (S.2.2.1 2 (by decide)).2
theorem T_l2 (S : sh_T X b) : X.2.2.1 (b + 3) = 10 := S.2.2.2.1 2 (by decide)
theorem T_r3 (S : sh_T X b) : X.1 b 3 = some (b + 4) := (S.2.2.1 3 (by decide)).1
theorem T_k3 (S : sh_T X b) : X.2.1 (b + 4) = 1 := (S.2.2.1 3 (by decide)).2
theorem T_l3 (S : sh_T X b) : X.2.2.1 (b + 4) = 10 := S.2.2.2.1 3 (by decide)
theorem T_r4 (S : sh_T X b) : X.1 b 4 = some (b + 5) := (S.2.2.1 4 (by decide)).1
theorem T_k4 (S : sh_T X b) : X.2.1 (b + 5) = 1 := (S.2.2.1 4 (by decide)).2
theorem T_l4 (S : sh_T X b) : X.2.2.1 (b + 5) = 10 := S.2.2.2.1 4 (by decide)
theorem T_r5 (S : sh_T X b) : X.1 b 5 = some (b + 6) := (S.2.2.1 5 (by decide)).1
theorem T_k5 (S : sh_T X b) : X.2.1 (b + 6) = 1 := (S.2.2.1 5 (by decide)).2
theorem T_l5 (S : sh_T X b) : X.2.2.1 (b + 6) = 10 := S.2.2.2.1 5 (by decide)
theorem T_r6 (S : sh_T X b) : X.1 b 6 = some (b + 7) := (S.2.2.1 6 (by decide)).1
theorem T_k6 (S : sh_T X b) : X.2.1 (b + 7) = 1 := (S.2.2.1 6 (by decide)).2
theorem T_l6 (S : sh_T X b) : X.2.2.1 (b + 7) = 10 := S.2.2.2.1 6 (by decide)
theorem T_r7 (S : sh_T X b) : X.1 b 7 = some (b + 8) := (S.2.2.1 7 (by decide)).1
theorem T_k7 (S : sh_T X b) : X.2.1 (b + 8) = 1 := (S.2.2.1 7 (by decide)).2
theorem T_l7 (S : sh_T X b) : X.2.2.1 (b + 8) = 24 := S.2.2.2.2.1
theorem T_r8 (S : sh_T X b) : X.1 b 8 = some (b + 9) := (S.2.2.1 8 (by decide)).1
theorem T_k8 (S : sh_T X b) : X.2.1 (b + 9) = 1 := (S.2.2.1 8 (by decide)).2
theorem T_l8 (S : sh_T X b) : X.2.2.1 (b + 9) = 2 := S.2.2.2.2.2
end
def t_lockd (lk : Nat → Int32) (half a : Int32) : Bool := !decide ((lk a.toNatClampNeg >>> (half &&& 31)) &&& 1 = 0)
def bz (b : Bool) : Int32 := if b then 1 else 0
def s_std (s m : Int32) : Bool := !decide ((s >>> (m &&& 31)) &&& 1 = 0)
theorem bz_or (b : Bool) : bz b = 0 ∨ bz b = 1 := by cases b <;> simp [bz]
theorem c_X4_isStanding {d : Nat} {hi : Nat → Nat → Int32} {hl : Nat → Nat → Int64} {X : lm_X} {s m : Int32}  : lm_c d 29 [.int s, .int m] (hi, hl, X) (some (.int (bz (s_std s m))), (hi, hl, X)) := by
  refine ⟨Nat.le_of_ble_eq_true rfl, ?_⟩
  show lm_run d 29 0 [.int s, .int m] [] (hi, hl, X) _
  refine lm_r_N 5 5 [.int s, .int m] [.int ((s >>> (m &&& 31)) &&& 1)] rfl ?_
  refine lm_r_if_eq (t := 12) rfl rfl (fun c1 => ?_) (fun c1 => ?_)
  · refine lm_r_N 1 13 [.int s, .int m] [.int 0] rfl ?_
    refine lm_r_rz rfl rfl (by first | exact Or.inl rfl | exact Or.inr rfl | assumption) ?_
    simp [bz, t_lockd, s_std, *]
  · refine lm_r_N 2 13 [.int s, .int m] [.int 1] rfl ?_
    refine lm_r_rz rfl rfl (by first | exact Or.inl rfl | exact Or.inr rfl | assumption) ?_
    simp [bz, t_lockd, s_std, *]
theorem c_X6_isFull {d : Nat} {hi : Nat → Nat → Int32} {hl : Nat → Nat → Int64} {X : lm_X} {b : Nat} (S : sh_T X b)  : lm_c d 54 [.ref b] (hi, hl, X) (some (.int (bz (!decide (hi b 9 < 10)))), (hi, hl, X)) := by
  refine ⟨Nat.le_of_ble_eq_true rfl, ?_⟩
  show lm_run d 54 0 [.ref b] [] (hi, hl, X) _
  refine lm_r_N 1 1 [.ref b] [.ref b] rfl ?_
  refine lm_r_gi rfl rfl rfl (T_kd S) ?_
  refine lm_r_N 1 6 [.ref b] [.int 10, .int (hi b 9)] rfl ?_
  refine lm_r_icmp_lt (t := 13) rfl rfl (fun c1 => ?_) (fun c1 => ?_)
  · refine lm_r_N 1 14 [.ref b] [.int 0] rfl ?_
    refine lm_r_rz rfl rfl (by first | exact Or.inl rfl | exact Or.inr rfl | assumption) ?_
    simp [bz, *]
  · refine lm_r_N 2 14 [.ref b] [.int 1] rfl ?_
    refine lm_r_rz rfl rfl (by first | exact Or.inl rfl | exact Or.inr rfl | assumption) ?_
    simp [bz, *]
theorem c_X6_isLocked {d : Nat} {hi : Nat → Nat → Int32} {hl : Nat → Nat → Int64} {X : lm_X} {b : Nat} (S : sh_T X b) {half a : Int32} (ha : vp_in a 10) : lm_c d 57 [.ref b, .int half, .int a] (hi, hl, X) (some (.int (bz (t_lockd (hi (b + 7)) half a))), (hi, hl, X)) := by
  refine ⟨Nat.le_of_ble_eq_true rfl, ?_⟩
  show lm_run d 57 0 [.ref b, .int half, .int a] [] (hi, hl, X) _
  refine lm_r_N 1 1 [.ref b, .int half, .int a] [.ref b] rfl ?_
  refine lm_r_gr (b := b + 7) rfl rfl rfl (T_kd S) (T_r6 S) ?_
  refine lm_r_N 1 5 [.ref b, .int half, .int a] [.int a, .ref (b + 7)] rfl ?_
  refine lm_r_ia rfl (T_k6 S) (T_l6 S) (by first | assumption | decide) ?_
  refine lm_r_N 4 10 [.ref b, .int half, .int a] [.int (((hi (b + 7) a.toNatClampNeg) >>> (half &&& 31)) &&& 1)] rfl ?_
  refine lm_r_if_eq (t := 17) rfl rfl (fun c1 => ?_) (fun c1 => ?_)
  · refine lm_r_N 1 18 [.ref b, .int half, .int a] [.int 0] rfl ?_
    refine lm_r_rz rfl rfl (by first | exact Or.inl rfl | exact Or.inr rfl | assumption) ?_
    simp [bz, t_lockd, s_std, *]
  · refine lm_r_N 2 18 [.ref b, .int half, .int a] [.int 1] rfl ?_
    refine lm_r_rz rfl rfl (by first | exact Or.inl rfl | exact Or.inr rfl | assumption) ?_
    simp [bz, t_lockd, s_std, *]
theorem c_X6_setWorth {d : Nat} {hi : Nat → Nat → Int32} {hl : Nat → Nat → Int64} {X : lm_X} {b : Nat} (S : sh_T X b) {half what v : Int32} (ha : vp_in (half * 12 + what) 24) : lm_c d 56 [.ref b, .int half, .int what, .int v] (hi, hl, X) (none, (lm_up (lm_up hi (b + 8) (half * 12 + what).toNatClampNeg v) b 16 (lm_up hi (b + 8) (half * 12 + what).toNatClampNeg v b 16 + 1), hl, X)) := by
  refine ⟨Nat.le_of_ble_eq_true rfl, ?_⟩
  show lm_run d 56 0 [.ref b, .int half, .int what, .int v] [] (hi, hl, X) _
  refine lm_r_N 1 1 [.ref b, .int half, .int what, .int v] [.ref b] rfl ?_
  refine lm_r_gr (b := b + 8) rfl rfl rfl (T_kd S) (T_r7 S) ?_
  refine lm_r_N 6 11 [.ref b, .int half, .int what, .int v] [.int v, .int ((half * 12) + what), .ref (b + 8)] rfl ?_
  refine lm_r_is rfl (T_k7 S) (Nat.le_trans (T_64 S) (by omega)) (T_l7 S) (by first | assumption | decide) ?_
  refine lm_r_N 2 14 [.ref b, .int half, .int what, .int v] [.ref b, .ref b] rfl ?_
  refine lm_r_gi rfl rfl rfl (T_kd S) ?_
  refine lm_r_N 2 19 [.ref b, .int half, .int what, .int v] [.int (((lm_up hi (b + 8) ((half * 12) + what).toNatClampNeg v) b 16) + 1), .ref b] rfl ?_
  refine lm_r_pi rfl rfl rfl rfl (T_kd S) (T_64 S) ?_
  refine lm_r_rv rfl rfl ?_
  rfl
