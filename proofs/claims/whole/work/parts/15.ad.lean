/-! LM's calls, and the induction -/
theorem lm_iv_call {w : Option (Nat × Nat × Nat × Nat)} {op pc : Nat} {ls st : List Value} {h : lm_H} {q} (hs : lm_iv w op pc ls st h = some (.inr (.inr q))) : ∃ kind n i, w = some (kind, q.1, n, i) ∧ q.2.2.1 = pc + 3 ∧ q.2.2.2.2 = h ∧ n ≤ st.length ∧ (q.2.2.2.1.map Value.category).sum ≤ 8 ∧
    ((kind = 0 ∧ op = 0 ∧ ∃ a, st.drop n = .ref a :: q.2.2.2.1 ∧ lm_kd h a = 10 + lm_cis.getD (lm_m q.1).1 99 ∧ q.2.1 = .ref a :: (st.take n).reverse) ∨
     ((kind = 1 ∨ kind = 3) ∧ op = 1 ∧ st.drop n = q.2.2.2.1 ∧ q.2.1 = (st.take n).reverse) ∨
     ((kind = 2 ∨ kind = 4) ∧ op = 2 ∧ ∃ a, st.drop n = .ref a :: q.2.2.2.1 ∧ q.2.1 = .ref a :: (st.take n).reverse)) := by
  unfold lm_iv at hs
  split at hs
  · cases hs
  · rename_i kind g n i
    split at hs
    · rename_i hk
      split at hs
      · rename_i a r hdr
        split at hs
        · rename_i hc
          cases hs
          exact ⟨kind, n, i, rfl, rfl, rfl, hc.2.1, hc.2.2.1, Or.inl ⟨hk, hc.1, a, hdr, hc.2.2.2, rfl⟩⟩
        · cases hs
      · cases hs
    · split at hs
      · rename_i hk
        split at hs
        · rename_i hc
          cases hs
          exact ⟨kind, n, i, rfl, rfl, rfl, hc.2.1, hc.2.2, Or.inr (Or.inl ⟨hk, hc.1, rfl, rfl⟩)⟩
        · cases hs
      · split at hs
        · rename_i hk
          split at hs
          · rename_i a r hdr
            split at hs
            · rename_i hc
              cases hs
              exact ⟨kind, n, i, rfl, rfl, rfl, hc.2.1, hc.2.2, Or.inr (Or.inr ⟨hk, hc.1, a, hdr, rfl⟩)⟩
            · cases hs
          · cases hs
        · (repeat' (split at hs))
          all_goals cases hs
theorem lm_iv_ret {w : Option (Nat × Nat × Nat × Nat)} {op pc : Nat} {ls st : List Value} {h : lm_H} {r} (hs : lm_iv w op pc ls st h = some (.inr (.inl r))) : False := by
  unfold lm_iv at hs
  split at hs
  · cases hs
  · (repeat' (split at hs))
    all_goals cases hs
set_option maxHeartbeats 4000000 in
/-- what returns, what calls -/
theorem lm_i_ret {f c pc : Nat} {i : Instr} {ls st : List Value} {h : lm_H} {r} (hs : lm_i f c pc i ls st h = some (.inr (.inl r))) : r.2 = h ∧ (i = .ireturn ∨ i = .lreturn ∨ i = .areturn ∨ i = .return_) := by
  cases i
  case ireturn =>
    refine ⟨?_, Or.inl rfl⟩
    simp only [lm_i] at hs
    (repeat' (split at hs))
    all_goals first | (cases hs; rfl) | (cases hs; done)
  case lreturn =>
    refine ⟨?_, Or.inr (Or.inl rfl)⟩
    simp only [lm_i] at hs
    (repeat' (split at hs))
    all_goals first | (cases hs; rfl) | (cases hs; done)
  case areturn =>
    refine ⟨?_, Or.inr (Or.inr (Or.inl rfl))⟩
    simp only [lm_i] at hs
    (repeat' (split at hs))
    all_goals first | (cases hs; rfl) | (cases hs; done)
  case return_ =>
    refine ⟨?_, Or.inr (Or.inr (Or.inr rfl))⟩
    simp only [lm_i] at hs
    (repeat' (split at hs))
    all_goals first | (cases hs; rfl) | (cases hs; done)
  case invokevirtual idx => exact (lm_iv_ret hs).elim
  case invokestatic idx => exact (lm_iv_ret hs).elim
  case invokespecial idx => exact (lm_iv_ret hs).elim
  all_goals exfalso
  all_goals first
    | (cases hs; done)
    | (simp only [lm_i, lm_i1, lm_i2, lm_l2, lm_ls, lm_li, lm_ll, lm_la, lm_si, lm_sl, lm_sa, lm_go, lm_bt, lm_br, lm_ir] at hs; (repeat' (split at hs)); all_goals (cases hs; done))
set_option maxHeartbeats 4000000 in
theorem lm_i_call {f c pc : Nat} {i : Instr} {ls st : List Value} {h : lm_H} {q} (hs : lm_i f c pc i ls st h = some (.inr (.inr q))) :
    (∃ idx, i = .invokevirtual idx ∧ lm_iv ((lm_kM c).lookup idx) 0 pc ls st h = some (.inr (.inr q))) ∨ (∃ idx, i = .invokestatic idx ∧ lm_iv ((lm_kM c).lookup idx) 1 pc ls st h = some (.inr (.inr q))) ∨ (∃ idx, i = .invokespecial idx ∧ lm_iv ((lm_kM c).lookup idx) 2 pc ls st h = some (.inr (.inr q))) := by
  cases i
  case invokevirtual idx => exact Or.inl ⟨idx, rfl, hs⟩
  case invokestatic idx => exact Or.inr (Or.inl ⟨idx, rfl, hs⟩)
  case invokespecial idx => exact Or.inr (Or.inr ⟨idx, rfl, hs⟩)
  all_goals exfalso
  all_goals first
    | (cases hs; done)
    | (simp only [lm_i, lm_i1, lm_i2, lm_l2, lm_ls, lm_li, lm_ll, lm_la, lm_si, lm_sl, lm_sa, lm_go, lm_bt, lm_br, lm_ir] at hs; (repeat' (split at hs)); all_goals (cases hs; done))
theorem lm_st_ret {f pc : Nat} {ls st : List Value} {h : lm_H} {r} (hs : lm_st f pc ls st h = some (.inr (.inl r))) : r.2 = h := by
  unfold lm_st at hs
  split at hs
  · exact (lm_i_ret hs).1
  · cases hs
theorem lm_st_call {f pc : Nat} {ls st : List Value} {h : lm_H} {q} (hs : lm_st f pc ls st h = some (.inr (.inr q))) : q.2.2.2.2 = h := by
  unfold lm_st at hs
  split at hs
  · rcases lm_i_call hs with ⟨idx, -, h1⟩ | ⟨idx, -, h1⟩ | ⟨idx, -, h1⟩
    all_goals
      obtain ⟨_, _, _, _, _, he, _⟩ := lm_iv_call h1
      exact he
  · cases hs
theorem lm_ex_le : ∀ (n d f pc : Nat) (ls st : List Value) (h : lm_H) (r : Option Value × lm_H), lm_ex n d f pc ls st h = some r → lm_le h r.2 := by
  intro n
  induction n with
  | zero => intro d f pc ls st h r hr; cases hr
  | succ n ih =>
    intro d f pc ls st h r hr
    unfold lm_ex at hr
    split at hr
    · cases hr
    · rename_i q hq
      exact lm_le_tr (lm_st_le hq) (ih _ _ _ _ _ _ _ hr)
    · rename_i r' hq
      cases hr
      rw [lm_st_ret hq]
      exact lm_le_rf h
    · rename_i q hq
      have he := lm_st_call hq
      split at hr
      · cases hr
      · split at hr
        · split at hr
          · rename_i r1 h1
            have a1 := ih _ _ _ _ _ _ _ h1
            rw [he] at a1
            exact lm_le_tr a1 (ih _ _ _ _ _ _ _ hr)
          · cases hr
        · cases hr
theorem lm_iv_len {w : Option (Nat × Nat × Nat × Nat)} {op pc : Nat} {ls st : List Value} {h : lm_H} {q} (hs : lm_iv w op pc ls st h = some (.inl q)) : q.2.1 = ls := by
  unfold lm_iv at hs
  split at hs
  · cases hs
  · split at hs
    · split at hs
      · split at hs <;> cases hs
      · cases hs
    · split at hs
      · split at hs <;> cases hs
      · split at hs
        · split at hs
          · split at hs <;> cases hs
          · cases hs
        · split at hs
          · split at hs
            · split at hs <;> first | (cases hs; rfl) | (cases hs; done)
            · cases hs
          · split at hs
            · split at hs
              · split at hs
                · cases hs; rfl
                · split at hs
                  · cases hs; rfl
                  · cases hs
              · cases hs
            · split at hs
              · split at hs
                · split at hs <;> first | (cases hs; rfl) | (cases hs; done)
                · cases hs
              · split at hs
                · split at hs
                  · split at hs <;> first | (cases hs; rfl) | (cases hs; done)
                  · cases hs
                · split at hs
                  · split at hs
                    · split at hs <;> first | (cases hs; rfl) | (cases hs; done)
                    · cases hs
                  · cases hs
set_option maxHeartbeats 4000000 in
theorem lm_i_len {f c pc : Nat} {i : Instr} {ls st : List Value} {h : lm_H} {q} (hs : lm_i f c pc i ls st h = some (.inl q)) : q.2.1.length = ls.length := by
  have hs2 : ∀ i v, (lm_s2 ls i v).length = ls.length := fun i v => by unfold lm_s2; rw [List.length_set, lm_s1_len]
  cases i
  case invokevirtual idx => rw [lm_iv_len hs]
  case invokestatic idx => rw [lm_iv_len hs]
  case invokespecial idx => rw [lm_iv_len hs]
  all_goals first
    | (cases hs; done)
    | (obtain ⟨_, _, _, _, rfl⟩ := lm_i2_inv hs; rfl)
    | (obtain ⟨_, _, _, rfl⟩ := lm_i1_inv hs; rfl)
    | (obtain ⟨_, _, _, _, rfl⟩ := lm_l2_inv hs; rfl)
    | (obtain ⟨_, _, _, _, rfl⟩ := lm_ls_inv hs; rfl)
    | (obtain ⟨_, _, rfl⟩ := lm_li_inv hs; rfl)
    | (obtain ⟨_, _, rfl⟩ := lm_ll_inv hs; rfl)
    | (obtain ⟨_, _, rfl⟩ := lm_la_inv hs; rfl)
    | (obtain ⟨_, _, _, _, rfl⟩ := lm_si_inv hs; exact lm_s1_len _ _ _)
    | (obtain ⟨_, _, _, _, rfl⟩ := lm_sl_inv hs; exact hs2 _ _)
    | (obtain ⟨_, _, _, _, rfl⟩ := lm_sa_inv hs; exact lm_s1_len _ _ _)
    | (obtain ⟨_, _, rfl⟩ := lm_go_inv hs; rfl)
    | (simp only [lm_i, lm_bt, lm_br, lm_ir, lm_go] at hs; (repeat' (split at hs)); all_goals first | (cases hs; rfl) | (cases hs; exact lm_s1_len _ _ _) | (cases hs; done))
theorem lm_st_len {f pc : Nat} {ls st : List Value} {h : lm_H} {q} (hs : lm_st f pc ls st h = some (.inl q)) : q.2.1.length = ls.length := by
  unfold lm_st at hs
  split at hs
  · exact lm_i_len hs
  · cases hs
