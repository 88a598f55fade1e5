/-! what a step of LM leaves: old cells, kinds -/
def lm_le (h h1 : lm_H) : Prop := (∀ a, lm_kd h a ≠ 0 → lm_kd h1 a = lm_kd h a) ∧ (∀ a, a < 64 → lm_kd h1 a = lm_kd h a ∧ lm_ln h1 a = lm_ln h a ∧ h1.1 a = h.1 a ∧ lm_hr h1 a = lm_hr h a) ∧ lm_nc h ≤ lm_nc h1 ∧ lm_ns h ≤ lm_ns h1
theorem lm_le_rf (h : lm_H) : lm_le h h := ⟨fun _ _ => rfl, fun _ _ => ⟨rfl, rfl, rfl, rfl⟩, Nat.le_refl _, Nat.le_refl _⟩
theorem lm_le_tr {h h1 h2 : lm_H} (a : lm_le h h1) (b : lm_le h1 h2) : lm_le h h2 :=
  ⟨fun x hx => by rw [b.1 x (by rw [a.1 x hx]; exact hx), a.1 x hx], fun x hx => ⟨(b.2.1 x hx).1.trans (a.2.1 x hx).1, (b.2.1 x hx).2.1.trans (a.2.1 x hx).2.1, (b.2.1 x hx).2.2.1.trans (a.2.1 x hx).2.2.1, (b.2.1 x hx).2.2.2.trans (a.2.1 x hx).2.2.2⟩, Nat.le_trans a.2.2.1 b.2.2.1, Nat.le_trans a.2.2.2 b.2.2.2⟩
theorem lm_le_i {h : lm_H} {a k : Nat} {x : Int32} (ha : 64 ≤ a) : lm_le h (lm_up h.1 a k x, h.2) := ⟨fun _ _ => rfl, fun b hb => ⟨rfl, rfl, lm_up_ne (by omega), rfl⟩, Nat.le_refl _, Nat.le_refl _⟩
theorem lm_le_r {h : lm_H} {a k : Nat} {x : Option Nat} (ha : 64 ≤ a) : lm_le h (h.1, h.2.1, lm_up h.2.2.1 a k x, h.2.2.2) := ⟨fun _ _ => rfl, fun b hb => ⟨rfl, rfl, rfl, lm_up_ne (by omega)⟩, Nat.le_refl _, Nat.le_refl _⟩
theorem lm_le_l {h : lm_H} {g : Nat → Nat → Int64} : lm_le h (h.1, g, h.2.2) := ⟨fun _ _ => rfl, fun b hb => ⟨rfl, rfl, rfl, rfl⟩, Nat.le_refl _, Nat.le_refl _⟩
theorem lm_le_ir {h : lm_H} {a : Nat} {g : Nat → Int32} (ha : 64 ≤ a) : lm_le h (lm_row h.1 a g, h.2) := ⟨fun _ _ => rfl, fun b hb => ⟨rfl, rfl, lm_row_ne (by omega), rfl⟩, Nat.le_refl _, Nat.le_refl _⟩
theorem lm_le_new {h : lm_H} {a ci N : Nat} (ha : 64 ≤ a) (hk : lm_kd h a = 0) : lm_le h (lm_new h a ci N) :=
  ⟨fun b hb => lm_u1_ne (fun z => hb (z ▸ hk)), fun b hb => ⟨lm_u1_ne (by omega), rfl, lm_row_ne (by omega), lm_row_ne (by omega)⟩, Nat.le_succ _, Nat.le_add_right _ _⟩
theorem lm_le_arr {h : lm_H} {a K n : Nat} (ha : 64 ≤ a) (hk : lm_kd h a = 0) : lm_le h (lm_arr h a K n) :=
  ⟨fun b hb => lm_u1_ne (fun z => hb (z ▸ hk)), fun b hb => ⟨lm_u1_ne (by omega), lm_u1_ne (by omega), lm_row_ne (by omega), lm_row_ne (by omega)⟩, Nat.le_succ _, Nat.le_add_right _ _⟩
theorem lm_us_ne {α : Type} {g : Nat → α} {a n b : Nat} {v : α} (h : ¬ (a ≤ b ∧ b < a + n)) : lm_us g a n v b = g b := if_neg h
theorem lm_us_in {α : Type} {g : Nat → α} {a n b : Nat} {v : α} (h : a ≤ b ∧ b < a + n) : lm_us g a n v b = v := if_pos h
theorem lm_le_mul {h : lm_H} {a K k n m : Nat} (ha : 64 ≤ a) (hk : ∀ j, j < n + 1 → lm_kd h (a + j) = 0) : lm_le h (lm_mul h a K k n m) := by
  have hne : ∀ b, lm_kd h b ≠ 0 → ¬ (a ≤ b ∧ b < a + (n + 1)) := fun b hb q => hb (by
    have := hk (b - a) (by omega)
    rwa [show a + (b - a) = b by omega] at this)
  refine ⟨fun b hb => ?_, fun b hb => ⟨?_, ?_, ?_, ?_⟩, by show lm_nc h ≤ lm_nc h + 1 + n; omega, by show lm_ns h ≤ lm_ns h + n + n * m; omega⟩
  · show lm_u1 (lm_us h.2.2.2.1 a (n + 1) k) a K b = _
    rw [lm_u1_ne (fun z => hne b hb ⟨by omega, by omega⟩), lm_us_ne (hne b hb)]
  · show lm_u1 (lm_us h.2.2.2.1 a (n + 1) k) a K b = _
    rw [lm_u1_ne (by omega), lm_us_ne (by omega)]
  · show lm_u1 (lm_us h.2.2.2.2.1 a (n + 1) m) a n b = _
    rw [lm_u1_ne (by omega), lm_us_ne (by omega)]
  · show lm_us h.1 a (n + 1) (fun _ => 0) b = _
    rw [lm_us_ne (by omega)]
  · show lm_row (lm_us h.2.2.1 a (n + 1) (fun _ => none)) a _ b = _
    rw [lm_row_ne (by omega), lm_us_ne (by omega)]
theorem lm_iv_le {w : Option (Nat × Nat × Nat × Nat)} {op pc : Nat} {ls st : List Value} {h : lm_H} {q} (hs : lm_iv w op pc ls st h = some (.inl q)) : lm_le h q.2.2.2 := by
  unfold lm_iv at hs
  split at hs
  · cases hs
  · rename_i kind g n z
    split at hs
    · split at hs
      · split at hs <;> cases hs
      · cases hs
    · split at hs
      · split at hs <;> cases hs
      · split at hs
        · split at hs
          · split at hs <;> cases hs
          · cases hs
        · split at hs
          · split at hs
            · split at hs
              · cases hs; exact lm_le_rf h
              · cases hs
            · cases hs
          · split at hs
            · split at hs
              · split at hs
                · cases hs; exact lm_le_l
                · split at hs
                  · rename_i hc; cases hs; exact lm_le_ir hc.2.2.2.2.2.1
                  · cases hs
              · cases hs
            · split at hs
              · split at hs
                · split at hs
                  · cases hs; exact lm_le_rf h
                  · cases hs
                · cases hs
              · split at hs
                · split at hs
                  · split at hs
                    · cases hs; exact lm_le_rf h
                    · cases hs
                  · cases hs
                · split at hs
                  · split at hs
                    · split at hs
                      · cases hs; exact lm_le_rf h
                      · cases hs
                    · cases hs
                  · cases hs
set_option maxHeartbeats 4000000 in
theorem lm_i_le {f c pc : Nat} {i : Instr} {ls st : List Value} {h : lm_H} {q} (hs : lm_i f c pc i ls st h = some (.inl q)) : lm_le h q.2.2.2 := by
  cases i
  case invokevirtual idx => exact lm_iv_le hs
  case invokestatic idx => exact lm_iv_le hs
  case invokespecial idx => exact lm_iv_le hs
  case putfield idx =>
    simp only [lm_i] at hs
    split at hs
    · split at hs
      · split at hs
        · rename_i hc
          split at hs
          · rename_i h1 hp
            cases hs
            unfold lm_put at hp
            split at hp
            · split at hp
              · cases hp; exact lm_le_i hc.2.1
              · split at hp
                · cases hp; exact lm_le_i hc.2.1
                · cases hp
            · split at hp
              · cases hp; exact lm_le_r hc.2.1
              · cases hp
            · cases hp
          · cases hs
        · cases hs
      · cases hs
    · cases hs
  case iastore =>
    simp only [lm_i] at hs
    split at hs
    · split at hs
      · rename_i hc; cases hs; exact lm_le_i hc.2.1
      · cases hs
    · cases hs
  case lastore =>
    simp only [lm_i] at hs
    split at hs
    · split at hs
      · cases hs; exact lm_le_l
      · cases hs
    · cases hs
  case aastore =>
    simp only [lm_i] at hs
    split at hs
    · split at hs
      · rename_i hc; cases hs; exact lm_le_r hc.2.1
      · cases hs
    · cases hs
  case new idx =>
    simp only [lm_i] at hs
    split at hs
    · split at hs
      · rename_i hc; cases hs; exact lm_le_new hc.2.1 hc.1
      · cases hs
    · cases hs
  case newarray ty =>
    simp only [lm_i] at hs
    split at hs
    · split at hs
      · rename_i hc; cases hs; exact lm_le_arr hc.2.1 hc.1
      · cases hs
    · cases hs
  case anewarray idx =>
    simp only [lm_i] at hs
    split at hs
    · split at hs
      · split at hs
        · rename_i hc; cases hs; exact lm_le_arr hc.2.1 hc.1
        · cases hs
      · cases hs
    · cases hs
  case multianewarray idx dm =>
    simp only [lm_i] at hs
    split at hs
    · split at hs
      · split at hs
        · rename_i hc
          cases hs
          refine lm_le_mul hc.2.2.1 (fun j hj => ?_)
          have := List.all_eq_true.mp hc.2.2.2.2.2.2.2 j (List.mem_range.mpr hj)
          simpa using this
        · cases hs
      · cases hs
    · cases hs
  all_goals first
    | (cases hs; done)
    | (obtain ⟨_, _, _, _, rfl⟩ := lm_i2_inv hs; exact lm_le_rf h)
    | (obtain ⟨_, _, _, rfl⟩ := lm_i1_inv hs; exact lm_le_rf h)
    | (obtain ⟨_, _, _, _, rfl⟩ := lm_l2_inv hs; exact lm_le_rf h)
    | (obtain ⟨_, _, _, _, rfl⟩ := lm_ls_inv hs; exact lm_le_rf h)
    | (obtain ⟨_, _, rfl⟩ := lm_li_inv hs; exact lm_le_rf h)
    | (obtain ⟨_, _, rfl⟩ := lm_ll_inv hs; exact lm_le_rf h)
    | (obtain ⟨_, _, rfl⟩ := lm_la_inv hs; exact lm_le_rf h)
    | (obtain ⟨_, _, _, _, rfl⟩ := lm_si_inv hs; exact lm_le_rf h)
    | (obtain ⟨_, _, _, _, rfl⟩ := lm_sl_inv hs; exact lm_le_rf h)
    | (obtain ⟨_, _, _, _, rfl⟩ := lm_sa_inv hs; exact lm_le_rf h)
    | (obtain ⟨_, _, rfl⟩ := lm_go_inv hs; exact lm_le_rf h)
    | (simp only [lm_i, lm_bt, lm_br, lm_ir, lm_go] at hs; (repeat' (split at hs)); all_goals first | (cases hs; exact lm_le_rf h) | (cases hs; done))
theorem lm_st_le {f pc : Nat} {ls st : List Value} {h : lm_H} {q} (hs : lm_st f pc ls st h = some (.inl q)) : lm_le h q.2.2.2 := by
  unfold lm_st at hs
  split at hs
  · exact lm_i_le hs
  · cases hs
