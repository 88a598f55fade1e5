/-! LM without a count of steps -/
theorem lm_ex_mono : ∀ (n d f pc : Nat) (ls st : List Value) (h : lm_H) (r : Option Value × lm_H), lm_ex n d f pc ls st h = some r → lm_ex (n + 1) d f pc ls st h = some r := by
  intro n
  induction n with
  | zero => intro d f pc ls st h r hr; cases hr
  | succ n ih =>
    intro d f pc ls st h r hr
    unfold lm_ex at hr ⊢
    split at hr
    · cases hr
    · exact ih _ _ _ _ _ _ _ hr
    · exact hr
    · split at hr
      · cases hr
      · rename_i q hq e
        split at hr
        · rename_i hl
          split at hr
          · rename_i r1 h1
            simp only [if_pos hl, ih _ _ _ _ _ _ _ h1]
            exact ih _ _ _ _ _ _ _ hr
          · cases hr
        · cases hr
theorem lm_ex_le2 {n m d f pc : Nat} {ls st : List Value} {h : lm_H} {r : Option Value × lm_H} (hnm : n ≤ m) (hr : lm_ex n d f pc ls st h = some r) : lm_ex m d f pc ls st h = some r := by
  induction hnm with
  | refl => exact hr
  | step _ ih => exact lm_ex_mono _ _ _ _ _ _ _ _ ih
/-- LM's run comes to r -/
def lm_run (d f pc : Nat) (ls st : List Value) (h : lm_H) (r : Option Value × lm_H) : Prop := ∃ n, lm_ex n d f pc ls st h = some r
/-- a call of a method comes to r -/
def lm_c (d g : Nat) (as : List Value) (h : lm_H) (r : Option Value × lm_H) : Prop := (lm_exp as).length ≤ (lm_m g).2.2.2.1 ∧ lm_run d g 0 (lm_ini (lm_m g).2.2.2.1 as) [] h r
theorem lm_r_nx {d f pc pc' : Nat} {ls ls' st st' : List Value} {h h' : lm_H} {r : Option Value × lm_H} (hs : lm_st f pc ls st h = some (.inl (pc', ls', st', h'))) (k : lm_run d f pc' ls' st' h' r) : lm_run d f pc ls st h r := by
  obtain ⟨n, hn⟩ := k
  refine ⟨n + 1, ?_⟩
  unfold lm_ex
  rw [hs]
  exact hn
theorem lm_r_rt {d f pc : Nat} {ls st : List Value} {h : lm_H} {r : Option Value × lm_H} (hs : lm_st f pc ls st h = some (.inr (.inl r))) : lm_run d f pc ls st h r := by
  refine ⟨1, ?_⟩
  unfold lm_ex
  rw [hs]
theorem lm_r_ca {d f pc g pc' : Nat} {ls st as rest : List Value} {h h0 h1 : lm_H} {v : Option Value} {r : Option Value × lm_H} (hs : lm_st f pc ls st h = some (.inr (.inr (g, as, pc', rest, h0)))) (hc : lm_c d g as h0 (v, h1)) (k : lm_run (d + 1) f pc' ls (v.toList ++ rest) h1 r) : lm_run (d + 1) f pc ls st h r := by
  obtain ⟨hl, n, hn⟩ := hc
  obtain ⟨m, hm⟩ := k
  refine ⟨max n m + 1, ?_⟩
  unfold lm_ex
  rw [hs]
  simp only [if_pos hl, lm_ex_le2 (Nat.le_max_left n m) hn]
  exact lm_ex_le2 (Nat.le_max_right n m) hm
/-- depth: more does no harm -/
theorem lm_ex_dep : ∀ (n d f pc : Nat) (ls st : List Value) (h : lm_H) (r : Option Value × lm_H), lm_ex n d f pc ls st h = some r → lm_ex n (d + 1) f pc ls st h = some r := by
  intro n
  induction n with
  | zero => intro d f pc ls st h r hr; cases hr
  | succ n ih =>
    intro d f pc ls st h r hr
    unfold lm_ex at hr ⊢
    split at hr
    · cases hr
    · exact ih _ _ _ _ _ _ _ hr
    · exact hr
    · split at hr
      · cases hr
      · rename_i q hq e
        split at hr
        · rename_i hl
          split at hr
          · rename_i r1 h1
            simp only [if_pos hl, ih _ _ _ _ _ _ _ h1]
            exact ih _ _ _ _ _ _ _ hr
          · cases hr
        · cases hr
theorem lm_c_dep {d d' g : Nat} {as : List Value} {h : lm_H} {r : Option Value × lm_H} (hd : d ≤ d') (hc : lm_c d g as h r) : lm_c d' g as h r := by
  obtain ⟨hl, n, hn⟩ := hc
  refine ⟨hl, n, ?_⟩
  induction hd with
  | refl => exact hn
  | step _ ih => exact lm_ex_dep _ _ _ _ _ _ _ _ ih
