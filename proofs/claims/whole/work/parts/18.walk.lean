/-! walking a method in LM: a row an instruction that asks something, one row for a stretch that asks nothing -/
noncomputable def lm_sN : Nat → Nat → Nat → List Value → List Value → lm_H → Option lm_R
  | 0, _, pc, ls, st, h => some (.inl (pc, ls, st, h))
  | n + 1, f, pc, ls, st, h => match lm_st f pc ls st h with
    | some (.inl q) => lm_sN n f q.1 q.2.1 q.2.2.1 q.2.2.2
    | _ => none
theorem lm_r_N0 (n : Nat) {d f pc pc' : Nat} {ls ls' st st' : List Value} {h h' : lm_H} {r : Option Value × lm_H} (hs : lm_sN n f pc ls st h = some (.inl (pc', ls', st', h'))) (k : lm_run d f pc' ls' st' h' r) : lm_run d f pc ls st h r := by
  induction n generalizing pc ls st h with
  | zero =>
    cases hs
    exact k
  | succ n ih =>
    unfold lm_sN at hs
    split at hs
    · rename_i q hq
      exact lm_r_nx (pc' := q.1) (ls' := q.2.1) (st' := q.2.2.1) (h' := q.2.2.2) hq (ih hs)
    · cases hs
theorem lm_r_N (n pc' : Nat) (ls' st' : List Value) {d f pc : Nat} {ls st : List Value} {h : lm_H} {r : Option Value × lm_H} (hs : lm_sN n f pc ls st h = some (.inl (pc', ls', st', h))) (k : lm_run d f pc' ls' st' h r) : lm_run d f pc ls st h r := lm_r_N0 n hs k
theorem lm_st_of {f pc len : Nat} {i : Instr} {ls st : List Value} {h : lm_H} (hi : (lm_m f).2.2.2.2.2.1.lookup pc = some (i, len)) : lm_st f pc ls st h = lm_i f (lm_m f).1 pc i ls st h := by
  unfold lm_st
  rw [hi]
section LWK
variable {d f pc len : Nat} {ls st : List Value} {r : Option Value × lm_H} {hi : Nat → Nat → Int32} {hl : Nat → Nat → Int64} {X : lm_X} {a : Nat}
/-- getfield, an int or a boolean -/
theorem lm_r_gi {idx ci k z : Nat} (h1 : (lm_m f).2.2.2.2.2.1.lookup pc = some (.getfield idx, len)) (h2 : (lm_kF (lm_m f).1).lookup idx = some (ci, k, z)) (h3 : (lm_fk ci k == 1) = false) (hg : X.2.1 a = 10 + ci) (k : lm_run d f (pc + 3) ls (.int (hi a k) :: st) (hi, hl, X) r) : lm_run d f pc ls (.ref a :: st) (hi, hl, X) r := by
  refine lm_r_nx ?_ k
  rw [lm_st_of h1]
  simp only [lm_i, h2, if_pos hg, lm_fv, if_neg (show ¬ lm_fk ci _ = 1 from by simpa using h3)]
/-- getfield, a reference -/
theorem lm_r_gr {idx ci k z b : Nat} (h1 : (lm_m f).2.2.2.2.2.1.lookup pc = some (.getfield idx, len)) (h2 : (lm_kF (lm_m f).1).lookup idx = some (ci, k, z)) (h3 : (lm_fk ci k == 1) = true) (hg : X.2.1 a = 10 + ci) (hb : X.1 a k = some b) (k : lm_run d f (pc + 3) ls (.ref b :: st) (hi, hl, X) r) : lm_run d f pc ls (.ref a :: st) (hi, hl, X) r := by
  refine lm_r_nx ?_ k
  rw [lm_st_of h1]
  simp only [lm_i, h2, if_pos hg, lm_fv, if_pos (show lm_fk ci _ = 1 from by simpa using h3), hb, va_rf]
/-- getfield, null -/
theorem lm_r_g0 {idx ci k z : Nat} (h1 : (lm_m f).2.2.2.2.2.1.lookup pc = some (.getfield idx, len)) (h2 : (lm_kF (lm_m f).1).lookup idx = some (ci, k, z)) (h3 : (lm_fk ci k == 1) = true) (hg : X.2.1 a = 10 + ci) (hb : X.1 a k = none) (k : lm_run d f (pc + 3) ls (.null :: st) (hi, hl, X) r) : lm_run d f pc ls (.ref a :: st) (hi, hl, X) r := by
  refine lm_r_nx ?_ k
  rw [lm_st_of h1]
  simp only [lm_i, h2, if_pos hg, lm_fv, if_pos (show lm_fk ci _ = 1 from by simpa using h3), hb, va_rf]
/-- putfield, an int -/
theorem lm_r_pi {idx ci k z : Nat} {x : Int32} (h1 : (lm_m f).2.2.2.2.2.1.lookup pc = some (.putfield idx, len)) (h2 : (lm_kF (lm_m f).1).lookup idx = some (ci, k, z)) (h3 : (lm_ft ci k == 0) = true) (h4 : lm_pok f (lm_m f).1 ci k = true) (hg : X.2.1 a = 10 + ci) (h64 : 64 ≤ a) (k : lm_run d f (pc + 3) ls st (lm_up hi a k x, hl, X) r) : lm_run d f pc ls (.int x :: .ref a :: st) (hi, hl, X) r := by
  refine lm_r_nx ?_ k
  rw [lm_st_of h1]
  simp only [lm_i, h2, if_pos (show X.2.1 a = 10 + ci ∧ 64 ≤ a ∧ lm_pok f (lm_m f).1 ci _ = true from ⟨hg, h64, h4⟩), lm_put, if_pos (show lm_ft ci _ = 0 from by simpa using h3)]
/-- putfield, a boolean -/
theorem lm_r_pb {idx ci k z : Nat} {x : Int32} (h1 : (lm_m f).2.2.2.2.2.1.lookup pc = some (.putfield idx, len)) (h2 : (lm_kF (lm_m f).1).lookup idx = some (ci, k, z)) (h3 : (lm_ft ci k == 2) = true) (h4 : lm_pok f (lm_m f).1 ci k = true) (hg : X.2.1 a = 10 + ci) (h64 : 64 ≤ a) (hx : x = 0 ∨ x = 1) (k : lm_run d f (pc + 3) ls st (lm_up hi a k x, hl, X) r) : lm_run d f pc ls (.int x :: .ref a :: st) (hi, hl, X) r := by
  refine lm_r_nx ?_ k
  have h3' := eq_of_beq h3
  rw [lm_st_of h1]
  simp only [lm_i, h2, if_pos (show X.2.1 a = 10 + ci ∧ 64 ≤ a ∧ lm_pok f (lm_m f).1 ci _ = true from ⟨hg, h64, h4⟩), lm_put]
  rw [h3']
  rw [if_neg (show ¬ (2 = 0) by decide), if_pos (show 2 = 2 ∧ (x = 0 ∨ x = 1) from ⟨rfl, hx⟩)]
/-- putfield, a reference -/
theorem lm_r_pr {idx ci k z b : Nat} (h1 : (lm_m f).2.2.2.2.2.1.lookup pc = some (.putfield idx, len)) (h2 : (lm_kF (lm_m f).1).lookup idx = some (ci, k, z)) (h3 : (lm_ft ci k == 1) = true) (h4 : lm_pok f (lm_m f).1 ci k = true) (hg : X.2.1 a = 10 + ci) (h64 : 64 ≤ a) (k : lm_run d f (pc + 3) ls st (hi, hl, lm_up X.1 a k (some b), X.2) r) : lm_run d f pc ls (.ref b :: .ref a :: st) (hi, hl, X) r := by
  refine lm_r_nx ?_ k
  rw [lm_st_of h1]
  simp only [lm_i, h2, if_pos (show X.2.1 a = 10 + ci ∧ 64 ≤ a ∧ lm_pok f (lm_m f).1 ci _ = true from ⟨hg, h64, h4⟩), lm_put, if_pos (show lm_ft ci _ = 1 from by simpa using h3)]
theorem lm_r_ia {i : Int32} (h1 : (lm_m f).2.2.2.2.2.1.lookup pc = some (.iaload, len)) (hg : X.2.1 a = 1) {n : Nat} (hn : X.2.2.1 a = n) (hin : vp_in i n) (k : lm_run d f (pc + 1) ls (.int (hi a i.toNatClampNeg) :: st) (hi, hl, X) r) : lm_run d f pc ls (.int i :: .ref a :: st) (hi, hl, X) r := by
  refine lm_r_nx ?_ k
  rw [lm_st_of h1]
  simp only [lm_i, lm_ir, hg, decide_true, true_and]
  exact if_pos (by rw [hn]; exact hin)
theorem lm_r_ba {i : Int32} (h1 : (lm_m f).2.2.2.2.2.1.lookup pc = some (.baload, len)) (hg : X.2.1 a = 8) {n : Nat} (hn : X.2.2.1 a = n) (hin : vp_in i n) (k : lm_run d f (pc + 1) ls (.int (hi a i.toNatClampNeg) :: st) (hi, hl, X) r) : lm_run d f pc ls (.int i :: .ref a :: st) (hi, hl, X) r := by
  refine lm_r_nx ?_ k
  rw [lm_st_of h1]
  simp only [lm_i, lm_ir, hg, decide_true, true_and]
  exact if_pos (by rw [hn]; exact hin)
theorem lm_r_la {i : Int32} (h1 : (lm_m f).2.2.2.2.2.1.lookup pc = some (.laload, len)) (hg : X.2.1 a = 2) {n : Nat} (hn : X.2.2.1 a = n) (hin : vp_in i n) (k : lm_run d f (pc + 1) ls (.long (hl a i.toNatClampNeg) :: st) (hi, hl, X) r) : lm_run d f pc ls (.int i :: .ref a :: st) (hi, hl, X) r := by
  refine lm_r_nx ?_ k
  rw [lm_st_of h1]
  simp only [lm_i, lm_ir, hg, decide_true, true_and]
  exact if_pos (by rw [hn]; exact hin)
theorem lm_r_aa {i : Int32} {b : Nat} (h1 : (lm_m f).2.2.2.2.2.1.lookup pc = some (.aaload, len)) (hg : 4 ≤ X.2.1 a ∧ X.2.1 a ≤ 6) {n : Nat} (hn : X.2.2.1 a = n) (hin : vp_in i n) (hb : X.1 a i.toNatClampNeg = some b) (k : lm_run d f (pc + 1) ls (.ref b :: st) (hi, hl, X) r) : lm_run d f pc ls (.int i :: .ref a :: st) (hi, hl, X) r := by
  refine lm_r_nx ?_ k
  rw [lm_st_of h1]
  simp only [lm_i, lm_ir, hg, hb, va_rf, and_self, decide_true, true_and]
  exact if_pos (by rw [hn]; exact hin)
theorem lm_r_is {i x : Int32} (h1 : (lm_m f).2.2.2.2.2.1.lookup pc = some (.iastore, len)) (hg : X.2.1 a = 1) (h64 : 64 ≤ a) {n : Nat} (hn : X.2.2.1 a = n) (hin : vp_in i n) (k : lm_run d f (pc + 1) ls st (lm_up hi a i.toNatClampNeg x, hl, X) r) : lm_run d f pc ls (.int x :: .int i :: .ref a :: st) (hi, hl, X) r := by
  refine lm_r_nx ?_ k
  rw [lm_st_of h1]
  simp only [lm_i]
  exact if_pos ⟨hg, h64, by show ¬ (i < 0 ∨ X.2.2.1 a ≤ _); rw [hn]; exact hin⟩
theorem lm_r_ls {i : Int32} {x : Int64} (h1 : (lm_m f).2.2.2.2.2.1.lookup pc = some (.lastore, len)) (hg : X.2.1 a = 2) (h64 : 64 ≤ a) {n : Nat} (hn : X.2.2.1 a = n) (hin : vp_in i n) (k : lm_run d f (pc + 1) ls st (hi, lm_up hl a i.toNatClampNeg x, X) r) : lm_run d f pc ls (.long x :: .int i :: .ref a :: st) (hi, hl, X) r := by
  refine lm_r_nx ?_ k
  rw [lm_st_of h1]
  simp only [lm_i]
  exact if_pos ⟨hg, h64, by show ¬ (i < 0 ∨ X.2.2.1 a ≤ _); rw [hn]; exact hin⟩
theorem lm_r_al (h1 : (lm_m f).2.2.2.2.2.1.lookup pc = some (.arraylength, len)) (hg : X.2.1 a ≠ 0 ∧ X.2.1 a < 10) {n : Nat} (hn : X.2.2.1 a = n) (k : lm_run d f (pc + 1) ls (.int (Int32.ofNat n) :: st) (hi, hl, X) r) : lm_run d f pc ls (.ref a :: st) (hi, hl, X) r := by
  refine lm_r_nx ?_ k
  rw [lm_st_of h1]
  subst hn
  simp only [lm_i]
  exact if_pos hg
theorem lm_r_rem {x y : Int32} {h : lm_H} (h1 : (lm_m f).2.2.2.2.2.1.lookup pc = some (.irem, len)) (hy : ¬ y = 0) (k : lm_run d f (pc + 1) ls (.int (x - x / y * y) :: st) h r) : lm_run d f pc ls (.int y :: .int x :: st) h r := by
  refine lm_r_nx ?_ k
  rw [lm_st_of h1]
  simp only [lm_i]
  exact if_neg hy
theorem lm_r_lrem {x y : Int64} {h : lm_H} (h1 : (lm_m f).2.2.2.2.2.1.lookup pc = some (.lrem, len)) (hy : ¬ y = 0) (k : lm_run d f (pc + 1) ls (.long (x - x / y * y) :: st) h r) : lm_run d f pc ls (.long y :: .long x :: st) h r := by
  refine lm_r_nx ?_ k
  rw [lm_st_of h1]
  simp only [lm_i]
  exact if_neg hy
theorem lm_r_ldiv {x y : Int64} {h : lm_H} (h1 : (lm_m f).2.2.2.2.2.1.lookup pc = some (.ldiv, len)) (hy : ¬ y = 0) (k : lm_run d f (pc + 1) ls (.long (x / y) :: st) h r) : lm_run d f pc ls (.long y :: .long x :: st) h r := by
  refine lm_r_nx ?_ k
  rw [lm_st_of h1]
  simp only [lm_i]
  exact if_neg hy
/-- branches; a row a condition: the jump is taken, or not -/
theorem lm_r_icmp_eq {off : Int} {t : Nat} {x y : Int32} {h : lm_H} (h1 : (lm_m f).2.2.2.2.2.1.lookup pc = some (.if_icmp .eq off, len)) (ht : lm_tg pc off = some t) (kt : x = y → lm_run d f t ls st h r) (kf : ¬ x = y → lm_run d f (pc + 3) ls st h r) : lm_run d f pc ls (.int y :: .int x :: st) h r := by
  by_cases hc : x = y
  · refine lm_r_nx ?_ (kt hc)
    rw [lm_st_of h1]
    simp only [lm_i, lm_bt, ht, lm_br]
    exact if_pos hc
  · refine lm_r_nx ?_ (kf hc)
    rw [lm_st_of h1]
    simp only [lm_i, lm_bt, ht, lm_br]
    exact if_neg hc
theorem lm_r_icmp_ne {off : Int} {t : Nat} {x y : Int32} {h : lm_H} (h1 : (lm_m f).2.2.2.2.2.1.lookup pc = some (.if_icmp .ne off, len)) (ht : lm_tg pc off = some t) (kt : ¬ x = y → lm_run d f t ls st h r) (kf : x = y → lm_run d f (pc + 3) ls st h r) : lm_run d f pc ls (.int y :: .int x :: st) h r := by
  by_cases hc : x = y
  · refine lm_r_nx ?_ (kf hc)
    rw [lm_st_of h1]
    simp only [lm_i, lm_bt, ht, lm_br]
    exact if_pos hc
  · refine lm_r_nx ?_ (kt hc)
    rw [lm_st_of h1]
    simp only [lm_i, lm_bt, ht, lm_br]
    exact if_neg hc
theorem lm_r_icmp_lt {off : Int} {t : Nat} {x y : Int32} {h : lm_H} (h1 : (lm_m f).2.2.2.2.2.1.lookup pc = some (.if_icmp .lt off, len)) (ht : lm_tg pc off = some t) (kt : x < y → lm_run d f t ls st h r) (kf : ¬ x < y → lm_run d f (pc + 3) ls st h r) : lm_run d f pc ls (.int y :: .int x :: st) h r := by
  by_cases hc : x < y
  · refine lm_r_nx ?_ (kt hc)
    rw [lm_st_of h1]
    simp only [lm_i, lm_bt, ht, lm_br]
    exact if_pos hc
  · refine lm_r_nx ?_ (kf hc)
    rw [lm_st_of h1]
    simp only [lm_i, lm_bt, ht, lm_br]
    exact if_neg hc
theorem lm_r_icmp_ge {off : Int} {t : Nat} {x y : Int32} {h : lm_H} (h1 : (lm_m f).2.2.2.2.2.1.lookup pc = some (.if_icmp .ge off, len)) (ht : lm_tg pc off = some t) (kt : ¬ x < y → lm_run d f t ls st h r) (kf : x < y → lm_run d f (pc + 3) ls st h r) : lm_run d f pc ls (.int y :: .int x :: st) h r := by
  by_cases hc : x < y
  · refine lm_r_nx ?_ (kf hc)
    rw [lm_st_of h1]
    simp only [lm_i, lm_bt, ht, lm_br]
    exact if_pos hc
  · refine lm_r_nx ?_ (kt hc)
    rw [lm_st_of h1]
    simp only [lm_i, lm_bt, ht, lm_br]
    exact if_neg hc
theorem lm_r_icmp_gt {off : Int} {t : Nat} {x y : Int32} {h : lm_H} (h1 : (lm_m f).2.2.2.2.2.1.lookup pc = some (.if_icmp .gt off, len)) (ht : lm_tg pc off = some t) (kt : y < x → lm_run d f t ls st h r) (kf : ¬ y < x → lm_run d f (pc + 3) ls st h r) : lm_run d f pc ls (.int y :: .int x :: st) h r := by
  by_cases hc : y < x
  · refine lm_r_nx ?_ (kt hc)
    rw [lm_st_of h1]
    simp only [lm_i, lm_bt, ht, lm_br]
    exact if_pos hc
  · refine lm_r_nx ?_ (kf hc)
    rw [lm_st_of h1]
    simp only [lm_i, lm_bt, ht, lm_br]
    exact if_neg hc
theorem lm_r_icmp_le {off : Int} {t : Nat} {x y : Int32} {h : lm_H} (h1 : (lm_m f).2.2.2.2.2.1.lookup pc = some (.if_icmp .le off, len)) (ht : lm_tg pc off = some t) (kt : ¬ y < x → lm_run d f t ls st h r) (kf : y < x → lm_run d f (pc + 3) ls st h r) : lm_run d f pc ls (.int y :: .int x :: st) h r := by
  by_cases hc : y < x
  · refine lm_r_nx ?_ (kf hc)
    rw [lm_st_of h1]
    simp only [lm_i, lm_bt, ht, lm_br]
    exact if_pos hc
  · refine lm_r_nx ?_ (kt hc)
    rw [lm_st_of h1]
    simp only [lm_i, lm_bt, ht, lm_br]
    exact if_neg hc
theorem lm_r_if_eq {off : Int} {t : Nat} {x : Int32} {h : lm_H} (h1 : (lm_m f).2.2.2.2.2.1.lookup pc = some (.ifCond .eq off, len)) (ht : lm_tg pc off = some t) (kt : x = 0 → lm_run d f t ls st h r) (kf : ¬ x = 0 → lm_run d f (pc + 3) ls st h r) : lm_run d f pc ls (.int x :: st) h r := by
  by_cases hc : x = 0
  · refine lm_r_nx ?_ (kt hc)
    rw [lm_st_of h1]
    simp only [lm_i, lm_bt, ht, lm_br]
    exact if_pos hc
  · refine lm_r_nx ?_ (kf hc)
    rw [lm_st_of h1]
    simp only [lm_i, lm_bt, ht, lm_br]
    exact if_neg hc
theorem lm_r_if_ne {off : Int} {t : Nat} {x : Int32} {h : lm_H} (h1 : (lm_m f).2.2.2.2.2.1.lookup pc = some (.ifCond .ne off, len)) (ht : lm_tg pc off = some t) (kt : ¬ x = 0 → lm_run d f t ls st h r) (kf : x = 0 → lm_run d f (pc + 3) ls st h r) : lm_run d f pc ls (.int x :: st) h r := by
  by_cases hc : x = 0
  · refine lm_r_nx ?_ (kf hc)
    rw [lm_st_of h1]
    simp only [lm_i, lm_bt, ht, lm_br]
    exact if_pos hc
  · refine lm_r_nx ?_ (kt hc)
    rw [lm_st_of h1]
    simp only [lm_i, lm_bt, ht, lm_br]
    exact if_neg hc
theorem lm_r_if_lt {off : Int} {t : Nat} {x : Int32} {h : lm_H} (h1 : (lm_m f).2.2.2.2.2.1.lookup pc = some (.ifCond .lt off, len)) (ht : lm_tg pc off = some t) (kt : x < 0 → lm_run d f t ls st h r) (kf : ¬ x < 0 → lm_run d f (pc + 3) ls st h r) : lm_run d f pc ls (.int x :: st) h r := by
  by_cases hc : x < 0
  · refine lm_r_nx ?_ (kt hc)
    rw [lm_st_of h1]
    simp only [lm_i, lm_bt, ht, lm_br]
    exact if_pos hc
  · refine lm_r_nx ?_ (kf hc)
    rw [lm_st_of h1]
    simp only [lm_i, lm_bt, ht, lm_br]
    exact if_neg hc
theorem lm_r_if_ge {off : Int} {t : Nat} {x : Int32} {h : lm_H} (h1 : (lm_m f).2.2.2.2.2.1.lookup pc = some (.ifCond .ge off, len)) (ht : lm_tg pc off = some t) (kt : ¬ x < 0 → lm_run d f t ls st h r) (kf : x < 0 → lm_run d f (pc + 3) ls st h r) : lm_run d f pc ls (.int x :: st) h r := by
  by_cases hc : x < 0
  · refine lm_r_nx ?_ (kf hc)
    rw [lm_st_of h1]
    simp only [lm_i, lm_bt, ht, lm_br]
    exact if_pos hc
  · refine lm_r_nx ?_ (kt hc)
    rw [lm_st_of h1]
    simp only [lm_i, lm_bt, ht, lm_br]
    exact if_neg hc
theorem lm_r_if_gt {off : Int} {t : Nat} {x : Int32} {h : lm_H} (h1 : (lm_m f).2.2.2.2.2.1.lookup pc = some (.ifCond .gt off, len)) (ht : lm_tg pc off = some t) (kt : 0 < x → lm_run d f t ls st h r) (kf : ¬ 0 < x → lm_run d f (pc + 3) ls st h r) : lm_run d f pc ls (.int x :: st) h r := by
  by_cases hc : 0 < x
  · refine lm_r_nx ?_ (kt hc)
    rw [lm_st_of h1]
    simp only [lm_i, lm_bt, ht, lm_br]
    exact if_pos hc
  · refine lm_r_nx ?_ (kf hc)
    rw [lm_st_of h1]
    simp only [lm_i, lm_bt, ht, lm_br]
    exact if_neg hc
theorem lm_r_if_le {off : Int} {t : Nat} {x : Int32} {h : lm_H} (h1 : (lm_m f).2.2.2.2.2.1.lookup pc = some (.ifCond .le off, len)) (ht : lm_tg pc off = some t) (kt : ¬ 0 < x → lm_run d f t ls st h r) (kf : 0 < x → lm_run d f (pc + 3) ls st h r) : lm_run d f pc ls (.int x :: st) h r := by
  by_cases hc : 0 < x
  · refine lm_r_nx ?_ (kf hc)
    rw [lm_st_of h1]
    simp only [lm_i, lm_bt, ht, lm_br]
    exact if_pos hc
  · refine lm_r_nx ?_ (kt hc)
    rw [lm_st_of h1]
    simp only [lm_i, lm_bt, ht, lm_br]
    exact if_neg hc
/-- switches -/
theorem lm_r_ts {dd lo hh : Int} {os : Array Int} {x : Int32} {h : lm_H} {t : Nat} (h1 : (lm_m f).2.2.2.2.2.1.lookup pc = some (.tableswitch dd lo hh os, len)) (h2 : hh - lo + 1 = (os.size : Int) ∧ -2147483648 ≤ lo ∧ hh ≤ 2147483647) (ht : lm_tg pc (lm_sw x lo os.toList dd) = some t) (k : lm_run d f t ls st h r) : lm_run d f pc ls (.int x :: st) h r := by
  refine lm_r_nx ?_ k
  rw [lm_st_of h1]
  simp only [lm_i, if_pos h2, lm_go, ht]
theorem lm_r_ks {dd : Int} {ps : Array (Int × Int)} {x : Int32} {h : lm_H} {t : Nat} (h1 : (lm_m f).2.2.2.2.2.1.lookup pc = some (.lookupswitch dd ps, len)) (h2 : (ps.toList.zip (ps.toList.drop 1)).all (fun (a, next) => a.1 < next.1) = true ∧ ps.toList.all (fun q => decide (-2147483648 ≤ q.1 ∧ q.1 ≤ 2147483647)) = true) (ht : lm_tg pc (lm_lk x ps.toList dd) = some t) (k : lm_run d f t ls st h r) : lm_run d f pc ls (.int x :: st) h r := by
  refine lm_r_nx ?_ k
  rw [lm_st_of h1]
  simp only [lm_i, if_pos h2, lm_go, ht]
/-- returns -/
theorem lm_r_ri {x : Int32} {h : lm_H} (h1 : (lm_m f).2.2.2.2.2.1.lookup pc = some (.ireturn, len)) (h2 : (lm_m f).2.2.2.2.1 = some .int) (he : (some (.int x), h) = r) : lm_run d f pc ls [.int x] h r := by
  subst he
  refine lm_r_rt ?_
  rw [lm_st_of h1]
  simp only [lm_i, h2]
theorem lm_r_rz {x : Int32} {h : lm_H} (h1 : (lm_m f).2.2.2.2.2.1.lookup pc = some (.ireturn, len)) (h2 : (lm_m f).2.2.2.2.1 = some .boolean) (hx : x = 0 ∨ x = 1) (he : (some (.int x), h) = r) : lm_run d f pc ls [.int x] h r := by
  subst he
  refine lm_r_rt ?_
  rw [lm_st_of h1]
  simp only [lm_i, h2]
  rcases hx with rfl | rfl <;> rfl
theorem lm_r_rl {x : Int64} {h : lm_H} (h1 : (lm_m f).2.2.2.2.2.1.lookup pc = some (.lreturn, len)) (h2 : (lm_m f).2.2.2.2.1 = some .long) (he : (some (.long x), h) = r) : lm_run d f pc ls [.long x] h r := by
  subst he
  refine lm_r_rt ?_
  rw [lm_st_of h1]
  simp only [lm_i, h2]
theorem lm_r_rv {h : lm_H} (h1 : (lm_m f).2.2.2.2.2.1.lookup pc = some (.return_, len)) (h2 : (lm_m f).2.2.2.2.1 = none) (he : (none, h) = r) : lm_run d f pc ls [] h r := by
  subst he
  refine lm_r_rt ?_
  rw [lm_st_of h1]
  simp only [lm_i, h2]
end LWK
theorem lm_by {x : Int32} (c : Int32) {P : Prop} (h1 : x = c → P) (h2 : ¬ x = c → P) : P := if h : x = c then h1 h else h2 h
