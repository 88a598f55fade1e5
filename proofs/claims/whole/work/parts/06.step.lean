/-! a step of LM is the machine's: instructions that write no cell -/
theorem lm_nj_i (x : Int32) : Value.int x ≠ lm_jk := by unfold lm_jk; exact fun z => by cases z
theorem lm_nj_l (x : Int64) : Value.long x ≠ lm_jk := by unfold lm_jk; exact fun z => by cases z
theorem lm_nj_r (x : Nat) : Value.ref x ≠ lm_jk := by unfold lm_jk; exact fun z => by cases z
theorem lm_i1_inv {pc : Nat} {ls st : List Value} {h : lm_H} {g : Int32 → Value} {q} (hs : lm_i1 pc ls st h g = some (.inl q)) : ∃ x r, st = .int x :: r ∧ q = (pc + 1, ls, g x :: r, h) := by
  unfold lm_i1 at hs
  split at hs
  · cases hs; exact ⟨_, _, rfl, rfl⟩
  · cases hs
theorem lm_i2_inv {pc : Nat} {ls st : List Value} {h : lm_H} {g : Int32 → Int32 → Int32} {q} (hs : lm_i2 pc ls st h g = some (.inl q)) : ∃ x y r, st = .int y :: .int x :: r ∧ q = (pc + 1, ls, .int (g x y) :: r, h) := by
  unfold lm_i2 at hs
  split at hs
  · cases hs; exact ⟨_, _, _, rfl, rfl⟩
  · cases hs
theorem lm_l2_inv {pc : Nat} {ls st : List Value} {h : lm_H} {g : Int64 → Int64 → Int64} {q} (hs : lm_l2 pc ls st h g = some (.inl q)) : ∃ x y r, st = .long y :: .long x :: r ∧ q = (pc + 1, ls, .long (g x y) :: r, h) := by
  unfold lm_l2 at hs
  split at hs
  · cases hs; exact ⟨_, _, _, rfl, rfl⟩
  · cases hs
theorem lm_ls_inv {pc : Nat} {ls st : List Value} {h : lm_H} {g : Int64 → Int32 → Int64} {q} (hs : lm_ls pc ls st h g = some (.inl q)) : ∃ x y r, st = .int y :: .long x :: r ∧ q = (pc + 1, ls, .long (g x y) :: r, h) := by
  unfold lm_ls at hs
  split at hs
  · cases hs; exact ⟨_, _, _, rfl, rfl⟩
  · cases hs
theorem lm_li_inv {pc : Nat} {ls st : List Value} {h : lm_H} {i : Nat} {q} (hs : lm_li pc ls st h i = some (.inl q)) : ∃ x, ls[i]? = some (.int x) ∧ q = (pc, ls, .int x :: st, h) := by
  unfold lm_li at hs
  split at hs
  · rename_i x hx; cases hs; exact ⟨x, hx, rfl⟩
  · cases hs
theorem lm_ll_inv {pc : Nat} {ls st : List Value} {h : lm_H} {i : Nat} {q} (hs : lm_ll pc ls st h i = some (.inl q)) : ∃ x, ls[i]? = some (.long x) ∧ q = (pc, ls, .long x :: st, h) := by
  unfold lm_ll at hs
  split at hs
  · rename_i x hx; cases hs; exact ⟨x, hx, rfl⟩
  · cases hs
theorem lm_la_inv {pc : Nat} {ls st : List Value} {h : lm_H} {i : Nat} {q} (hs : lm_la pc ls st h i = some (.inl q)) : ∃ x, ls[i]? = some (.ref x) ∧ q = (pc, ls, .ref x :: st, h) := by
  unfold lm_la at hs
  split at hs
  · rename_i x hx; cases hs; exact ⟨x, hx, rfl⟩
  · cases hs
theorem lm_si_inv {pc : Nat} {ls st : List Value} {h : lm_H} {i : Nat} {q} (hs : lm_si pc ls st h i = some (.inl q)) : ∃ x r, st = .int x :: r ∧ i < ls.length ∧ q = (pc, lm_s1 ls i (.int x), r, h) := by
  unfold lm_si at hs
  split at hs
  · split at hs
    · rename_i hi; cases hs; exact ⟨_, _, rfl, hi, rfl⟩
    · cases hs
  · cases hs
theorem lm_sl_inv {pc : Nat} {ls st : List Value} {h : lm_H} {i : Nat} {q} (hs : lm_sl pc ls st h i = some (.inl q)) : ∃ x r, st = .long x :: r ∧ i + 1 < ls.length ∧ q = (pc, lm_s2 ls i (.long x), r, h) := by
  unfold lm_sl at hs
  split at hs
  · split at hs
    · rename_i hi; cases hs; exact ⟨_, _, rfl, hi, rfl⟩
    · cases hs
  · cases hs
theorem lm_sa_inv {pc : Nat} {ls st : List Value} {h : lm_H} {i : Nat} {q} (hs : lm_sa pc ls st h i = some (.inl q)) : ∃ x r, st = .ref x :: r ∧ i < ls.length ∧ q = (pc, lm_s1 ls i (.ref x), r, h) := by
  unfold lm_sa at hs
  split at hs
  · split at hs
    · rename_i hi; cases hs; exact ⟨_, _, rfl, hi, rfl⟩
    · cases hs
  · cases hs
theorem lm_tg_spec {pc t : Nat} {off : Int} (h : lm_tg pc off = some t) : (pc : Int) + off = (t : Int) := by
  unfold lm_tg at h
  split at h
  · rename_i t' e; cases h; exact e
  · cases h
theorem lm_go_inv {pc : Nat} {off : Int} {ls st : List Value} {h : lm_H} {q} (hs : lm_go pc off ls st h = some (.inl q)) : ∃ t : Nat, (pc : Int) + off = (t : Int) ∧ q = (t, ls, st, h) := by
  unfold lm_go at hs
  split at hs
  · rename_i t ht; cases hs; exact ⟨t, lm_tg_spec ht, rfl⟩
  · cases hs
theorem lm_bt_inv {pc : Nat} {off : Int} {co : ClassFile.Cond} {x y : Int32} {ls st : List Value} {h : lm_H} {q} (hs : lm_bt pc off co x y ls st h = some (.inl q)) : ∃ t : Nat, (pc : Int) + off = (t : Int) ∧ lm_br co x y (lm_nx t ls st h) (lm_nx (pc + 3) ls st h) = some (.inl q) := by
  unfold lm_bt at hs
  split at hs
  · rename_i t ht; exact ⟨t, lm_tg_spec ht, hs⟩
  · cases hs
theorem lm_ir_inv {pc a : Nat} {i : Int32} {ls st : List Value} {h : lm_H} {ok : Bool} {v : Value} {q} (hs : lm_ir pc a i ls st h ok v = some (.inl q)) : ok = true ∧ vp_in i (lm_ln h a) ∧ q = (pc + 1, ls, v :: st, h) := by
  unfold lm_ir at hs
  split at hs
  · rename_i hc; cases hs; exact ⟨hc.1, hc.2, rfl⟩
  · cases hs
theorem lm_ofInt_iff (x : Int32) {n : Int} (h1 : -2147483648 ≤ n) (h2 : n < 2147483648) : x = Int32.ofInt n ↔ x.toInt = n := by
  have e : (Int32.ofInt n).toInt = n := Int32.toInt_ofInt_of_le (by omega) (by omega)
  constructor
  · intro h; rw [h, e]
  · intro h; exact Int32.toInt_inj.mp (by rw [h, e])
theorem lm_sw_spec (x : Int32) : ∀ (os : List Int) (lo d : Int), -2147483648 ≤ lo → lo + os.length ≤ 2147483648 →
    ((x.toInt < lo ∨ lo + os.length ≤ x.toInt) → lm_sw x lo os d = d) ∧ (¬ x.toInt < lo → ¬ lo + os.length ≤ x.toInt → os[(x.toInt - lo).toNat]? = some (lm_sw x lo os d)) := by
  intro os
  induction os with
  | nil =>
    intro lo d h1 h2
    refine ⟨fun _ => rfl, fun q1 q2 => ?_⟩
    simp only [List.length_nil] at q2
    omega
  | cons o os ih =>
    intro lo d h1 h2
    simp only [List.length_cons] at h2 ⊢
    have hiff := lm_ofInt_iff x (n := lo) h1 (by omega)
    obtain ⟨i1, i2⟩ := ih (lo + 1) d (by omega) (by omega)
    by_cases hx : x.toInt = lo
    · refine ⟨fun q => by omega, fun _ _ => ?_⟩
      simp only [lm_sw, if_pos (hiff.mpr hx)]
      rw [show (x.toInt - lo).toNat = 0 by omega]
      rfl
    · simp only [lm_sw, if_neg (fun z => hx (hiff.mp z))]
      refine ⟨fun q => i1 (by omega), fun q1 q2 => ?_⟩
      rw [show (x.toInt - lo).toNat = (x.toInt - (lo + 1)).toNat + 1 by omega, List.getElem?_cons_succ]
      exact i2 (by omega) (by omega)
section LMS
variable {p : Program} {l : Launch} {e : Env} {R : Room} {s : State} {m : MethodId} {args : Array Value} {below : List Frame} {meth : Method} {c : Code} {H : Heap} {locs : List Loc} {cells slots : Nat} {Q : State → Prop}
variable {D : va_G} {cy : Nat → ClassId} {B : Nat} {ρ : Nat → Nat} {f pc : Nat} {ls st : List Value} {h : lm_H} {sl : Array Slot}
/-- the machine goes on from LM's next state -/
abbrev lm_K (p : Program) (l : Launch) (e : Env) (R : Room) (s : State) (m : MethodId) (args : Array Value) (below : List Frame) (meth : Method) (c : Code) (cells slots : Nat) (Q : State → Prop) (D : va_G) (cy : Nat → ClassId) (B : Nat) (ρ : Nat → Nat) (h : lm_H) (q : Nat × List Value × List Value × lm_H) : Prop :=
  ∀ (ρ' : Nat → Nat) (H' : Heap) (locs' : List Loc) (sl' : Array Slot) (cells' slots' : Nat), lm_ag h ρ ρ' → lm_G D cy B s ρ' q.2.1 q.2.2.1 q.2.2.2 H' locs' sl' → cells' + lm_nc h = cells + lm_nc q.2.2.2 → slots' + lm_ns h = slots + lm_ns q.2.2.2 →
    W p l e R s m args below meth c H' locs' cells' slots' Q (F0 m q.1 sl' (q.2.2.1.map (lm_vm ρ')))
theorem lm_K_st {pc' : Nat} {st' : List Value} (kk : lm_K p l e R s m args below meth c cells slots Q D cy B ρ h (pc', ls, st', h)) (G : lm_G D cy B s ρ ls st h H locs sl) (hok : ∀ v ∈ st', lm_ok h v) :
    W p l e R s m args below meth c H locs cells slots Q (F0 m pc' sl (st'.map (lm_vm ρ))) :=
  kk ρ H locs sl cells slots (lm_ag_rf h ρ) ⟨G.1, G.2.1, G.2.2.1, G.2.2.2.1, G.2.2.2.2.1, G.2.2.2.2.2.1, hok⟩ rfl rfl
theorem lm_K_s1 {pc' i : Nat} {v : Value} {st' : List Value} {sl' : Array Slot} {lv : List (Nat × Value)} (kk : lm_K p l e R s m args below meth c cells slots Q D cy B ρ h (pc', lm_s1 ls i v, st', h)) (G : lm_G D cy B s ρ ls st h H locs sl) (hi : i < ls.length) (h2 : ∀ (i : Nat) (v : Value), ls[i]? = some v → v ≠ lm_jk → (i, lm_vm ρ v) ∈ lv)
    (hl' : lv_has sl' ls.length ((i, lm_vm ρ v) :: lv.filter (fun q => !(q.1 == i) && !(q.1 + 1 == i && q.2.category == 2)))) (hv : lm_ok h v) (hok : ∀ v ∈ st', lm_ok h v) :
    W p l e R s m args below meth c H locs cells slots Q (F0 m pc' sl' (st'.map (lm_vm ρ))) :=
  kk ρ H locs sl' cells slots (lm_ag_rf h ρ) ⟨G.1, G.2.1, G.2.2.1, G.2.2.2.1, ⟨_, by rw [lm_s1_len]; exact hl', lm_L_s1 h2 hi⟩, lm_ok_s1 hv G.2.2.2.2.2.1, hok⟩ rfl rfl
theorem lm_K_s2 {pc' i : Nat} {v : Value} {st' : List Value} {sl' : Array Slot} {lv : List (Nat × Value)} (kk : lm_K p l e R s m args below meth c cells slots Q D cy B ρ h (pc', lm_s2 ls i v, st', h)) (G : lm_G D cy B s ρ ls st h H locs sl) (hi : i + 1 < ls.length) (h2 : ∀ (i : Nat) (v : Value), ls[i]? = some v → v ≠ lm_jk → (i, lm_vm ρ v) ∈ lv)
    (hl' : lv_has sl' ls.length ((i, lm_vm ρ v) :: lv.filter (fun q => !(q.1 == i) && (!(q.1 == i + 1) && !(q.1 + 1 == i && q.2.category == 2))))) (hv : lm_ok h v) (hok : ∀ v ∈ st', lm_ok h v) :
    W p l e R s m args below meth c H locs cells slots Q (F0 m pc' sl' (st'.map (lm_vm ρ))) :=
  kk ρ H locs sl' cells slots (lm_ag_rf h ρ) ⟨G.1, G.2.1, G.2.2.1, G.2.2.2.1, ⟨_, by unfold lm_s2; rw [List.length_set, lm_s1_len]; exact hl', lm_L_s2 h2 hi⟩, lm_ok_s2 hv G.2.2.2.2.2.1, hok⟩ rfl rfl
end LMS
