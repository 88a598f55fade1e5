/-! LM and the machine: when a state of LM is a state of the machine -/
abbrev lm_kd (h : lm_H) : Nat → Nat := h.2.2.2.1
abbrev lm_ln (h : lm_H) : Nat → Nat := h.2.2.2.2.1
abbrev lm_hr (h : lm_H) : Nat → Nat → Option Nat := h.2.2.1
abbrev lm_nc (h : lm_H) : Nat := h.2.2.2.2.2.2.1
abbrev lm_ns (h : lm_H) : Nat := h.2.2.2.2.2.2.2
def lm_vm (ρ : Nat → Nat) (v : Value) : Value := match v with
  | .ref a => .ref (ρ a)
  | v => v
theorem lm_vm_cat (ρ : Nat → Nat) (v : Value) : (lm_vm ρ v).category = v.category := by cases v <;> rfl
theorem lm_vm_rf (ρ : Nat → Nat) (o : Option Nat) : lm_vm ρ (va_rf o) = va_rf (o.map ρ) := by cases o <;> rfl
theorem lm_s1_len (ls : List Value) (i : Nat) (v : Value) : (lm_s1 ls i v).length = ls.length := by
  unfold lm_s1
  split
  · simp
  · split
    · split <;> simp
    · simp
theorem lm_s1_get (ls : List Value) (i : Nat) (v : Value) (hi : i < ls.length) (j : Nat) (w : Value) (h : (lm_s1 ls i v)[j]? = some w) :
    (j = i ∧ w = v) ∨ w = lm_jk ∨ (j ≠ i ∧ ls[j]? = some w ∧ ¬ (j + 1 = i ∧ w.category = 2)) := by
  unfold lm_s1 at h
  cases i with
  | zero =>
    by_cases hj : j = 0
    · subst hj
      rw [List.getElem?_set_self hi] at h
      cases h
      exact Or.inl ⟨rfl, rfl⟩
    · rw [List.getElem?_set_ne (Ne.symm hj)] at h
      exact Or.inr (Or.inr ⟨hj, h, fun q => by omega⟩)
  | succ k =>
    have hkl : k < ls.length := by omega
    have hk : ls[k]? = some ls[k] := List.getElem?_eq_getElem hkl
    generalize ls[k] = u at hk
    simp only [hk] at h
    by_cases hc : u.category = 2
    · rw [if_pos hc] at h
      by_cases hj : j = k + 1
      · subst hj
        rw [List.getElem?_set_self (by simpa using hi)] at h
        cases h
        exact Or.inl ⟨rfl, rfl⟩
      · rw [List.getElem?_set_ne (Ne.symm hj)] at h
        by_cases hj2 : j = k
        · subst hj2
          rw [List.getElem?_set_self hkl] at h
          cases h
          exact Or.inr (Or.inl rfl)
        · rw [List.getElem?_set_ne (Ne.symm hj2)] at h
          exact Or.inr (Or.inr ⟨hj, h, fun q => by omega⟩)
    · rw [if_neg hc] at h
      by_cases hj : j = k + 1
      · subst hj
        rw [List.getElem?_set_self hi] at h
        cases h
        exact Or.inl ⟨rfl, rfl⟩
      · rw [List.getElem?_set_ne (Ne.symm hj)] at h
        refine Or.inr (Or.inr ⟨hj, h, fun q => ?_⟩)
        have : j = k := by omega
        subst this
        rw [hk] at h
        cases h
        exact hc q.2
def lm_L (ρ : Nat → Nat) (ls : List Value) (sl : Array Slot) : Prop := ∃ lv, lv_has sl ls.length lv ∧ ∀ (i : Nat) (v : Value), ls[i]? = some v → v ≠ lm_jk → (i, lm_vm ρ v) ∈ lv
theorem lm_L_get {ρ : Nat → Nat} {ls : List Value} {sl : Array Slot} (h : lm_L ρ ls sl) {i : Nat} {v : Value} (hi : ls[i]? = some v) (hv : v ≠ lm_jk) : sl[i]? = some (.val (lm_vm ρ v)) := by
  obtain ⟨lv, h1, h2⟩ := h
  exact h1.2.2 (i, lm_vm ρ v) (h2 i v hi hv)
theorem lm_L_s1 {ρ : Nat → Nat} {ls : List Value} {lv : List (Nat × Value)} (h2 : ∀ (i : Nat) (v : Value), ls[i]? = some v → v ≠ lm_jk → (i, lm_vm ρ v) ∈ lv) {i : Nat} {v : Value} (hi : i < ls.length) :
    ∀ (j : Nat) (w : Value), (lm_s1 ls i v)[j]? = some w → w ≠ lm_jk → (j, lm_vm ρ w) ∈ ((i, lm_vm ρ v) :: lv.filter (fun q => !(q.1 == i) && !(q.1 + 1 == i && q.2.category == 2))) := by
  intro j w hj hw
  rcases lm_s1_get ls i v hi j w hj with ⟨rfl, rfl⟩ | h | ⟨h1, h3, h4⟩
  · exact List.mem_cons_self
  · exact absurd h hw
  · refine List.mem_cons_of_mem _ (List.mem_filter.mpr ⟨h2 j w h3 hw, ?_⟩)
    simp only [lm_vm_cat, Bool.and_eq_true, Bool.not_eq_true', beq_eq_false_iff_ne, ne_eq, Bool.and_eq_false_iff]
    refine ⟨h1, ?_⟩
    by_cases q : j + 1 = i
    · exact Or.inr fun z => h4 ⟨q, z⟩
    · exact Or.inl q
theorem lm_L_s2 {ρ : Nat → Nat} {ls : List Value} {lv : List (Nat × Value)} (h2 : ∀ (i : Nat) (v : Value), ls[i]? = some v → v ≠ lm_jk → (i, lm_vm ρ v) ∈ lv) {i : Nat} {v : Value} (hi : i + 1 < ls.length) :
    ∀ (j : Nat) (w : Value), (lm_s2 ls i v)[j]? = some w → w ≠ lm_jk → (j, lm_vm ρ w) ∈ ((i, lm_vm ρ v) :: lv.filter (fun q => !(q.1 == i) && (!(q.1 == i + 1) && !(q.1 + 1 == i && q.2.category == 2)))) := by
  intro j w hj hw
  unfold lm_s2 at hj
  by_cases hj1 : j = i + 1
  · subst hj1
    rw [List.getElem?_set_self (by rw [lm_s1_len]; exact hi)] at hj
    cases hj
    exact absurd rfl hw
  · rw [List.getElem?_set_ne (Ne.symm hj1)] at hj
    rcases lm_s1_get ls i v (by omega) j w hj with ⟨rfl, rfl⟩ | h | ⟨h1, h3, h4⟩
    · exact List.mem_cons_self
    · exact absurd h hw
    · refine List.mem_cons_of_mem _ (List.mem_filter.mpr ⟨h2 j w h3 hw, ?_⟩)
      simp only [lm_vm_cat, Bool.and_eq_true, Bool.not_eq_true', beq_eq_false_iff_ne, ne_eq, Bool.and_eq_false_iff]
      refine ⟨h1, hj1, ?_⟩
      by_cases q : j + 1 = i
      · exact Or.inr fun z => h4 ⟨q, z⟩
      · exact Or.inl q
/-- the locals with which a method begins -/
theorem lm_exp_args (ρ : Nat → Nat) : ∀ (as : List Value) (k i : Nat) (v : Value), (lm_exp as)[i]? = some v → v ≠ lm_jk → (k + i, lm_vm ρ v) ∈ lv_args k (as.map (lm_vm ρ)) := by
  intro as
  induction as with
  | nil => intro k i v h _; simp [lm_exp] at h
  | cons w as ih =>
    intro k i v h hv
    simp only [lm_exp] at h
    simp only [List.map_cons, lv_args, lm_vm_cat]
    by_cases hc : w.category = 2
    · rw [if_pos hc] at h ⊢
      cases i with
      | zero => simp only [List.getElem?_cons_zero] at h; cases h; exact List.mem_cons_self
      | succ i =>
        cases i with
        | zero => simp only [List.getElem?_cons_succ, List.getElem?_cons_zero] at h; cases h; exact absurd rfl hv
        | succ i =>
          simp only [List.getElem?_cons_succ] at h
          refine List.mem_cons_of_mem _ ?_
          rw [show k + (i + 1 + 1) = k + 2 + i by omega]
          exact ih (k + 2) i v h hv
    · rw [if_neg hc] at h ⊢
      cases i with
      | zero => simp only [List.getElem?_cons_zero] at h; cases h; exact List.mem_cons_self
      | succ i =>
        simp only [List.getElem?_cons_succ] at h
        refine List.mem_cons_of_mem _ ?_
        rw [show k + (i + 1) = k + 1 + i by omega]
        exact ih (k + 1) i v h hv
theorem lm_exp_len (ρ : Nat → Nat) : ∀ as : List Value, (lg_sl (as.map (lm_vm ρ))).length = (lm_exp as).length := by
  intro as
  induction as with
  | nil => rfl
  | cons w as ih =>
    simp only [lg_sl, List.map_cons, List.flatMap_cons, List.length_append, lm_vm_cat, lm_exp] at ih ⊢
    by_cases hc : w.category = 2
    · rw [if_pos hc, if_pos hc]
      simp only [List.length_cons, List.length_nil, ih]
      omega
    · rw [if_neg hc, if_neg hc]
      simp only [List.length_cons, List.length_nil, ih]
      omega
theorem lm_ini_len {n : Nat} {as : List Value} (h : (lm_exp as).length ≤ n) : (lm_ini n as).length = n := by
  unfold lm_ini
  rw [List.length_append, List.length_replicate]
  omega
theorem lm_L_ini (ρ : Nat → Nat) {n : Nat} {as : List Value} (h : (lm_exp as).length ≤ n) :
    lm_L ρ (lm_ini n as) ((lg_sl (as.map (lm_vm ρ)) ++ List.replicate (n - (lg_sl (as.map (lm_vm ρ))).length) Slot.unset).toArray) := by
  refine ⟨lv_args 0 (as.map (lm_vm ρ)), ?_, fun i v hi hv => ?_⟩
  · rw [lm_ini_len h]
    exact lv_entry _ (by rw [lm_exp_len]; exact h)
  · unfold lm_ini at hi
    by_cases hl : i < (lm_exp as).length
    · rw [List.getElem?_append_left hl] at hi
      have := lm_exp_args ρ as 0 i v hi hv
      rwa [Nat.zero_add] at this
    · rw [List.getElem?_append_right (by omega)] at hi
      exact absurd (List.eq_of_mem_replicate (List.mem_of_getElem? hi)) hv
/-- a value's reference is to a cell that there is -/
def lm_ok (h : lm_H) (v : Value) : Prop := ∀ a, v = .ref a → lm_kd h a ≠ 0
def lm_ag (h : lm_H) (ρ ρ' : Nat → Nat) : Prop := ∀ a, lm_kd h a ≠ 0 → ρ' a = ρ a
theorem lm_ag_rf (h : lm_H) (ρ : Nat → Nat) : lm_ag h ρ ρ := fun _ _ => rfl
theorem lm_vm_ag {h : lm_H} {ρ ρ' : Nat → Nat} {v : Value} (ha : lm_ag h ρ ρ') (hv : lm_ok h v) : lm_vm ρ' v = lm_vm ρ v := by
  cases v <;> first | rfl | (simp only [lm_vm]; rw [ha _ (hv _ rfl)])
theorem lm_L_ag {h : lm_H} {ρ ρ' : Nat → Nat} {ls : List Value} {sl : Array Slot} (ha : lm_ag h ρ ρ') (hv : ∀ v ∈ ls, lm_ok h v) (hl : lm_L ρ ls sl) : lm_L ρ' ls sl := by
  obtain ⟨lv, h1, h2⟩ := hl
  exact ⟨lv, h1, fun i v hi hj => by rw [lm_vm_ag ha (hv v (List.mem_of_getElem? hi))]; exact h2 i v hi hj⟩
theorem lm_map_ag {h : lm_H} {ρ ρ' : Nat → Nat} {st : List Value} (ha : lm_ag h ρ ρ') (hv : ∀ v ∈ st, lm_ok h v) : st.map (lm_vm ρ') = st.map (lm_vm ρ) := List.map_congr_left fun v hm => lm_vm_ag ha (hv v hm)
theorem lm_ok_int (h : lm_H) (x : Int32) : lm_ok h (.int x) := fun _ e => by cases e
theorem lm_ok_long (h : lm_H) (x : Int64) : lm_ok h (.long x) := fun _ e => by cases e
theorem lm_ok_jk (h : lm_H) : lm_ok h lm_jk := fun _ e => by cases e
theorem lm_ok_cons {h : lm_H} {v : Value} {st : List Value} (h1 : lm_ok h v) (h2 : ∀ w ∈ st, lm_ok h w) : ∀ w ∈ v :: st, lm_ok h w := fun w hw => (List.mem_cons.mp hw).elim (fun e => e ▸ h1) (h2 w)
theorem lm_ok_s1 {h : lm_H} {ls : List Value} {i : Nat} {v : Value} (h1 : lm_ok h v) (h2 : ∀ w ∈ ls, lm_ok h w) : ∀ w ∈ lm_s1 ls i v, lm_ok h w := by
  have key : ∀ (l : List Value) (j : Nat) (u : Value), lm_ok h u → (∀ w ∈ l, lm_ok h w) → ∀ w ∈ l.set j u, lm_ok h w := fun l j u hu hl w hw => (List.mem_or_eq_of_mem_set hw).elim (hl w) (fun e => e ▸ hu)
  intro w hw
  unfold lm_s1 at hw
  split at hw
  · exact key _ _ _ h1 h2 w hw
  · split at hw
    · split at hw
      · exact key _ _ _ h1 (key _ _ _ (lm_ok_jk h) h2) w hw
      · exact key _ _ _ h1 h2 w hw
    · exact key _ _ _ h1 h2 w hw
theorem lm_ok_s2 {h : lm_H} {ls : List Value} {i : Nat} {v : Value} (h1 : lm_ok h v) (h2 : ∀ w ∈ ls, lm_ok h w) : ∀ w ∈ lm_s2 ls i v, lm_ok h w := fun w hw =>
  (List.mem_or_eq_of_mem_set hw).elim (lm_ok_s1 h1 h2 w) (fun e => e ▸ lm_ok_jk h)
theorem lm_ok_exp {h : lm_H} : ∀ {as : List Value}, (∀ w ∈ as, lm_ok h w) → ∀ w ∈ lm_exp as, lm_ok h w := by
  intro as
  induction as with
  | nil => intro _ w hw; cases hw
  | cons v as ih =>
    intro hv w hw
    have h1 := hv v List.mem_cons_self
    have h2 := ih (fun u hu => hv u (List.mem_cons_of_mem _ hu))
    simp only [lm_exp] at hw
    split at hw
    · exact lm_ok_cons h1 (lm_ok_cons (lm_ok_jk h) h2) w hw
    · exact lm_ok_cons h1 h2 w hw
theorem lm_ok_ini {h : lm_H} {n : Nat} {as : List Value} (hv : ∀ w ∈ as, lm_ok h w) : ∀ w ∈ lm_ini n as, lm_ok h w := fun w hw =>
  (List.mem_append.mp hw).elim (lm_ok_exp hv w) (fun q => (List.eq_of_mem_replicate q) ▸ lm_ok_jk h)
/-- a cell as the kit's worlds have it -/
def lm_E (cy : Nat → ClassId) (ρ : Nat → Nat) (h : lm_H) (a : Nat) : va_E :=
  if lm_kd h a = 1 then .inl (cy 1, lm_ln h a, .inl (h.1 a))
  else if lm_kd h a = 2 then .inl (cy 2, lm_ln h a, .inr (.inl (h.2.1 a)))
  else if lm_kd h a < 10 then .inl (cy (lm_kd h a), lm_ln h a, .inr (.inr (.inr (.inr (fun j => (lm_hr h a j).map ρ)))))
  else .inr (lm_kd h a - 10, (List.range (lm_nf (lm_kd h a - 10))).map (fun k => lm_vm ρ (lm_fv h (lm_kd h a - 10) a k)))
abbrev lm_F (cy : Nat → ClassId) (ρ : Nat → Nat) (h : lm_H) (a : Nat) : Nat × va_E := (ρ a, lm_E cy ρ h a)
/-- kinds; references are to cells that there are -/
def lm_HV (h : lm_H) : Prop := (∀ a j b, lm_kd h a ≠ 0 → lm_hr h a j = some b → lm_kd h b ≠ 0) ∧
  (∀ a, 64 ≤ a → lm_kd h a ≠ 0 → lm_kd h a = 1 ∨ lm_kd h a = 2 ∨ lm_kd h a = 4 ∨ lm_kd h a = 5 ∨ lm_kd h a = 6 ∨ (10 ≤ lm_kd h a ∧ lm_kd h a < 18)) ∧
  (∀ a, a < 64 → lm_kd h a = 0 ∨ lm_kd h a = 1 ∨ lm_kd h a = 8 ∨ lm_kd h a = 40)
theorem lm_E_cong {cy : Nat → ClassId} {ρ ρ' : Nat → Nat} {h h' : lm_H} {a : Nat} (e1 : lm_kd h' a = lm_kd h a) (e2 : lm_ln h' a = lm_ln h a) (e3 : h'.1 a = h.1 a) (e4 : h'.2.1 a = h.2.1 a) (e5 : lm_hr h' a = lm_hr h a)
    (hr : ∀ j b, lm_hr h a j = some b → ρ' b = ρ b) : lm_E cy ρ' h' a = lm_E cy ρ h a := by
  have hm : ∀ j, (lm_hr h a j).map ρ' = (lm_hr h a j).map ρ := fun j => by
    cases hb : lm_hr h a j with
    | none => rfl
    | some b => simp only [Option.map_some, hr j b hb]
  have hf : ∀ ci k, lm_vm ρ' (lm_fv h' ci a k) = lm_vm ρ (lm_fv h ci a k) := fun ci k => by
    unfold lm_fv
    rw [e3, show h'.2.2.1 a = h.2.2.1 a from e5]
    split
    · rw [lm_vm_rf, lm_vm_rf, hm]
    · rfl
  unfold lm_E
  rw [e1, e2, e3, e4, e5]
  simp only [hm, hf]
theorem lm_E_ag {cy : Nat → ClassId} {ρ ρ' : Nat → Nat} {h : lm_H} {a : Nat} (hv : lm_HV h) (ha : lm_ag h ρ ρ') (hk : lm_kd h a ≠ 0) : lm_E cy ρ' h a = lm_E cy ρ h a :=
  lm_E_cong rfl rfl rfl rfl rfl (fun j b hb => ha b (hv.1 a j b hk hb))
def lm_Wd (D : va_G) (cy : Nat → ClassId) (B : Nat) (ρ : Nat → Nat) (h : lm_H) (H : Heap) : Prop := ∃ L : List Nat, L.Nodup ∧ (∀ a, a ∈ L ↔ (64 ≤ a ∧ lm_kd h a ≠ 0)) ∧ va_P D vwCl (L.map (lm_F cy ρ h)) H ∧ va_D (fun q => B ≤ q) (L.map (lm_F cy ρ h))
theorem lm_map_set {L : List Nat} (hn : L.Nodup) {k a : Nat} (hk : L[k]? = some a) {F F' : Nat → Nat × va_E} (hne : ∀ b, b ≠ a → F' b = F b) : (L.map F).set k (F' a) = L.map F' := by
  have hl := (List.getElem?_eq_some_iff.mp hk).1
  apply List.ext_getElem?
  intro j
  by_cases hj : j = k
  · subst hj
    rw [List.getElem?_set_self (by simpa using hl), List.getElem?_map, hk]
    rfl
  · rw [List.getElem?_set_ne (Ne.symm hj), List.getElem?_map, List.getElem?_map]
    cases hb : L[j]? with
    | none => rfl
    | some b =>
      have hba : b ≠ a := fun e => hj (by
        subst e
        exact (List.getElem?_inj (List.getElem?_eq_some_iff.mp hb).1 hn).mp (hb.trans hk.symm))
      simp only [Option.map_some, hne b hba]
/-- a cell's place in a world, and the world behind a store there -/
theorem lm_Wd_at {D : va_G} {cy : Nat → ClassId} {B : Nat} {ρ : Nat → Nat} {h : lm_H} {H : Heap} (hW : lm_Wd D cy B ρ h H) {a : Nat} (h1 : 64 ≤ a) (h2 : lm_kd h a ≠ 0) :
    ∃ (ws : va_W) (k : Nat), va_P D vwCl ws H ∧ va_D (fun q => B ≤ q) ws ∧ ws[k]? = some (ρ a, lm_E cy ρ h a) ∧
      ∀ (h' : lm_H) (H1 : Heap), (∀ b, lm_kd h' b = lm_kd h b) → (∀ b, b ≠ a → lm_E cy ρ h' b = lm_E cy ρ h b) → va_P D vwCl (ws.set k (ρ a, lm_E cy ρ h' a)) H1 → va_D (fun q => B ≤ q) (ws.set k (ρ a, lm_E cy ρ h' a)) → lm_Wd D cy B ρ h' H1 := by
  obtain ⟨L, hn, hL, hP, hD⟩ := hW
  obtain ⟨k, hk⟩ := List.getElem?_of_mem ((hL a).mpr ⟨h1, h2⟩)
  refine ⟨L.map (lm_F cy ρ h), k, hP, hD, by rw [List.getElem?_map, hk]; rfl, fun h' H1 hkd hE hP1 hD1 => ?_⟩
  have e : (L.map (lm_F cy ρ h)).set k (ρ a, lm_E cy ρ h' a) = L.map (lm_F cy ρ h') := lm_map_set (F := lm_F cy ρ h) (F' := lm_F cy ρ h') hn hk (fun b hb => by simp only [lm_F, hE b hb])
  rw [e] at hP1 hD1
  exact ⟨L, hn, fun b => by rw [hL b, hkd b], hP1, hD1⟩
/-- a world with one more cell -/
theorem lm_Wd_new {D : va_G} {cy : Nat → ClassId} {B : Nat} {ρ : Nat → Nat} {h : lm_H} {H : Heap} (hW : lm_Wd D cy B ρ h H) {a : Nat} (h1 : 64 ≤ a) (h2 : lm_kd h a = 0) :
    ∃ ws : va_W, va_P D vwCl ws H ∧ va_D (fun q => B ≤ q) ws ∧
      ∀ (h' : lm_H) (H1 : Heap) (q : Nat), (∀ b, b ≠ a → lm_kd h' b = lm_kd h b) → lm_kd h' a ≠ 0 → (∀ b, lm_kd h b ≠ 0 → lm_E cy (lm_u1 ρ a q) h' b = lm_E cy ρ h b) → va_P D vwCl (ws ++ [(q, lm_E cy (lm_u1 ρ a q) h' a)]) H1 → va_D (fun q => B ≤ q) (ws ++ [(q, lm_E cy (lm_u1 ρ a q) h' a)]) → lm_Wd D cy B (lm_u1 ρ a q) h' H1 := by
  obtain ⟨L, hn, hL, hP, hD⟩ := hW
  have hna : a ∉ L := fun q => ((hL a).mp q).2 h2
  refine ⟨L.map (lm_F cy ρ h), hP, hD, fun h' H1 q hkd hka hE hP1 hD1 => ?_⟩
  have e : L.map (lm_F cy ρ h) ++ [(q, lm_E cy (lm_u1 ρ a q) h' a)] = (L ++ [a]).map (lm_F cy (lm_u1 ρ a q) h') := by
    rw [List.map_append, List.map_cons, List.map_nil]
    congr 1
    · apply List.map_congr_left
      intro b hb
      have hba : b ≠ a := fun z => hna (z ▸ hb)
      simp only [lm_F, hE b ((hL b).mp hb).2, lm_u1, if_neg hba]
    · simp only [lm_F, lm_u1, if_pos]
  rw [e] at hP1 hD1
  refine ⟨L ++ [a], ?_, fun b => ?_, hP1, hD1⟩
  · rw [List.nodup_append]
    exact ⟨hn, by simp, fun x hx y hy => by rw [List.mem_singleton.mp hy]; exact fun z => hna (z ▸ hx)⟩
  · rw [List.mem_append, List.mem_singleton, hL b]
    by_cases hb : b = a
    · subst hb
      exact ⟨fun _ => ⟨h1, hka⟩, fun _ => Or.inr rfl⟩
    · rw [hkd b hb]
      exact ⟨fun q => q.elim id (fun z => absurd z hb), Or.inl⟩
def lm_gw (w : Jvm.Cond) : Bool := match w with
  | .fieldLinkNest .. => true
  | .methodLinkNest .. => true
  | w => goodWord w
/-- the words that a method's walk may use -/
def lm_ts : List Jvm.Cond := lw_tbl.filter lm_gw
theorem lm_ts_warm {w : Jvm.Cond} (hg : lm_gw w = true) {s U : State} (hW : s.WarmedH U.vm) (h : ∀ a : Array Value, w.before a s = true) (a : Array Value) : w.before a U = true := by
  have key : goodWord w = true → w.before a U = true := fun hq => word_at hW (good_of_word hq) (h #[])
  cases w <;> first
    | exact va_Nw.use rfl (va_Nw.warmF hW (va_Nw.of rfl (h #[])))
    | exact va_Nw.use rfl (va_Nw.warmM hW (va_Nw.of rfl (h #[])))
    | exact key hg
def lm_AA (ty : FieldType) (U : State) : Prop := (Cond.arrayOver (.array ty)).before #[] U = true
theorem lm_AA.moved {ty : FieldType} {u U : State} (hvm : u.vm.Alike U.vm) (h : lm_AA ty u) : lm_AA ty U := by
  have h1 : (Cond.arrayOver (.array ty)).before #[] (u.setVm U.vm) = true := by
    rw [Cond.arrayOver_setVmC hvm]
    exact h
  first
    | exact va_tabs rfl (rfl : (u.setVm U.vm).vm = U.vm) h1
    | exact h1
def lm_tys (cy : Nat → ClassId) : List (ClassId × FieldType) := [(cy 1, .int), (cy 2, .long), (cy 4, .object "AwakeByHalves$Shelf"), (cy 5, .array .int), (cy 6, .array .long)]
/-- what the tables say in a state -/
def lm_V (D : va_G) (cy : Nat → ClassId) (U : State) : Prop :=
  (∀ w ∈ lm_ts, ∀ a : Array Value, w.before a U = true) ∧ va_K D vwCl (lm_tys cy) U ∧ va_AO "AwakeByHalves$Shelf" U ∧ lm_AA .int U ∧ lm_AA .long U
theorem lm_V.warm {D : va_G} {cy : Nat → ClassId} {s U : State} (hW : s.WarmedH U.vm) (h : lm_V D cy s) : lm_V D cy U :=
  ⟨fun w hw a => lm_ts_warm (List.mem_filter.mp hw).2 hW (h.1 w hw) a, va_K.moved hW.alike h.2.1, va_AO.moved hW.alike h.2.2.1, h.2.2.2.1.moved hW.alike, h.2.2.2.2.moved hW.alike⟩
/-- the old cells: the script, texts and their bytes, statics -/
def lm_Old (B : Nat) (ρ : Nat → Nat) (h : lm_H) (U : State) (H : Heap) : Prop :=
  (∀ a, a < 64 → lm_kd h a = 1 → va_T .int (ρ a) (lm_ln h a) (fun j => .int (h.1 a j)) (fun q => B ≤ q) U H) ∧
  (∀ a, a < 64 → lm_kd h a = 8 → va_T .byte (ρ a) (lm_ln h a) (fun j => .int (h.1 a j)) (fun q => B ≤ q) U H) ∧
  (∀ a, a < 64 → lm_kd h a = 40 → va_O "java/lang/String" (ρ a) (fun q => B ≤ q) U H ∧ va_OF "java/lang/String" "value" "[B" (lm_vm ρ (lm_fv h 30 a 0)) (ρ a) (fun q => B ≤ q) U H ∧ va_OF "java/lang/String" "coder" "B" (lm_vm ρ (lm_fv h 30 a 1)) (ρ a) (fun q => B ≤ q) U H) ∧
  va_Z "java/lang/String" "COMPACT_STRINGS" "Z" (.int 1) (fun q => B ≤ q) U H ∧ (lm_kd h 60 = 1 ∧ va_Z "AwakeByHalves" "RULE_ABOVE" "[I" (.ref (ρ 60)) (fun q => B ≤ q) U H) ∧
  va_Zq "jdk/internal/util/Preconditions" "SIOOBE_FORMATTER" "Ljava/util/function/BiFunction;" (fun q => B ≤ q) U H ∧
  ∀ c, ∀ q ∈ lm_kV c, ∀ k, q.2.1 = .ref k → (k < 64 ∧ lm_kd h k = 40) ∧ ∃ tx, vk_R (lm_own c) q.1 tx (ρ k) U
theorem lm_Old.moved {B : Nat} {ρ : Nat → Nat} {h : lm_H} {s U : State} {H H1 : Heap} (hW : s.WarmedH U.vm) (hq : ∀ a : Nat, a < H.size → ¬ B ≤ a → H1[a]? = H[a]?) (hO : lm_Old B ρ h s H) : lm_Old B ρ h U H1 := by
  obtain ⟨h1, h2, h3, h4, h5, h6, h7⟩ := hO
  have hv := hW.alike
  exact ⟨fun a ha hk => ((h1 a ha hk).kept hq).moved hv, fun a ha hk => ((h2 a ha hk).kept hq).moved hv, fun a ha hk => ⟨((h3 a ha hk).1.kept hq).moved hv, ((h3 a ha hk).2.1.kept hq).moved hv, ((h3 a ha hk).2.2.kept hq).moved hv⟩,
    (h4.kept hq).moved hv, ⟨h5.1, (h5.2.kept hq).moved hv⟩, (h6.kept hq).moved hv, fun c q hm k hk => ⟨(h7 c q hm k hk).1, (h7 c q hm k hk).2.elim fun tx hx => ⟨tx, hx.warm hW⟩⟩⟩
theorem lm_Old.cong {B : Nat} {ρ ρ' : Nat → Nat} {h h' : lm_H} {U : State} {H : Heap} (hv : lm_HV h) (ha : lm_ag h ρ ρ') (e1 : ∀ a, a < 64 → lm_kd h' a = lm_kd h a) (e2 : ∀ a, a < 64 → lm_ln h' a = lm_ln h a) (e3 : ∀ a, a < 64 → h'.1 a = h.1 a) (e5 : ∀ a, a < 64 → lm_hr h' a = lm_hr h a)
    (hO : lm_Old B ρ h U H) : lm_Old B ρ' h' U H := by
  obtain ⟨h1, h2, h3, h4, h5, h6, h7⟩ := hO
  have hf : ∀ a, a < 64 → lm_kd h a = 40 → ∀ k, lm_vm ρ' (lm_fv h' 30 a k) = lm_vm ρ (lm_fv h 30 a k) := fun a hl hk k => by
    unfold lm_fv
    rw [e3 a hl, show h'.2.2.1 a = h.2.2.1 a from e5 a hl]
    split
    · rw [lm_vm_rf, lm_vm_rf]
      cases hb : h.2.2.1 a k with
      | none => rfl
      | some b => simp only [Option.map_some, ha b (hv.1 a k b (by rw [hk]; decide) hb)]
    · rfl
  refine ⟨fun a hl hk => ?_, fun a hl hk => ?_, fun a hl hk => ?_, h4, ⟨by rw [e1 60 (by decide)]; exact h5.1, by rw [ha 60 (by rw [h5.1]; decide)]; exact h5.2⟩, h6, fun c q hm k hk => ?_⟩
  · rw [e1 a hl] at hk
    rw [ha a (by rw [hk]; decide), e2 a hl, e3 a hl]
    exact h1 a hl hk
  · rw [e1 a hl] at hk
    rw [ha a (by rw [hk]; decide), e2 a hl, e3 a hl]
    exact h2 a hl hk
  · rw [e1 a hl] at hk
    rw [ha a (by rw [hk]; decide), hf a hl hk, hf a hl hk]
    exact h3 a hl hk
  · obtain ⟨⟨g1, g2⟩, tx, g3⟩ := h7 c q hm k hk
    exact ⟨⟨g1, by rw [e1 k g1]; exact g2⟩, tx, by rw [ha k (by rw [g2]; decide)]; exact g3⟩
/-- the machine at a method of the program -/
def lm_Cx (f : Nat) (p : Program) (s : State) (m : MethodId) (meth : Method) (c : Code) : Prop :=
  p.tables.exec = Jvm.exec ∧ c.code = (lm_m f).2.2.1 ∧ c.maxLocals = (lm_m f).2.2.2.1 ∧ s.vm.findClass (lm_own (lm_m f).1) = some m.cls ∧ meth.sig.returnType = (lm_m f).2.2.2.2.1 ∧ meth.locks = false ∧ (f ∈ lm_inits → meth.name = (lm_m f).2.1.name)
/-- a state of LM is the machine's -/
def lm_G (D : va_G) (cy : Nat → ClassId) (B : Nat) (s : State) (ρ : Nat → Nat) (ls st : List Value) (h : lm_H) (H : Heap) (locs : List Loc) (sl : Array Slot) : Prop :=
  lm_Wd D cy B ρ h H ∧ lm_HV h ∧ lm_Old B ρ h s s.heap ∧ va_S (fun q => B ≤ q) s.heap H locs ∧ lm_L ρ ls sl ∧ (∀ v ∈ ls, lm_ok h v) ∧ ∀ v ∈ st, lm_ok h v
