/-! a step of LM is the machine's: new cells -/
theorem lm_u1_eq {α : Type} {g : Nat → α} {a : Nat} {v : α} : lm_u1 g a v a = v := if_pos rfl
theorem lm_u1_ne {α : Type} {g : Nat → α} {a b : Nat} {v : α} (h : b ≠ a) : lm_u1 g a v b = g b := if_neg h
section LMN
variable {p : Program} {l : Launch} {e : Env} {R : Room} {s : State} {m : MethodId} {args : Array Value} {below : List Frame} {meth : Method} {c : Code} {H H1 : Heap} {locs locs1 : List Loc} {cells slots : Nat} {Q : State → Prop}
variable {D : va_G} {cy : Nat → ClassId} {B : Nat} {ρ : Nat → Nat} {f pc : Nat} {ls st st' r : List Value} {h h1 : lm_H} {sl : Array Slot}
/-- the state behind one more cell -/
theorem lm_G_new (G : lm_G D cy B s ρ ls st h H locs sl) {a q : Nat} (ha : 64 ≤ a) (hk : lm_kd h a = 0) (ekd : ∀ b, b ≠ a → lm_kd h1 b = lm_kd h b) (hka : lm_kd h1 a = 1 ∨ lm_kd h1 a = 2 ∨ lm_kd h1 a = 4 ∨ lm_kd h1 a = 5 ∨ lm_kd h1 a = 6 ∨ (10 ≤ lm_kd h1 a ∧ lm_kd h1 a < 18))
    (eln : ∀ b, b ≠ a → lm_ln h1 b = lm_ln h b) (e1 : ∀ b, b ≠ a → h1.1 b = h.1 b) (e3 : ∀ b, b ≠ a → lm_hr h1 b = lm_hr h b) (hn : ∀ j, lm_hr h1 a j = none)
    (hW : lm_Wd D cy B (lm_u1 ρ a q) h1 H1) (hS1 : va_S (fun q => B ≤ q) s.heap H1 locs1) (hst : ∀ v ∈ st', lm_ok h1 v) :
    lm_ag h ρ (lm_u1 ρ a q) ∧ lm_G D cy B s (lm_u1 ρ a q) ls st' h1 H1 locs1 sl := by
  have hne : ∀ b, lm_kd h b ≠ 0 → b ≠ a := fun b hb z => hb (z ▸ hk)
  have hag : lm_ag h ρ (lm_u1 ρ a q) := fun b hb => lm_u1_ne (hne b hb)
  have hok : ∀ v, lm_ok h v → lm_ok h1 v := fun v hv b hb => by rw [ekd b (hne b (hv b hb))]; exact hv b hb
  have h64 : ∀ b, b < 64 → b ≠ a := fun b hb z => by omega
  refine ⟨hag, hW, ⟨fun b j d hb hd => ?_, fun b hb hb0 => ?_, fun b hb => by rw [ekd b (h64 b hb)]; exact G.2.1.2.2 b hb⟩, lm_Old.cong G.2.1 hag (fun b hb => ekd b (h64 b hb)) (fun b hb => eln b (h64 b hb)) (fun b hb => e1 b (h64 b hb)) (fun b hb => e3 b (h64 b hb)) G.2.2.1, hS1, lm_L_ag hag G.2.2.2.2.2.1 G.2.2.2.2.1, fun v hv => hok v (G.2.2.2.2.2.1 v hv), hst⟩
  · by_cases hba : b = a
    · subst hba
      rw [hn j] at hd
      cases hd
    · rw [e3 b hba] at hd
      rw [ekd b hba] at hb
      have := G.2.1.1 b j d hb hd
      rw [ekd d (hne d this)]
      exact this
  · by_cases hba : b = a
    · subst hba
      exact hka
    · rw [ekd b hba] at hb0 ⊢
      exact G.2.1.2.1 b hb hb0
theorem lm_E_new {a q : Nat} (hv : lm_HV h) (hk : lm_kd h a = 0) (ekd : ∀ b, b ≠ a → lm_kd h1 b = lm_kd h b) (eln : ∀ b, b ≠ a → lm_ln h1 b = lm_ln h b) (e1 : ∀ b, b ≠ a → h1.1 b = h.1 b) (e2 : ∀ b, b ≠ a → h1.2.1 b = h.2.1 b) (e3 : ∀ b, b ≠ a → lm_hr h1 b = lm_hr h b) :
    ∀ b, lm_kd h b ≠ 0 → lm_E cy (lm_u1 ρ a q) h1 b = lm_E cy ρ h b := by
  intro b hb
  have hba : b ≠ a := fun z => hb (z ▸ hk)
  exact lm_E_cong (ekd b hba) (eln b hba) (e1 b hba) (e2 b hba) (e3 b hba) (fun j d hd => lm_u1_ne (fun z => hv.1 b j d hb hd (z ▸ hk)))
theorem lm_t_new (V : lm_V D cy s) (hx : p.tables.exec = Jvm.exec) {cc : ByteArray} (hb : c.code = cc) {c0 idx ci N i a : Nat} (hown : s.vm.findClass (lm_own c0) = some m.cls) (hB : B ≤ s.heap.size) (hk : (idx, ci, N, i) ∈ lm_kC c0) (hd : decode cc pc = .ok (.new idx, 3))
    (G : lm_G D cy B s ρ ls st h H locs sl) (hka : lm_kd h a = 0) (ha : 64 ≤ a) (hlt : ci < 8) (hr1 : cells + 1 ≤ R.cells) (hr2 : slots + N ≤ R.slots)
    (kk : lm_K p l e R s m args below meth c cells slots Q D cy B ρ h (pc + 3, ls, .ref a :: st, lm_new h a ci N)) :
    W p l e R s m args below meth c H locs cells slots Q (F0 m pc sl (st.map (lm_vm ρ))) := by
  obtain ⟨hw, hN⟩ := (lm_okn_all c0 _ hk).1 hlt
  dsimp only at hw hN
  subst hN
  obtain ⟨w1, w2⟩ := lm_new_words ci hlt
  obtain ⟨ws, hP, hD, hback⟩ := lm_Wd_new G.1 ha hka
  have ekd : ∀ b, b ≠ a → lm_kd (lm_new h a ci (lm_cl ci).2.2) b = lm_kd h b := fun b hb => lm_u1_ne hb
  have e1 : ∀ b, b ≠ a → (lm_new h a ci (lm_cl ci).2.2).1 b = h.1 b := fun b hb => lm_row_ne hb
  have e3 : ∀ b, b ≠ a → lm_hr (lm_new h a ci (lm_cl ci).2.2) b = lm_hr h b := fun b hb => lm_row_ne hb
  have hkd : lm_kd (lm_new h a ci (lm_cl ci).2.2) a = 10 + ci := lm_u1_eq
  have hfv : ∀ (ρ' : Nat → Nat) k, lm_vm ρ' (lm_fv (lm_new h a ci (lm_cl ci).2.2) ci a k) = if lm_ft ci k = 1 then .null else .int 0 := by
    intro ρ' k
    have hfk : lm_fk ci k = lm_ft ci k := if_neg (by omega)
    unfold lm_fv
    rw [hfk]
    split
    · show lm_vm ρ' (va_rf (lm_row h.2.2.1 a (fun _ => none) a k)) = _
      rw [lm_row_eq]
      rfl
    · show lm_vm ρ' (.int (lm_row h.1 a (fun _ => 0) a k)) = _
      rw [lm_row_eq]
      rfl
  refine va_new (ci := ci) (fs := (List.range (lm_nf ci)).map (fun k => if lm_ft ci k = 1 then Value.null else .int 0)) hx hb (fun w hw => V.1 w hw args) (lm_us_all hlt) (lm_tyf ci) (lm_ty_ok hlt) hown (V.1 _ (lm_in hw rfl) args) (V.1 _ (List.mem_filter.mpr ⟨w1, rfl⟩) args) (V.1 _ (List.mem_filter.mpr ⟨w2, rfl⟩) args) V.2.1 hP hD G.2.2.2.1 (fun q hq => Nat.le_trans hB hq) (lm_cl_get hlt) (fun j hj => ?_) hr1 hr2 hd (fun q H1 hP1 hD1 hS1 => ?_)
  · unfold vp_V
    rw [List.getD_eq_getElem?_getD, List.getElem?_map, List.getElem?_range (by rw [lm_nf_cl hlt]; exact hj)]
    obtain ⟨t0, t2, t1, t3, -⟩ := lm_ft_ty ci hlt j hj
    simp only [Option.map_some, Option.getD_some]
    rcases t3 with z | z | z
    · rw [t0 z, if_neg (by omega)]
      rfl
    · rw [if_pos z]
      have := t1 z
      revert this
      cases lm_tyf ci j <;> intro this <;> first | rfl | cases this
    · rw [t2 z, if_neg (by omega)]
      rfl
  · have eE : lm_E cy (lm_u1 ρ a q) (lm_new h a ci (lm_cl ci).2.2) a = .inr (ci, (List.range (lm_nf ci)).map (fun k => if lm_ft ci k = 1 then Value.null else .int 0)) := by
      rw [lm_E_obj hkd]
      simp only [hfv]
    rw [← eE] at hP1 hD1
    have hW := hback (lm_new h a ci (lm_cl ci).2.2) H1 q ekd (by rw [hkd]; omega) (lm_E_new G.2.1 hka ekd (fun _ _ => rfl) e1 (fun _ _ => rfl) e3) hP1 hD1
    have hok : ∀ v, lm_ok h v → lm_ok (lm_new h a ci (lm_cl ci).2.2) v := fun v hv b hb => by
      have := hv b hb
      rw [ekd b (fun z => this (z ▸ hka))]
      exact this
    obtain ⟨hag, G1⟩ := lm_G_new (st' := .ref a :: st) G ha hka ekd (by rw [hkd]; omega) (fun _ _ => rfl) e1 e3 (fun j => by show lm_row h.2.2.1 a (fun _ => none) a j = none; rw [lm_row_eq]) hW hS1 (lm_ok_cons (fun b hb => by cases hb; rw [hkd]; omega) (fun v hv => hok v (G.2.2.2.2.2.2 v hv)))
    have := kk (lm_u1 ρ a q) H1 locs sl (cells + 1) (slots + (lm_cl ci).2.2) hag G1 (by show cells + 1 + lm_nc h = cells + (lm_nc h + 1); omega) (by show slots + (lm_cl ci).2.2 + lm_ns h = slots + (lm_ns h + (lm_cl ci).2.2); omega)
    simp only [List.map_cons] at this
    rw [lm_map_ag hag G.2.2.2.2.2.2] at this
    have e9 : lm_vm (lm_u1 ρ a q) (.ref a) = .ref q := by show Value.ref (lm_u1 ρ a q a) = _; rw [lm_u1_eq]
    rw [e9] at this
    exact this
/-- what is the same of all new arrays -/
theorem lm_arr_go {K n a q : Nat} (hB : B ≤ s.heap.size) {x9 : Int32} (G : lm_G D cy B s ρ ls (.int x9 :: st) h H locs sl) (hka : lm_kd h a = 0) (ha : 64 ≤ a) (hK : K = 1 ∨ K = 2 ∨ K = 4) (hS1 : va_S (fun q => B ≤ q) s.heap H1 locs1) {pc' : Nat}
    (hW : lm_Wd D cy B (lm_u1 ρ a q) (lm_arr h a K n) H1)
    (kk : lm_K p l e R s m args below meth c cells slots Q D cy B ρ h (pc', ls, .ref a :: st, lm_arr h a K n)) :
    W p l e R s m args below meth c H1 locs1 (cells + 1) (slots + n) Q (F0 m pc' sl (.ref q :: st.map (lm_vm ρ))) := by
  have hst : ∀ v ∈ st, lm_ok h v := fun v hv => G.2.2.2.2.2.2 v (List.mem_cons_of_mem _ hv)
  have ekd : ∀ b, b ≠ a → lm_kd (lm_arr h a K n) b = lm_kd h b := fun b hb => lm_u1_ne hb
  have hkd : lm_kd (lm_arr h a K n) a = K := lm_u1_eq
  have hok : ∀ v, lm_ok h v → lm_ok (lm_arr h a K n) v := fun v hv b hb => by
    have := hv b hb
    rw [ekd b (fun z => this (z ▸ hka))]
    exact this
  obtain ⟨hag, G1⟩ := lm_G_new (st' := .ref a :: st) G ha hka ekd (by rw [hkd]; omega) (fun b hb => lm_u1_ne hb) (fun b hb => lm_row_ne hb) (fun b hb => lm_row_ne hb) (fun j => by show lm_row h.2.2.1 a (fun _ => none) a j = none; rw [lm_row_eq]) hW hS1 (lm_ok_cons (fun b hb => by cases hb; rw [hkd]; omega) (fun v hv => hok v (hst v hv)))
  have := kk (lm_u1 ρ a q) H1 locs1 sl (cells + 1) (slots + n) hag G1 (by show cells + 1 + lm_nc h = cells + (lm_nc h + 1); omega) (by show slots + n + lm_ns h = slots + (lm_ns h + n); omega)
  simp only [List.map_cons] at this
  rw [lm_map_ag hag hst] at this
  have e9 : lm_vm (lm_u1 ρ a q) (.ref a) = .ref q := by show Value.ref (lm_u1 ρ a q a) = _; rw [lm_u1_eq]
  rw [e9] at this
  exact this
theorem lm_E_arrs {K n a q : Nat} (hv : lm_HV h) (hka : lm_kd h a = 0) : ∀ b, lm_kd h b ≠ 0 → lm_E cy (lm_u1 ρ a q) (lm_arr h a K n) b = lm_E cy ρ h b :=
  lm_E_new hv hka (fun b hb => lm_u1_ne hb) (fun b hb => lm_u1_ne hb) (fun b hb => lm_row_ne hb) (fun b hb => lm_row_ne hb) (fun b hb => lm_row_ne hb)
theorem lm_t_newi (V : lm_V D cy s) (hx : p.tables.exec = Jvm.exec) {cc : ByteArray} (hb : c.code = cc) {a : Nat} {n : Int32} (hB : B ≤ s.heap.size) (hd : decode cc pc = .ok (.newarray .int, 2))
    (G : lm_G D cy B s ρ ls (.int n :: st) h H locs sl) (hka : lm_kd h a = 0) (ha : 64 ≤ a) (hn : ¬ n < 0) (hn2 : n.toNatClampNeg ≤ 100000) (hr1 : cells + 1 ≤ R.cells) (hr2 : slots + n.toNatClampNeg ≤ R.slots)
    (kk : lm_K p l e R s m args below meth c cells slots Q D cy B ρ h (pc + 2, ls, .ref a :: st, lm_arr h a 1 n.toNatClampNeg)) :
    W p l e R s m args below meth c H locs cells slots Q (F0 m pc sl ((Value.int n :: st).map (lm_vm ρ))) := by
  obtain ⟨ws, hP, hD, hback⟩ := lm_Wd_new G.1 ha hka
  have hbt : n.toNatClampNeg * componentBytes .int ≤ 536870912 := by
    have e : componentBytes .int = 4 := rfl
    rw [e]
    omega
  have hcell : ∀ cA : ClassId, vp_cell cA (n.toNatClampNeg, .inl (fun _ => 0)) = arrV cA n.toNatClampNeg (fun _ => defaultValue .int) := fun _ => rfl
  have harr := V.1 _ (List.mem_filter.mpr ⟨lm_arr_words.1, rfl⟩) args
  refine va_newa (atype := .int) (ty := .int) (a0 := (n.toNatClampNeg, .inl (fun _ => 0))) hx hb harr rfl V.2.1 hP hD G.2.2.2.1 (fun q hq => Nat.le_trans hB hq) hcell hn rfl hbt hr1 hr2 hd (fun q cA H1 hK1 hP1 hD1 hS1 => ?_)
  have hA1 := (hK1.2 5 (cA, .int) rfl).2
  have hA2 := (V.2.1.2 0 (cy 1, .int) rfl).2
  have hcy : cA = cy 1 := Option.some.inj ((show s.vm.findClass _ = some cA from hA1).symm.trans hA2)
  subst hcy
  have hkd : lm_kd (lm_arr h a 1 n.toNatClampNeg) a = 1 := lm_u1_eq
  have eE : lm_E cy (lm_u1 ρ a q) (lm_arr h a 1 n.toNatClampNeg) a = .inl (cy 1, n.toNatClampNeg, .inl (fun _ => 0)) := by
    rw [lm_E_i hkd]
    show Sum.inl (cy 1, lm_u1 h.2.2.2.2.1 a n.toNatClampNeg a, Sum.inl (lm_row h.1 a (fun _ => 0) a)) = _
    rw [lm_u1_eq, lm_row_eq]
  rw [← eE] at hP1 hD1
  have hW := hback _ H1 q (fun b hb => lm_u1_ne hb) (by rw [hkd]; decide) (lm_E_arrs G.2.1 hka) hP1 hD1
  exact lm_arr_go hB G hka ha (Or.inl rfl) hS1 hW kk
theorem lm_t_newl (V : lm_V D cy s) (hx : p.tables.exec = Jvm.exec) {cc : ByteArray} (hb : c.code = cc) {a : Nat} {n : Int32} (hB : B ≤ s.heap.size) (hd : decode cc pc = .ok (.newarray .long, 2))
    (G : lm_G D cy B s ρ ls (.int n :: st) h H locs sl) (hka : lm_kd h a = 0) (ha : 64 ≤ a) (hn : ¬ n < 0) (hn2 : n.toNatClampNeg ≤ 100000) (hr1 : cells + 1 ≤ R.cells) (hr2 : slots + n.toNatClampNeg ≤ R.slots)
    (kk : lm_K p l e R s m args below meth c cells slots Q D cy B ρ h (pc + 2, ls, .ref a :: st, lm_arr h a 2 n.toNatClampNeg)) :
    W p l e R s m args below meth c H locs cells slots Q (F0 m pc sl ((Value.int n :: st).map (lm_vm ρ))) := by
  obtain ⟨ws, hP, hD, hback⟩ := lm_Wd_new G.1 ha hka
  have hbt : n.toNatClampNeg * componentBytes .long ≤ 536870912 := by
    have e : componentBytes .long = 8 := rfl
    rw [e]
    omega
  have hcell : ∀ cA : ClassId, vp_cell cA (n.toNatClampNeg, .inr (.inl (fun _ => 0))) = arrV cA n.toNatClampNeg (fun _ => defaultValue .long) := fun _ => rfl
  have harr := V.1 _ (List.mem_filter.mpr ⟨lm_arr_words.2, rfl⟩) args
  refine va_newa (atype := .long) (ty := .long) (a0 := (n.toNatClampNeg, .inr (.inl (fun _ => 0)))) hx hb harr rfl V.2.1 hP hD G.2.2.2.1 (fun q hq => Nat.le_trans hB hq) hcell hn rfl hbt hr1 hr2 hd (fun q cA H1 hK1 hP1 hD1 hS1 => ?_)
  have hA1 := (hK1.2 5 (cA, .long) rfl).2
  have hA2 := (V.2.1.2 1 (cy 2, .long) rfl).2
  have hcy : cA = cy 2 := Option.some.inj ((show s.vm.findClass _ = some cA from hA1).symm.trans hA2)
  subst hcy
  have hkd : lm_kd (lm_arr h a 2 n.toNatClampNeg) a = 2 := lm_u1_eq
  have eE : lm_E cy (lm_u1 ρ a q) (lm_arr h a 2 n.toNatClampNeg) a = .inl (cy 2, n.toNatClampNeg, .inr (.inl (fun _ => 0))) := by
    rw [lm_E_l hkd]
    show Sum.inl (cy 2, lm_u1 h.2.2.2.2.1 a n.toNatClampNeg a, Sum.inr (Sum.inl (lm_row h.2.1 a (fun _ => 0) a))) = _
    rw [lm_u1_eq, lm_row_eq]
  rw [← eE] at hP1 hD1
  have hW := hback _ H1 q (fun b hb => lm_u1_ne hb) (by rw [hkd]; decide) (lm_E_arrs G.2.1 hka) hP1 hD1
  exact lm_arr_go hB G hka ha (Or.inr (Or.inl rfl)) hS1 hW kk
theorem lm_t_newq (V : lm_V D cy s) (hx : p.tables.exec = Jvm.exec) {cc : ByteArray} (hb : c.code = cc) {c0 idx N i a : Nat} {n : Int32} (hown : s.vm.findClass (lm_own c0) = some m.cls) (hB : B ≤ s.heap.size) (hk : (idx, 2, N, i) ∈ lm_kC c0) (hd : decode cc pc = .ok (.anewarray idx, 3))
    (G : lm_G D cy B s ρ ls (.int n :: st) h H locs sl) (hka : lm_kd h a = 0) (ha : 64 ≤ a) (hn : ¬ n < 0) (hn2 : n.toNatClampNeg ≤ 100000) (hr1 : cells + 1 ≤ R.cells) (hr2 : slots + n.toNatClampNeg ≤ R.slots)
    (kk : lm_K p l e R s m args below meth c cells slots Q D cy B ρ h (pc + 3, ls, .ref a :: st, lm_arr h a 4 n.toNatClampNeg)) :
    W p l e R s m args below meth c H locs cells slots Q (F0 m pc sl ((Value.int n :: st).map (lm_vm ρ))) := by
  obtain ⟨hw, -⟩ := (lm_okn_all c0 _ hk).1 (show 2 < 8 by decide)
  dsimp only at hw
  obtain ⟨ws, hP, hD, hback⟩ := lm_Wd_new G.1 ha hka
  refine va_newq (C := "AwakeByHalves$Shelf") hx hb hown (V.1 _ (lm_in hw rfl) args) V.2.2.1 V.2.1 hP hD G.2.2.2.1 (fun q hq => Nat.le_trans hB hq) hn rfl (by omega) hr1 hr2 hd (fun q cA H1 hK1 hP1 hD1 hS1 => ?_)
  obtain ⟨-, -, -, -, -, hA1⟩ := (hK1.2 5 (cA, .object "AwakeByHalves$Shelf") rfl).2
  obtain ⟨-, -, -, -, -, hA2⟩ := (V.2.1.2 2 (cy 4, .object "AwakeByHalves$Shelf") rfl).2
  have hcy : cA = cy 4 := Option.some.inj (hA1.symm.trans hA2)
  subst hcy
  have hkd : lm_kd (lm_arr h a 4 n.toNatClampNeg) a = 4 := lm_u1_eq
  have eE : lm_E cy (lm_u1 ρ a q) (lm_arr h a 4 n.toNatClampNeg) a = .inl (cy 4, n.toNatClampNeg, .inr (.inr (.inr (.inr (fun _ => none))))) := by
    rw [lm_E_r hkd (by decide) (by decide)]
    show Sum.inl (cy 4, lm_u1 h.2.2.2.2.1 a n.toNatClampNeg a, Sum.inr (Sum.inr (Sum.inr (Sum.inr (fun j => (lm_row h.2.2.1 a (fun _ => none) a j).map (lm_u1 ρ a q)))))) = _
    rw [lm_u1_eq, lm_row_eq]
    rfl
  rw [← eE] at hP1 hD1
  have hW := hback _ H1 q (fun b hb => lm_u1_ne hb) (by rw [hkd]; decide) (lm_E_arrs G.2.1 hka) hP1 hD1
  exact lm_arr_go hB G hka ha (Or.inr (Or.inr rfl)) hS1 hW kk
end LMN
