/-! a step of LM is the machine's: cells read -/
theorem lm_in {i : Nat} {w : Jvm.Cond} (hw : lw_tbl[i]? = some w) (hg : lm_gw w = true) : w ∈ lm_ts := List.mem_filter.mpr ⟨List.mem_of_getElem? hw, hg⟩
theorem lm_cl_get {ci : Nat} (h : ci < 8) : vwCl[ci]? = some ((lm_cl ci).1, (lm_cl ci).2.1, (lm_cl ci).2.2) := by
  match ci, h with
  | 0, _ => rfl
  | 1, _ => rfl
  | 2, _ => rfl
  | 3, _ => rfl
  | 4, _ => rfl
  | 5, _ => rfl
  | 6, _ => rfl
  | 7, _ => rfl
theorem lm_nf_cl {ci : Nat} (h : ci < 8) : lm_nf ci = (lm_cl ci).2.2 := by
  match ci, h with
  | 0, _ => rfl
  | 1, _ => rfl
  | 2, _ => rfl
  | 3, _ => rfl
  | 4, _ => rfl
  | 5, _ => rfl
  | 6, _ => rfl
  | 7, _ => rfl
theorem lm_us_good {C : String} {T : u_T} {N : Nat} : ∀ w ∈ u_ws C T N, lm_gw w = true := by
  intro w hw
  unfold u_ws at hw
  obtain ⟨k, -, rfl⟩ := List.mem_map.mp hw
  unfold u_lay
  split <;> rfl
theorem lm_us_all {ci : Nat} (h : ci < 8) : ∀ w ∈ u_ws (lm_cl ci).1 (lm_cl ci).2.1 (lm_cl ci).2.2, w ∈ lm_ts := by
  have key : ∀ w ∈ u_ws (lm_cl ci).1 (lm_cl ci).2.1 (lm_cl ci).2.2, w ∈ lw_tbl := by
    match ci, h with
    | 0, _ => exact lm_us_0
    | 1, _ => exact lm_us_1
    | 2, _ => exact lm_us_2
    | 3, _ => exact lm_us_3
    | 4, _ => exact lm_us_4
    | 5, _ => exact lm_us_5
    | 6, _ => exact lm_us_6
    | 7, _ => exact lm_us_7
  exact fun w hw => List.mem_filter.mpr ⟨key w hw, lm_us_good w hw⟩
theorem lm_E_obj {cy : Nat → ClassId} {ρ : Nat → Nat} {h : lm_H} {a ci : Nat} (hk : lm_kd h a = 10 + ci) : lm_E cy ρ h a = .inr (ci, (List.range (lm_nf ci)).map (fun k => lm_vm ρ (lm_fv h ci a k))) := by
  unfold lm_E
  rw [if_neg (by omega), if_neg (by omega), if_neg (by omega), show lm_kd h a - 10 = ci by omega]
theorem lm_E_i {cy : Nat → ClassId} {ρ : Nat → Nat} {h : lm_H} {a : Nat} (hk : lm_kd h a = 1) : lm_E cy ρ h a = .inl (cy 1, lm_ln h a, .inl (h.1 a)) := by
  unfold lm_E
  rw [if_pos hk]
theorem lm_E_l {cy : Nat → ClassId} {ρ : Nat → Nat} {h : lm_H} {a : Nat} (hk : lm_kd h a = 2) : lm_E cy ρ h a = .inl (cy 2, lm_ln h a, .inr (.inl (h.2.1 a))) := by
  unfold lm_E
  rw [if_neg (by omega), if_pos hk]
theorem lm_E_r {cy : Nat → ClassId} {ρ : Nat → Nat} {h : lm_H} {a n : Nat} (hk : lm_kd h a = n) (h1 : 4 ≤ n) (h2 : n ≤ 6) : lm_E cy ρ h a = .inl (cy n, lm_ln h a, .inr (.inr (.inr (.inr (fun j => (lm_hr h a j).map ρ))))) := by
  unfold lm_E
  rw [if_neg (by omega), if_neg (by omega), if_pos (by omega), hk]
theorem lm_ok_rf {h : lm_H} (hv : lm_HV h) {a k : Nat} (hk : lm_kd h a ≠ 0) : lm_ok h (va_rf (lm_hr h a k)) := by
  intro b hb
  cases e : lm_hr h a k with
  | none => rw [e] at hb; cases hb
  | some d =>
    rw [e] at hb
    cases hb
    exact hv.1 a k b hk e
theorem lm_ok_fv {h : lm_H} (hv : lm_HV h) {ci a k : Nat} (hk : lm_kd h a ≠ 0) : lm_ok h (lm_fv h ci a k) := by
  unfold lm_fv
  split
  · exact lm_ok_rf hv hk
  · exact lm_ok_int _ _
theorem lm_new64 {h : lm_H} (hv : lm_HV h) {a ci : Nat} (hc : ci < 8) (hk : lm_kd h a = 10 + ci) : 64 ≤ a := by
  rcases Nat.lt_or_ge a 64 with q | q
  · rcases hv.2.2 a q with z | z | z | z <;> omega
  · exact q
section LMR
variable {p : Program} {l : Launch} {e : Env} {R : Room} {s : State} {m : MethodId} {args : Array Value} {below : List Frame} {meth : Method} {c : Code} {H : Heap} {locs : List Loc} {cells slots : Nat} {Q : State → Prop}
variable {D : va_G} {cy : Nat → ClassId} {B : Nat} {ρ : Nat → Nat} {f pc : Nat} {ls st r : List Value} {h : lm_H} {sl : Array Slot}
theorem lm_t_getfield (hx : p.tables.exec = Jvm.exec) {cc : ByteArray} (hb : c.code = cc) (V : lm_V D cy s) {c0 idx ci k i a : Nat} (hown : s.vm.findClass (lm_own c0) = some m.cls) (hk : (idx, ci, k, i) ∈ lm_kF c0) (hd : decode cc pc = .ok (.getfield idx, 3))
    (G : lm_G D cy B s ρ ls (.ref a :: r) h H locs sl) (hkd : lm_kd h a = 10 + ci) (kk : lm_K p l e R s m args below meth c cells slots Q D cy B ρ h (pc + 3, ls, lm_fv h ci a k :: r, h)) :
    W p l e R s m args below meth c H locs cells slots Q (F0 m pc sl ((Value.ref a :: r).map (lm_vm ρ))) := by
  obtain ⟨h1, h2⟩ := lm_okf_all c0 _ hk
  have hst := G.2.2.2.2.2.2
  have hk0 : lm_kd h a ≠ 0 := by omega
  have hK := lm_K_st kk G (lm_ok_cons (lm_ok_fv G.2.1 hk0) (fun v hv => hst v (List.mem_cons_of_mem _ hv)))
  by_cases h30 : ci = 30
  · subst h30
    have ha : a < 64 := by
      rcases Nat.lt_or_ge a 64 with q | q
      · exact q
      · rcases G.2.1.2.1 a q hk0 with z | z | z | z | z | z <;> omega
    obtain ⟨-, g1, g2⟩ := G.2.2.1.2.2.1 a ha hkd
    rcases h2 rfl with ⟨e0, hw⟩ | ⟨e0, hw⟩
    · dsimp only at e0 hw
      subst e0
      exact vk_getf hx hb g1 G.2.2.2.1 hown (V.1 _ (lm_in hw rfl) args) (fun _ z => z) hd hK
    · dsimp only at e0 hw
      subst e0
      exact vk_getf hx hb g2 G.2.2.2.1 hown (V.1 _ (lm_in hw rfl) args) (fun _ z => z) hd hK
  · obtain ⟨hlt, hw, hN⟩ := h1 h30
    dsimp only at hlt hw hN
    obtain ⟨ws, kq, hP, hD, he, -⟩ := lm_Wd_at G.1 (lm_new64 G.2.1 hlt hkd) hk0
    rw [lm_E_obj hkd] at he
    exact va_get (ci := ci) (v := lm_vm ρ (lm_fv h ci a k)) hx hb (fun w hw => V.1 w hw args) (lm_us_all hlt) hown V.2.1 hP kq he (lm_cl_get hlt) k hN (V.1 _ (lm_in hw rfl) args) (fun _ z => z) (by rw [List.getElem?_map, List.getElem?_range (by rw [lm_nf_cl hlt]; exact hN)]; rfl) hd hK
theorem lm_t_iaload (hx : p.tables.exec = Jvm.exec) {cc : ByteArray} (hb : c.code = cc) (V : lm_V D cy s) {a : Nat} {i : Int32} (hd : decode cc pc = .ok (.iaload, 1)) (G : lm_G D cy B s ρ ls (.int i :: .ref a :: r) h H locs sl) (hkd : lm_kd h a = 1) (hin : vp_in i (lm_ln h a))
    (kk : lm_K p l e R s m args below meth c cells slots Q D cy B ρ h (pc + 1, ls, .int (h.1 a i.toNatClampNeg) :: r, h)) :
    W p l e R s m args below meth c H locs cells slots Q (F0 m pc sl ((Value.int i :: Value.ref a :: r).map (lm_vm ρ))) := by
  have hst := G.2.2.2.2.2.2
  have hK := lm_K_st kk G (lm_ok_cons (lm_ok_int _ _) (fun v hv => hst v (List.mem_cons_of_mem _ (List.mem_cons_of_mem _ hv))))
  rcases Nat.lt_or_ge a 64 with ha | ha
  · obtain ⟨cell, g1, g2, g3, g4, g5, g6, -⟩ := (G.2.2.1.1 a ha hkd).kept G.2.2.2.1.2.1
    have hlt : i.toNatClampNeg < lm_ln h a := Nat.not_le.mp fun q => hin (Or.inr q)
    exact W.iald (v := .int (h.1 a i.toNatClampNeg)) hx hb g1 g2 g3 (fun q => q.elim (fun z => hin (Or.inl z)) (fun z => by omega)) (g6 _ hlt) rfl rfl hd hK
  · obtain ⟨ws, kq, hP, hD, he, -⟩ := lm_Wd_at G.1 ha (by omega)
    rw [lm_E_i hkd] at he
    exact va_iald hx hb V.2.1 hP kq 0 he rfl hin hd hK
theorem lm_t_baload (hx : p.tables.exec = Jvm.exec) {cc : ByteArray} (hb : c.code = cc) {a : Nat} {i : Int32} (hd : decode cc pc = .ok (.baload, 1)) (G : lm_G D cy B s ρ ls (.int i :: .ref a :: r) h H locs sl) (hkd : lm_kd h a = 8) (hin : vp_in i (lm_ln h a))
    (kk : lm_K p l e R s m args below meth c cells slots Q D cy B ρ h (pc + 1, ls, .int (h.1 a i.toNatClampNeg) :: r, h)) :
    W p l e R s m args below meth c H locs cells slots Q (F0 m pc sl ((Value.int i :: Value.ref a :: r).map (lm_vm ρ))) := by
  have hst := G.2.2.2.2.2.2
  have hK := lm_K_st kk G (lm_ok_cons (lm_ok_int _ _) (fun v hv => hst v (List.mem_cons_of_mem _ (List.mem_cons_of_mem _ hv))))
  have ha : a < 64 := by
    rcases Nat.lt_or_ge a 64 with q | q
    · exact q
    · rcases G.2.1.2.1 a q (by omega) with z | z | z | z | z | z <;> omega
  obtain ⟨cell, g1, g2, g3, g4, g5, g6, -⟩ := (G.2.2.1.2.1 a ha hkd).kept G.2.2.2.1.2.1
  have hlt : i.toNatClampNeg < lm_ln h a := Nat.not_le.mp fun q => hin (Or.inr q)
  exact W.bald (v := .int (h.1 a i.toNatClampNeg)) hx hb g1 g2 g3 (fun q => q.elim (fun z => hin (Or.inl z)) (fun z => by omega)) (g6 _ hlt) rfl rfl hd hK
theorem lm_t_laload (hx : p.tables.exec = Jvm.exec) {cc : ByteArray} (hb : c.code = cc) (V : lm_V D cy s) {a : Nat} {i : Int32} (hd : decode cc pc = .ok (.laload, 1)) (G : lm_G D cy B s ρ ls (.int i :: .ref a :: r) h H locs sl) (hkd : lm_kd h a = 2) (hin : vp_in i (lm_ln h a))
    (kk : lm_K p l e R s m args below meth c cells slots Q D cy B ρ h (pc + 1, ls, .long (h.2.1 a i.toNatClampNeg) :: r, h)) :
    W p l e R s m args below meth c H locs cells slots Q (F0 m pc sl ((Value.int i :: Value.ref a :: r).map (lm_vm ρ))) := by
  have hst := G.2.2.2.2.2.2
  have hK := lm_K_st kk G (lm_ok_cons (lm_ok_long _ _) (fun v hv => hst v (List.mem_cons_of_mem _ (List.mem_cons_of_mem _ hv))))
  have ha : 64 ≤ a := by
    rcases Nat.lt_or_ge a 64 with q | q
    · rcases G.2.1.2.2 a q with z | z | z | z <;> omega
    · exact q
  obtain ⟨ws, kq, hP, hD, he, -⟩ := lm_Wd_at G.1 ha (by omega)
  rw [lm_E_l hkd] at he
  exact va_lald hx hb V.2.1 hP kq 1 he rfl hin hd hK
theorem lm_t_aaload (hx : p.tables.exec = Jvm.exec) {cc : ByteArray} (hb : c.code = cc) (V : lm_V D cy s) {a : Nat} {i : Int32} (hd : decode cc pc = .ok (.aaload, 1)) (G : lm_G D cy B s ρ ls (.int i :: .ref a :: r) h H locs sl) (hkd : 4 ≤ lm_kd h a ∧ lm_kd h a ≤ 6) (hin : vp_in i (lm_ln h a))
    (kk : lm_K p l e R s m args below meth c cells slots Q D cy B ρ h (pc + 1, ls, va_rf (lm_hr h a i.toNatClampNeg) :: r, h)) :
    W p l e R s m args below meth c H locs cells slots Q (F0 m pc sl ((Value.int i :: Value.ref a :: r).map (lm_vm ρ))) := by
  have hst := G.2.2.2.2.2.2
  have hk0 : lm_kd h a ≠ 0 := by omega
  have hK := lm_K_st kk G (lm_ok_cons (lm_ok_rf G.2.1 hk0) (fun v hv => hst v (List.mem_cons_of_mem _ (List.mem_cons_of_mem _ hv))))
  have ha : 64 ≤ a := by
    rcases Nat.lt_or_ge a 64 with q | q
    · rcases G.2.1.2.2 a q with z | z | z | z <;> omega
    · exact q
  obtain ⟨ws, kq, hP, hD, he, -⟩ := lm_Wd_at G.1 ha hk0
  rw [lm_E_r rfl hkd.1 hkd.2] at he
  have hlt : i.toNatClampNeg < lm_ln h a := Nat.not_le.mp fun q => hin (Or.inr q)
  simp only [List.map_cons, lm_vm_rf] at hK
  have key : ∀ ty : FieldType, ty.isReference = true → (cy (lm_kd h a), ty) ∈ lm_tys cy → W p l e R s m args below meth c H locs cells slots Q (F0 m pc sl ((Value.int i :: Value.ref a :: r).map (lm_vm ρ))) := by
    intro ty hty hm
    obtain ⟨t0, ht⟩ := List.getElem?_of_mem hm
    exact W.aald (v := va_rf ((lm_hr h a i.toNatClampNeg).map ρ)) (ty := ty) hx hb (hP kq _ he) ((V.2.1.2 t0 _ ht).1 (lm_ln h a) (fun j => va_rf ((lm_hr h a j).map ρ))) hty (fun q => by cases q) (by show ¬ (i < 0 ∨ (arrV _ _ _).slots.size ≤ _); rw [arrV_size]; exact hin) (by show (arrV _ _ _).slots[_]? = _; rw [arrV_read _ _ hlt]) rfl rfl hd hK
  rcases (by omega : lm_kd h a = 4 ∨ lm_kd h a = 5 ∨ lm_kd h a = 6) with q | q | q
  · exact key (.object "AwakeByHalves$Shelf") rfl (by rw [q]; simp [lm_tys])
  · exact key (.array .int) rfl (by rw [q]; simp [lm_tys])
  · exact key (.array .long) rfl (by rw [q]; simp [lm_tys])
theorem lm_t_arraylength (hx : p.tables.exec = Jvm.exec) {cc : ByteArray} (hb : c.code = cc) (V : lm_V D cy s) {a : Nat} (hd : decode cc pc = .ok (.arraylength, 1)) (G : lm_G D cy B s ρ ls (.ref a :: r) h H locs sl) (hkd : lm_kd h a ≠ 0 ∧ lm_kd h a < 10)
    (kk : lm_K p l e R s m args below meth c cells slots Q D cy B ρ h (pc + 1, ls, .int (Int32.ofNat (lm_ln h a)) :: r, h)) :
    W p l e R s m args below meth c H locs cells slots Q (F0 m pc sl ((Value.ref a :: r).map (lm_vm ρ))) := by
  have hst := G.2.2.2.2.2.2
  have hK := lm_K_st kk G (lm_ok_cons (lm_ok_int _ _) (fun v hv => hst v (List.mem_cons_of_mem _ hv)))
  rcases Nat.lt_or_ge a 64 with ha | ha
  · rcases G.2.1.2.2 a ha with z | z | z | z
    · exact absurd z hkd.1
    · obtain ⟨cell, g1, g2, g3, g4, g5, g6, -⟩ := (G.2.2.1.1 a ha z).kept G.2.2.2.1.2.1
      exact W.alen hx hb g1 g2 g5 rfl rfl hd hK
    · obtain ⟨cell, g1, g2, g3, g4, g5, g6, -⟩ := (G.2.2.1.2.1 a ha z).kept G.2.2.2.1.2.1
      exact W.alen hx hb g1 g2 g5 rfl rfl hd hK
    · omega
  · obtain ⟨ws, kq, hP, hD, he, -⟩ := lm_Wd_at G.1 ha hkd.1
    rcases G.2.1.2.1 a ha hkd.1 with z | z | z | z | z | z
    · rw [lm_E_i z] at he
      exact va_alen hx hb V.2.1 hP kq 0 he rfl rfl hd hK
    · rw [lm_E_l z] at he
      exact va_alen hx hb V.2.1 hP kq 1 he rfl rfl hd hK
    · rw [lm_E_r z (by decide) (by decide)] at he
      exact va_alen hx hb V.2.1 hP kq 2 he rfl rfl hd hK
    · rw [lm_E_r z (by decide) (by decide)] at he
      exact va_alen hx hb V.2.1 hP kq 3 he rfl rfl hd hK
    · rw [lm_E_r z (by decide) (by decide)] at he
      exact va_alen hx hb V.2.1 hP kq 4 he rfl rfl hd hK
    · omega
end LMR
