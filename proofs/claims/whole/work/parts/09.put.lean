/-! a step of LM is the machine's: cells written -/
def lm_tyf (ci : Nat) : Nat → FieldType := [tyX0, tyX1, tyX3, tyX5, tyX6, tyX7, tyX8, tyX9].getD ci tyX0
theorem lm_ty_ok {ci : Nat} (h : ci < 8) : ∀ k, k < (lm_cl ci).2.2 → parseFieldDescriptor ((lm_cl ci).2.1 k).2.2.1 = some (lm_tyf ci k) := by
  match ci, h with
  | 0, _ => exact tyX0_ok
  | 1, _ => exact tyX1_ok
  | 2, _ => exact tyX3_ok
  | 3, _ => exact tyX5_ok
  | 4, _ => exact tyX6_ok
  | 5, _ => exact tyX7_ok
  | 6, _ => exact tyX8_ok
  | 7, _ => exact tyX9_ok
theorem lm_nm_ok {ci : Nat} (h : ci < 8) : ∀ a, a < (lm_cl ci).2.2 → ∀ b, b < (lm_cl ci).2.2 → a ≠ b → ((lm_cl ci).2.1 a).2.1 ≠ ((lm_cl ci).2.1 b).2.1 := by
  match ci, h with
  | 0, _ => exact nmX0
  | 1, _ => exact nmX1
  | 2, _ => exact nmX3
  | 3, _ => exact nmX5
  | 4, _ => exact nmX6
  | 5, _ => exact nmX7
  | 6, _ => exact nmX8
  | 7, _ => exact nmX9
def lm_rt (ty : FieldType) : Bool := match ty with
  | .object _ => true
  | .array _ => true
  | _ => false
set_option maxRecDepth 100000 in
theorem lm_ft_ty : ∀ ci, ci < 8 → ∀ k, k < (lm_cl ci).2.2 → (lm_ft ci k = 0 → lm_tyf ci k = .int) ∧ (lm_ft ci k = 2 → lm_tyf ci k = .boolean) ∧ (lm_ft ci k = 1 → lm_rt (lm_tyf ci k) = true) ∧ (lm_ft ci k = 0 ∨ lm_ft ci k = 1 ∨ lm_ft ci k = 2) ∧ ((lm_cl ci).2.1 k).2.2.2 = lm_fin ci k ∧ ((lm_cl ci).2.1 k).1 = (lm_cl ci).1 := by decide +kernel
set_option maxRecDepth 100000 in
theorem lm_cis_own : ∀ c, c < 18 → lm_cis.getD c 99 < 8 → (lm_cl (lm_cis.getD c 99)).1 = lm_own c := by decide +kernel
theorem lm_up_ne {α : Type} {f : Nat → Nat → α} {a k b : Nat} {v : α} (h : b ≠ a) : lm_up f a k v b = f b := funext fun j => if_neg h
theorem lm_up_row {α : Type} {f : Nat → Nat → α} {a k : Nat} {v : α} (j : Nat) : lm_up f a k v a j = if j = k then v else f a j := if_pos rfl
theorem lm_row_ne {α : Type} {f : Nat → Nat → α} {a b : Nat} {g : Nat → α} (h : b ≠ a) : lm_row f a g b = f b := if_neg h
theorem lm_row_eq {α : Type} {f : Nat → Nat → α} {a : Nat} {g : Nat → α} : lm_row f a g a = g := if_pos rfl
theorem lm_fs_set {ρ : Nat → Nat} {h h1 : lm_H} {ci a k n : Nat} {v : Value} (he : ∀ j, j ≠ k → lm_fv h1 ci a j = lm_fv h ci a j) (hv : lm_fv h1 ci a k = v) :
    ((List.range n).map (fun j => lm_vm ρ (lm_fv h ci a j))).set k (lm_vm ρ v) = (List.range n).map (fun j => lm_vm ρ (lm_fv h1 ci a j)) := by
  apply List.ext_getElem?
  intro j
  by_cases hj : j = k
  · subst hj
    by_cases hl : j < n
    · rw [List.getElem?_set_self (by simpa using hl), List.getElem?_map, List.getElem?_range hl]
      simp only [Option.map_some, hv]
    · rw [List.getElem?_eq_none (by simp; omega), List.getElem?_eq_none (by simp; omega)]
  · rw [List.getElem?_set_ne (Ne.symm hj), List.getElem?_map, List.getElem?_map]
    by_cases hl : j < n
    · rw [List.getElem?_range hl]
      simp only [Option.map_some, he j hj]
    · rw [List.getElem?_eq_none (by simp; omega)]
      rfl
theorem lm_upd_up {f : Nat → Nat → Int32} {a k : Nat} {v : Int32} : upd (f a) k v = lm_up f a k v a := funext fun j => by rw [lm_up_row]; rfl
theorem lm_updL_up {f : Nat → Nat → Int64} {a k : Nat} {v : Int64} : vp_updL (f a) k v = lm_up f a k v a := funext fun j => by rw [lm_up_row]; rfl
section LMP
variable {p : Program} {l : Launch} {e : Env} {R : Room} {s : State} {m : MethodId} {args : Array Value} {below : List Frame} {meth : Method} {c : Code} {H H1 : Heap} {locs locs1 : List Loc} {cells slots : Nat} {Q : State → Prop}
variable {D : va_G} {cy : Nat → ClassId} {B : Nat} {ρ : Nat → Nat} {f pc : Nat} {ls st st' r : List Value} {h h1 : lm_H} {sl : Array Slot}
theorem lm_G_put (G : lm_G D cy B s ρ ls st h H locs sl) (hW : lm_Wd D cy B ρ h1 H1) (hS1 : va_S (fun q => B ≤ q) s.heap H1 locs1) {a : Nat} (ha : 64 ≤ a) (ekd : lm_kd h1 = lm_kd h) (eln : lm_ln h1 = lm_ln h) (e1 : ∀ b, b ≠ a → h1.1 b = h.1 b) (e3 : ∀ b, b ≠ a → lm_hr h1 b = lm_hr h b)
    (hc : ∀ j b, lm_hr h1 a j = some b → lm_kd h b ≠ 0) (hst : ∀ v ∈ st', lm_ok h v) : lm_G D cy B s ρ ls st' h1 H1 locs1 sl := by
  have hok : ∀ v, lm_ok h v → lm_ok h1 v := fun v hv b hb => by rw [ekd]; exact hv b hb
  have hne : ∀ b, b < 64 → b ≠ a := fun b hb z => by omega
  refine ⟨hW, ⟨fun b j d hb hd => ?_, fun b hb => by rw [ekd]; exact G.2.1.2.1 b hb, fun b hb => by rw [ekd]; exact G.2.1.2.2 b hb⟩, lm_Old.cong G.2.1 (lm_ag_rf h ρ) (fun b _ => by rw [ekd]) (fun b _ => by rw [eln]) (fun b hb => e1 b (hne b hb)) (fun b hb => e3 b (hne b hb)) G.2.2.1, hS1, G.2.2.2.2.1, fun v hv => hok v (G.2.2.2.2.2.1 v hv), fun v hv => hok v (hst v hv)⟩
  rw [ekd] at hb ⊢
  by_cases hba : b = a
  · subst hba
    exact hc j d hd
  · rw [e3 b hba] at hd
    exact G.2.1.1 b j d hb hd
theorem lm_t_iastore (hx : p.tables.exec = Jvm.exec) {cc : ByteArray} (hb : c.code = cc) (V : lm_V D cy s) {a : Nat} {i x : Int32} (hd : decode cc pc = .ok (.iastore, 1)) (G : lm_G D cy B s ρ ls (.int x :: .int i :: .ref a :: r) h H locs sl) (hkd : lm_kd h a = 1) (ha : 64 ≤ a) (hin : vp_in i (lm_ln h a))
    (kk : lm_K p l e R s m args below meth c cells slots Q D cy B ρ h (pc + 1, ls, r, (lm_up h.1 a i.toNatClampNeg x, h.2))) :
    W p l e R s m args below meth c H locs cells slots Q (F0 m pc sl ((Value.int x :: Value.int i :: Value.ref a :: r).map (lm_vm ρ))) := by
  have hst := G.2.2.2.2.2.2
  obtain ⟨ws, kq, hP, hD, he, hback⟩ := lm_Wd_at G.1 ha (by omega)
  rw [lm_E_i hkd] at he
  refine va_iast hx hb V.2.1 hP hD G.2.2.2.1 kq 0 he rfl hin hd (fun H1 locs1 hP1 hD1 hS1 => ?_)
  have eE : lm_E cy ρ (lm_up h.1 a i.toNatClampNeg x, h.2) a = .inl (cy 1, lm_ln h a, .inl (upd (h.1 a) i.toNatClampNeg x)) := by
    rw [lm_E_i (h := (lm_up h.1 a i.toNatClampNeg x, h.2)) hkd, lm_upd_up]
  rw [← eE] at hP1 hD1
  have hW := hback (lm_up h.1 a i.toNatClampNeg x, h.2) H1 (fun _ => rfl) (fun b hb => lm_E_cong rfl rfl (lm_up_ne hb) rfl rfl (fun _ _ _ => rfl)) hP1 hD1
  exact kk ρ H1 locs1 sl cells slots (lm_ag_rf h ρ) (lm_G_put G hW hS1 ha rfl rfl (fun b hb => lm_up_ne hb) (fun b hb => rfl) (fun j b hb => G.2.1.1 a j b (by omega) hb) (fun v hv => hst v (List.mem_cons_of_mem _ (List.mem_cons_of_mem _ (List.mem_cons_of_mem _ hv))))) rfl rfl
theorem lm_t_lastore (hx : p.tables.exec = Jvm.exec) {cc : ByteArray} (hb : c.code = cc) (V : lm_V D cy s) {a : Nat} {i : Int32} {x : Int64} (hd : decode cc pc = .ok (.lastore, 1)) (G : lm_G D cy B s ρ ls (.long x :: .int i :: .ref a :: r) h H locs sl) (hkd : lm_kd h a = 2) (ha : 64 ≤ a) (hin : vp_in i (lm_ln h a))
    (kk : lm_K p l e R s m args below meth c cells slots Q D cy B ρ h (pc + 1, ls, r, (h.1, lm_up h.2.1 a i.toNatClampNeg x, h.2.2))) :
    W p l e R s m args below meth c H locs cells slots Q (F0 m pc sl ((Value.long x :: Value.int i :: Value.ref a :: r).map (lm_vm ρ))) := by
  have hst := G.2.2.2.2.2.2
  obtain ⟨ws, kq, hP, hD, he, hback⟩ := lm_Wd_at G.1 ha (by omega)
  rw [lm_E_l hkd] at he
  refine va_last hx hb V.2.1 hP hD G.2.2.2.1 kq 1 he rfl hin hd (fun H1 locs1 hP1 hD1 hS1 => ?_)
  have eE : lm_E cy ρ (h.1, lm_up h.2.1 a i.toNatClampNeg x, h.2.2) a = .inl (cy 2, lm_ln h a, .inr (.inl (vp_updL (h.2.1 a) i.toNatClampNeg x))) := by
    rw [lm_E_l (h := (h.1, lm_up h.2.1 a i.toNatClampNeg x, h.2.2)) hkd, lm_updL_up]
  rw [← eE] at hP1 hD1
  have hW := hback (h.1, lm_up h.2.1 a i.toNatClampNeg x, h.2.2) H1 (fun _ => rfl) (fun b hb => lm_E_cong rfl rfl rfl (lm_up_ne hb) rfl (fun _ _ _ => rfl)) hP1 hD1
  exact kk ρ H1 locs1 sl cells slots (lm_ag_rf h ρ) (lm_G_put G hW hS1 ha rfl rfl (fun b hb => rfl) (fun b hb => rfl) (fun j b hb => G.2.1.1 a j b (by omega) hb) (fun v hv => hst v (List.mem_cons_of_mem _ (List.mem_cons_of_mem _ (List.mem_cons_of_mem _ hv))))) rfl rfl
theorem lm_t_aastore (hx : p.tables.exec = Jvm.exec) {cc : ByteArray} (hb : c.code = cc) (V : lm_V D cy s) {a b : Nat} {i : Int32} (hd : decode cc pc = .ok (.aastore, 1)) (G : lm_G D cy B s ρ ls (.ref b :: .int i :: .ref a :: r) h H locs sl) (hkd : lm_kd h a = 4) (ha : 64 ≤ a) (hbb : 64 ≤ b) (hkb : lm_kd h b = 12) (hin : vp_in i (lm_ln h a))
    (kk : lm_K p l e R s m args below meth c cells slots Q D cy B ρ h (pc + 1, ls, r, (h.1, h.2.1, lm_up h.2.2.1 a i.toNatClampNeg (some b), h.2.2.2))) :
    W p l e R s m args below meth c H locs cells slots Q (F0 m pc sl ((Value.ref b :: Value.int i :: Value.ref a :: r).map (lm_vm ρ))) := by
  have hst := G.2.2.2.2.2.2
  obtain ⟨L, hn, hL, hP, hD⟩ := G.1
  obtain ⟨kq, hkq⟩ := List.getElem?_of_mem ((hL a).mpr ⟨ha, by omega⟩)
  obtain ⟨kb, hkbq⟩ := List.getElem?_of_mem ((hL b).mpr ⟨hbb, by omega⟩)
  have he : (L.map (lm_F cy ρ h))[kq]? = some (ρ a, .inl (cy 4, lm_ln h a, .inr (.inr (.inr (.inr (fun j => (lm_hr h a j).map ρ)))))) := by rw [List.getElem?_map, hkq, ← lm_E_r hkd (by decide) (by decide)]; rfl
  have heb : (L.map (lm_F cy ρ h))[kb]? = some (ρ b, .inr (2, (List.range (lm_nf 2)).map (fun k => lm_vm ρ (lm_fv h 2 b k)))) := by rw [List.getElem?_map, hkbq, ← lm_E_obj hkb]; rfl
  refine va_astq (r := (lm_cl 2)) hx hb V.2.1 hP hD G.2.2.2.1 kq 2 kb 2 he rfl heb (lm_cl_get (by decide)) hin hd (fun H1 locs1 hP1 hD1 hS1 => ?_)
  have eE : lm_E cy ρ (h.1, h.2.1, lm_up h.2.2.1 a i.toNatClampNeg (some b), h.2.2.2) a = .inl (cy 4, lm_ln h a, .inr (.inr (.inr (.inr (va_up (fun j => (lm_hr h a j).map ρ) i.toNatClampNeg (some (ρ b))))))) := by
    rw [lm_E_r (h := (h.1, h.2.1, lm_up h.2.2.1 a i.toNatClampNeg (some b), h.2.2.2)) hkd (by decide) (by decide)]
    refine congrArg (fun g : Nat → Option Nat => (Sum.inl (cy 4, lm_ln h a, Sum.inr (Sum.inr (Sum.inr (Sum.inr g)))) : va_E)) (funext fun j => ?_)
    show (lm_up h.2.2.1 a i.toNatClampNeg (some b) a j).map ρ = _
    rw [lm_up_row]
    unfold va_up
    split <;> rfl
  have em : (L.map (lm_F cy ρ h)).set kq (ρ a, lm_E cy ρ (h.1, h.2.1, lm_up h.2.2.1 a i.toNatClampNeg (some b), h.2.2.2) a) = L.map (lm_F cy ρ (h.1, h.2.1, lm_up h.2.2.1 a i.toNatClampNeg (some b), h.2.2.2)) :=
    lm_map_set (F := lm_F cy ρ h) (F' := lm_F cy ρ (h.1, h.2.1, lm_up h.2.2.1 a i.toNatClampNeg (some b), h.2.2.2)) hn hkq (fun d hd => by
      simp only [lm_F]
      rw [lm_E_cong (h := h) (h' := (h.1, h.2.1, lm_up h.2.2.1 a i.toNatClampNeg (some b), h.2.2.2)) rfl rfl rfl rfl (lm_up_ne hd) (fun _ _ _ => rfl)])
  rw [← eE, em] at hP1 hD1
  exact kk ρ H1 locs1 sl cells slots (lm_ag_rf h ρ) (lm_G_put G ⟨L, hn, hL, hP1, hD1⟩ hS1 ha rfl rfl (fun b hb => rfl) (fun d hd => lm_up_ne hd) (fun j d hd => by
    rw [show lm_hr (h.1, h.2.1, lm_up h.2.2.1 a i.toNatClampNeg (some b), h.2.2.2) a j = (if j = i.toNatClampNeg then some b else lm_hr h a j) from lm_up_row j] at hd
    split at hd
    · cases hd; omega
    · exact G.2.1.1 a j d (by omega) hd) (fun v hv => hst v (List.mem_cons_of_mem _ (List.mem_cons_of_mem _ (List.mem_cons_of_mem _ hv))))) rfl rfl
/-- a field's new value, whichever row stores it -/
theorem lm_put_go {ci k a : Nat} {v : Value} (V : lm_V D cy s) (hx : p.tables.exec = Jvm.exec) {cc : ByteArray} (hb : c.code = cc) {c0 idx i : Nat} (hown : s.vm.findClass (lm_own c0) = some m.cls) (hname : f ∈ lm_inits → meth.name = "<init>") (hc0 : c0 < 18) (hk : (idx, ci, k, i) ∈ lm_kF c0) (hd : decode cc pc = .ok (.putfield idx, 3))
    (G : lm_G D cy B s ρ ls (v :: .ref a :: r) h H locs sl) (hkd : lm_kd h a = 10 + ci) (hp : lm_pok f c0 ci k = true) (hnar : narrow (lm_tyf ci k) (lm_vm ρ v) = lm_vm ρ v) (hfit : fits (lm_tyf ci k) (lm_vm ρ v) = true)
    (ekd : lm_kd h1 = lm_kd h) (eln : lm_ln h1 = lm_ln h) (e1 : ∀ b, b ≠ a → h1.1 b = h.1 b) (e2 : h1.2.1 = h.2.1) (e3 : ∀ b, b ≠ a → lm_hr h1 b = lm_hr h b) (enc : lm_nc h1 = lm_nc h) (ens : lm_ns h1 = lm_ns h) (hc : ∀ j b, lm_hr h1 a j = some b → lm_kd h b ≠ 0)
    (hf1 : ∀ j, j ≠ k → lm_fv h1 ci a j = lm_fv h ci a j) (hf2 : lm_fv h1 ci a k = v)
    (kk : lm_K p l e R s m args below meth c cells slots Q D cy B ρ h (pc + 3, ls, r, h1)) :
    W p l e R s m args below meth c H locs cells slots Q (F0 m pc sl ((v :: Value.ref a :: r).map (lm_vm ρ))) := by
  have hst := G.2.2.2.2.2.2
  unfold lm_pok at hp
  simp only [Bool.and_eq_true, decide_eq_true_eq, Bool.or_eq_true, Bool.not_eq_true'] at hp
  obtain ⟨hlt, hfi⟩ := hp
  obtain ⟨-, hw, hN⟩ := (lm_okf_all c0 _ hk).1 (by show ci ≠ 30; omega)
  dsimp only at hw hN
  obtain ⟨-, -, -, -, ty5, ty6⟩ := lm_ft_ty ci hlt k hN
  have ha := lm_new64 G.2.1 hlt hkd
  obtain ⟨ws, kq, hP, hD, he, hback⟩ := lm_Wd_at G.1 ha (by omega)
  rw [lm_E_obj hkd] at he
  have hgo : ∀ (H1 : Heap) (locs1 : List Loc), va_P D vwCl (ws.set kq (ρ a, .inr (ci, ((List.range (lm_nf ci)).map (fun j => lm_vm ρ (lm_fv h ci a j))).set k (lm_vm ρ v)))) H1 → va_D (fun q => B ≤ q) (ws.set kq (ρ a, .inr (ci, ((List.range (lm_nf ci)).map (fun j => lm_vm ρ (lm_fv h ci a j))).set k (lm_vm ρ v)))) → va_S (fun q => B ≤ q) s.heap H1 locs1 →
      W p l e R s m args below meth c H1 locs1 cells slots Q (F0 m (pc + 3) sl (r.map (lm_vm ρ))) := by
    intro H1 locs1 hP1 hD1 hS1
    rw [lm_fs_set hf1 hf2, ← lm_E_obj (cy := cy) (ρ := ρ) (h := h1) (by rw [ekd]; exact hkd)] at hP1 hD1
    have hW := hback h1 H1 (fun b => by rw [ekd]) (fun b hb => lm_E_cong (by rw [ekd]) (by rw [eln]) (e1 b hb) (by rw [e2]) (e3 b hb) (fun _ _ _ => rfl)) hP1 hD1
    exact kk ρ H1 locs1 sl cells slots (lm_ag_rf h ρ) (lm_G_put G hW hS1 ha ekd eln e1 e3 hc (fun v hv => hst v (List.mem_cons_of_mem _ (List.mem_cons_of_mem _ hv)))) (by show cells + _ = cells + lm_nc h1; rw [enc]) (by show slots + _ = slots + lm_ns h1; rw [ens])
  have hlen : k < ((List.range (lm_nf ci)).map (fun j => lm_vm ρ (lm_fv h ci a j))).length := by rw [List.length_map, List.length_range, lm_nf_cl hlt]; exact hN
  rcases hfi with hf | ⟨hf, hcc⟩
  · exact va_put (ci := ci) (v := lm_vm ρ v) hx hb (fun w hw => V.1 w hw args) (lm_us_all hlt) (lm_tyf ci) (lm_ty_ok hlt) (lm_nm_ok hlt) hown V.2.1 hP hD G.2.2.2.1 kq he (lm_cl_get hlt) k hN (V.1 _ (lm_in hw rfl) args) (fun _ z => z) (by rw [ty5]; exact hf) (lm_ty_ok hlt k hN) hnar hfit hlen hd hgo
  · by_cases hff : lm_fin ci k = false
    · exact va_put (ci := ci) (v := lm_vm ρ v) hx hb (fun w hw => V.1 w hw args) (lm_us_all hlt) (lm_tyf ci) (lm_ty_ok hlt) (lm_nm_ok hlt) hown V.2.1 hP hD G.2.2.2.1 kq he (lm_cl_get hlt) k hN (V.1 _ (lm_in hw rfl) args) (fun _ z => z) (by rw [ty5]; exact hff) (lm_ty_ok hlt k hN) hnar hfit hlen hd hgo
    · have hown2 : ((lm_cl ci).2.1 k).1 = lm_own c0 := by rw [ty6, ← lm_cis_own c0 hc0 (by omega), hcc]
      exact va_putF (ci := ci) (v := lm_vm ρ v) hx hb (fun w hw => V.1 w hw args) (lm_us_all hlt) (lm_tyf ci) (lm_ty_ok hlt) (lm_nm_ok hlt) hown V.2.1 hP hD G.2.2.2.1 kq he (lm_cl_get hlt) k hN (V.1 _ (lm_in hw rfl) args) (fun _ z => z) (by rw [ty5]; simpa using hff) (hname (by simpa using hf)) hown2 (lm_ty_ok hlt k hN) hnar hfit hlen hd hgo
theorem lm_t_putfield (V : lm_V D cy s) (hx : p.tables.exec = Jvm.exec) {cc : ByteArray} (hb : c.code = cc) {ci k a : Nat} {v : Value} {c0 idx i : Nat} (hown : s.vm.findClass (lm_own c0) = some m.cls) (hname : f ∈ lm_inits → meth.name = "<init>") (hc0 : c0 < 18) (hk : (idx, ci, k, i) ∈ lm_kF c0) (hd : decode cc pc = .ok (.putfield idx, 3))
    (G : lm_G D cy B s ρ ls (v :: .ref a :: r) h H locs sl) (hkd : lm_kd h a = 10 + ci) (hp : lm_pok f c0 ci k = true) (hput : lm_put h (lm_ft ci k) a k v = some h1)
    (kk : lm_K p l e R s m args below meth c cells slots Q D cy B ρ h (pc + 3, ls, r, h1)) :
    W p l e R s m args below meth c H locs cells slots Q (F0 m pc sl ((v :: Value.ref a :: r).map (lm_vm ρ))) := by
  have hlt : ci < 8 := by
    unfold lm_pok at hp
    simp only [Bool.and_eq_true, decide_eq_true_eq] at hp
    exact hp.1
  have hN := ((lm_okf_all c0 _ hk).1 (by show ci ≠ 30; omega)).2.2
  dsimp only at hN
  obtain ⟨t0, t2, t1, -⟩ := lm_ft_ty ci hlt k hN
  have hfk : lm_fk ci k = lm_ft ci k := if_neg (by omega)
  have hv0 := G.2.2.2.2.2.2 v List.mem_cons_self
  unfold lm_put at hput
  split at hput
  · rename_i x
    have hgo : ∀ ty : FieldType, lm_tyf ci k = ty → lm_ft ci k ≠ 1 → narrow ty (.int x) = .int x → fits ty (.int x) = true → h1 = (lm_up h.1 a k x, h.2) → W p l e R s m args below meth c H locs cells slots Q (F0 m pc sl ((Value.int x :: Value.ref a :: r).map (lm_vm ρ))) := by
      intro ty hty hne h2 h3 hh
      subst hh
      refine lm_put_go (f := f) (h1 := (lm_up h.1 a k x, h.2)) V hx hb hown hname hc0 hk hd G hkd hp (by rw [hty]; exact h2) (by rw [hty]; exact h3) rfl rfl (fun b hb => lm_up_ne hb) rfl (fun _ _ => rfl) rfl rfl (fun j b hb => G.2.1.1 a j b (by omega) hb) (fun j hj => ?_) ?_ kk
      · unfold lm_fv
        split
        · rfl
        · show Value.int (lm_up h.1 a k x a j) = _
          rw [lm_up_row, if_neg hj]
      · unfold lm_fv
        rw [if_neg (by rw [hfk]; exact hne)]
        show Value.int (lm_up h.1 a k x a k) = _
        rw [lm_up_row, if_pos rfl]
    split at hput
    · rename_i h0
      cases hput
      exact hgo .int (t0 h0) (by omega) rfl rfl rfl
    · split at hput
      · rename_i h0
        cases hput
        rcases h0.2 with rfl | rfl
        · exact hgo .boolean (t2 h0.1) (by omega) (by decide) (by decide) rfl
        · exact hgo .boolean (t2 h0.1) (by omega) (by decide) (by decide) rfl
      · cases hput
  · rename_i b
    split at hput
    · rename_i h0
      cases hput
      have hrt := t1 h0
      have hnar : narrow (lm_tyf ci k) (lm_vm ρ (.ref b)) = lm_vm ρ (.ref b) := by
        cases lm_tyf ci k <;> rfl
      have hfit : fits (lm_tyf ci k) (lm_vm ρ (.ref b)) = true := by
        revert hrt
        cases lm_tyf ci k <;> intro hrt <;> first | rfl | cases hrt
      refine lm_put_go (f := f) (h1 := (h.1, h.2.1, lm_up h.2.2.1 a k (some b), h.2.2.2)) V hx hb hown hname hc0 hk hd G hkd hp hnar hfit rfl rfl (fun _ _ => rfl) rfl (fun d hd => lm_up_ne hd) rfl rfl (fun j d hd => ?_) (fun j hj => ?_) ?_ kk
      · rw [show lm_hr (h.1, h.2.1, lm_up h.2.2.1 a k (some b), h.2.2.2) a j = (if j = k then some b else lm_hr h a j) from lm_up_row j] at hd
        split at hd
        · cases hd
          exact hv0 b rfl
        · exact G.2.1.1 a j d (by omega) hd
      · unfold lm_fv
        split
        · show va_rf (lm_up h.2.2.1 a k (some b) a j) = _
          rw [lm_up_row, if_neg hj]
        · rfl
      · unfold lm_fv
        rw [if_pos (by rw [hfk]; exact h0)]
        show va_rf (lm_up h.2.2.1 a k (some b) a k) = _
        rw [lm_up_row, if_pos rfl]
        rfl
    · cases hput
  · cases hput
end LMP
