/-! ===== BEGIN new T[n][m]: the outer array a place, the inner ones among the pooled ===== -/
/-- f, but v at every address of l -/
def vr_up {α : Type} (f : Nat → α) (l : List Nat) (v : α) : Nat → α := fun a => if a ∈ l then v else f a
theorem vr_up_in {α : Type} {f : Nat → α} {l : List Nat} {v : α} {a : Nat} (h : a ∈ l) : vr_up f l v a = v := if_pos h
theorem vr_up_ne {α : Type} {f : Nat → α} {l : List Nat} {v : α} {a : Nat} (h : a ∉ l) : vr_up f l v a = f a := if_neg h
theorem vr_rows {L l : List Nat} {f : Nat → va_E} {e : va_E} (h : ∀ a, a ∈ l → a ∉ L) : va_pl L f ++ l.map (fun a => (a, e)) = va_pl (L ++ l) (vr_up f l e) := by
  unfold va_pl
  rw [List.map_append]
  congr 1
  · apply List.map_congr_left
    intro a ha
    rw [vr_up_ne (fun q => h a q ha)]
  · apply List.map_congr_left
    intro a ha
    rw [vr_up_in ha]
theorem vr_lay {X rows : va_W} {x : Nat × va_E} {pl : va_W} {D : va_G} {cl : List vw_C} {H : Heap} (hP : va_P D cl (((X ++ pl) ++ [x]) ++ rows) H) : va_P D cl ((X ++ [x]) ++ (pl ++ rows)) H := by
  rw [List.append_assoc (X ++ pl)] at hP
  have h := va_P.swap hP
  rw [← List.append_assoc X] at h
  have h2 := va_P.swap h
  rw [List.append_assoc (X ++ [x])] at h2
  exact h2
theorem vr_layD {X rows : va_W} {x : Nat × va_E} {pl : va_W} {A : Nat → Prop} (hD : va_D A (((X ++ pl) ++ [x]) ++ rows)) : va_D A ((X ++ [x]) ++ (pl ++ rows)) := by
  rw [List.append_assoc (X ++ pl)] at hD
  have h := va_D.swap hD
  rw [← List.append_assoc X] at h
  have h2 := va_D.swap h
  rw [List.append_assoc (X ++ [x])] at h2
  exact h2
def va_AOA (ty : FieldType) (U : State) : Prop := (Cond.arrayOver (.array ty)).before #[] U = true
theorem va_AOA.use {ty : FieldType} {A : Array Value} {U : State} (h : va_AOA ty U) : (Cond.arrayOver (.array ty)).before A U = true := h
section VGM
variable {p : Program} {l : Launch} {e : Env} {R : Room} {s : State} {m : MethodId} {args : Array Value} {below : List Frame} {meth : Method} {c : Code} {H : Heap} {locs : List Loc} {cells slots : Nat} {Q : State → Prop}
variable {cc : ByteArray} {pc : Nat} {ls : Array Slot} {rest : List Value} {D : va_G} {cl : List vw_C} {A : Nat → Prop} {a : Nat} {tys : List (ClassId × FieldType)} {ws : va_W} {H0 : Heap}
theorem va_mna {X : va_W} {L : List Nat} {f : Nat → va_E} {cc : ByteArray} (hexec : p.tables.exec = Jvm.exec) (hb : c.code = cc) {own : String} {index : Nat} {ty : FieldType} {cy : ClassId} (hown : s.vm.findClass own = some m.cls) (hclink : (Cond.classLink own index ("[" ++ (FieldType.array ty).toString)).before args s = true) (hover : va_AOA ty s) (harr : (Cond.arrayClass ty).before args s = true) (hcy : s.vm.findClass (FieldType.array ty).toString = some cy)
    (hK : va_K D cl tys s) (hP : va_P D cl (X ++ va_pl L f) H) (hD : va_D A (X ++ va_pl L f)) (hS : va_S A H0 H locs) (hA : ∀ q, H0.size ≤ q → A q) {n k : Int32} {N' K' : Nat} {z : vp_A} (hn : ¬ n < 0) (hk : ¬ k < 0) (hN : n.toNatClampNeg = N') (hM : k.toNatClampNeg = K')
    (hb1 : N' * 4 ≤ 536870912) (hb2 : K' * componentBytes ty ≤ 536870912) (hb3 : K' ≤ 536870912) (hdf : fits ty (defaultValue ty) = true) (hdd : (defaultValue ty).isDefault = true) (hcells : cells + (1 + N') ≤ R.cells) (hslots : slots + (N' + N' * K') ≤ R.slots) (hz : ∀ c : ClassId, Jvm.Free.Multi.innerC c K' (defaultValue ty) = vp_cell c z) (hdg : decode cc pc = .ok (.multianewarray index 2, 4))
    (kk : ∀ (q : Nat) (r : Nat → Nat) (cA : ClassId) (H1 : Heap), (∀ i j : Nat, i < N' → j < N' → r i = r j → i = j) → (∀ i : Nat, i < N' → r i ∉ L) → va_K D cl (tys ++ [(cA, .array ty)]) s →
      va_P D cl ((X ++ [(q, .inl (cA, N', .inr (.inr (.inr (.inr (fun i => if i < N' then some (r i) else none))))))]) ++ va_pl (L ++ (List.range N').map r) (vr_up f ((List.range N').map r) (.inl (cy, z)))) H1 → va_D A ((X ++ [(q, .inl (cA, N', .inr (.inr (.inr (.inr (fun i => if i < N' then some (r i) else none))))))]) ++ va_pl (L ++ (List.range N').map r) (vr_up f ((List.range N').map r) (.inl (cy, z)))) → va_S A H0 H1 locs →
      W p l e R s m args below meth c H1 locs (cells + 1 + N') (slots + N' + N' * K') Q (F0 m (pc + 4) ls (.ref q :: rest))) : W p l e R s m args below meth c H locs cells slots Q (F0 m pc ls (.int k :: .int n :: rest)) := by
  subst hN
  subst hM
  intro T hT Xs
  obtain ⟨vm₁, cA, comp, -, fA, fC, hO, -, X', step⟩ := Xs.multianewarray2F hexec hown hclink (va_AOA.use hover) harr (g := F0 m pc ls (.int k :: .int n :: rest)) rfl (by rw [hb]; exact hdg) rfl hn hk hb1 hb2 hb3 hdf hdd hcells hslots
  have ec : some cy = some comp := hcy.symm.trans fC
  cases ec
  generalize hF : Jvm.Free.Multi.fill (T.setVm vm₁) cA cy n.toNatClampNeg k.toNatClampNeg (defaultValue ty) n.toNatClampNeg = F at X' step
  have hTh : (T.setVm vm₁).heap = H := hT
  obtain ⟨f1, f2, -, -⟩ := Jvm.Free.Multi.fill_facts (T.setVm vm₁) cA cy n.toNatClampNeg k.toNatClampNeg (defaultValue ty) n.toNatClampNeg
  rw [hF, hTh] at f1 f2
  have hold : ∀ x : Nat, x < H.size → F.heap[x]? = H[x]? := fun x hx => by
    have := Jvm.Free.Multi.fill_old (T.setVm vm₁) cA cy n.toNatClampNeg k.toNatClampNeg (defaultValue ty) (a := x) (by rw [hTh]; exact hx) n.toNatClampNeg
    rw [hF, hTh] at this
    exact this
  have hrow : ∀ j : Nat, j < n.toNatClampNeg → F.heap[H.size + 1 + j]? = some (vp_cell cy z) := fun j hj => by
    have := Jvm.Free.Multi.fill_inner (T.setVm vm₁) cA cy n.toNatClampNeg k.toNatClampNeg (defaultValue ty) n.toNatClampNeg j hj
    rw [hF, hTh, hz] at this
    exact this
  have hout : Jvm.Free.Multi.outerC cA n.toNatClampNeg H.size n.toNatClampNeg = vp_cell cA (n.toNatClampNeg, .inr (.inr (.inr (.inr (fun i => if i < n.toNatClampNeg then some (H.size + 1 + i) else none))))) := by
    rw [vp_cell_q]
    exact vr_outer cA n.toNatClampNeg H.size n.toNatClampNeg
  rw [hout] at f2
  have hlt : ∀ a, a ∈ L → a < H.size := fun a ha => by
    obtain ⟨k9, hk9⟩ := va_pl_get (X := X) (f := f) ha
    exact (hP k9 _ hk9).lt
  have hnl : ∀ i : Nat, i < n.toNatClampNeg → H.size + 1 + i ∉ L := fun i _ h => by
    have := hlt _ h
    omega
  have hnm : ∀ a, a ∈ (List.range n.toNatClampNeg).map (fun i => H.size + 1 + i) → a ∉ L := fun a ha h => by
    obtain ⟨i, -, rfl⟩ := List.mem_map.mp ha
    have := hlt _ h
    omega
  have hP0 : va_P D cl (X ++ va_pl L f) F.heap := hP.kept (fun k9 x hx => hold x.1 ((hP k9 x hx).lt))
  have hP1 : va_P D cl ((X ++ va_pl L f) ++ [(H.size, .inl (cA, n.toNatClampNeg, .inr (.inr (.inr (.inr (fun i => if i < n.toNatClampNeg then some (H.size + 1 + i) else none))))))]) F.heap := hP0.app (fun k9 x hx => by
    have h0 : k9 < 1 := (List.getElem?_eq_some_iff.mp hx).1
    rw [show k9 = 0 by omega] at hx
    cases hx
    exact f2)
  have hP2 : va_P D cl (((X ++ va_pl L f) ++ [(H.size, .inl (cA, n.toNatClampNeg, .inr (.inr (.inr (.inr (fun i => if i < n.toNatClampNeg then some (H.size + 1 + i) else none))))))]) ++ ((List.range n.toNatClampNeg).map (fun i => H.size + 1 + i)).map (fun a => (a, .inl (cy, z)))) F.heap := hP1.app (fun k9 x hx => by
    obtain ⟨a, ha, rfl⟩ := List.mem_map.mp (List.mem_of_getElem? hx)
    obtain ⟨i, hi, rfl⟩ := List.mem_map.mp ha
    exact hrow i (List.mem_range.mp hi))
  have hD2 : va_D A (((X ++ va_pl L f) ++ [(H.size, .inl (cA, n.toNatClampNeg, .inr (.inr (.inr (.inr (fun i => if i < n.toNatClampNeg then some (H.size + 1 + i) else none))))))]) ++ ((List.range n.toNatClampNeg).map (fun i => H.size + 1 + i)).map (fun a => (a, .inl (cy, z)))) := by
    have hD1 := hD.push (e := .inl (cA, n.toNatClampNeg, .inr (.inr (.inr (.inr (fun i => if i < n.toNatClampNeg then some (H.size + 1 + i) else none)))))) hP rfl (hA _ hS.1)
    generalize hW1 : (X ++ va_pl L f) ++ [(H.size, .inl (cA, n.toNatClampNeg, .inr (.inr (.inr (.inr (fun i => if i < n.toNatClampNeg then some (H.size + 1 + i) else none))))))] = W1 at hD1 hP1 ⊢
    have hle : ∀ (k9 : Nat) (x : Nat × va_E), W1[k9]? = some x → x.1 ≤ H.size := fun k9 x hx => by
      rw [← hW1] at hx
      by_cases hl : k9 < (X ++ va_pl L f).length
      · rw [List.getElem?_append_left hl] at hx
        exact Nat.le_of_lt ((hP k9 x hx).lt)
      · rw [List.getElem?_append_right (by omega)] at hx
        have h0 : k9 - (X ++ va_pl L f).length < 1 := (List.getElem?_eq_some_iff.mp hx).1
        rw [show k9 - (X ++ va_pl L f).length = 0 by omega] at hx
        cases hx
        exact Nat.le_refl _
    have hr : ∀ (k9 : Nat) (x : Nat × va_E), (((List.range n.toNatClampNeg).map (fun i => H.size + 1 + i)).map (fun a => ((a, .inl (cy, z)) : Nat × va_E)))[k9]? = some x → x.1 = H.size + 1 + k9 := fun k9 x hx => by
      rw [List.getElem?_map, List.getElem?_map] at hx
      by_cases h9 : k9 < n.toNatClampNeg
      · rw [List.getElem?_range h9] at hx
        cases hx
        rfl
      · have hn0 : (List.range n.toNatClampNeg)[k9]? = none := List.getElem?_eq_none (by rw [List.length_range]; omega)
        rw [hn0] at hx
        cases hx
    refine ⟨fun i j x y hi hj hxy => ?_, fun k9 x hx => ?_⟩
    · by_cases h1 : i < W1.length <;> by_cases h2 : j < W1.length
      · rw [List.getElem?_append_left h1] at hi
        rw [List.getElem?_append_left h2] at hj
        exact hD1.1 i j x y hi hj hxy
      · rw [List.getElem?_append_left h1] at hi
        rw [List.getElem?_append_right (by omega)] at hj
        have := hle _ _ hi
        have := hr _ _ hj
        omega
      · rw [List.getElem?_append_right (by omega)] at hi
        rw [List.getElem?_append_left h2] at hj
        have := hle _ _ hj
        have := hr _ _ hi
        omega
      · rw [List.getElem?_append_right (by omega)] at hi hj
        have := hr _ _ hi
        have := hr _ _ hj
        omega
    · by_cases h1 : k9 < W1.length
      · rw [List.getElem?_append_left h1] at hx
        exact hD1.2 k9 x hx
      · rw [List.getElem?_append_right (by omega)] at hx
        have := hr _ _ hx
        exact hA _ (by have := hS.1; omega)
  have hAr : ArrOfT s cA (.array ty) := fun N9 z9 => by
    obtain ⟨-, k9, hk9, cm9, hkk9⟩ := (hO 0 0 0).1
    exact ⟨(fun q hq => by cases hq), k9, hk9, cm9, hkk9⟩
  have hK2 : va_K D cl (tys ++ [(cA, .array ty)]) s := ⟨hK.1, fun k9 x hx => by
    by_cases hl : k9 < tys.length
    · rw [List.getElem?_append_left hl] at hx
      exact hK.2 k9 x hx
    · rw [List.getElem?_append_right (by omega)] at hx
      have h0 : k9 - tys.length < 1 := (List.getElem?_eq_some_iff.mp hx).1
      rw [show k9 - tys.length = 0 by omega] at hx
      cases hx
      exact ⟨hAr, fA⟩⟩
  obtain ⟨t, a1, b1⟩ := kk H.size (fun i => H.size + 1 + i) cA F.heap (fun i j _ _ h => by have h9 : H.size + 1 + i = H.size + 1 + j := h; omega) hnl hK2 (by rw [← vr_rows hnm]; exact vr_lay hP2) (by rw [← vr_rows hnm]; exact vr_layD hD2) ⟨by rw [f1]; have := hS.1; omega, fun x h1 h2 => (hold x (Nat.lt_of_lt_of_le h1 hS.1)).trans (hS.2.1 x h1 h2), hS.2.2⟩ F rfl X'
  refine ⟨t, step t ?_, b1⟩
  have e : T.heap.size = H.size := by rw [hT]
  rw [e]
  exact a1
end VGM
section LMU
variable {p : Program} {l : Launch} {e : Env} {R : Room} {s : State} {m : MethodId} {args : Array Value} {below : List Frame} {meth : Method} {c : Code} {H H1 : Heap} {locs locs1 : List Loc} {cells slots : Nat} {Q : State → Prop}
variable {D : va_G} {cy : Nat → ClassId} {B : Nat} {ρ : Nat → Nat} {f pc : Nat} {ls st st' r : List Value} {h h1 : lm_H} {sl : Array Slot}
def lm_rm (ρ : Nat → Nat) (a n q : Nat) (g : Nat → Nat) : Nat → Nat := fun x => if x = a then q else if a < x ∧ x < a + (n + 1) then g (x - a - 1) else ρ x
theorem lm_t_mul (V : lm_V D cy s) (hx : p.tables.exec = Jvm.exec) {cc : ByteArray} (hb : c.code = cc) {own : String} {idx a K ki : Nat} {n k : Int32} {ty : FieldType} {z : vp_A} (hown : s.vm.findClass own = some m.cls) (hB : B ≤ s.heap.size) (hlink : (Cond.classLink own idx ("[" ++ (FieldType.array ty).toString)).before args s = true)
    (hK : K = 5 ∨ K = 6) (hki : ki = 1 ∨ ki = 2) (hover : va_AOA ty s) (harr : (Cond.arrayClass ty).before args s = true) (hcy : s.vm.findClass (FieldType.array ty).toString = some (cy ki)) (hcK : s.vm.findClass ("[" ++ (FieldType.array ty).toString) = some (cy K))
    (hzc : ∀ c : ClassId, Jvm.Free.Multi.innerC c k.toNatClampNeg (defaultValue ty) = vp_cell c z) (hzE : ∀ (ρ' : Nat → Nat) (j : Nat), j < n.toNatClampNeg → lm_E cy ρ' (lm_mul h a K ki n.toNatClampNeg k.toNatClampNeg) (a + 1 + j) = .inl (cy ki, z))
    (hdf : fits ty (defaultValue ty) = true) (hdd : (defaultValue ty).isDefault = true) (hcb : componentBytes ty ≤ 8)
    (hd : decode cc pc = .ok (.multianewarray idx 2, 4)) (G : lm_G D cy B s ρ ls (.int k :: .int n :: st) h H locs sl) (ha : 64 ≤ a) (hfree : ∀ j, j < n.toNatClampNeg + 1 → lm_kd h (a + j) = 0) (hn : ¬ n < 0) (hk : ¬ k < 0) (hn2 : n.toNatClampNeg ≤ 1000) (hk2 : k.toNatClampNeg ≤ 1000)
    (hr1 : cells + (1 + n.toNatClampNeg) ≤ R.cells) (hr2 : slots + (n.toNatClampNeg + n.toNatClampNeg * k.toNatClampNeg) ≤ R.slots)
    (kk : lm_K p l e R s m args below meth c cells slots Q D cy B ρ h (pc + 4, ls, .ref a :: st, lm_mul h a K ki n.toNatClampNeg k.toNatClampNeg)) :
    W p l e R s m args below meth c H locs cells slots Q (F0 m pc sl ((Value.int k :: Value.int n :: st).map (lm_vm ρ))) := by
  have hst : ∀ v ∈ st, lm_ok h v := fun v hv => G.2.2.2.2.2.2 v (List.mem_cons_of_mem _ (List.mem_cons_of_mem _ hv))
  obtain ⟨L, hnd, hL, hP, hD⟩ := G.1
  have hcb2 : k.toNatClampNeg * componentBytes ty ≤ 536870912 := Nat.le_trans (Nat.mul_le_mul hk2 hcb) (by decide)
  refine va_mna (X := L.map (lm_F cy ρ h)) (L := []) (f := fun _ => .inr (0, [])) (cy := cy ki) (z := z) hx hb hown hlink hover harr hcy V.2.1 (by rw [show va_pl [] (fun _ => (Sum.inr (0, []) : va_E)) = [] from rfl, List.append_nil]; exact hP) (by rw [show va_pl [] (fun _ => (Sum.inr (0, []) : va_E)) = [] from rfl, List.append_nil]; exact hD) G.2.2.2.1 (fun q hq => Nat.le_trans hB hq) hn hk rfl rfl (by omega) hcb2 (by omega) hdf hdd hr1 hr2 hzc hd (fun q g cA H1 hinj hnl hK1 hP1 hD1 hS1 => ?_)
  have hcA : cA = cy K := by
    have h5 := (hK1.2 5 (cA, .array ty) rfl).2
    exact Option.some.inj ((show s.vm.findClass ("[" ++ (FieldType.array ty).toString) = some cA from h5).symm.trans hcK)
  subst hcA
  generalize hN : n.toNatClampNeg = N at *
  generalize hM : k.toNatClampNeg = M at *
  have hin : ∀ b, lm_kd h b ≠ 0 → ¬ (a ≤ b ∧ b < a + (N + 1)) := fun b hb0 q => hb0 (by
    have := hfree (b - a) (by omega)
    rwa [show a + (b - a) = b by omega] at this)
  have hrm : ∀ b, ¬ (a ≤ b ∧ b < a + (N + 1)) → lm_rm ρ a N q g b = ρ b := fun b hb0 => by
    unfold lm_rm
    rw [if_neg (by omega), if_neg (by omega)]
  have hrma : lm_rm ρ a N q g a = q := if_pos rfl
  have hrmi : ∀ j, j < N → lm_rm ρ a N q g (a + 1 + j) = g j := fun j hj => by
    unfold lm_rm
    rw [if_neg (by omega), if_pos (by omega), show a + 1 + j - a - 1 = j by omega]
  have hag : lm_ag h ρ (lm_rm ρ a N q g) := fun b hb0 => hrm b (hin b hb0)
  have ekd : ∀ b, ¬ (a ≤ b ∧ b < a + (N + 1)) → lm_kd (lm_mul h a K ki N M) b = lm_kd h b := fun b hb0 => by
    show lm_u1 (lm_us h.2.2.2.1 a (N + 1) ki) a K b = _
    rw [lm_u1_ne (by omega), lm_us_ne hb0]
  have ekda : lm_kd (lm_mul h a K ki N M) a = K := lm_u1_eq
  have ekdi : ∀ j, j < N → lm_kd (lm_mul h a K ki N M) (a + 1 + j) = ki := fun j hj => by
    show lm_u1 (lm_us h.2.2.2.1 a (N + 1) ki) a K (a + 1 + j) = _
    rw [lm_u1_ne (by omega), lm_us_in (by omega)]
  have eln : ∀ b, ¬ (a ≤ b ∧ b < a + (N + 1)) → lm_ln (lm_mul h a K ki N M) b = lm_ln h b := fun b hb0 => by
    show lm_u1 (lm_us h.2.2.2.2.1 a (N + 1) M) a N b = _
    rw [lm_u1_ne (by omega), lm_us_ne hb0]
  have e1 : ∀ b, ¬ (a ≤ b ∧ b < a + (N + 1)) → (lm_mul h a K ki N M).1 b = h.1 b := fun b hb0 => lm_us_ne hb0
  have e2 : ∀ b, ¬ (a ≤ b ∧ b < a + (N + 1)) → (lm_mul h a K ki N M).2.1 b = h.2.1 b := fun b hb0 => lm_us_ne hb0
  have e3 : ∀ b, ¬ (a ≤ b ∧ b < a + (N + 1)) → lm_hr (lm_mul h a K ki N M) b = lm_hr h b := fun b hb0 => by
    show lm_row (lm_us h.2.2.1 a (N + 1) (fun _ => none)) a _ b = _
    rw [lm_row_ne (by omega), lm_us_ne hb0]
  have e3a : ∀ j, lm_hr (lm_mul h a K ki N M) a j = if j < N then some (a + 1 + j) else none := fun j => by
    show lm_row (lm_us h.2.2.1 a (N + 1) (fun _ => none)) a _ a j = _
    rw [lm_row_eq]
  have e3i : ∀ i j, i < N → lm_hr (lm_mul h a K ki N M) (a + 1 + i) j = none := fun i j hi => by
    show lm_row (lm_us h.2.2.1 a (N + 1) (fun _ => none)) a _ (a + 1 + i) j = _
    rw [lm_row_ne (by omega), lm_us_in (by omega)]
  have eE : ∀ b, lm_kd h b ≠ 0 → lm_E cy (lm_rm ρ a N q g) (lm_mul h a K ki N M) b = lm_E cy ρ h b := fun b hb0 =>
    lm_E_cong (ekd b (hin b hb0)) (eln b (hin b hb0)) (e1 b (hin b hb0)) (e2 b (hin b hb0)) (e3 b (hin b hb0)) (fun j d hd0 => hrm d (hin d (G.2.1.1 b j d hb0 hd0)))
  have eEa : lm_E cy (lm_rm ρ a N q g) (lm_mul h a K ki N M) a = .inl (cy K, N, .inr (.inr (.inr (.inr (fun i => if i < N then some (g i) else none))))) := by
    rw [lm_E_r ekda (by omega) (by omega)]
    show Sum.inl (cy K, lm_u1 (lm_us h.2.2.2.2.1 a (N + 1) M) a N a, Sum.inr (Sum.inr (Sum.inr (Sum.inr (fun j => (lm_hr (lm_mul h a K ki N M) a j).map (lm_rm ρ a N q g)))))) = _
    rw [lm_u1_eq]
    refine congrArg (fun w : Nat → Option Nat => (Sum.inl (cy K, N, Sum.inr (Sum.inr (Sum.inr (Sum.inr w)))) : va_E)) (funext fun j => ?_)
    rw [e3a j]
    by_cases hj : j < N
    · rw [if_pos hj, if_pos hj, Option.map_some, hrmi j hj]
    · rw [if_neg hj, if_neg hj]
      rfl
  have ews : ((L.map (lm_F cy ρ h) ++ [(q, .inl (cy K, N, .inr (.inr (.inr (.inr (fun i => if i < N then some (g i) else none))))))]) ++ va_pl ([] ++ (List.range N).map g) (vr_up (fun _ => .inr (0, [])) ((List.range N).map g) (.inl (cy ki, z)))) = ((L ++ [a]) ++ (List.range N).map (fun j => a + 1 + j)).map (lm_F cy (lm_rm ρ a N q g) (lm_mul h a K ki N M)) := by
    rw [List.map_append, List.map_append, List.nil_append]
    congr 1
    · congr 1
      · apply List.map_congr_left
        intro b hb0
        have hb1 := ((hL b).mp hb0).2
        simp only [lm_F, eE b hb1, hrm b (hin b hb1)]
      · simp only [List.map_cons, List.map_nil, lm_F, eEa, hrma]
    · unfold va_pl
      rw [List.map_map, List.map_map]
      apply List.map_congr_left
      intro j hj
      have hj' := List.mem_range.mp hj
      simp only [Function.comp, lm_F, hrmi j hj', hzE _ j hj']
      rw [vr_up_in (List.mem_map.mpr ⟨j, hj, rfl⟩)]
  rw [ews] at hP1 hD1
  have hok : ∀ v, lm_ok h v → lm_ok (lm_mul h a K ki N M) v := fun v hv b hb0 => by
    have := hv b hb0
    rw [ekd b (hin b this)]
    exact this
  have hcases : ∀ b, (a ≤ b ∧ b < a + (N + 1)) → b = a ∨ ∃ j, j < N ∧ b = a + 1 + j := fun b hb0 => by
    by_cases hba : b = a
    · exact Or.inl hba
    · exact Or.inr ⟨b - a - 1, by omega, by omega⟩
  have hWd : lm_Wd D cy B (lm_rm ρ a N q g) (lm_mul h a K ki N M) H1 := by
    refine ⟨_, ?_, fun b => ?_, hP1, hD1⟩
    · rw [List.nodup_append, List.nodup_append]
      refine ⟨⟨hnd, by simp, fun x hx0 y hy0 => ?_⟩, ?_, fun x hx0 y hy0 => ?_⟩
      · rw [List.mem_singleton.mp hy0]
        exact fun z0 => ((hL x).mp hx0).2 (by rw [z0]; have := hfree 0 (by omega); simpa using this)
      · show List.Pairwise (· ≠ ·) _
        exact List.pairwise_map.mpr (List.Pairwise.imp (fun {x y} (hxy : x ≠ y) (z0 : a + 1 + x = a + 1 + y) => hxy (by omega)) (show List.Pairwise (· ≠ ·) (List.range N) from List.nodup_range))
      · obtain ⟨j, hj, rfl⟩ := List.mem_map.mp hy0
        have hj' := List.mem_range.mp hj
        rcases List.mem_append.mp hx0 with w | w
        · exact fun z0 => hin x ((hL x).mp w).2 (by omega)
        · rw [List.mem_singleton.mp w]
          omega
    · rw [List.mem_append, List.mem_append, List.mem_singleton, List.mem_map, hL b]
      by_cases hb0 : a ≤ b ∧ b < a + (N + 1)
      · rcases hcases b hb0 with rfl | ⟨j, hj, rfl⟩
        · exact ⟨fun _ => ⟨ha, by rw [ekda]; omega⟩, fun _ => Or.inl (Or.inr rfl)⟩
        · exact ⟨fun _ => ⟨by omega, by rw [ekdi j hj]; omega⟩, fun _ => Or.inr ⟨j, List.mem_range.mpr hj, rfl⟩⟩
      · rw [ekd b hb0]
        refine ⟨fun w => ?_, fun w => Or.inl (Or.inl w)⟩
        rcases w with (w | w) | ⟨j, hj, w⟩
        · exact w
        · exact absurd ⟨by omega, by omega⟩ hb0
        · exact absurd ⟨by omega, by have := List.mem_range.mp hj; omega⟩ hb0
  have hnot64 : ∀ b, b < 64 → ¬ (a ≤ b ∧ b < a + (N + 1)) := fun b hb0 w => by omega
  have hHV : lm_HV (lm_mul h a K ki N M) := by
    refine ⟨fun b j d hb0 hd0 => ?_, fun b hb0 hb1 => ?_, fun b hb0 => by rw [ekd b (hnot64 b hb0)]; exact G.2.1.2.2 b hb0⟩
    · by_cases hb2 : a ≤ b ∧ b < a + (N + 1)
      · rcases hcases b hb2 with rfl | ⟨i, hi, rfl⟩
        · rw [e3a j] at hd0
          split at hd0
          · rename_i hj
            cases hd0
            rw [ekdi j hj]
            omega
          · cases hd0
        · rw [e3i i j hi] at hd0
          cases hd0
      · rw [ekd b hb2] at hb0
        rw [e3 b hb2] at hd0
        have := G.2.1.1 b j d hb0 hd0
        rw [ekd d (hin d this)]
        exact this
    · by_cases hb2 : a ≤ b ∧ b < a + (N + 1)
      · rcases hcases b hb2 with rfl | ⟨i, hi, rfl⟩
        · rw [ekda]
          omega
        · rw [ekdi i hi]
          omega
      · rw [ekd b hb2] at hb1 ⊢
        exact G.2.1.2.1 b hb0 hb1
  have G1 : lm_G D cy B s (lm_rm ρ a N q g) ls (.ref a :: st) (lm_mul h a K ki N M) H1 locs sl :=
    ⟨hWd, hHV, lm_Old.cong G.2.1 hag (fun b hb0 => ekd b (hnot64 b hb0)) (fun b hb0 => eln b (hnot64 b hb0)) (fun b hb0 => e1 b (hnot64 b hb0)) (fun b hb0 => e3 b (hnot64 b hb0)) G.2.2.1, hS1, lm_L_ag hag G.2.2.2.2.2.1 G.2.2.2.2.1, fun v hv => hok v (G.2.2.2.2.2.1 v hv), lm_ok_cons (fun b hb0 => by cases hb0; rw [ekda]; omega) (fun v hv => hok v (hst v hv))⟩
  have := kk (lm_rm ρ a N q g) H1 locs sl (cells + 1 + N) (slots + N + N * M) hag G1 (by show cells + 1 + N + lm_nc h = cells + (lm_nc h + 1 + N); omega) (by show slots + N + N * M + lm_ns h = slots + (lm_ns h + N + N * M); omega)
  simp only [List.map_cons] at this
  rw [lm_map_ag hag hst] at this
  have e9 : lm_vm (lm_rm ρ a N q g) (.ref a) = .ref q := by show Value.ref (lm_rm ρ a N q g a) = _; rw [hrma]
  rw [e9] at this
  exact this
theorem lm_inner_i (c : ClassId) (k : Nat) : Jvm.Free.Multi.innerC c k (defaultValue .int) = vp_cell c (k, .inl (fun _ => 0)) := by
  show ({ cls := c, slots := Array.replicate k (defaultValue .int), vm := .none } : Cell) = _
  rw [arrV_new]
  rfl
theorem lm_inner_l (c : ClassId) (k : Nat) : Jvm.Free.Multi.innerC c k (defaultValue .long) = vp_cell c (k, .inr (.inl (fun _ => 0))) := by
  show ({ cls := c, slots := Array.replicate k (defaultValue .long), vm := .none } : Cell) = _
  rw [arrV_new]
  rfl
theorem lm_mul_Ei {a n k j : Nat} (ρ' : Nat → Nat) (hj : j < n) : lm_E cy ρ' (lm_mul h a 5 1 n k) (a + 1 + j) = .inl (cy 1, k, .inl (fun _ => 0)) := by
  have hk : lm_kd (lm_mul h a 5 1 n k) (a + 1 + j) = 1 := by
    show lm_u1 (lm_us h.2.2.2.1 a (n + 1) 1) a 5 (a + 1 + j) = 1
    rw [lm_u1_ne (by omega), lm_us_in (by omega)]
  rw [lm_E_i hk]
  show Sum.inl (cy 1, lm_u1 (lm_us h.2.2.2.2.1 a (n + 1) k) a n (a + 1 + j), Sum.inl (lm_us h.1 a (n + 1) (fun _ => 0) (a + 1 + j))) = _
  rw [lm_u1_ne (by omega), lm_us_in (by omega), lm_us_in (by omega)]
theorem lm_mul_El {a n k j : Nat} (ρ' : Nat → Nat) (hj : j < n) : lm_E cy ρ' (lm_mul h a 6 2 n k) (a + 1 + j) = .inl (cy 2, k, .inr (.inl (fun _ => 0))) := by
  have hk : lm_kd (lm_mul h a 6 2 n k) (a + 1 + j) = 2 := by
    show lm_u1 (lm_us h.2.2.2.1 a (n + 1) 2) a 6 (a + 1 + j) = 2
    rw [lm_u1_ne (by omega), lm_us_in (by omega)]
  rw [lm_E_l hk]
  show Sum.inl (cy 2, lm_u1 (lm_us h.2.2.2.2.1 a (n + 1) k) a n (a + 1 + j), Sum.inr (Sum.inl (lm_us h.2.1 a (n + 1) (fun _ => 0) (a + 1 + j)))) = _
  rw [lm_u1_ne (by omega), lm_us_in (by omega), lm_us_in (by omega)]
end LMU
