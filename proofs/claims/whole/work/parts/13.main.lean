/-! the main theorem of LM: what it computes the machine does -/
theorem lm_lookup_mem {α : Type} {l : List (Nat × α)} {k : Nat} {v : α} (h : l.lookup k = some v) : (k, v) ∈ l := by
  induction l with
  | nil => cases h
  | cons q l ih =>
    obtain ⟨a, b⟩ := q
    rw [List.lookup_cons] at h
    by_cases hk : (k == a) = true
    · rw [hk] at h
      cases h
      rw [eq_of_beq hk]
      exact List.mem_cons_self
    · simp only [Bool.not_eq_true] at hk
      rw [hk] at h
      exact List.mem_cons_of_mem _ (ih h)
theorem lm_cls_lt : ∀ x ∈ lm_mt, x.1 < 18 ∧ x.2.2.2.1 ≤ 70 := by decide +kernel
theorem lm_m_mem {f : Nat} (h : f < lm_mt.length) : lm_m f ∈ lm_mt := by
  unfold lm_m
  rw [List.getD_eq_getElem?_getD, List.getElem?_eq_getElem h]
  exact List.getElem_mem h
section LMM
variable {p : Program} {l : Launch} {e : Env} {R : Room} {s : State} {m : MethodId} {args : Array Value} {below : List Frame} {meth : Method} {c : Code} {H : Heap} {locs : List Loc} {cells slots : Nat} {Q : State → Prop}
variable {D : va_G} {cy : Nat → ClassId} {B : Nat} {ρ : Nat → Nat} {f pc : Nat} {ls st : List Value} {h : lm_H} {sl : Array Slot}
theorem lm_G_sub {st' : List Value} (G : lm_G D cy B s ρ ls st h H locs sl) (hs : ∀ v ∈ st', v ∈ st) : lm_G D cy B s ρ ls st' h H locs sl := ⟨G.1, G.2.1, G.2.2.1, G.2.2.2.1, G.2.2.2.2.1, G.2.2.2.2.2.1, fun v hv => G.2.2.2.2.2.2 v (hs v hv)⟩
theorem lm_t_objInit (V : lm_V D cy s) (hx : p.tables.exec = Jvm.exec) {cc : ByteArray} (hb : c.code = cc) (hnl : ls.length = c.maxLocals) {c0 idx a i : Nat} {r : List Value} (hown : s.vm.findClass (lm_own c0) = some m.cls) (hw : lw_tbl[i]? = some (.methodLink (lm_own c0) idx objectInit)) (hd : decode cc pc = .ok (.invokespecial idx, 3))
    (G : lm_G D cy B s ρ ls (.ref a :: r) h H locs sl) (hr : (r.map Value.category).sum ≤ 8) (hf : 1 ≤ R.frames) (hlo : 60 ≤ R.locals)
    (kk : lm_K p l e R s m args below meth c cells slots Q D cy B ρ h (pc + 3, ls, r, h)) :
    W p l e R s m args below meth c H locs cells slots Q (F0 m pc sl ((Value.ref a :: r).map (lm_vm ρ))) := by
  have hst := G.2.2.2.2.2.2
  obtain ⟨lv, hl1, -⟩ := G.2.2.2.2.1
  have hsum : ((r.map (lm_vm ρ)).map fun v => v.category).sum = (r.map Value.category).sum := by
    rw [List.map_map]
    congr 1
    exact List.map_congr_left (fun v _ => lm_vm_cat ρ v)
  exact W.objInit hx hb hown (V.1 _ (lm_in hw rfl) args) (V.1 _ (List.mem_filter.mpr ⟨lm_obj_words.1, rfl⟩) args) (V.1 _ (List.mem_filter.mpr ⟨lm_obj_words.2, rfl⟩) args) (g := F0 m pc sl ((Value.ref a :: r).map (lm_vm ρ))) rfl (by rw [← hnl]; exact hl1.1) rfl hd hf (by show 2 * 0 + _ + 12 ≤ _; rw [hsum]; omega) (lm_K_st kk G (fun v hv => hst v (List.mem_cons_of_mem _ hv)))
theorem lm_t_arraycopy (V : lm_V D cy s) (hx : p.tables.exec = Jvm.exec) {cc : ByteArray} (hb : c.code = cc) (hnl : ls.length = c.maxLocals) {c0 idx a0 a1 i : Nat} {sp dp n : Int32} {r : List Value} (hown : s.vm.findClass (lm_own c0) = some m.cls) (hw : lw_tbl[i]? = some (.methodLink (lm_own c0) idx arraycopyName)) (hd : decode cc pc = .ok (.invokestatic idx, 3))
    (G : lm_G D cy B s ρ ls (.int n :: .int dp :: .ref a1 :: .int sp :: .ref a0 :: r) h H locs sl) (hr : (r.map Value.category).sum ≤ 8) (hf : 1 ≤ R.frames) (hlo : 60 ≤ R.locals) (k0 : lm_kd h a0 = 2) (k1 : lm_kd h a1 = 2) (b0 : 64 ≤ a0) (b1 : 64 ≤ a1) (h1 : ¬ sp < 0) (h2 : ¬ dp < 0) (h3 : ¬ n < 0)
    (h4 : sp.toNatClampNeg + n.toNatClampNeg ≤ lm_ln h a0) (h5 : dp.toNatClampNeg + n.toNatClampNeg ≤ lm_ln h a1)
    (kk : lm_K p l e R s m args below meth c cells slots Q D cy B ρ h (pc + 3, ls, r, (h.1, lm_row h.2.1 a1 (va_cpy (h.2.1 a0) (h.2.1 a1) sp.toNatClampNeg dp.toNatClampNeg n.toNatClampNeg), h.2.2))) :
    W p l e R s m args below meth c H locs cells slots Q (F0 m pc sl ((Value.int n :: Value.int dp :: Value.ref a1 :: Value.int sp :: Value.ref a0 :: r).map (lm_vm ρ))) := by
  have hst := G.2.2.2.2.2.2
  obtain ⟨lv, hl1, -⟩ := G.2.2.2.2.1
  have hsum : ((r.map (lm_vm ρ)).map fun v => v.category).sum = (r.map Value.category).sum := by
    rw [List.map_map]
    congr 1
    exact List.map_congr_left (fun v _ => lm_vm_cat ρ v)
  obtain ⟨L, hn, hL, hP, hD⟩ := G.1
  obtain ⟨q0, hq0⟩ := List.getElem?_of_mem ((hL a0).mpr ⟨b0, by omega⟩)
  obtain ⟨q1, hq1⟩ := List.getElem?_of_mem ((hL a1).mpr ⟨b1, by omega⟩)
  have e0 : (L.map (lm_F cy ρ h))[q0]? = some (ρ a0, .inl (cy 2, lm_ln h a0, .inr (.inl (h.2.1 a0)))) := by rw [List.getElem?_map, hq0, ← lm_E_l (ρ := ρ) k0]; rfl
  have e1 : (L.map (lm_F cy ρ h))[q1]? = some (ρ a1, .inl (cy 2, lm_ln h a1, .inr (.inl (h.2.1 a1)))) := by rw [List.getElem?_map, hq1, ← lm_E_l (ρ := ρ) k1]; rfl
  obtain ⟨w1, w2, w3⟩ := lm_cpy_words
  refine va_copyl (ty := .long) hx hb (by rw [← hnl]; exact hl1.1.symm) hown (V.1 _ (lm_in hw rfl) args) (V.1 _ (List.mem_filter.mpr ⟨w1, rfl⟩) args) (V.1 _ (List.mem_filter.mpr ⟨w2, rfl⟩) args) (V.1 _ (List.mem_filter.mpr ⟨w3, rfl⟩) args) V.2.1 hP hD G.2.2.2.1 q0 q1 1 1 e0 e1 rfl rfl rfl h1 h2 h3 h4 h5 (fun _ _ => rfl) hf (by rw [hsum]; show _ + (5 + 2 + 11) ≤ _; omega) hd (fun H1 locs1 hP1 hD1 hS1 => ?_)
  have eE : lm_E cy ρ (h.1, lm_row h.2.1 a1 (va_cpy (h.2.1 a0) (h.2.1 a1) sp.toNatClampNeg dp.toNatClampNeg n.toNatClampNeg), h.2.2) a1 = .inl (cy 2, lm_ln h a1, .inr (.inl (va_cpy (h.2.1 a0) (h.2.1 a1) sp.toNatClampNeg dp.toNatClampNeg n.toNatClampNeg))) := by
    rw [lm_E_l (h := (h.1, lm_row h.2.1 a1 (va_cpy (h.2.1 a0) (h.2.1 a1) sp.toNatClampNeg dp.toNatClampNeg n.toNatClampNeg), h.2.2)) k1]
    show Sum.inl (cy 2, lm_ln h a1, Sum.inr (Sum.inl (lm_row h.2.1 a1 _ a1))) = _
    rw [lm_row_eq]
  have em := lm_map_set (F := lm_F cy ρ h) (F' := lm_F cy ρ (h.1, lm_row h.2.1 a1 (va_cpy (h.2.1 a0) (h.2.1 a1) sp.toNatClampNeg dp.toNatClampNeg n.toNatClampNeg), h.2.2)) hn hq1 (fun d hd => by
    simp only [lm_F]
    rw [lm_E_cong (h := h) (h' := (h.1, lm_row h.2.1 a1 (va_cpy (h.2.1 a0) (h.2.1 a1) sp.toNatClampNeg dp.toNatClampNeg n.toNatClampNeg), h.2.2)) rfl rfl rfl (lm_row_ne hd) rfl (fun _ _ _ => rfl)])
  simp only [lm_F, eE] at em
  rw [em] at hP1 hD1
  exact kk ρ H1 locs1 sl cells slots (lm_ag_rf h ρ) (lm_G_put G ⟨L, hn, hL, hP1, hD1⟩ hS1 b1 rfl rfl (fun b hb => rfl) (fun d hd => rfl) (fun j d hd => G.2.1.1 a1 j d (by omega) hd) (fun v hv => hst v (by simp [hv]))) rfl rfl
theorem lm_t_arraycopyi (V : lm_V D cy s) (hx : p.tables.exec = Jvm.exec) {cc : ByteArray} (hb : c.code = cc) (hnl : ls.length = c.maxLocals) {c0 idx a0 a1 i : Nat} {sp dp n : Int32} {r : List Value} (hown : s.vm.findClass (lm_own c0) = some m.cls) (hw : lw_tbl[i]? = some (.methodLink (lm_own c0) idx arraycopyName)) (hd : decode cc pc = .ok (.invokestatic idx, 3))
    (G : lm_G D cy B s ρ ls (.int n :: .int dp :: .ref a1 :: .int sp :: .ref a0 :: r) h H locs sl) (hr : (r.map Value.category).sum ≤ 8) (hf : 1 ≤ R.frames) (hlo : 60 ≤ R.locals) (k0 : lm_kd h a0 = 1) (k1 : lm_kd h a1 = 1) (b0 : 64 ≤ a0) (b1 : 64 ≤ a1) (h1 : ¬ sp < 0) (h2 : ¬ dp < 0) (h3 : ¬ n < 0)
    (h4 : sp.toNatClampNeg + n.toNatClampNeg ≤ lm_ln h a0) (h5 : dp.toNatClampNeg + n.toNatClampNeg ≤ lm_ln h a1)
    (kk : lm_K p l e R s m args below meth c cells slots Q D cy B ρ h (pc + 3, ls, r, (lm_row h.1 a1 (va_cpy (h.1 a0) (h.1 a1) sp.toNatClampNeg dp.toNatClampNeg n.toNatClampNeg), h.2))) :
    W p l e R s m args below meth c H locs cells slots Q (F0 m pc sl ((Value.int n :: Value.int dp :: Value.ref a1 :: Value.int sp :: Value.ref a0 :: r).map (lm_vm ρ))) := by
  have hst := G.2.2.2.2.2.2
  obtain ⟨lv, hl1, -⟩ := G.2.2.2.2.1
  have hsum : ((r.map (lm_vm ρ)).map fun v => v.category).sum = (r.map Value.category).sum := by
    rw [List.map_map]
    congr 1
    exact List.map_congr_left (fun v _ => lm_vm_cat ρ v)
  obtain ⟨L, hn, hL, hP, hD⟩ := G.1
  obtain ⟨q0, hq0⟩ := List.getElem?_of_mem ((hL a0).mpr ⟨b0, by omega⟩)
  obtain ⟨q1, hq1⟩ := List.getElem?_of_mem ((hL a1).mpr ⟨b1, by omega⟩)
  have e0 : (L.map (lm_F cy ρ h))[q0]? = some (ρ a0, .inl (cy 1, lm_ln h a0, .inl (h.1 a0))) := by rw [List.getElem?_map, hq0, ← lm_E_i (ρ := ρ) k0]; rfl
  have e1 : (L.map (lm_F cy ρ h))[q1]? = some (ρ a1, .inl (cy 1, lm_ln h a1, .inl (h.1 a1))) := by rw [List.getElem?_map, hq1, ← lm_E_i (ρ := ρ) k1]; rfl
  obtain ⟨w1, w2, w3⟩ := lm_cpy_words
  refine va_copyi (ty := .int) hx hb (by rw [← hnl]; exact hl1.1.symm) hown (V.1 _ (lm_in hw rfl) args) (V.1 _ (List.mem_filter.mpr ⟨w1, rfl⟩) args) (V.1 _ (List.mem_filter.mpr ⟨w2, rfl⟩) args) (V.1 _ (List.mem_filter.mpr ⟨w3, rfl⟩) args) V.2.1 hP hD G.2.2.2.1 q0 q1 0 0 e0 e1 rfl rfl rfl h1 h2 h3 h4 h5 (fun _ _ => rfl) hf (by rw [hsum]; show _ + (5 + 2 + 11) ≤ _; omega) hd (fun H1 locs1 hP1 hD1 hS1 => ?_)
  have eE : lm_E cy ρ (lm_row h.1 a1 (va_cpy (h.1 a0) (h.1 a1) sp.toNatClampNeg dp.toNatClampNeg n.toNatClampNeg), h.2) a1 = .inl (cy 1, lm_ln h a1, .inl (va_cpy (h.1 a0) (h.1 a1) sp.toNatClampNeg dp.toNatClampNeg n.toNatClampNeg)) := by
    rw [lm_E_i (h := (lm_row h.1 a1 (va_cpy (h.1 a0) (h.1 a1) sp.toNatClampNeg dp.toNatClampNeg n.toNatClampNeg), h.2)) k1]
    show Sum.inl (cy 1, lm_ln h a1, Sum.inl (lm_row h.1 a1 _ a1)) = _
    rw [lm_row_eq]
  have em := lm_map_set (F := lm_F cy ρ h) (F' := lm_F cy ρ (lm_row h.1 a1 (va_cpy (h.1 a0) (h.1 a1) sp.toNatClampNeg dp.toNatClampNeg n.toNatClampNeg), h.2)) hn hq1 (fun d hd => by
    simp only [lm_F]
    rw [lm_E_cong (h := h) (h' := (lm_row h.1 a1 (va_cpy (h.1 a0) (h.1 a1) sp.toNatClampNeg dp.toNatClampNeg n.toNatClampNeg), h.2)) rfl rfl (lm_row_ne hd) rfl rfl (fun _ _ _ => rfl)])
  simp only [lm_F, eE] at em
  rw [em] at hP1 hD1
  exact kk ρ H1 locs1 sl cells slots (lm_ag_rf h ρ) (lm_G_put G ⟨L, hn, hL, hP1, hD1⟩ hS1 b1 rfl rfl (fun b hb => lm_row_ne hb) (fun d hd => rfl) (fun j d hd => G.2.1.1 a1 j d (by omega) hd) (fun v hv => hst v (by simp [hv]))) rfl rfl
theorem lm_t_checkIndex (V : lm_V D cy s) (hx : p.tables.exec = Jvm.exec) {cc : ByteArray} (hb : c.code = cc) (hnl : ls.length = c.maxLocals) {c0 idx k : Nat} {i n : Int32} {r : List Value} (hown : s.vm.findClass (lm_own c0) = some m.cls) (hw : lw_tbl[k]? = some (.methodLink (lm_own c0) idx lm_y0)) (hd : decode cc pc = .ok (.invokestatic idx, 3))
    (G : lm_G D cy B s ρ ls (.int n :: .int i :: r) h H locs sl) (hr : (r.map Value.category).sum ≤ 8) (hf : 4 ≤ R.frames) (hlo : 100 ≤ R.locals) (hcs : cells ≤ R.cells ∧ slots ≤ R.slots) (h1 : ¬ i < 0) (h2 : i < n)
    (kk : lm_K p l e R s m args below meth c cells slots Q D cy B ρ h (pc + 3, ls, r, h)) :
    W p l e R s m args below meth c H locs cells slots Q (F0 m pc sl ((Value.int n :: Value.int i :: r).map (lm_vm ρ))) := by
  have hst := G.2.2.2.2.2.2
  obtain ⟨lv, hl1, -⟩ := G.2.2.2.2.1
  have hS := G.2.2.2.1
  have hsum : ((r.map (lm_vm ρ)).map fun v => v.category).sum = (r.map Value.category).sum := by
    rw [List.map_map]
    congr 1
    exact List.map_congr_left (fun v _ => lm_vm_cat ρ v)
  obtain ⟨w1, w2, w3⟩ := lm_ck_words
  have hts : ∀ w ∈ lm_ts, w.before args s = true := fun w hw => V.1 w hw args
  have hG : GoodIn lm_ts (va_wsS (lm_own c0) idx lm_y0 lm_w0) := by
    intro w hw9
    have hmem : w ∈ lm_ts ∧ goodWord w = true := by
      rcases List.mem_append.mp hw9 with q | q
      · simp only [List.mem_cons, List.not_mem_nil, or_false] at q
        rcases q with rfl | rfl | rfl
        · exact ⟨lm_in hw rfl, rfl⟩
        · exact ⟨List.mem_filter.mpr ⟨w2, rfl⟩, rfl⟩
        · exact ⟨List.mem_filter.mpr ⟨w3, rfl⟩, rfl⟩
      · have hq := w1 w q
        unfold lm_w0 at q
        simp only [List.mem_cons, List.not_mem_nil, or_false] at q
        rcases q with rfl | rfl | rfl | rfl | rfl | rfl <;> exact ⟨List.mem_filter.mpr ⟨hq, rfl⟩, rfl⟩
    exact ⟨hmem.1, good_of_word hmem.2⟩
  refine lm_cgo (B := B) (va_runS (As := [.int i, .int n]) (rest := r.map (lm_vm ρ)) ⟨hx, hb, rfl, hown, hts⟩ (lm_ck0 l B i n h1 h2) (va_cwS 2 hts hG rfl rfl rfl (by decide +kernel) ⟨by show 1 + 1 ≤ _; omega, by show 8 + (2 + 11) + 30 ≤ _; omega⟩) ⟨fun a U g mk q => q, fun U hU hW => ⟨rfl, by rw [hU]; exact ((G.2.2.1.2.2.2.2.2.1).kept hS.2.1).moved hW.alike⟩⟩ rfl rfl (by rw [← hnl]; exact hl1.1) rfl (lv_room (by rw [hsum]; exact hr)) hd ⟨hcs.1, hcs.2⟩) hS (fun st₀ v t h0 hq => ⟨by rw [hq.2]; exact Nat.le_refl _, fun q _ _ => by rw [hq.2]⟩) (fun v st₀ t H1 locs1 h0 ht hW hq hS1 => ?_)
  obtain ⟨hv, hh⟩ := hq
  cases hv
  have e : H1 = H := by rw [← ht, hh, h0]
  subst e
  exact kk ρ H1 locs1 sl cells slots (lm_ag_rf h ρ) ⟨G.1, G.2.1, G.2.2.1, hS1, G.2.2.2.2.1, G.2.2.2.2.2.1, fun v hv => hst v (by simp [hv])⟩ rfl rfl
theorem lm_lk_spec (x : Int32) (d : Int) : ∀ ps : List (Int × Int), (∀ q ∈ ps, -2147483648 ≤ q.1 ∧ q.1 ≤ 2147483647) → lm_lk x ps d = Op.lookupswitch.offset ps d x.toInt := by
  intro ps
  induction ps with
  | nil => intro _; rfl
  | cons q ps ih =>
    intro hr
    obtain ⟨a, o⟩ := q
    have h1 := hr (a, o) List.mem_cons_self
    have hiff := lm_ofInt_iff x (n := a) h1.1 (by have := h1.2; dsimp only at this; omega)
    have hi := ih (fun q hq => hr q (List.mem_cons_of_mem _ hq))
    by_cases hx : x.toInt = a
    · simp only [lm_lk, Op.lookupswitch.offset, if_pos (hiff.mpr hx), if_pos hx.symm]
    · simp only [lm_lk, Op.lookupswitch.offset, if_neg (fun z => hx (hiff.mp z)), if_neg (Ne.symm hx), hi]
theorem lm_iv_no0 (w : Option (Nat × Nat × Nat × Nat)) (pc : Nat) (ls st : List Value) (h : lm_H) {q} : lm_iv w 0 pc ls st h ≠ some (.inl q) := by
  intro hs
  unfold lm_iv at hs
  split at hs
  · cases hs
  · split at hs
    · split at hs
      · split at hs <;> cases hs
      · cases hs
    · split at hs
      · split at hs <;> cases hs
      · split at hs
        · split at hs
          · split at hs <;> cases hs
          · cases hs
        · split at hs
          · split at hs
            · split at hs
              · rename_i hc; exact absurd hc.1 (by decide)
              · cases hs
            · cases hs
          · split at hs
            · split at hs
              · split at hs
                · rename_i hc; exact absurd hc.1 (by decide)
                · split at hs
                  · rename_i hc; exact absurd hc.1 (by decide)
                  · cases hs
              · cases hs
            · split at hs
              · split at hs
                · split at hs
                  · rename_i hc; exact absurd hc.1 (by decide)
                  · cases hs
                · cases hs
              · split at hs
                · split at hs
                  · split at hs
                    · rename_i hc; exact absurd hc.1 (by decide)
                    · cases hs
                  · cases hs
                · split at hs
                  · split at hs
                    · split at hs
                      · rename_i hc; exact absurd hc.1 (by decide)
                      · cases hs
                    · cases hs
                  · cases hs
theorem lm_t_ivI (V : lm_V D cy s) (hx : p.tables.exec = Jvm.exec) {cc : ByteArray} (hb : c.code = cc) (hnl : ls.length = c.maxLocals) {c0 idx : Nat} (hown : s.vm.findClass (lm_own c0) = some m.cls) (hd : decode cc pc = .ok (.invokespecial idx, 3))
    (G : lm_G D cy B s ρ ls st h H locs sl) (hr : 4 ≤ R.frames ∧ 100 ≤ R.locals ∧ cells ≤ R.cells ∧ slots ≤ R.slots) {q} (hs : lm_iv ((lm_kM c0).lookup idx) 2 pc ls st h = some (.inl q)) (kk : lm_K p l e R s m args below meth c cells slots Q D cy B ρ h q) :
    W p l e R s m args below meth c H locs cells slots Q (F0 m pc sl (st.map (lm_vm ρ))) := by
  unfold lm_iv at hs
  split at hs
  · cases hs
  · rename_i kind g n z hlk
    have hok := lm_okc_all _ _ (lm_lookup_mem hlk)
    split at hs
    · split at hs
      · split at hs <;> cases hs
      · cases hs
    · split at hs
      · split at hs <;> cases hs
      · split at hs
        · split at hs
          · split at hs <;> cases hs
          · cases hs
        · split at hs
          · rename_i hk5
            subst hk5
            split at hs
            · split at hs
              · rename_i hc
                cases hs
                exact lm_t_objInit V hx hb hnl hown (of_decide_eq_true hok) hd G hc.2 (by omega) (by omega) kk
              · cases hs
            · cases hs
          · split at hs
            · split at hs
              · split at hs
                · rename_i hc; exact absurd hc.1 (by decide)
                · split at hs
                  · rename_i hc; exact absurd hc.1 (by decide)
                  · cases hs
              · cases hs
            · split at hs
              · split at hs
                · split at hs
                  · rename_i hc; exact absurd hc.1 (by decide)
                  · cases hs
                · cases hs
              · split at hs
                · split at hs
                  · split at hs
                    · rename_i hc; exact absurd hc.1 (by decide)
                    · cases hs
                  · cases hs
                · split at hs
                  · split at hs
                    · split at hs
                      · rename_i hc; exact absurd hc.1 (by decide)
                      · cases hs
                    · cases hs
                  · cases hs
theorem lm_t_mm (V : lm_V D cy s) (hx : p.tables.exec = Jvm.exec) {cc : ByteArray} (hb : c.code = cc) (hnl : ls.length = c.maxLocals) {c0 idx i : Nat} {x y : Int32} {r : List Value} (hown : s.vm.findClass (lm_own c0) = some m.cls) (hd : decode cc pc = .ok (.invokestatic idx, 3)) (mx : Bool)
    (hw : lw_tbl[i]? = some (.methodLink (lm_own c0) idx (if mx then Lib.Math.max.name else Lib.Math.min.name))) (G : lm_G D cy B s ρ ls (.int y :: .int x :: r) h H locs sl) (hrr : (r.map Value.category).sum ≤ 8) (hr : 4 ≤ R.frames ∧ 100 ≤ R.locals ∧ cells ≤ R.cells ∧ slots ≤ R.slots)
    (kk : lm_K p l e R s m args below meth c cells slots Q D cy B ρ h (pc + 3, ls, .int (if mx then (if x < y then y else x) else (if y < x then y else x)) :: r, h)) :
    W p l e R s m args below meth c H locs cells slots Q (F0 m pc sl ((Value.int y :: Value.int x :: r).map (lm_vm ρ))) := by
  have hst := G.2.2.2.2.2.2
  obtain ⟨lv, hl1, -⟩ := G.2.2.2.2.1
  have hsum : ((r.map (lm_vm ρ)).map fun v => v.category).sum = (r.map Value.category).sum := by
    rw [List.map_map]
    congr 1
    exact List.map_congr_left (fun v _ => lm_vm_cat ρ v)
  have hK := lm_K_st kk G (lm_ok_cons (lm_ok_int _ _) (fun v hv => hst v (List.mem_cons_of_mem _ (List.mem_cons_of_mem _ hv))))
  obtain ⟨w1, w2, w3, w4, w5⟩ := lm_mm_words
  cases mx
  · exact va_mmin hx hb (by rw [← hnl]; exact hl1.1.symm) hown (V.1 _ (lm_in hw rfl) args) (V.1 _ (List.mem_filter.mpr ⟨w2, rfl⟩) args) (V.1 _ (List.mem_filter.mpr ⟨w3, rfl⟩) args) (V.1 _ (List.mem_filter.mpr ⟨w5, rfl⟩) args) (by omega) (by rw [hsum]; omega) hr.2.2.1 hr.2.2.2 hd hK
  · exact va_mmax hx hb (by rw [← hnl]; exact hl1.1.symm) hown (V.1 _ (lm_in hw rfl) args) (V.1 _ (List.mem_filter.mpr ⟨w1, rfl⟩) args) (V.1 _ (List.mem_filter.mpr ⟨w3, rfl⟩) args) (V.1 _ (List.mem_filter.mpr ⟨w4, rfl⟩) args) (by omega) (by rw [hsum]; omega) hr.2.2.1 hr.2.2.2 hd hK
theorem lm_t_ivS (V : lm_V D cy s) (hx : p.tables.exec = Jvm.exec) {cc : ByteArray} (hb : c.code = cc) (hnl : ls.length = c.maxLocals) {c0 idx : Nat} (hown : s.vm.findClass (lm_own c0) = some m.cls) (hd : decode cc pc = .ok (.invokestatic idx, 3))
    (G : lm_G D cy B s ρ ls st h H locs sl) (hr : 4 ≤ R.frames ∧ 100 ≤ R.locals ∧ cells ≤ R.cells ∧ slots ≤ R.slots) {q} (hs : lm_iv ((lm_kM c0).lookup idx) 1 pc ls st h = some (.inl q)) (kk : lm_K p l e R s m args below meth c cells slots Q D cy B ρ h q) :
    W p l e R s m args below meth c H locs cells slots Q (F0 m pc sl (st.map (lm_vm ρ))) := by
  unfold lm_iv at hs
  split at hs
  · cases hs
  · rename_i kind g n z hlk
    have hok := lm_okc_all _ _ (lm_lookup_mem hlk)
    split at hs
    · split at hs
      · split at hs <;> cases hs
      · cases hs
    · split at hs
      · split at hs <;> cases hs
      · split at hs
        · split at hs
          · split at hs <;> cases hs
          · cases hs
        · split at hs
          · split at hs
            · split at hs
              · rename_i hc; exact absurd hc.1 (by decide)
              · cases hs
            · cases hs
          · split at hs
            · rename_i hk
              subst hk
              split at hs
              · split at hs
                · rename_i hc
                  obtain ⟨-, c1, c2, c3, c4, c5, c6, c7, c8, c9, c10⟩ := hc
                  cases hs
                  exact lm_t_arraycopy V hx hb hnl hown (of_decide_eq_true hok) hd G c1 (by omega) (by omega) c2 c3 c4 c5 c6 c7 c8 c9 c10 kk
                · split at hs
                  · rename_i hc
                    obtain ⟨-, c1, c2, c3, c4, c5, c6, c7, c8, c9, c10⟩ := hc
                    cases hs
                    exact lm_t_arraycopyi V hx hb hnl hown (of_decide_eq_true hok) hd G c1 (by omega) (by omega) c2 c3 c4 c5 c6 c7 c8 c9 c10 kk
                  · cases hs
              · cases hs
            · split at hs
              · rename_i hk
                subst hk
                split at hs
                · split at hs
                  · rename_i hc
                    obtain ⟨-, c1, c2, c3⟩ := hc
                    cases hs
                    exact lm_t_checkIndex V hx hb hnl hown (of_decide_eq_true hok) hd G c1 hr.1 hr.2.1 hr.2.2 c2 c3 kk
                  · cases hs
                · cases hs
              · split at hs
                · rename_i hk
                  subst hk
                  split at hs
                  · split at hs
                    · rename_i hc
                      cases hs
                      exact lm_t_mm V hx hb hnl hown hd true (of_decide_eq_true hok) G hc.2 hr kk
                    · cases hs
                  · cases hs
                · split at hs
                  · rename_i hk
                    subst hk
                    split at hs
                    · split at hs
                      · rename_i hc
                        cases hs
                        exact lm_t_mm V hx hb hnl hown hd false (of_decide_eq_true hok) G hc.2 hr kk
                      · cases hs
                    · cases hs
                  · cases hs
end LMM
