/-! a method's contract out of LM's run of it; a call; the induction -/
def lm_Pc (D : va_G) (cy : Nat → ClassId) (B : Nat) (ρ : Nat → Nat) (as : List Value) (h : lm_H) : Array Value → State → Prop := fun v U => v = (as.map (lm_vm ρ)).toArray ∧ lm_V D cy U ∧ lm_Wd D cy B ρ h U.heap ∧ lm_HV h ∧ lm_Old B ρ h U U.heap ∧ B ≤ U.heap.size ∧ ∀ v ∈ as, lm_ok h v
def lm_Qc (D : va_G) (cy : Nat → ClassId) (B : Nat) (ρ : Nat → Nat) (h : lm_H) (r : Option Value × lm_H) : Array Value → State → Outcome → State → Prop := fun _ st o t =>
  (∃ ρ', lm_ag h ρ ρ' ∧ o = .returned (r.1.map (lm_vm ρ')) ∧ lm_Wd D cy B ρ' r.2 t.heap ∧ lm_HV r.2 ∧ ∀ v, r.1 = some v → lm_ok r.2 v) ∧ va_F (fun q => B ≤ q) st t
theorem lm_Pc_blind (D : va_G) (cy : Nat → ClassId) (B : Nat) (ρ : Nat → Nat) (as : List Value) (h : lm_H) : FrameBlind (lm_Pc D cy B ρ as h) := by
  intro a U g mk hq
  obtain ⟨h1, h2, h3, h4, h5, h6, h7⟩ := hq
  have hW : U.WarmedH (U.calling g mk a).vm := State.WarmedH.refl U
  exact ⟨h1, lm_V.warm hW h2, h3, h4, lm_Old.moved hW (fun _ _ _ => rfl) h5, h6, h7⟩
/-- what LM computes in n steps, the machine does -/
def lm_AD (D : va_G) (cy : Nat → ClassId) (B n : Nat) : Prop := ∀ (d f pc : Nat) (ls st : List Value) (h : lm_H) (r : Option Value × lm_H), lm_ex n d f pc ls st h = some r → f < lm_mt.length →
  ∀ (p : Program) (l : Launch) (e : Env) (R : Room) (s : State) (m : MethodId) (args : Array Value) (below : List Frame) (meth : Method) (c : Code) (H : Heap) (locs : List Loc) (cells slots : Nat) (Q : State → Prop) (ρ : Nat → Nat) (sl : Array Slot),
  lm_Cx f p s m meth c → lm_V D cy s → B ≤ s.heap.size → lm_G D cy B s ρ ls st h H locs sl → ls.length = (lm_m f).2.2.2.1 → (d + 4 ≤ R.frames ∧ 100 * (d + 2) ≤ R.locals ∧ cells + lm_nc r.2 ≤ R.cells + lm_nc h ∧ slots + lm_ns r.2 ≤ R.slots + lm_ns h) →
  (∀ (pc' : Nat) (ls' st' : List Value) (ρ' : Nat → Nat) (H' : Heap) (locs' : List Loc) (sl' : Array Slot) (cells' slots' : Nat), lm_st f pc' ls' st' r.2 = some (.inr (.inl r)) → lm_ag h ρ ρ' → lm_G D cy B s ρ' ls' st' r.2 H' locs' sl' → cells' + lm_nc h = cells + lm_nc r.2 → slots' + lm_ns h = slots + lm_ns r.2 →
    W p l e R s m args below meth c H' locs' cells' slots' Q (F0 m pc' sl' (st'.map (lm_vm ρ')))) →
  W p l e R s m args below meth c H locs cells slots Q (F0 m pc sl (st.map (lm_vm ρ)))
theorem lm_m_drop {f : Nat} (h0 : 0 < f) (h : f < lm_mt.length) : lm_m f ∈ lm_mt.drop 1 := by
  apply List.mem_of_getElem? (i := f - 1)
  rw [List.getElem?_drop, show 1 + (f - 1) = f by omega]
  unfold lm_m
  rw [List.getD_eq_getElem?_getD, List.getElem?_eq_getElem h]
  rfl
section LMA
variable {p : Program} {l : Launch} {e : Env} {R : Room} {s : State} {m : MethodId} {args : Array Value} {below : List Frame} {meth : Method} {c : Code} {H : Heap} {locs : List Loc} {cells slots : Nat} {Q : State → Prop}
variable {D : va_G} {cy : Nat → ClassId} {B n : Nat} {ρ ρ' : Nat → Nat} {f pc : Nat} {ls st : List Value} {h : lm_H} {sl : Array Slot}
/-- a method's return -/
theorem lm_end (Cx : lm_Cx f p s m meth c) (hf : f < lm_mt.length) {r : Option Value × lm_H} (hst : lm_st f pc ls st r.2 = some (.inr (.inl r))) (hag : lm_ag h ρ ρ') (G : lm_G D cy B s ρ' ls st r.2 H locs sl) :
    W p l e R s m args below meth c H locs cells slots (MQ below (lm_Qc D cy B ρ h r) args s cells slots (fun q => B ≤ q)) (F0 m pc sl (st.map (lm_vm ρ'))) := by
  obtain ⟨hx, hb, hml, hown, hret, hlocks, hname⟩ := Cx
  have hS := G.2.2.2.1
  unfold lm_st at hst
  split at hst
  · rename_i i len hlk
    have hmem := lm_lookup_mem hlk
    have hd := lm_decs _ (lm_m_mem hf) _ hmem
    have hln := lm_lens _ (lm_m_mem hf) _ hmem
    dsimp only at hd
    have hq : ∀ v : Option Value, r.1 = v → (∀ w, v = some w → lm_ok r.2 w) → ∀ t : State, t.heap = H → s.WarmedH t.vm → lm_Qc D cy B ρ h r args s (.returned (v.map (lm_vm ρ'))) t := fun v hv hok t ht hW =>
      ⟨⟨ρ', hag, by rw [hv], by rw [ht]; exact G.1, G.2.1, by rw [hv]; exact hok⟩, hS.F ht⟩
    have hvst := G.2.2.2.2.2.2
    rcases (lm_i_ret hst).2 with rfl | rfl | rfl | rfl
    · obtain rfl : len = 1 := eq_of_beq hln
      simp only [lm_i] at hst
      split at hst
      · rename_i x
        split at hst
        · rename_i hrt
          have e1 : r.1 = some (.int x) := (congrArg Prod.fst (Sum.inl.inj (Sum.inr.inj (Option.some.inj hst)))).symm
          exact W.iret hx hb (hret.trans hrt) (hq _ e1 (fun w hw => by cases hw; exact lm_ok_int _ _)) hS.2.2 hd
        · rename_i ty hne hrt
          split at hst
          · rename_i hn
            have e1 : r.1 = some (.int x) := (congrArg Prod.fst (Sum.inl.inj (Sum.inr.inj (Option.some.inj hst)))).symm
            exact W.zret hx hb (hret.trans hrt) hn (hq _ e1 (fun w hw => by cases hw; exact lm_ok_int _ _)) hS.2.2 hd
          · cases hst
        · cases hst
      · cases hst
    · obtain rfl : len = 1 := eq_of_beq hln
      simp only [lm_i] at hst
      split at hst
      · rename_i x
        split at hst
        · rename_i hrt
          have e1 : r.1 = some (.long x) := (congrArg Prod.fst (Sum.inl.inj (Sum.inr.inj (Option.some.inj hst)))).symm
          exact W.lret hx hb (hret.trans hrt) (hq _ e1 (fun w hw => by cases hw; exact lm_ok_long _ _)) hS.2.2 hd
        · cases hst
      · cases hst
    · obtain rfl : len = 1 := eq_of_beq hln
      simp only [lm_i] at hst
      split at hst
      · rename_i x
        split at hst
        · rename_i hrt
          have e1 : r.1 = some (.ref x) := (congrArg Prod.fst (Sum.inl.inj (Sum.inr.inj (Option.some.inj hst)))).symm
          exact W.aret (v := .ref (ρ' x)) hx hb (hret.trans hrt) (Or.inl ⟨_, rfl⟩) (Or.inr ⟨_, rfl⟩) (hq _ e1 (fun w hw => by cases hw; exact hvst _ List.mem_cons_self)) hS.2.2 hd
        · cases hst
      · cases hst
    · obtain rfl : len = 1 := eq_of_beq hln
      simp only [lm_i] at hst
      split at hst
      · split at hst
        · rename_i hrt
          have e1 : r.1 = none := (congrArg Prod.fst (Sum.inl.inj (Sum.inr.inj (Option.some.inj hst)))).symm
          exact W.vret hx hb (hret.trans hrt) (hq _ e1 (fun w hw => by cases hw)) hS.2.2 hd
        · cases hst
      · cases hst
  · cases hst
theorem lm_met (ad : lm_AD D cy B n) (l : Launch) {d g : Nat} {as : List Value} {r : Option Value × lm_H} (hex : lm_ex n d g 0 (lm_ini (lm_m g).2.2.2.1 as) [] h = some r) (hg : g < lm_mt.length) (hg0 : 0 < g) (hlen : (lm_exp as).length ≤ (lm_m g).2.2.2.1) (ρ : Nat → Nat) :
    Met l (lm_m g).2.1 [Cond.code (lm_m g).2.1 (lm_m g).2.2.1 (lm_m g).2.2.2.1 (lm_m g).2.2.2.2.1] ({ frames := d + 4, cells := lm_nc r.2 - lm_nc h, slots := lm_ns r.2 - lm_ns h, locals := 100 * (d + 2) }) (lm_Pc D cy B ρ as h) (lm_Qc D cy B ρ h r) (lm_nc r.2 - lm_nc h) (lm_ns r.2 - lm_ns h) (fun q => B ≤ q) := by
  have hm := lm_mt_ok _ (lm_m_drop hg0 hg)
  refine Met.ofW (cc := (lm_m g).2.2.1) (maxL := (lm_m g).2.2.2.1) (ret := (lm_m g).2.2.2.2.1) hm.2.1 rfl ?_
  intro p e s m args below meth c s₁ Bd hml hv
  obtain ⟨rfl, h2, h3, h4, h5, h6, h7⟩ := hv
  have hle := lm_ex_le _ _ _ _ _ _ _ _ hex
  have hnc := hle.2.2.1
  have hns := hle.2.2.2
  rw [lg_entry_eq]
  have Cx : lm_Cx g p s m meth c := ⟨Bd.exec, Bd.bytes, hml, by rw [hm.2.2.2.2]; exact findClass_of_methodNamed Bd.named, Bd.returns, Bd.notSynchronized, fun _ => (name_of_methodNamed Bd.named Bd.method).1⟩
  refine ad d g 0 _ [] h r hex hg p l e _ s m _ below meth c s.heap [] 0 0 _ ρ _ Cx h2 h6 ⟨h3, h4, h5, va_S.rf, lm_L_ini ρ hlen, lm_ok_ini h7, fun v hv => by cases hv⟩ (lm_ini_len hlen) ⟨Nat.le_refl _, Nat.le_refl _, by show 0 + lm_nc r.2 ≤ lm_nc r.2 - lm_nc h + lm_nc h; omega, by show 0 + lm_ns r.2 ≤ lm_ns r.2 - lm_ns h + lm_ns h; omega⟩ ?_
  intro pc' ls' st' ρ' H' locs' sl' cells' slots' hst hag G hc hs
  obtain rfl : cells' = lm_nc r.2 - lm_nc h := by omega
  obtain rfl : slots' = lm_ns r.2 - lm_ns h := by omega
  exact lm_end Cx hg hst hag G
theorem lm_cis_str : ∀ x ∈ lm_mt, lm_cis.getD x.1 99 < 8 ∨ lm_cis.getD x.1 99 = 99 ∨ (lm_cis.getD x.1 99 = 30 ∧ lm_own x.1 = "java/lang/String") := by decide +kernel
theorem lm_recv (V : lm_V D cy s) (G : lm_G D cy B s ρ ls st h H locs sl) {g a : Nat} (hg : g < lm_mt.length) (hk : lm_kd h a = 10 + lm_cis.getD (lm_m g).1 99) : ∃ cellB : Cell, H[ρ a]? = some cellB ∧ cellB.vm.isStatics = false ∧ s.vm.findClass (lm_own (lm_m g).1) = some cellB.cls := by
  have hm := lm_m_mem hg
  have hc0 := (lm_cls_lt _ hm).1
  have hk0 : lm_kd h a ≠ 0 := by omega
  generalize hci : lm_cis.getD (lm_m g).1 99 = ci at hk
  rcases lm_cis_str _ hm with z | z | z
  · rw [hci] at z
    have ha := lm_new64 G.2.1 z hk
    obtain ⟨ws, kq, hP, hD, he, -⟩ := lm_Wd_at G.1 ha hk0
    rw [lm_E_obj hk] at he
    have hown : (lm_cl ci).1 = lm_own (lm_m g).1 := by rw [← hci]; exact lm_cis_own _ hc0 (by rw [hci]; exact z)
    have hcl := lm_cl_get z
    rw [hown] at hcl
    exact va_recv V.2.1 hP (ci := ci) (q0 := kq) hcl he
  · rw [hci] at z
    rcases Nat.lt_or_ge a 64 with q | q
    · rcases G.2.1.2.2 a q with y | y | y | y <;> omega
    · rcases G.2.1.2.1 a q hk0 with y | y | y | y | y | y <;> omega
  · rw [hci] at z
    have ha : a < 64 := by
      rcases Nat.lt_or_ge a 64 with q | q
      · exact q
      · rcases G.2.1.2.1 a q hk0 with y | y | y | y | y | y <;> omega
    obtain ⟨cell, h1, h2, h3, -⟩ := (G.2.2.1.2.2.1 a ha (by omega)).1.kept G.2.2.2.1.2.1
    exact ⟨cell, h1, h2, by rw [z.2]; exact h3⟩
/-- a call: the machine goes on behind it from LM's state behind it -/
theorem lm_call (ad : lm_AD D cy B n) (Cx : lm_Cx f p s m meth c) (V : lm_V D cy s) (hB : B ≤ s.heap.size) (G : lm_G D cy B s ρ ls st h H locs sl) (hnl : ls.length = (lm_m f).2.2.2.1) {d idx op len : Nat} {i : Instr}
    (hop : (i = .invokevirtual idx ∧ op = 0) ∨ (i = .invokestatic idx ∧ op = 1) ∨ (i = .invokespecial idx ∧ op = 2)) (hd : decode (lm_m f).2.2.1 pc = .ok (i, len)) (hln : lm_lok (pc, i, len) = true)
    {q : Nat × List Value × Nat × List Value × lm_H} (hs : lm_iv ((lm_kM (lm_m f).1).lookup idx) op pc ls st h = some (.inr (.inr q))) {r : Option Value × lm_H} (hlen : (lm_exp q.2.1).length ≤ (lm_m q.1).2.2.2.1) (hex : lm_ex n d q.1 0 (lm_ini (lm_m q.1).2.2.2.1 q.2.1) [] h = some r)
    (hr : d + 1 + 4 ≤ R.frames ∧ 100 * (d + 1 + 2) ≤ R.locals ∧ cells + lm_nc r.2 ≤ R.cells + lm_nc h ∧ slots + lm_ns r.2 ≤ R.slots + lm_ns h)
    (kk : ∀ (ρ' : Nat → Nat) (H' : Heap) (locs' : List Loc), lm_ag h ρ ρ' → lm_G D cy B s ρ' ls (r.1.toList ++ q.2.2.2.1) r.2 H' locs' sl → W p l e R s m args below meth c H' locs' (cells + (lm_nc r.2 - lm_nc h)) (slots + (lm_ns r.2 - lm_ns h)) Q (F0 m (pc + 3) sl ((r.1.toList ++ q.2.2.2.1).map (lm_vm ρ')))) :
    W p l e R s m args below meth c H locs cells slots Q (F0 m pc sl (st.map (lm_vm ρ))) := by
  obtain ⟨hx, hb, hml, hown, hret, hlocks, hname⟩ := Cx
  obtain ⟨kind, k, iw, hlk, hpc, hh, hkl, hsum, hcase⟩ := lm_iv_call hs
  have hmem := lm_lookup_mem hlk
  have hok := lm_okc_all _ _ hmem
  have hle := lm_ex_le _ _ _ _ _ _ _ _ hex
  have hnc := hle.2.2.1
  have hns := hle.2.2.2
  have hS := G.2.2.2.1
  have hvst := G.2.2.2.2.2.2
  obtain ⟨lv, hl1, -⟩ := G.2.2.2.2.1
  have hsz : sl.size = (lm_m f).2.2.2.1 := by rw [← hnl]; exact hl1.1
  have hsumr : ((q.2.2.2.1.map (lm_vm ρ)).map fun v => v.category).sum ≤ 8 := by
    have e : ((q.2.2.2.1.map (lm_vm ρ)).map fun v => v.category) = q.2.2.2.1.map Value.category := by
      rw [List.map_map]
      exact List.map_congr_left (fun v _ => lm_vm_cat ρ v)
    rw [e]
    exact hsum
  have hgk : 0 < q.1 ∧ q.1 < lm_mt.length ∧ (op = 0 → q.1 ∈ lm_virt) ∧ (op = 1 → q.1 ∈ lm_stat) ∧ (op = 2 → q.1 ∈ lm_inits) ∧ lm_np (lm_m q.1).2.1 k := by
    unfold lm_okc at hok
    dsimp only at hok
    rcases hcase with ⟨rfl, rfl, -⟩ | ⟨hk, rfl, -⟩ | ⟨hk, rfl, -⟩
    · simp only [Bool.and_eq_true, decide_eq_true_eq] at hok
      have hv : q.1 ∈ lm_virt := by simpa using hok.2
      exact ⟨(lm_virt_ok _ hv).2.2.1, (lm_virt_ok _ hv).2.2.2, fun _ => hv, (fun z => absurd z (by decide)), (fun z => absurd z (by decide)), hok.1.2⟩
    · rcases hk with rfl | rfl
      all_goals
        simp only [Bool.and_eq_true, decide_eq_true_eq] at hok
        have hv : q.1 ∈ lm_stat := by simpa using hok.2
        exact ⟨(lm_stat_ok _ hv).2.1, (lm_stat_ok _ hv).2.2, (fun z => absurd z (by decide)), fun _ => hv, (fun z => absurd z (by decide)), hok.1.2⟩
    · rcases hk with rfl | rfl
      all_goals
        simp only [Bool.and_eq_true, decide_eq_true_eq] at hok
        have hv : q.1 ∈ lm_inits := by simpa using hok.2
        exact ⟨(lm_inits_ok _ hv).2.2.2.1, (lm_inits_ok _ hv).2.2.2.2, (fun z => absurd z (by decide)), (fun z => absurd z (by decide)), fun _ => hv, hok.1.2⟩
  obtain ⟨hg0, hgl, hgv, hgs, hgi, hnp⟩ := hgk
  have hmo := lm_mt_ok _ (lm_m_drop hg0 hgl)
  have hcw := lm_cws _ (lm_m_drop hg0 hgl)
  have hmet := lm_met ad l hex hgl hg0 hlen ρ
  have hmaxL := (lm_cls_lt _ (lm_m_mem hgl)).2
  have hst_as : ∀ v ∈ q.2.1, lm_ok h v := by
    have key : ∀ v ∈ st.take k, lm_ok h v := fun v hv => hvst v (List.mem_of_mem_take hv)
    have key2 : ∀ v ∈ st.drop k, lm_ok h v := fun v hv => hvst v (List.mem_of_mem_drop hv)
    rcases hcase with ⟨-, -, a, e1, -, e2⟩ | ⟨-, -, e1, e2⟩ | ⟨-, -, a, e1, e2⟩
    · rw [e2]
      exact lm_ok_cons (key2 _ (by rw [e1]; exact List.mem_cons_self)) (fun v hv => key v (List.mem_reverse.mp hv))
    · rw [e2]
      exact fun v hv => key v (List.mem_reverse.mp hv)
    · rw [e2]
      exact lm_ok_cons (key2 _ (by rw [e1]; exact List.mem_cons_self)) (fun v hv => key v (List.mem_reverse.mp hv))
  have hrest : ∀ v ∈ q.2.2.2.1, lm_ok h v := by
    have key2 : ∀ v ∈ st.drop k, lm_ok h v := fun v hv => hvst v (List.mem_of_mem_drop hv)
    rcases hcase with ⟨-, -, a, e1, -⟩ | ⟨-, -, e1, -⟩ | ⟨-, -, a, e1, -⟩
    · exact fun v hv => key2 v (by rw [e1]; exact List.mem_cons_of_mem _ hv)
    · exact fun v hv => key2 v (by rw [e1]; exact hv)
    · exact fun v hv => key2 v (by rw [e1]; exact List.mem_cons_of_mem _ hv)
  have hpc' : ∀ U : State, U.heap = H → s.WarmedH U.vm → lm_Pc D cy B ρ q.2.1 h (q.2.1.map (lm_vm ρ)).toArray U := fun U hU hW =>
    ⟨rfl, lm_V.warm hW V, by rw [hU]; exact G.1, G.2.1, by rw [hU]; exact lm_Old.moved hW hS.2.1 G.2.2.1, by rw [hU]; exact Nat.le_trans hB hS.1, hst_as⟩
  have hcodeW : Cond.code (lm_m q.1).2.1 (lm_m q.1).2.2.1 (lm_m q.1).2.2.2.1 (lm_m q.1).2.2.2.2.1 ∈ lm_ts := List.mem_filter.mpr ⟨hcw, rfl⟩
  have hbase : (lm_nc r.2 - lm_nc h = lm_nc r.2 - lm_nc h) ∧ (lm_ns r.2 - lm_ns h = lm_ns r.2 - lm_ns h) ∧ d + 4 + 1 ≤ R.frames ∧ 8 + ((lm_m q.1).2.2.2.1 + 11) + 100 * (d + 2) ≤ R.locals ∧ (∀ w ∈ [Cond.code (lm_m q.1).2.1 (lm_m q.1).2.2.1 (lm_m q.1).2.2.2.1 (lm_m q.1).2.2.2.2.1], ∀ (a' : Array Value) (U : State), s.WarmedH U.vm → w.before a' U = true) ∧ Cond.code (lm_m q.1).2.1 (lm_m q.1).2.2.1 (lm_m q.1).2.2.2.1 (lm_m q.1).2.2.2.2.1 ∈ [Cond.code (lm_m q.1).2.1 (lm_m q.1).2.2.1 (lm_m q.1).2.2.2.1 (lm_m q.1).2.2.2.2.1] :=
    ⟨rfl, rfl, by omega, by omega, fun w hw a' U hW => by rw [List.mem_singleton.mp hw]; exact (lm_V.warm hW V).1 _ hcodeW a', List.mem_singleton.mpr rfl⟩
  have hcodeB := V.1 _ hcodeW args
  have hiniB := V.1 _ (lm_in hmo.1 rfl) args
  have hsig : ∀ sig, parseMethodDescriptor (lm_m q.1).2.1.desc = some sig → k = sig.parameters.length := fun sig hsg => by
    have h2 := hnp
    unfold lm_np at h2
    rw [hsg] at h2
    exact (Option.some.inj h2).symm
  have htl : (st.take k).reverse.length = k := by rw [List.length_reverse, List.length_take]; omega
  have hsplit : st.map (lm_vm ρ) = ((st.take k).reverse.map (lm_vm ρ)).reverse ++ (st.drop k).map (lm_vm ρ) := by
    rw [← List.map_reverse, List.reverse_reverse, ← List.map_append, List.take_append_drop]
  have hfit : cells + (lm_nc r.2 - lm_nc h) ≤ R.cells ∧ slots + (lm_ns r.2 - lm_ns h) ≤ R.slots := ⟨by omega, by omega⟩
  have hrun : va_Run p l e R s m args below meth c H locs cells slots (lm_nc r.2 - lm_nc h) (lm_ns r.2 - lm_ns h) (F0 m pc sl (st.map (lm_vm ρ))) (q.2.2.2.1.map (lm_vm ρ)) (lm_Qc D cy B ρ h r (q.2.1.map (lm_vm ρ)).toArray) (fun q => B ≤ q) := by
    unfold lm_okc at hok
    dsimp only at hok
    rcases hcase with ⟨rfl, rfl, a, e1, e2, e3⟩ | ⟨hk, rfl, e1, e2⟩ | ⟨hk, rfl, a, e1, e2⟩
    · simp only [Bool.and_eq_true, decide_eq_true_eq] at hok
      have hi : i = .invokevirtual idx := by rcases hop with z | z | z <;> first | exact z.1 | (exact absurd z.2 (by decide))
      subst hi
      obtain rfl : len = 3 := eq_of_beq hln
      obtain ⟨v1, v2, -⟩ := lm_virt_ok _ (hgv rfl)
      rw [e3] at hpc' hmet ⊢
      rw [e1] at hsplit
      have hcell : ∃ cellB : Cell, H[ρ a]? = some cellB ∧ cellB.vm.isStatics = false ∧ s.vm.findClass (lm_m q.1).2.1.cls = some cellB.cls := by
        rw [← hmo.2.2.2.2]
        exact lm_recv V G hgl e2
      have := va_runV (As := (st.take k).reverse.map (lm_vm ρ)) (rest := q.2.2.2.1.map (lm_vm ρ)) (g := F0 m pc sl (st.map (lm_vm ρ))) (e := e) (p := p) (below := below) (meth := meth) (locs := locs) (cells := cells) (slots := slots) ⟨hx, hb, hml, hown, fun w hw => V.1 w hw args⟩ hmet ⟨⟨hbase.1, hbase.2.1, hbase.2.2.1, hbase.2.2.2.1, hbase.2.2.2.2.1, hbase.2.2.2.2.2, hcodeB, hiniB, ⟨hmo.2.2.1, hmo.2.2.2.1⟩, hsig, V.1 _ (lm_in hok.1.1 rfl) args⟩, V.1 _ (lm_in v1 rfl) args, V.1 _ (lm_in v2 rfl) args⟩ ⟨lm_Pc_blind _ _ _ _ _ _, hcell, hpc'⟩ rfl (by rw [List.length_map]; exact htl) hsz hsplit (lv_room hsumr) hd hfit
      exact this
    · have hi : i = .invokestatic idx := by rcases hop with z | z | z <;> first | exact z.1 | (exact absurd z.2 (by decide))
      subst hi
      obtain rfl : len = 3 := eq_of_beq hln
      obtain ⟨v1, -⟩ := lm_stat_ok _ (hgs rfl)
      rw [e2] at hpc' hmet ⊢
      rw [e1] at hsplit
      rcases hk with rfl | rfl
      · simp only [Bool.and_eq_true, decide_eq_true_eq] at hok
        exact va_runS (As := (st.take k).reverse.map (lm_vm ρ)) (rest := q.2.2.2.1.map (lm_vm ρ)) ⟨hx, hb, hml, hown, fun w hw => V.1 w hw args⟩ hmet ⟨⟨hbase.1, hbase.2.1, hbase.2.2.1, hbase.2.2.2.1, hbase.2.2.2.2.1, hbase.2.2.2.2.2, hcodeB, hiniB, ⟨hmo.2.2.1, hmo.2.2.2.1⟩, hsig, V.1 _ (lm_in hok.1.1 rfl) args⟩, V.1 _ (lm_in v1 rfl) args⟩ ⟨lm_Pc_blind _ _ _ _ _ _, hpc'⟩ rfl (by rw [List.length_map]; exact htl) hsz hsplit (lv_room hsumr) hd hfit
      · simp only [Bool.and_eq_true, decide_eq_true_eq] at hok
        exact va_runSN (As := (st.take k).reverse.map (lm_vm ρ)) (rest := q.2.2.2.1.map (lm_vm ρ)) ⟨hx, hb, hml, hown, fun w hw => V.1 w hw args⟩ hmet ⟨⟨⟨hbase.1, hbase.2.1, hbase.2.2.1, hbase.2.2.2.1, hbase.2.2.2.2.1, hbase.2.2.2.2.2⟩, hcodeB, hiniB, ⟨hmo.2.2.1, hmo.2.2.2.1⟩, hsig, V.1 _ (lm_in hok.1.1 rfl) args⟩, V.1 _ (lm_in v1 rfl) args, trivial⟩ ⟨lm_Pc_blind _ _ _ _ _ _, hpc'⟩ rfl (by rw [List.length_map]; exact htl) hsz hsplit (lv_room hsumr) hd hfit
    · have hi : i = .invokespecial idx := by rcases hop with z | z | z <;> first | exact z.1 | (exact absurd z.2 (by decide))
      subst hi
      obtain rfl : len = 3 := eq_of_beq hln
      obtain ⟨v1, v2, v3, -⟩ := lm_inits_ok _ (hgi rfl)
      rw [e2] at hpc' hmet ⊢
      rw [e1] at hsplit
      rw [v3] at hbase hcodeB hmet
      rcases hk with rfl | rfl
      · simp only [Bool.and_eq_true, decide_eq_true_eq] at hok
        exact va_runI (As := (st.take k).reverse.map (lm_vm ρ)) (rest := q.2.2.2.1.map (lm_vm ρ)) ⟨hx, hb, hml, hown, fun w hw => V.1 w hw args⟩ hmet ⟨⟨hbase.1, hbase.2.1, hbase.2.2.1, hbase.2.2.2.1, hbase.2.2.2.2.1, hbase.2.2.2.2.2, hcodeB, hiniB, ⟨hmo.2.2.1, hmo.2.2.2.1⟩, hsig, V.1 _ (lm_in hok.1.1 rfl) args⟩, v2, V.1 _ (lm_in v1 rfl) args⟩ ⟨lm_Pc_blind _ _ _ _ _ _, hpc'⟩ rfl (by rw [List.length_map]; exact htl) hsz hsplit (lv_room hsumr) hd hfit
      · simp only [Bool.and_eq_true, decide_eq_true_eq] at hok
        exact va_runIN (As := (st.take k).reverse.map (lm_vm ρ)) (rest := q.2.2.2.1.map (lm_vm ρ)) ⟨hx, hb, hml, hown, fun w hw => V.1 w hw args⟩ hmet ⟨⟨⟨hbase.1, hbase.2.1, hbase.2.2.1, hbase.2.2.2.1, hbase.2.2.2.2.1, hbase.2.2.2.2.2⟩, hcodeB, hiniB, ⟨hmo.2.2.1, hmo.2.2.2.1⟩, hsig, V.1 _ (lm_in hok.1.1 rfl) args⟩, v2, V.1 _ (lm_in v1 rfl) args⟩ ⟨lm_Pc_blind _ _ _ _ _ _, hpc'⟩ rfl (by rw [List.length_map]; exact htl) hsz hsplit (lv_room hsumr) hd hfit
  refine lm_cgo hrun hS (fun st₀ v t h0 hq => hq.2) (fun v st₀ t H1 locs1 h0 ht hW hq hS1 => ?_)
  obtain ⟨⟨ρ', hag, hv, hWd, hHV, hokv⟩, -⟩ := hq
  rw [ht] at hWd
  have hv' : v = r.1.map (lm_vm ρ') := Outcome.returned.inj hv
  have hok2 : ∀ w, lm_ok h w → lm_ok r.2 w := fun w hw b hb => by rw [hle.1 b (hw b hb)]; exact hw b hb
  have hres : ∀ w ∈ r.1.toList ++ q.2.2.2.1, lm_ok r.2 w := fun w hw => by
    rcases List.mem_append.mp hw with z | z
    · exact hokv w (Option.mem_toList.mp z)
    · exact hok2 w (hrest w z)
  have hG' : lm_G D cy B s ρ' ls (r.1.toList ++ q.2.2.2.1) r.2 H1 locs1 sl :=
    ⟨hWd, hHV, lm_Old.cong G.2.1 hag (fun a ha => (hle.2.1 a ha).1) (fun a ha => (hle.2.1 a ha).2.1) (fun a ha => (hle.2.1 a ha).2.2.1) (fun a ha => (hle.2.1 a ha).2.2.2) G.2.2.1, hS1, lm_L_ag hag G.2.2.2.2.2.1 G.2.2.2.2.1, fun w hw => hok2 w (G.2.2.2.2.2.1 w hw), hres⟩
  have := kk ρ' H1 locs1 hag hG'
  rw [List.map_append, lm_map_ag hag hrest] at this
  rw [hv']
  have e9 : (r.1.map (lm_vm ρ')).toList = r.1.toList.map (lm_vm ρ') := by cases r.1 <;> rfl
  rw [e9]
  exact this
end LMA
/-- THE MAIN THEOREM OF LM -/
theorem lm_ad (D : va_G) (cy : Nat → ClassId) (B : Nat) : ∀ n, lm_AD D cy B n := by
  intro n
  induction n with
  | zero => intro d f pc ls st h r hr; cases hr
  | succ n ih =>
    intro d f pc ls st h r hr hf p l e R s m args below meth c H locs cells slots Q ρ sl Cx V hB G hnl hrm kk
    unfold lm_ex at hr
    split at hr
    · cases hr
    · rename_i q hq
      have hle1 := lm_st_le hq
      have hle2 := lm_ex_le _ _ _ _ _ _ _ _ hr
      have hq0 := hq
      unfold lm_st at hq
      split at hq
      · rename_i i len hlk
        have hmem : (pc, i, len) ∈ (lm_m f).2.2.2.2.2.1 := lm_lookup_mem hlk
        have hd : decode (lm_m f).2.2.1 pc = .ok (i, len) := lm_decs (lm_m f) (lm_m_mem hf) (pc, i, len) hmem
        have hln : lm_lok (pc, i, len) = true := lm_lens (lm_m f) (lm_m_mem hf) (pc, i, len) hmem
        have hls : q.2.1.length = ls.length := lm_st_len hq0
        have a1 := hle1.2.2.1
        have a2 := hle1.2.2.2
        have a3 := hle2.2.2.1
        have a4 := hle2.2.2.2
        refine lm_step Cx hf V hB G hnl hd hln hq ⟨by omega, by omega, by omega, by omega⟩ ?_
        intro ρ' H' locs' sl' cells' slots' hag G' hc hs
        refine ih d f _ _ _ _ r hr hf p l e R s m args below meth c H' locs' cells' slots' Q ρ' sl' Cx V hB G' (hls.trans hnl) ⟨hrm.1, hrm.2.1, by omega, by omega⟩ ?_
        intro pc2 ls2 st2 ρ2 H2 locs2 sl2 cells2 slots2 hst2 hag2 G2 hc2 hs2
        exact kk pc2 ls2 st2 ρ2 H2 locs2 sl2 cells2 slots2 hst2 (fun a ha => by rw [hag2 a (by rw [hle1.1 a ha]; exact ha), hag a ha]) G2 (by omega) (by omega)
      · cases hq
    · rename_i r' hq
      cases hr
      have he := lm_st_ret hq
      have hq2 : lm_st f pc ls st r.2 = some (.inr (.inl r)) := by rw [he]; exact hq
      have G2 : lm_G D cy B s ρ ls st r.2 H locs sl := by rw [he]; exact G
      exact kk pc ls st ρ H locs sl cells slots hq2 (lm_ag_rf h ρ) G2 (by rw [he]) (by rw [he])
    · rename_i q hq
      have heh := lm_st_call hq
      split at hr
      · cases hr
      · rename_i d' 
        split at hr
        · rename_i hlen
          split at hr
          · rename_i r1 h1
            have hle1 := lm_ex_le _ _ _ _ _ _ _ _ h1
            have hle2 := lm_ex_le _ _ _ _ _ _ _ _ hr
            rw [heh] at h1 hle1
            have a1 := hle1.2.2.1
            have a2 := hle1.2.2.2
            have a3 := hle2.2.2.1
            have a4 := hle2.2.2.2
            unfold lm_st at hq
            split at hq
            · rename_i i len hlk
              have hmem : (pc, i, len) ∈ (lm_m f).2.2.2.2.2.1 := lm_lookup_mem hlk
              have hd : decode (lm_m f).2.2.1 pc = .ok (i, len) := lm_decs (lm_m f) (lm_m_mem hf) (pc, i, len) hmem
              have hln : lm_lok (pc, i, len) = true := lm_lens (lm_m f) (lm_m_mem hf) (pc, i, len) hmem
              have hgo : ∀ (idx op : Nat), ((i = .invokevirtual idx ∧ op = 0) ∨ (i = .invokestatic idx ∧ op = 1) ∨ (i = .invokespecial idx ∧ op = 2)) → lm_iv ((lm_kM (lm_m f).1).lookup idx) op pc ls st h = some (.inr (.inr q)) → W p l e R s m args below meth c H locs cells slots Q (F0 m pc sl (st.map (lm_vm ρ))) := by
                intro idx op hop hs
                have hpc : q.2.2.1 = pc + 3 := by
                  obtain ⟨_, _, _, _, hp, _⟩ := lm_iv_call hs
                  exact hp
                refine lm_call ih Cx V hB G hnl hop hd hln hs hlen h1 ⟨by omega, by omega, by omega, by omega⟩ ?_
                intro ρ' H' locs' hag G'
                rw [hpc] at hr
                refine ih (d' + 1) f _ _ _ _ r hr hf p l e R s m args below meth c H' locs' _ _ Q ρ' sl Cx V hB G' hnl ⟨hrm.1, hrm.2.1, by omega, by omega⟩ ?_
                intro pc2 ls2 st2 ρ2 H2 locs2 sl2 cells2 slots2 hst2 hag2 G2 hc2 hs2
                exact kk pc2 ls2 st2 ρ2 H2 locs2 sl2 cells2 slots2 hst2 (fun a ha => by rw [hag2 a (by rw [hle1.1 a ha]; exact ha), hag a ha]) G2 (by omega) (by omega)
              rcases lm_i_call hq with ⟨idx, e1, hs⟩ | ⟨idx, e1, hs⟩ | ⟨idx, e1, hs⟩
              · exact hgo idx 0 (Or.inl ⟨e1, rfl⟩) hs
              · exact hgo idx 1 (Or.inr (Or.inl ⟨e1, rfl⟩)) hs
              · exact hgo idx 2 (Or.inr (Or.inr ⟨e1, rfl⟩)) hs
            · cases hq
          · cases hr
        · cases hr
