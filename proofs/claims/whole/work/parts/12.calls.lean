/-! calls: how the machine goes on behind one; the JDK's checkIndex -/
section LMC
variable {p : Program} {l : Launch} {e : Env} {R : Room} {s : State} {m : MethodId} {args : Array Value} {below : List Frame} {meth : Method} {c : Code} {H : Heap} {locs : List Loc} {cells slots : Nat} {Q : State → Prop}
variable {B pc mc ms : Nat} {sl : Array Slot} {rest st0 : List Value}
theorem lm_cgo {Qa : State → Outcome → State → Prop} (hr : va_Run p l e R s m args below meth c H locs cells slots mc ms (F0 m pc sl st0) rest Qa (fun q => B ≤ q)) (hS : va_S (fun q => B ≤ q) s.heap H locs) (hF : ∀ st₀ v t, st₀.heap = H → Qa st₀ (.returned v) t → va_F (fun q => B ≤ q) st₀ t)
    (kk : ∀ (v : Option Value) (st₀ t : State) (H1 : Heap) (locs1 : List Loc), st₀.heap = H → t.heap = H1 → s.WarmedH t.vm → Qa st₀ (.returned v) t → va_S (fun q => B ≤ q) s.heap H1 locs1 → W p l e R s m args below meth c H1 locs1 (cells + mc) (slots + ms) Q (F0 m (pc + 3) sl (v.toList ++ rest))) :
    W p l e R s m args below meth c H locs cells slots Q (F0 m pc sl st0) := by
  intro T hT X
  obtain ⟨v, st₀, t, T', L, h0, X', hL, e1, e2, hq, st⟩ := hr T hT X
  obtain ⟨hz, hk⟩ := hF st₀ v t h0 hq
  rw [h0] at hz hk
  obtain ⟨t2, a1, b1⟩ := kk v st₀ t T'.heap (locs ++ L) h0 e1.symm (by rw [← e2]; exact X'.warmed) hq
    ⟨Nat.le_trans hS.1 (by rw [e1]; exact hz), fun q h1 h2 => by rw [e1, hk q (Nat.lt_of_lt_of_le h1 hS.1) h2]; exact hS.2.1 q h1 h2, fun q hq => by
      rcases List.mem_append.mp hq with h | h
      · exact hS.2.2 q h
      · exact hL q h⟩ T' rfl X'
  exact ⟨t2, st t2 a1, b1⟩
end LMC
abbrev lm_c3 : ByteArray := prog_19_method_11_code
def lm_y3 : MethodName := ⟨"jdk/internal/util/Preconditions", "checkIndex", "(IILjava/util/function/BiFunction;)I"⟩
abbrev lm_c0 : ByteArray := prog_14_method_155_code
def lm_y0 : MethodName := ⟨"java/lang/String", "checkIndex", "(II)V"⟩
def lm_w0 : List Jvm.Cond := .code lm_y0 lm_c0 2 none :: ([.fieldLink "java/lang/String" 1053 "jdk/internal/util/Preconditions" "SIOOBE_FORMATTER" "Ljava/util/function/BiFunction;", .methodLink "java/lang/String" 1059 lm_y3, .static lm_y3, .initialized "jdk/internal/util/Preconditions", .code lm_y3 lm_c3 3 (some .int)])
theorem lm_d3_0 : decode lm_c3 0 = .ok (.iload_n 0, 1) := by decide +kernel
theorem lm_d3_1 : decode lm_c3 1 = .ok (.ifCond .lt 8, 3) := by decide +kernel
theorem lm_d3_4 : decode lm_c3 4 = .ok (.iload_n 0, 1) := by decide +kernel
theorem lm_d3_5 : decode lm_c3 5 = .ok (.iload_n 1, 1) := by decide +kernel
theorem lm_d3_6 : decode lm_c3 6 = .ok (.if_icmp .lt 10, 3) := by decide +kernel
theorem lm_d3_16 : decode lm_c3 16 = .ok (.iload_n 0, 1) := by decide +kernel
theorem lm_d3_17 : decode lm_c3 17 = .ok (.ireturn, 1) := by decide +kernel
theorem lm_d0_0 : decode lm_c0 0 = .ok (.iload_n 0, 1) := by decide +kernel
theorem lm_d0_1 : decode lm_c0 1 = .ok (.iload_n 1, 1) := by decide +kernel
theorem lm_d0_2 : decode lm_c0 2 = .ok (.getstatic 1053, 3) := by decide +kernel
theorem lm_d0_5 : decode lm_c0 5 = .ok (.invokestatic 1059, 3) := by decide +kernel
theorem lm_d0_8 : decode lm_c0 8 = .ok (.pop, 1) := by decide +kernel
theorem lm_d0_9 : decode lm_c0 9 = .ok (.return_, 1) := by decide +kernel
set_option maxRecDepth 20000 in
theorem lm_g0 : GoodIn lm_w0 (va_wsS "java/lang/String" 1059 lm_y3 [.code lm_y3 lm_c3 3 (some .int)]) := goodIn_p _ [5] rfl (by decide +kernel)
theorem lm_ck3 (l : Launch) (B : Nat) (i n : Int32) (z : Value) (hz : z.category = 1) (h1 : ¬ i < 0) (h2 : i < n) :
    Met l lm_y3 [.code lm_y3 lm_c3 3 (some .int)] ({ frames := 0, cells := 0, slots := 0, locals := 0 }) (fun v _ => v = ([.int i, .int n, z] : List Value).toArray) (fun _ st o t => o = .returned (some (.int i)) ∧ t.heap = st.heap) 0 0 (fun q => B ≤ q) := by
  refine Met.ofW (cc := lm_c3) (maxL := 3) (ret := some .int) (by decide) rfl ?_
  intro p e s m args below meth c s₁ Bd hml hv
  subst hv
  have hx := Bd.exec
  have hb := Bd.bytes
  have hr := Bd.returns
  have hlocks := Bd.notSynchronized
  have hl := lv_entry ([.int i, .int n, z]) (n := 3) (by simp only [lg_sl, List.flatMap_cons, List.flatMap_nil, hz, if_neg (show ¬ (1 = 2) by decide), List.length_append, List.length_cons, List.length_nil]; exact Nat.le_refl 3)
  rw [lg_entry_eq]
  generalize (lg_sl ([.int i, .int n, z]) ++ List.replicate (3 - (lg_sl ([.int i, .int n, z])).length) Slot.unset).toArray = ls at hl ⊢
  have hl : lv_has ls 3 [(0, .int i), (1, .int n), (2, z)] := hl
  refine lv_iload_n hx hb lm_d3_0 rfl (lv_at hl 0 rfl) ?_
  refine lv_if_lt (tgt := 9) hx hb lm_d3_1 (by decide) (fun q => absurd q h1) (fun _ => ?_)
  refine lv_iload_n hx hb lm_d3_4 rfl (lv_at hl 0 rfl) ?_
  refine lv_iload_n hx hb lm_d3_5 rfl (lv_at hl 1 rfl) ?_
  refine lv_icmp_lt (tgt := 16) hx hb lm_d3_6 (by decide) (fun _ => ?_) (fun q => absurd h2 q)
  refine lv_iload_n hx hb lm_d3_16 rfl (lv_at hl 0 rfl) ?_
  exact W.iret hx hb hr (fun t ht hW => ⟨rfl, by rw [ht]⟩) (fun q hq => by cases hq) lm_d3_17
theorem lm_ck0 (l : Launch) (B : Nat) (i n : Int32) (h1 : ¬ i < 0) (h2 : i < n) :
    Met l lm_y0 lm_w0 ({ frames := 1, cells := 0, slots := 0, locals := 30 }) (fun v U => v = ([.int i, .int n] : List Value).toArray ∧ va_Zq "jdk/internal/util/Preconditions" "SIOOBE_FORMATTER" "Ljava/util/function/BiFunction;" (fun q => B ≤ q) U U.heap) (fun _ st o t => o = .returned none ∧ t.heap = st.heap) 0 0 (fun q => B ≤ q) := by
  refine Met.ofW (cc := lm_c0) (maxL := 2) (ret := none) (by decide) rfl ?_
  intro p e s m args below meth c s₁ Bd hml hv
  obtain ⟨rfl, hzq⟩ := hv
  have hx := Bd.exec
  have hb := Bd.bytes
  have hr := Bd.returns
  have hlocks := Bd.notSynchronized
  have hts := atoms_spec (ws := lm_w0) Bd.pre
  have hown : s.vm.findClass "java/lang/String" = some m.cls := findClass_of_methodNamed Bd.named
  have hl := lv_entry ([.int i, .int n]) (n := 2) (Nat.le_of_ble_eq_true rfl)
  rw [lg_entry_eq]
  generalize (lg_sl ([.int i, .int n]) ++ List.replicate (2 - (lg_sl ([.int i, .int n])).length) Slot.unset).toArray = ls at hl ⊢
  have hl : lv_has ls 2 [(0, .int i), (1, .int n)] := hl
  have hS : va_S (fun q => B ≤ q) s.heap s.heap [] := va_S.rf
  obtain ⟨z, hz, hZ⟩ : ∃ z : Value, z.category = 1 ∧ va_Z "jdk/internal/util/Preconditions" "SIOOBE_FORMATTER" "Ljava/util/function/BiFunction;" z (fun q => B ≤ q) s s.heap := by
    rcases hzq with q | ⟨t, q⟩
    · exact ⟨.null, rfl, q⟩
    · exact ⟨.ref t, rfl, q⟩
  refine lv_iload_n hx hb lm_d0_0 rfl (lv_at hl 0 rfl) ?_
  refine lv_iload_n hx hb lm_d0_1 rfl (lv_at hl 1 rfl) ?_
  refine va_gets hx hb hZ hS hown (hts (.fieldLink "java/lang/String" 1053 "jdk/internal/util/Preconditions" "SIOOBE_FORMATTER" "Ljava/util/function/BiFunction;") (by decide +kernel)) (fun _ h => h) lm_d0_2 ?_
  refine lm_cgo (va_runS (As := [.int i, .int n, z]) (rest := []) ⟨hx, hb, hml, hown, hts⟩ (lm_ck3 l B i n z hz h1 h2) (va_cwS 3 hts lm_g0 rfl rfl rfl (by decide +kernel) ⟨by decide, by decide⟩) ⟨fun a U g mk q => q, fun U hU hW => rfl⟩ rfl rfl hl.1 rfl (lv_room (by decide)) lm_d0_5 ⟨Nat.le_refl _, Nat.le_refl _⟩) hS (fun st₀ v t h0 hq => ⟨by rw [hq.2]; exact Nat.le_refl _, fun q _ _ => by rw [hq.2]⟩) (fun v st₀ t H1 locs1 h0 ht hW hq hS1 => ?_)
  obtain ⟨hv, hh⟩ := hq
  cases hv
  refine lv_pop hx hb lm_d0_8 rfl ?_
  exact W.vret hx hb hr (fun t2 ht2 hW2 => ⟨rfl, by rw [ht2, ← ht, hh, h0]⟩) hS1.2.2 lm_d0_9
set_option maxRecDepth 100000 in
theorem lm_obj_words : Cond.instanceMethod objectInit ∈ lw_tbl ∧ Cond.code objectInit ⟨#[0xb1]⟩ 1 none ∈ lw_tbl := by decide +kernel
set_option maxRecDepth 100000 in
theorem lm_cpy_words : Cond.native arraycopyName ∈ lw_tbl ∧ Cond.static arraycopyName ∈ lw_tbl ∧ Cond.initialized "java/lang/System" ∈ lw_tbl := by decide +kernel
set_option maxRecDepth 100000 in
theorem lm_ck_words : (∀ w ∈ lm_w0, w ∈ lw_tbl) ∧ Cond.static lm_y0 ∈ lw_tbl ∧ Cond.initialized "java/lang/String" ∈ lw_tbl := by decide +kernel
set_option maxRecDepth 100000 in
theorem lm_mm_words : Cond.static Lib.Math.max.name ∈ lw_tbl ∧ Cond.static Lib.Math.min.name ∈ lw_tbl ∧ Cond.initialized "java/lang/Math" ∈ lw_tbl ∧ Cond.code Lib.Math.max.name Lib.Math.max.code 2 (some .int) ∈ lw_tbl ∧ Cond.code Lib.Math.min.name Lib.Math.min.code 2 (some .int) ∈ lw_tbl := by decide +kernel
