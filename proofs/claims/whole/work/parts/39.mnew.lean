set_option maxRecDepth 16384
/-! new cells; the reference's constructor -/
theorem w_nai (a n : Nat) {d f pc len : Nat} {ls r : List Value} {w : Int32} {P : Option Value → lm_H → Prop} {h : lm_H} (h1 : (lm_m f).2.2.2.2.2.1.lookup pc = some (.newarray .int, len)) (hx : h.2.2.2.2.2.1 = a) (hk : h.2.2.2.1 a = 0) (h64 : 64 ≤ a) (hw : w = nI n) (hn : n ≤ 100000) (k : lm_wp d f (pc + 2) ls (.ref a :: r) (lm_arr h a 1 n) P) : lm_wp d f pc ls (.int w :: r) h P := by
  subst hx hw
  refine w_nx ?_ k
  rw [lm_st_of h1]
  simp only [lm_i]
  rw [nI_nn (by omega)]
  exact if_pos ⟨hk, h64, nI_pos (by omega), hn, Or.inl trivial⟩
theorem w_nal (a n : Nat) {d f pc len : Nat} {ls r : List Value} {w : Int32} {P : Option Value → lm_H → Prop} {h : lm_H} (h1 : (lm_m f).2.2.2.2.2.1.lookup pc = some (.newarray .long, len)) (hx : h.2.2.2.2.2.1 = a) (hk : h.2.2.2.1 a = 0) (h64 : 64 ≤ a) (hw : w = nI n) (hn : n ≤ 100000) (k : lm_wp d f (pc + 2) ls (.ref a :: r) (lm_arr h a 2 n) P) : lm_wp d f pc ls (.int w :: r) h P := by
  subst hx hw
  refine w_nx ?_ k
  rw [lm_st_of h1]
  simp only [lm_i]
  rw [nI_nn (by omega)]
  exact if_pos ⟨hk, h64, nI_pos (by omega), hn, Or.inr trivial⟩
theorem w_nam (a n m kd ki ci : Nat) {d f pc len idx z1 z2 : Nat} {ls r : List Value} {w v : Int32} {P : Option Value → lm_H → Prop} {h : lm_H} (h1 : (lm_m f).2.2.2.2.2.1.lookup pc = some (.multianewarray idx 2, len)) (h2 : (lm_kC (lm_m f).1).lookup idx = some (ci, z1, z2)) (hc : (ci = 105 ∧ kd = 5 ∧ ki = 1) ∨ (ci = 106 ∧ kd = 6 ∧ ki = 2)) (hx : h.2.2.2.2.2.1 = a) (hk : ∀ j, j < n + 1 → h.2.2.2.1 (a + j) = 0) (h64 : 64 ≤ a) (hw : w = nI n) (hv : v = nI m) (hn : n ≤ 1000) (hm : m ≤ 1000) (k : lm_wp d f (pc + 4) ls (.ref a :: r) (lm_mul h a kd ki n m) P) : lm_wp d f pc ls (.int v :: .int w :: r) h P := by
  subst hx hw hv
  refine w_nx ?_ k
  rw [lm_st_of h1]
  simp only [lm_i, h2]
  rw [nI_nn (by omega), nI_nn (by omega)]
  have ha : (List.range (n + 1)).all (fun j => h.2.2.2.1 (h.2.2.2.2.2.1 + j) == 0) = true := by
    rw [List.all_eq_true]
    intro j hj
    rw [hk j (List.mem_range.mp hj)]
    rfl
  rcases hc with ⟨rfl, rfl, rfl⟩ | ⟨rfl, rfl, rfl⟩
  · exact if_pos ⟨trivial, Or.inl rfl, h64, nI_pos (by omega), nI_pos (by omega), hn, hm, ha⟩
  · exact if_pos ⟨trivial, Or.inr rfl, h64, nI_pos (by omega), nI_pos (by omega), hn, hm, ha⟩
theorem w_new (a : Nat) {d f pc len idx ci N z : Nat} {ls st : List Value} {P : Option Value → lm_H → Prop} {h : lm_H} (h1 : (lm_m f).2.2.2.2.2.1.lookup pc = some (.new idx, len)) (h2 : (lm_kC (lm_m f).1).lookup idx = some (ci, N, z)) (ha : (lm_at f pc).getD h.2.2.2.2.2.1 = a) (hk : h.2.2.2.1 a = 0) (h64 : 64 ≤ a) (hc : ci < 8) (k : lm_wp d f (pc + 3) ls (.ref a :: st) (lm_new h a ci N) P) : lm_wp d f pc ls st h P := by
  subst ha
  refine w_nx ?_ k
  rw [lm_st_of h1]
  simp only [lm_i, h2]
  exact if_pos ⟨hk, h64, hc⟩
/-- while it is built: the first k cells stand -/
def mRk (b k : Nat) (x : Option Nat) : Option Nat := match x with
  | some o => if o < k then some (b + o) else none
  | none => none
def CN (h0 h : lm_H) (b k : Nat) (sd : Int32) : Prop := (∀ a, (a < b ∨ b + k ≤ a) → h.1 a = h0.1 a ∧ h.2.1 a = h0.2.1 a ∧ h.2.2.1 a = h0.2.2.1 a ∧ h.2.2.2.1 a = h0.2.2.2.1 a ∧ h.2.2.2.2.1 a = h0.2.2.2.2.1 a) ∧ h.2.2.2.1 b = 17 ∧ (∀ o, 0 < o ∧ o < k → h.2.2.2.1 (b + o) = mKds.getD o 0 ∧ h.2.2.2.2.1 (b + o) = mLns.getD o 0 ∧ (∀ j, h.1 (b + o) j = 0) ∧ (∀ j, h.2.1 (b + o) j = 0)) ∧ (∀ f, h.2.2.1 b f = mRk b k (mRf.getD f none)) ∧ (4 < k → ∀ i, i < 8 → h.2.2.1 (b + 4) i = some (b + (5 + i))) ∧ (18 < k → ∀ i, i < 10 → h.2.2.1 (b + 18) i = some (b + (19 + i))) ∧ (30 < k → ∀ i, i < 2 → h.2.2.1 (b + 30) i = some (b + (31 + i))) ∧ (36 < k → ∀ i, i < 5 → h.2.2.1 (b + 36) i = some (b + (37 + i))) ∧ (43 < k → ∀ i, i < 5 → h.2.2.1 (b + 43) i = some (b + (44 + i))) ∧ (∀ j, j ≠ 21 → h.1 b j = 0) ∧ h.1 b 21 = sd ∧ h.2.2.2.2.2.1 = b + k ∧ h.2.2.2.2.2.2.1 = h0.2.2.2.2.2.2.1 + k ∧ h.2.2.2.2.2.2.2 = h0.2.2.2.2.2.2.2 + (36 + (mLns.take k).sum)
theorem cn_new {h0 : lm_H} {b : Nat} (hb : True) : CN h0 (lm_new h0 b 7 36) b 1 0 := by
  unfold CN lm_new
  refine ⟨fun a ha => ⟨lm_rw_na (by omega), rfl, lm_rw_na (by omega), ?_, rfl⟩, ?_, fun o ho => by omega, fun f => ?_, fun z => by omega, fun z => by omega, fun z => by omega, fun z => by omega, fun z => by omega, fun j _ => ?_, ?_, rfl, rfl, rfl⟩
  · simp [lm_u1]; omega
  · simp [lm_u1]
  · simp only [lm_rw_eq]
    have e : ∀ f, f < 36 → ∀ o, mRf.getD f none = some o → ¬ o < 1 := by decide
    cases hf : mRf.getD f none with
    | none => rfl
    | some o =>
      have hf36 : f < 36 := by
        by_cases z : f < 36
        · exact z
        · rw [List.getD_eq_getElem?_getD, List.getElem?_eq_none (show mRf.length ≤ f from by show 36 ≤ f; omega)] at hf
          cases hf
      show none = if o < 1 then some (b + o) else none
      rw [if_neg (e f hf36 o hf)]
  · simp [lm_rw_eq]
  · simp [lm_rw_eq]
theorem mRf_lt {f o : Nat} (hf : mRf.getD f none = some o) : f < 36 := by
  by_cases z : f < 36
  · exact z
  · rw [List.getD_eq_getElem?_getD, List.getElem?_eq_none (show mRf.length ≤ f from by show 36 ≤ f; omega)] at hf
    cases hf
/-- one array more -/
def cnA (h : lm_H) (b k kd n f : Nat) : lm_H := ((lm_arr h (b + k) kd n).1, (lm_arr h (b + k) kd n).2.1, lm_up (lm_arr h (b + k) kd n).2.2.1 b f (some (b + k)), (lm_arr h (b + k) kd n).2.2.2)
theorem cn_a {h0 h : lm_H} {b k kd n f : Nat} {sd : Int32} (C : CN h0 h b k sd) (hk : 0 < k ∧ k < 49 ∧ k ≠ 4 ∧ k ≠ 18 ∧ k ≠ 30 ∧ k ≠ 36 ∧ k ≠ 43) (e1 : mKds.getD k 0 = kd) (e2 : mLns.getD k 0 = n) (e3 : mRf.getD f none = some k) (e4 : ∀ f', f' < 36 → mRf.getD f' none = some k → f' = f) (e5 : (mLns.take (k + 1)).sum = (mLns.take k).sum + n) : CN h0 (cnA h b k kd n f) b (k + 1) sd := by
  obtain ⟨c1, c2, c3, c4, c5, c6, c7, c8, c9, c10, c11, c12, c13, c14⟩ := C
  unfold CN cnA lm_arr
  refine ⟨fun a ha => ?_, ?_, fun o ho => ?_, fun f' => ?_, fun z i hi => ?_, fun z i hi => ?_, fun z i hi => ?_, fun z i hi => ?_, fun z i hi => ?_, fun j hj => ?_, ?_, ?_, ?_, ?_⟩
  · obtain ⟨q1, q2, q3, q4, q5⟩ := c1 a (by omega)
    refine ⟨(lm_rw_na (by omega)).trans q1, (lm_rw_na (by omega)).trans q2, ?_, ?_, ?_⟩
    · show lm_up (lm_row h.2.2.1 (b + k) fun _ => none) b f (some (b + k)) a = _
      rw [lm_up_rw (by omega), lm_rw_na (by omega)]; exact q3
    · show lm_u1 _ _ _ _ = _
      unfold lm_u1
      rw [if_neg (by omega)]; exact q4
    · show lm_u1 _ _ _ _ = _
      unfold lm_u1
      rw [if_neg (by omega)]; exact q5
  · show lm_u1 _ _ _ _ = _
    unfold lm_u1
    rw [if_neg (by omega)]; exact c2
  · by_cases hok : o = k
    · subst hok
      refine ⟨?_, ?_, fun j => ?_, fun j => ?_⟩
      · show lm_u1 _ _ _ _ = _
        unfold lm_u1
        rw [if_pos rfl, e1]
      · show lm_u1 _ _ _ _ = _
        unfold lm_u1
        rw [if_pos rfl, e2]
      · show lm_row _ _ _ _ _ = _
        rw [lm_rw_eq]
      · show lm_row _ _ _ _ _ = _
        rw [lm_rw_eq]
    · obtain ⟨q1, q2, q3, q4⟩ := c3 o (by omega)
      refine ⟨?_, ?_, fun j => ?_, fun j => ?_⟩
      · show lm_u1 _ _ _ _ = _
        unfold lm_u1
        rw [if_neg (by omega)]; exact q1
      · show lm_u1 _ _ _ _ = _
        unfold lm_u1
        rw [if_neg (by omega)]; exact q2
      · show lm_row _ _ _ _ _ = _
        rw [lm_rw_na (by omega)]; exact q3 j
      · show lm_row _ _ _ _ _ = _
        rw [lm_rw_na (by omega)]; exact q4 j
  · show lm_up (lm_row h.2.2.1 (b + k) fun _ => none) b f (some (b + k)) b f' = _
    by_cases hf : f' = f
    · subst hf
      rw [lm_up_eq, e3]
      show _ = if k < k + 1 then some (b + k) else none
      rw [if_pos (by omega)]
    · rw [lm_up_nk hf, lm_rw_na (by omega), c4 f']
      cases hm : mRf.getD f' none with
      | none => rfl
      | some o =>
        have hne : o ≠ k := fun z => hf (e4 f' (mRf_lt hm) (by rw [hm, z]))
        show (if o < k then some (b + o) else none) = if o < k + 1 then some (b + o) else none
        by_cases hlt : o < k
        · rw [if_pos hlt, if_pos (by omega)]
        · rw [if_neg hlt, if_neg (by omega)]
  · show lm_up (lm_row h.2.2.1 (b + k) fun _ => none) b f (some (b + k)) (b + 4) i = _
    rw [lm_up_na (by omega), lm_rw_na (by omega)]; exact c5 (by omega) i hi
  · show lm_up (lm_row h.2.2.1 (b + k) fun _ => none) b f (some (b + k)) (b + 18) i = _
    rw [lm_up_na (by omega), lm_rw_na (by omega)]; exact c6 (by omega) i hi
  · show lm_up (lm_row h.2.2.1 (b + k) fun _ => none) b f (some (b + k)) (b + 30) i = _
    rw [lm_up_na (by omega), lm_rw_na (by omega)]; exact c7 (by omega) i hi
  · show lm_up (lm_row h.2.2.1 (b + k) fun _ => none) b f (some (b + k)) (b + 36) i = _
    rw [lm_up_na (by omega), lm_rw_na (by omega)]; exact c8 (by omega) i hi
  · show lm_up (lm_row h.2.2.1 (b + k) fun _ => none) b f (some (b + k)) (b + 43) i = _
    rw [lm_up_na (by omega), lm_rw_na (by omega)]; exact c9 (by omega) i hi
  · show lm_row _ _ _ _ _ = _
    rw [lm_rw_na (by omega)]; exact c10 j hj
  · show lm_row _ _ _ _ _ = _
    rw [lm_rw_na (by omega)]; exact c11
  · rfl
  · show h.2.2.2.2.2.2.1 + 1 = _
    omega
  · show h.2.2.2.2.2.2.2 + n = _
    rw [c14, e5]; omega
theorem us_in {α : Type} {f : Nat → α} {a n b : Nat} {v : α} (h : a ≤ b ∧ b < a + n) : lm_us f a n v b = v := if_pos h
theorem us_out {α : Type} {f : Nat → α} {a n b : Nat} {v : α} (h : b < a ∨ a + n ≤ b) : lm_us f a n v b = f b := if_neg (by omega)
/-- an array of arrays more -/
def cnM (h : lm_H) (b k kd ki n m f : Nat) : lm_H := ((lm_mul h (b + k) kd ki n m).1, (lm_mul h (b + k) kd ki n m).2.1, lm_up (lm_mul h (b + k) kd ki n m).2.2.1 b f (some (b + k)), (lm_mul h (b + k) kd ki n m).2.2.2)
theorem cn_m {h0 h : lm_H} {b k kd ki n m f : Nat} {sd : Int32} (C : CN h0 h b k sd) (hk : 0 < k ∧ k + n < 49) (e1 : mKds.getD k 0 = kd) (e2 : mLns.getD k 0 = n) (e6 : ∀ i, i < n → mKds.getD (k + 1 + i) 0 = ki ∧ mLns.getD (k + 1 + i) 0 = m) (e3 : mRf.getD f none = some k) (e4 : ∀ f', f' < 36 → ∀ o, mRf.getD f' none = some o → k ≤ o → o < k + 1 + n → f' = f) (e5 : (mLns.take (k + 1 + n)).sum = (mLns.take k).sum + (n + n * m)) (e7 : (k = 4 ∧ n = 8) ∨ (k = 18 ∧ n = 10) ∨ (k = 30 ∧ n = 2) ∨ (k = 36 ∧ n = 5) ∨ (k = 43 ∧ n = 5)) : CN h0 (cnM h b k kd ki n m f) b (k + 1 + n) sd := by
  obtain ⟨c1, c2, c3, c4, c5, c6, c7, c8, c9, c10, c11, c12, c13, c14⟩ := C
  have hin : ∀ o i, (o = k → i < n → lm_up (lm_mul h (b + k) kd ki n m).2.2.1 b f (some (b + k)) (b + o) i = some (b + (o + 1 + i))) := by
    intro o i ho hi
    subst ho
    show lm_up (lm_row (lm_us h.2.2.1 (b + o) (n + 1) fun _ => none) (b + o) (fun j => if j < n then some (b + o + 1 + j) else none)) b f (some (b + o)) (b + o) i = _
    rw [lm_up_na (by omega), lm_rw_eq, if_pos hi]
    congr 1
    omega
  have hout : ∀ o i, o < k → 0 < o → lm_up (lm_mul h (b + k) kd ki n m).2.2.1 b f (some (b + k)) (b + o) i = h.2.2.1 (b + o) i := by
    intro o i ho h0
    show lm_up (lm_row (lm_us h.2.2.1 (b + k) (n + 1) fun _ => none) (b + k) (fun j => if j < n then some (b + k + 1 + j) else none)) b f (some (b + k)) (b + o) i = _
    rw [lm_up_na (by omega), lm_rw_na (by omega), us_out (by omega)]
  unfold CN cnM
  refine ⟨fun a ha => ?_, ?_, fun o ho => ?_, fun f' => ?_, fun z i hi => ?_, fun z i hi => ?_, fun z i hi => ?_, fun z i hi => ?_, fun z i hi => ?_, fun j hj => ?_, ?_, ?_, ?_, ?_⟩
  · obtain ⟨q1, q2, q3, q4, q5⟩ := c1 a (by omega)
    refine ⟨(us_out (by omega)).trans q1, (us_out (by omega)).trans q2, ?_, ?_, ?_⟩
    · show lm_up (lm_row (lm_us h.2.2.1 (b + k) (n + 1) fun _ => none) (b + k) (fun j => if j < n then some (b + k + 1 + j) else none)) b f (some (b + k)) a = _
      rw [lm_up_rw (by omega), lm_rw_na (by omega), us_out (by omega)]; exact q3
    · show lm_u1 (lm_us _ _ _ _) _ _ _ = _
      unfold lm_u1
      rw [if_neg (by omega), us_out (by omega)]; exact q4
    · show lm_u1 (lm_us _ _ _ _) _ _ _ = _
      unfold lm_u1
      rw [if_neg (by omega), us_out (by omega)]; exact q5
  · show lm_u1 (lm_us _ _ _ _) _ _ _ = _
    unfold lm_u1
    rw [if_neg (by omega), us_out (by omega)]; exact c2
  · by_cases hok : o < k
    · obtain ⟨q1, q2, q3, q4⟩ := c3 o (by omega)
      refine ⟨?_, ?_, fun j => ?_, fun j => ?_⟩
      · show lm_u1 (lm_us _ _ _ _) _ _ _ = _
        unfold lm_u1
        rw [if_neg (by omega), us_out (by omega)]; exact q1
      · show lm_u1 (lm_us _ _ _ _) _ _ _ = _
        unfold lm_u1
        rw [if_neg (by omega), us_out (by omega)]; exact q2
      · show lm_us h.1 (b + k) (n + 1) (fun _ => 0) (b + o) j = _
        rw [us_out (by omega)]; exact q3 j
      · show lm_us h.2.1 (b + k) (n + 1) (fun _ => 0) (b + o) j = _
        rw [us_out (by omega)]; exact q4 j
    · refine ⟨?_, ?_, fun j => ?_, fun j => ?_⟩
      · show lm_u1 (lm_us _ _ _ _) _ _ _ = _
        unfold lm_u1
        by_cases hq : o = k
        · subst hq; rw [if_pos rfl, e1]
        · rw [if_neg (by omega), us_in (by omega)]
          have := (e6 (o - (k + 1)) (by omega)).1
          rw [show k + 1 + (o - (k + 1)) = o by omega] at this
          exact this.symm
      · show lm_u1 (lm_us _ _ _ _) _ _ _ = _
        unfold lm_u1
        by_cases hq : o = k
        · subst hq; rw [if_pos rfl, e2]
        · rw [if_neg (by omega), us_in (by omega)]
          have := (e6 (o - (k + 1)) (by omega)).2
          rw [show k + 1 + (o - (k + 1)) = o by omega] at this
          exact this.symm
      · show lm_us h.1 (b + k) (n + 1) (fun _ => 0) (b + o) j = _
        rw [us_in (by omega)]
      · show lm_us h.2.1 (b + k) (n + 1) (fun _ => 0) (b + o) j = _
        rw [us_in (by omega)]
  · show lm_up (lm_row (lm_us h.2.2.1 (b + k) (n + 1) fun _ => none) (b + k) (fun j => if j < n then some (b + k + 1 + j) else none)) b f (some (b + k)) b f' = _
    by_cases hf : f' = f
    · subst hf
      rw [lm_up_eq, e3]
      show _ = if k < k + 1 + n then some (b + k) else none
      rw [if_pos (by omega)]
    · rw [lm_up_nk hf, lm_rw_na (by omega), us_out (by omega), c4 f']
      cases hm : mRf.getD f' none with
      | none => rfl
      | some o =>
        show (if o < k then some (b + o) else none) = if o < k + 1 + n then some (b + o) else none
        by_cases hlt : o < k
        · rw [if_pos hlt, if_pos (by omega)]
        · have hge : ¬ o < k + 1 + n := fun z => hf (e4 f' (mRf_lt hm) o hm (by omega) z)
          rw [if_neg hlt, if_neg hge]
  · by_cases hq : 4 = k
    · exact hin 4 i hq (by omega)
    · exact (hout 4 i (by omega) (by decide)).trans (c5 (by omega) i hi)
  · by_cases hq : 18 = k
    · exact hin 18 i hq (by omega)
    · exact (hout 18 i (by omega) (by decide)).trans (c6 (by omega) i hi)
  · by_cases hq : 30 = k
    · exact hin 30 i hq (by omega)
    · exact (hout 30 i (by omega) (by decide)).trans (c7 (by omega) i hi)
  · by_cases hq : 36 = k
    · exact hin 36 i hq (by omega)
    · exact (hout 36 i (by omega) (by decide)).trans (c8 (by omega) i hi)
  · by_cases hq : 43 = k
    · exact hin 43 i hq (by omega)
    · exact (hout 43 i (by omega) (by decide)).trans (c9 (by omega) i hi)
  · show lm_us h.1 (b + k) (n + 1) (fun _ => 0) b j = _
    rw [us_out (by omega)]; exact c10 j hj
  · show lm_us h.1 (b + k) (n + 1) (fun _ => 0) b 21 = _
    rw [us_out (by omega)]; exact c11
  · show b + k + n + 1 = _
    omega
  · show h.2.2.2.2.2.2.1 + 1 + n = _
    omega
  · show h.2.2.2.2.2.2.2 + n + n * m = _
    rw [c14, e5]; omega
theorem cn_sd {h0 : lm_H} {hi : Nat → Nat → Int32} {hl : Nat → Nat → Int64} {X : lm_X} {b k : Nat} {sd v : Int32} (hk : 0 < k) (C : CN h0 (hi, hl, X) b k sd) : CN h0 (lm_up hi b 21 v, hl, X) b k v := by
  obtain ⟨c1, c2, c3, c4, c5, c6, c7, c8, c9, c10, c11, c12, c13, c14⟩ := C
  refine ⟨fun a ha => ⟨(lm_up_rw (by omega)).trans (c1 a ha).1, (c1 a ha).2⟩, c2, fun o ho => ⟨(c3 o ho).1, (c3 o ho).2.1, fun j => (lm_up_na (by omega)).trans ((c3 o ho).2.2.1 j), (c3 o ho).2.2.2⟩, c4, c5, c6, c7, c8, c9, fun j hj => (lm_up_nk hj).trans (c10 j hj), lm_up_eq, c12, c13, c14⟩
theorem cn_free {h0 h : lm_H} {b k j : Nat} {sd : Int32} (C : CN h0 h b k sd) (hf : ∀ o, 0 < o ∧ o < 49 → h0.2.2.2.1 (b + o) = 0) (hj : k ≤ j ∧ 0 < j ∧ j < 49) : h.2.2.2.1 (b + j) = 0 := by
  rw [(C.1 (b + j) (by omega)).2.2.2.1]
  exact hf j hj.2
theorem m_init {d : Nat} {h0 h : lm_H} {b : Nat} (C : CN h0 h b 1 0) (hf : ∀ o, 0 < o ∧ o < 49 → h0.2.2.2.1 (b + o) = 0) (hb : 64 ≤ b) : lm_w d 131 [.ref b] h (fun v h1 => v = none ∧ CN h0 h1 b 49 1) := by
  refine lm_w_in (Nat.le_of_ble_eq_true rfl) ?_
  show lm_wp d 131 0 [.ref b] [] h _
  refine w_N 2 4 [.ref b] [] rfl ?_
  refine w_N 2 7 [.ref b] [.int 8, .ref b] rfl ?_
  refine w_nai (b + 1) 8 rfl C.2.2.2.2.2.2.2.2.2.2.2.1 (cn_free C hf (by decide)) (by omega) rfl (by decide) ?_
  refine w_pr rfl rfl rfl rfl (show lm_u1 h.2.2.2.1 (b + 1) 1 b = _ from by unfold lm_u1; rw [if_neg (by omega)]; exact C.2.1) hb ?_
  replace C := cn_a (k := 1) (kd := 1) (n := 8) (f := 0) C (by decide) rfl rfl rfl (by decide) (by decide)
  change lm_wp d 131 12 [.ref b] [] (cnA h b 1 1 8 0) _
  generalize cnA h b 1 1 8 0 = h at C
  refine w_N 2 15 [.ref b] [.int 8, .ref b] rfl ?_
  refine w_nai (b + 2) 8 rfl C.2.2.2.2.2.2.2.2.2.2.2.1 (cn_free C hf (by decide)) (by omega) rfl (by decide) ?_
  refine w_pr rfl rfl rfl rfl (show lm_u1 h.2.2.2.1 (b + 2) 1 b = _ from by unfold lm_u1; rw [if_neg (by omega)]; exact C.2.1) hb ?_
  replace C := cn_a (k := 2) (kd := 1) (n := 8) (f := 1) C (by decide) rfl rfl rfl (by decide) (by decide)
  change lm_wp d 131 20 [.ref b] [] (cnA h b 2 1 8 1) _
  generalize cnA h b 2 1 8 1 = h at C
  refine w_N 2 23 [.ref b] [.int 8, .ref b] rfl ?_
  refine w_nai (b + 3) 8 rfl C.2.2.2.2.2.2.2.2.2.2.2.1 (cn_free C hf (by decide)) (by omega) rfl (by decide) ?_
  refine w_pr rfl rfl rfl rfl (show lm_u1 h.2.2.2.1 (b + 3) 1 b = _ from by unfold lm_u1; rw [if_neg (by omega)]; exact C.2.1) hb ?_
  replace C := cn_a (k := 3) (kd := 1) (n := 8) (f := 2) C (by decide) rfl rfl rfl (by decide) (by decide)
  change lm_wp d 131 28 [.ref b] [] (cnA h b 3 1 8 2) _
  generalize cnA h b 3 1 8 2 = h at C
  refine w_N 3 33 [.ref b] [.int 40, .int 8, .ref b] rfl ?_
  refine w_nam (b + 4) 8 40 6 2 106 rfl rfl (by decide) C.2.2.2.2.2.2.2.2.2.2.2.1 (fun j hj => by rw [Nat.add_assoc]; exact cn_free C hf (by omega)) (by omega) rfl rfl (by decide) (by decide) ?_
  refine w_pr rfl rfl rfl rfl (show lm_u1 (lm_us h.2.2.2.1 (b + 4) (8 + 1) 2) (b + 4) 6 b = _ from by unfold lm_u1; rw [if_neg (by omega), us_out (by omega)]; exact C.2.1) hb ?_
  replace C := cn_m (k := 4) (kd := 6) (ki := 2) (n := 8) (m := 40) (f := 3) C (by decide) rfl rfl (by decide) rfl (by decide) (by decide) (by decide)
  change lm_wp d 131 40 [.ref b] [] (cnM h b 4 6 2 8 40 3) _
  generalize cnM h b 4 6 2 8 40 3 = h at C
  refine w_N 2 43 [.ref b] [.int 40, .ref b] rfl ?_
  refine w_nal (b + 13) 40 rfl C.2.2.2.2.2.2.2.2.2.2.2.1 (cn_free C hf (by decide)) (by omega) rfl (by decide) ?_
  refine w_pr rfl rfl rfl rfl (show lm_u1 h.2.2.2.1 (b + 13) 2 b = _ from by unfold lm_u1; rw [if_neg (by omega)]; exact C.2.1) hb ?_
  replace C := cn_a (k := 13) (kd := 2) (n := 40) (f := 4) C (by decide) rfl rfl rfl (by decide) (by decide)
  change lm_wp d 131 48 [.ref b] [] (cnA h b 13 2 40 4) _
  generalize cnA h b 13 2 40 4 = h at C
  refine w_N 2 51 [.ref b] [.int 8, .ref b] rfl ?_
  refine w_nai (b + 14) 8 rfl C.2.2.2.2.2.2.2.2.2.2.2.1 (cn_free C hf (by decide)) (by omega) rfl (by decide) ?_
  refine w_pr rfl rfl rfl rfl (show lm_u1 h.2.2.2.1 (b + 14) 1 b = _ from by unfold lm_u1; rw [if_neg (by omega)]; exact C.2.1) hb ?_
  replace C := cn_a (k := 14) (kd := 1) (n := 8) (f := 5) C (by decide) rfl rfl rfl (by decide) (by decide)
  change lm_wp d 131 56 [.ref b] [] (cnA h b 14 1 8 5) _
  generalize cnA h b 14 1 8 5 = h at C
  refine w_N 2 59 [.ref b] [.int 8, .ref b] rfl ?_
  refine w_nai (b + 15) 8 rfl C.2.2.2.2.2.2.2.2.2.2.2.1 (cn_free C hf (by decide)) (by omega) rfl (by decide) ?_
  refine w_pr rfl rfl rfl rfl (show lm_u1 h.2.2.2.1 (b + 15) 1 b = _ from by unfold lm_u1; rw [if_neg (by omega)]; exact C.2.1) hb ?_
  replace C := cn_a (k := 15) (kd := 1) (n := 8) (f := 6) C (by decide) rfl rfl rfl (by decide) (by decide)
  change lm_wp d 131 64 [.ref b] [] (cnA h b 15 1 8 6) _
  generalize cnA h b 15 1 8 6 = h at C
  refine w_N 2 68 [.ref b] [.int 250, .ref b] rfl ?_
  refine w_nai (b + 16) 250 rfl C.2.2.2.2.2.2.2.2.2.2.2.1 (cn_free C hf (by decide)) (by omega) rfl (by decide) ?_
  refine w_pr rfl rfl rfl rfl (show lm_u1 h.2.2.2.1 (b + 16) 1 b = _ from by unfold lm_u1; rw [if_neg (by omega)]; exact C.2.1) hb ?_
  replace C := cn_a (k := 16) (kd := 1) (n := 250) (f := 7) C (by decide) rfl rfl rfl (by decide) (by decide)
  change lm_wp d 131 73 [.ref b] [] (cnA h b 16 1 250 7) _
  generalize cnA h b 16 1 250 7 = h at C
  refine w_N 2 76 [.ref b] [.int 8, .ref b] rfl ?_
  refine w_nai (b + 17) 8 rfl C.2.2.2.2.2.2.2.2.2.2.2.1 (cn_free C hf (by decide)) (by omega) rfl (by decide) ?_
  refine w_pr rfl rfl rfl rfl (show lm_u1 h.2.2.2.1 (b + 17) 1 b = _ from by unfold lm_u1; rw [if_neg (by omega)]; exact C.2.1) hb ?_
  replace C := cn_a (k := 17) (kd := 1) (n := 8) (f := 9) C (by decide) rfl rfl rfl (by decide) (by decide)
  change lm_wp d 131 81 [.ref b] [] (cnA h b 17 1 8 9) _
  generalize cnA h b 17 1 8 9 = h at C
  refine w_N 3 86 [.ref b] [.int 7, .int 10, .ref b] rfl ?_
  refine w_nam (b + 18) 10 7 5 1 105 rfl rfl (by decide) C.2.2.2.2.2.2.2.2.2.2.2.1 (fun j hj => by rw [Nat.add_assoc]; exact cn_free C hf (by omega)) (by omega) rfl rfl (by decide) (by decide) ?_
  refine w_pr rfl rfl rfl rfl (show lm_u1 (lm_us h.2.2.2.1 (b + 18) (10 + 1) 1) (b + 18) 5 b = _ from by unfold lm_u1; rw [if_neg (by omega), us_out (by omega)]; exact C.2.1) hb ?_
  replace C := cn_m (k := 18) (kd := 5) (ki := 1) (n := 10) (m := 7) (f := 11) C (by decide) rfl rfl (by decide) rfl (by decide) (by decide) (by decide)
  change lm_wp d 131 93 [.ref b] [] (cnM h b 18 5 1 10 7 11) _
  generalize cnM h b 18 5 1 10 7 11 = h at C
  refine w_N 2 95 [.ref b] [.int 4, .ref b] rfl ?_
  refine w_nai (b + 29) 4 rfl C.2.2.2.2.2.2.2.2.2.2.2.1 (cn_free C hf (by decide)) (by omega) rfl (by decide) ?_
  refine w_pr rfl rfl rfl rfl (show lm_u1 h.2.2.2.1 (b + 29) 1 b = _ from by unfold lm_u1; rw [if_neg (by omega)]; exact C.2.1) hb ?_
  replace C := cn_a (k := 29) (kd := 1) (n := 4) (f := 13) C (by decide) rfl rfl rfl (by decide) (by decide)
  change lm_wp d 131 100 [.ref b] [] (cnA h b 29 1 4 13) _
  generalize cnA h b 29 1 4 13 = h at C
  refine w_N 3 104 [.ref b] [.int 12, .int 2, .ref b] rfl ?_
  refine w_nam (b + 30) 2 12 5 1 105 rfl rfl (by decide) C.2.2.2.2.2.2.2.2.2.2.2.1 (fun j hj => by rw [Nat.add_assoc]; exact cn_free C hf (by omega)) (by omega) rfl rfl (by decide) (by decide) ?_
  refine w_pr rfl rfl rfl rfl (show lm_u1 (lm_us h.2.2.2.1 (b + 30) (2 + 1) 1) (b + 30) 5 b = _ from by unfold lm_u1; rw [if_neg (by omega), us_out (by omega)]; exact C.2.1) hb ?_
  replace C := cn_m (k := 30) (kd := 5) (ki := 1) (n := 2) (m := 12) (f := 16) C (by decide) rfl rfl (by decide) rfl (by decide) (by decide) (by decide)
  change lm_wp d 131 111 [.ref b] [] (cnM h b 30 5 1 2 12 16) _
  generalize cnM h b 30 5 1 2 12 16 = h at C
  refine w_N 2 113 [.ref b] [.int 2, .ref b] rfl ?_
  refine w_nai (b + 33) 2 rfl C.2.2.2.2.2.2.2.2.2.2.2.1 (cn_free C hf (by decide)) (by omega) rfl (by decide) ?_
  refine w_pr rfl rfl rfl rfl (show lm_u1 h.2.2.2.1 (b + 33) 1 b = _ from by unfold lm_u1; rw [if_neg (by omega)]; exact C.2.1) hb ?_
  replace C := cn_a (k := 33) (kd := 1) (n := 2) (f := 17) C (by decide) rfl rfl rfl (by decide) (by decide)
  change lm_wp d 131 118 [.ref b] [] (cnA h b 33 1 2 17) _
  generalize cnA h b 33 1 2 17 = h at C
  refine w_N 2 120 [.ref b] [.int 4, .ref b] rfl ?_
  refine w_nai (b + 34) 4 rfl C.2.2.2.2.2.2.2.2.2.2.2.1 (cn_free C hf (by decide)) (by omega) rfl (by decide) ?_
  refine w_pr rfl rfl rfl rfl (show lm_u1 h.2.2.2.1 (b + 34) 1 b = _ from by unfold lm_u1; rw [if_neg (by omega)]; exact C.2.1) hb ?_
  replace C := cn_a (k := 34) (kd := 1) (n := 4) (f := 20) C (by decide) rfl rfl rfl (by decide) (by decide)
  change lm_wp d 131 125 [.ref b] [] (cnA h b 34 1 4 20) _
  generalize cnA h b 34 1 4 20 = h at C
  obtain ⟨hi, hl, X⟩ := h
  refine w_N 2 127 [.ref b] [.int 1, .ref b] rfl ?_
  refine w_pi rfl rfl rfl rfl C.2.1 hb ?_
  replace C := cn_sd (v := 1) (by decide) C
  change lm_wp d 131 130 [.ref b] [] (lm_up hi b 21 1, hl, X) _
  generalize hg : (lm_up hi b 21 1, hl, X) = h at C ⊢
  clear hg
  refine w_N 2 132 [.ref b] [.int 4, .ref b] rfl ?_
  refine w_nai (b + 35) 4 rfl C.2.2.2.2.2.2.2.2.2.2.2.1 (cn_free C hf (by decide)) (by omega) rfl (by decide) ?_
  refine w_pr rfl rfl rfl rfl (show lm_u1 h.2.2.2.1 (b + 35) 1 b = _ from by unfold lm_u1; rw [if_neg (by omega)]; exact C.2.1) hb ?_
  replace C := cn_a (k := 35) (kd := 1) (n := 4) (f := 29) C (by decide) rfl rfl rfl (by decide) (by decide)
  change lm_wp d 131 137 [.ref b] [] (cnA h b 35 1 4 29) _
  generalize cnA h b 35 1 4 29 = h at C
  refine w_N 3 140 [.ref b] [.int 2, .int 5, .ref b] rfl ?_
  refine w_nam (b + 36) 5 2 5 1 105 rfl rfl (by decide) C.2.2.2.2.2.2.2.2.2.2.2.1 (fun j hj => by rw [Nat.add_assoc]; exact cn_free C hf (by omega)) (by omega) rfl rfl (by decide) (by decide) ?_
  refine w_pr rfl rfl rfl rfl (show lm_u1 (lm_us h.2.2.2.1 (b + 36) (5 + 1) 1) (b + 36) 5 b = _ from by unfold lm_u1; rw [if_neg (by omega), us_out (by omega)]; exact C.2.1) hb ?_
  replace C := cn_m (k := 36) (kd := 5) (ki := 1) (n := 5) (m := 2) (f := 33) C (by decide) rfl rfl (by decide) rfl (by decide) (by decide) (by decide)
  change lm_wp d 131 147 [.ref b] [] (cnM h b 36 5 1 5 2 33) _
  generalize cnM h b 36 5 1 5 2 33 = h at C
  refine w_N 2 149 [.ref b] [.int 5, .ref b] rfl ?_
  refine w_nai (b + 42) 5 rfl C.2.2.2.2.2.2.2.2.2.2.2.1 (cn_free C hf (by decide)) (by omega) rfl (by decide) ?_
  refine w_pr rfl rfl rfl rfl (show lm_u1 h.2.2.2.1 (b + 42) 1 b = _ from by unfold lm_u1; rw [if_neg (by omega)]; exact C.2.1) hb ?_
  replace C := cn_a (k := 42) (kd := 1) (n := 5) (f := 34) C (by decide) rfl rfl rfl (by decide) (by decide)
  change lm_wp d 131 154 [.ref b] [] (cnA h b 42 1 5 34) _
  generalize cnA h b 42 1 5 34 = h at C
  refine w_N 3 157 [.ref b] [.int 2, .int 5, .ref b] rfl ?_
  refine w_nam (b + 43) 5 2 5 1 105 rfl rfl (by decide) C.2.2.2.2.2.2.2.2.2.2.2.1 (fun j hj => by rw [Nat.add_assoc]; exact cn_free C hf (by omega)) (by omega) rfl rfl (by decide) (by decide) ?_
  refine w_pr rfl rfl rfl rfl (show lm_u1 (lm_us h.2.2.2.1 (b + 43) (5 + 1) 1) (b + 43) 5 b = _ from by unfold lm_u1; rw [if_neg (by omega), us_out (by omega)]; exact C.2.1) hb ?_
  replace C := cn_m (k := 43) (kd := 5) (ki := 1) (n := 5) (m := 2) (f := 35) C (by decide) rfl rfl (by decide) rfl (by decide) (by decide) (by decide)
  change lm_wp d 131 164 [.ref b] [] (cnM h b 43 5 1 5 2 35) _
  generalize cnM h b 43 5 1 5 2 35 = h at C
  refine w_rv rfl rfl ?_
  exact ⟨rfl, C⟩
theorem cn_sh {h0 : lm_H} {hi : Nat → Nat → Int32} {hl : Nat → Nat → Int64} {X : lm_X} {b : Nat} {sd : Int32} (hb : 64 ≤ b) (C : CN h0 (hi, hl, X) b 49 sd) : sh_M X b := by
  obtain ⟨c1, c2, c3, c4, c5, c6, c7, c8, c9, c10, c11, c12, c13, c14⟩ := C
  refine ⟨hb, fun o ho => ?_, fun o ho => (c3 o ho).2.1, fun k o hk => ?_, c5 (by decide), c6 (by decide), c7 (by decide), c8 (by decide), c9 (by decide)⟩
  · rcases Nat.eq_zero_or_pos o with rfl | h
    · exact c2
    · exact (c3 o ⟨h, ho⟩).1
  · have e : ∀ k, k < 36 → ∀ o, mRf.getD k none = some o → o < 49 := by decide
    have := c4 k
    rw [hk] at this
    refine this.trans ?_
    show (if o < 49 then some (b + o) else none) = _
    rw [if_pos (e k (mRf_lt hk) o hk)]
