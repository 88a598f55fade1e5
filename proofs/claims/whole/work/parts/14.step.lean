section LMZ
variable {p : Program} {l : Launch} {e : Env} {R : Room} {s : State} {m : MethodId} {args : Array Value} {below : List Frame} {meth : Method} {c : Code} {H : Heap} {locs : List Loc} {cells slots : Nat} {Q : State → Prop}
variable {D : va_G} {cy : Nat → ClassId} {B : Nat} {ρ : Nat → Nat} {f pc : Nat} {ls st : List Value} {h : lm_H} {sl : Array Slot}
set_option maxHeartbeats 4000000 in
/-- a step of LM that is no call and no return is the machine's -/
theorem lm_step (Cx : lm_Cx f p s m meth c) (hf : f < lm_mt.length) (V : lm_V D cy s) (hB : B ≤ s.heap.size) (G : lm_G D cy B s ρ ls st h H locs sl) (hnl : ls.length = (lm_m f).2.2.2.1) {i : Instr} {len : Nat} (hd : decode (lm_m f).2.2.1 pc = .ok (i, len)) (hln : lm_lok (pc, i, len) = true)
    {q : Nat × List Value × List Value × lm_H} (hs : lm_i f (lm_m f).1 pc i ls st h = some (.inl q)) (hr : 4 ≤ R.frames ∧ 200 ≤ R.locals ∧ cells + lm_nc q.2.2.2 ≤ R.cells + lm_nc h ∧ slots + lm_ns q.2.2.2 ≤ R.slots + lm_ns h)
    (kk : lm_K p l e R s m args below meth c cells slots Q D cy B ρ h q) : W p l e R s m args below meth c H locs cells slots Q (F0 m pc sl (st.map (lm_vm ρ))) := by
  obtain ⟨hx, hb, hml, hown, hret, hlocks, hname⟩ := Cx
  have hc0 := (lm_cls_lt _ (lm_m_mem hf)).1
  have hini : f ∈ lm_inits → meth.name = "<init>" := fun hi => by rw [hname hi]; exact (lm_inits_ok f hi).2.1
  have hst := G.2.2.2.2.2.2
  have hvl := G.2.2.2.2.2.1
  have hle := lm_i_le hs
  have hnc := hle.2.2.1
  have hns := hle.2.2.2
  cases i
  case iconst n =>
    obtain rfl : len = 1 := eq_of_beq hln
    cases (show lm_nx (pc + 1) ls (Value.int (Int32.ofInt n) :: st) h = some (.inl q) from hs)
    exact lv_iconst hx hb hd rfl (lm_K_st kk G (lm_ok_cons (lm_ok_int _ _) hst))
  case bipush n =>
    obtain rfl : len = 2 := eq_of_beq hln
    cases (show lm_nx (pc + 2) ls (Value.int (Int8.ofInt n).toInt32 :: st) h = some (.inl q) from hs)
    exact lv_bipush hx hb hd rfl (lm_K_st kk G (lm_ok_cons (lm_ok_int _ _) hst))
  case sipush n =>
    obtain rfl : len = 3 := eq_of_beq hln
    cases (show lm_nx (pc + 3) ls (Value.int (Int16.ofInt n).toInt32 :: st) h = some (.inl q) from hs)
    exact lv_sipush hx hb hd rfl (lm_K_st kk G (lm_ok_cons (lm_ok_int _ _) hst))
  case lconst n =>
    obtain rfl : len = 1 := eq_of_beq hln
    cases (show lm_nx (pc + 1) ls (Value.long (Int64.ofNat n) :: st) h = some (.inl q) from hs)
    exact lv_lconst hx hb hd rfl (lm_K_st kk G (lm_ok_cons (lm_ok_long _ _) hst))
  case ldc idx =>
    obtain rfl : len = 2 := eq_of_beq hln
    simp only [lm_i] at hs
    split at hs
    · rename_i v z hlk
      cases hs
      have hm := lm_lookup_mem hlk
      have hok := lm_okv_all _ _ hm
      unfold lm_okv at hok
      dsimp only at hok
      split at hok
      · exact lv_ldc hx hb hown (V.1 _ (lm_in (of_decide_eq_true hok) rfl) args) hd (lm_K_st kk G (lm_ok_cons (lm_ok_int _ _) hst))
      · rename_i k
        obtain ⟨⟨k1, k2⟩, tx, hR⟩ := G.2.2.1.2.2.2.2.2.2 _ _ hm k rfl
        exact va_ldcS hx hb hown hR hd (lm_K_st kk G (lm_ok_cons (fun b hb => by cases hb; omega) hst))
      · cases hok
    · cases hs
  case ldc_w idx =>
    obtain rfl : len = 3 := eq_of_beq hln
    simp only [lm_i] at hs
    split at hs
    · rename_i v z hlk
      cases hs
      have hm := lm_lookup_mem hlk
      have hok := lm_okv_all _ _ hm
      exact lv_ldcw hx hb hown (V.1 _ (lm_in (of_decide_eq_true hok) rfl) args) hd (lm_K_st kk G (lm_ok_cons (lm_ok_int _ _) hst))
    · cases hs
  case ldc2_w idx =>
    obtain rfl : len = 3 := eq_of_beq hln
    simp only [lm_i] at hs
    split at hs
    · rename_i v z hlk
      cases hs
      exact lv_ldc2 hx hb hown (V.1 _ (lm_in (lm_okl_all _ _ (lm_lookup_mem hlk)) rfl) args) hd (lm_K_st kk G (lm_ok_cons (lm_ok_long _ _) hst))
    · cases hs
  case getstatic idx =>
    obtain rfl : len = 3 := eq_of_beq hln
    simp only [lm_i] at hs
    split at hs
    · rename_i v z hlk
      cases hs
      have hO := G.2.2.1
      rcases lm_oks_all _ _ (lm_lookup_mem hlk) with ⟨e1, hw⟩ | ⟨e1, hw⟩
      · dsimp only at e1 hw
        subst e1
        exact va_getsN hx hb hO.2.2.2.2.1.2 G.2.2.2.1 hown (V.1 _ (lm_in hw rfl) args) (fun _ z => z) hd (lm_K_st kk G (lm_ok_cons (fun b hb => by cases hb; rw [hO.2.2.2.2.1.1]; decide) hst))
      · dsimp only at e1 hw
        subst e1
        exact va_gets hx hb hO.2.2.2.1 G.2.2.2.1 hown (V.1 _ (lm_in hw rfl) args) (fun _ z => z) hd (lm_K_st kk G (lm_ok_cons (lm_ok_int _ _) hst))
    · cases hs
  case iload k =>
    obtain rfl : len = 2 := eq_of_beq hln
    exact lm_t_iload hx hb G kk hd hs
  case iload_n k =>
    obtain rfl : len = 1 := eq_of_beq hln
    exact lm_t_iload_n hx hb G kk hd hs
  case istore k =>
    obtain rfl : len = 2 := eq_of_beq hln
    exact lm_t_istore hx hb G kk hd hs
  case istore_n k =>
    obtain rfl : len = 1 := eq_of_beq hln
    exact lm_t_istore_n hx hb G kk hd hs
  case lload k =>
    obtain rfl : len = 2 := eq_of_beq hln
    exact lm_t_lload hx hb G kk hd hs
  case lload_n k =>
    obtain rfl : len = 1 := eq_of_beq hln
    exact lm_t_lload_n hx hb G kk hd hs
  case lstore k =>
    obtain rfl : len = 2 := eq_of_beq hln
    exact lm_t_lstore hx hb G kk hd hs
  case lstore_n k =>
    obtain rfl : len = 1 := eq_of_beq hln
    exact lm_t_lstore_n hx hb G kk hd hs
  case aload k =>
    obtain rfl : len = 2 := eq_of_beq hln
    exact lm_t_aload hx hb G kk hd hs
  case aload_n k =>
    obtain rfl : len = 1 := eq_of_beq hln
    exact lm_t_aload_n hx hb G kk hd hs
  case astore k =>
    obtain rfl : len = 2 := eq_of_beq hln
    exact lm_t_astore hx hb G kk hd hs
  case astore_n k =>
    obtain rfl : len = 1 := eq_of_beq hln
    exact lm_t_astore_n hx hb G kk hd hs
  case iinc k n =>
    obtain rfl : len = 3 := eq_of_beq hln
    simp only [lm_i] at hs
    split at hs
    · rename_i x hi
      cases hs
      obtain ⟨lv, hl1, hl2⟩ := G.2.2.2.2.1
      obtain ⟨z, hz⟩ := List.getElem?_of_mem (hl2 k _ hi (lm_nj_i x))
      have hkl := (List.getElem?_eq_some_iff.mp hi).1
      exact lv_iinc hx hb hd hl1 hz rfl hkl rfl (fun sl1 hl1 => lm_K_s1 kk G hkl hl2 hl1 (lm_ok_int _ _) hst)
    · cases hs
  case iadd =>
    obtain rfl : len = 1 := eq_of_beq hln
    exact lm_t_iadd hx hb G kk hd hs
  case isub =>
    obtain rfl : len = 1 := eq_of_beq hln
    exact lm_t_isub hx hb G kk hd hs
  case imul =>
    obtain rfl : len = 1 := eq_of_beq hln
    exact lm_t_imul hx hb G kk hd hs
  case iand =>
    obtain rfl : len = 1 := eq_of_beq hln
    exact lm_t_iand hx hb G kk hd hs
  case ior =>
    obtain rfl : len = 1 := eq_of_beq hln
    exact lm_t_ior hx hb G kk hd hs
  case ixor =>
    obtain rfl : len = 1 := eq_of_beq hln
    exact lm_t_ixor hx hb G kk hd hs
  case ishl =>
    obtain rfl : len = 1 := eq_of_beq hln
    exact lm_t_ishl hx hb G kk hd hs
  case ishr =>
    obtain rfl : len = 1 := eq_of_beq hln
    exact lm_t_ishr hx hb G kk hd hs
  case iushr =>
    obtain rfl : len = 1 := eq_of_beq hln
    exact lm_t_iushr hx hb G kk hd hs
  case ineg =>
    obtain rfl : len = 1 := eq_of_beq hln
    exact lm_t_ineg hx hb G kk hd hs
  case i2l =>
    obtain rfl : len = 1 := eq_of_beq hln
    exact lm_t_i2l hx hb G kk hd hs
  case i2b =>
    obtain rfl : len = 1 := eq_of_beq hln
    exact lm_t_i2b hx hb G kk hd hs
  case i2s =>
    obtain rfl : len = 1 := eq_of_beq hln
    exact lm_t_i2s hx hb G kk hd hs
  case i2c =>
    obtain rfl : len = 1 := eq_of_beq hln
    exact lm_t_i2c hx hb G kk hd hs
  case ladd =>
    obtain rfl : len = 1 := eq_of_beq hln
    exact lm_t_ladd hx hb G kk hd hs
  case lmul =>
    obtain rfl : len = 1 := eq_of_beq hln
    exact lm_t_lmul hx hb G kk hd hs
  case land =>
    obtain rfl : len = 1 := eq_of_beq hln
    exact lm_t_land hx hb G kk hd hs
  case lor =>
    obtain rfl : len = 1 := eq_of_beq hln
    exact lm_t_lor hx hb G kk hd hs
  case lxor =>
    obtain rfl : len = 1 := eq_of_beq hln
    exact lm_t_lxor hx hb G kk hd hs
  case lshl =>
    obtain rfl : len = 1 := eq_of_beq hln
    exact lm_t_lshl hx hb G kk hd hs
  case lshr =>
    obtain rfl : len = 1 := eq_of_beq hln
    exact lm_t_lshr hx hb G kk hd hs
  case irem =>
    obtain rfl : len = 1 := eq_of_beq hln
    simp only [lm_i] at hs
    split at hs
    · split at hs
      · cases hs
      · rename_i hy
        cases hs
        exact lv_irem hx hb hd hy (lm_K_st kk G (lm_ok_cons (lm_ok_int _ _) (fun v hv => hst v (List.mem_cons_of_mem _ (List.mem_cons_of_mem _ hv)))))
    · cases hs
  case ldiv =>
    obtain rfl : len = 1 := eq_of_beq hln
    simp only [lm_i] at hs
    split at hs
    · split at hs
      · cases hs
      · rename_i hy
        cases hs
        exact lv_ldiv hx hb hd hy (lm_K_st kk G (lm_ok_cons (lm_ok_long _ _) (fun v hv => hst v (List.mem_cons_of_mem _ (List.mem_cons_of_mem _ hv)))))
    · cases hs
  case lrem =>
    obtain rfl : len = 1 := eq_of_beq hln
    simp only [lm_i] at hs
    split at hs
    · split at hs
      · cases hs
      · rename_i hy
        cases hs
        exact lv_lrem hx hb hd hy (lm_K_st kk G (lm_ok_cons (lm_ok_long _ _) (fun v hv => hst v (List.mem_cons_of_mem _ (List.mem_cons_of_mem _ hv)))))
    · cases hs
  case l2i =>
    obtain rfl : len = 1 := eq_of_beq hln
    simp only [lm_i] at hs
    split at hs
    · cases hs
      exact lv_l2i hx hb hd rfl (lm_K_st kk G (lm_ok_cons (lm_ok_int _ _) (fun v hv => hst v (List.mem_cons_of_mem _ hv))))
    · cases hs
  case lcmp =>
    obtain rfl : len = 1 := eq_of_beq hln
    simp only [lm_i] at hs
    split at hs
    · cases hs
      exact W.lcmp hx hb hd (lm_K_st kk G (lm_ok_cons (lm_ok_int _ _) (fun v hv => hst v (List.mem_cons_of_mem _ (List.mem_cons_of_mem _ hv)))))
    · cases hs
  case dup =>
    obtain rfl : len = 1 := eq_of_beq hln
    simp only [lm_i] at hs
    split at hs
    · cases hs
      exact lv_dup hx hb hd rfl (lm_K_st kk G (lm_ok_cons (lm_ok_int _ _) hst))
    · cases hs
      exact lv_dup hx hb hd rfl (lm_K_st kk G (lm_ok_cons (hst _ List.mem_cons_self) hst))
    · cases hs
  case dup_x1 =>
    obtain rfl : len = 1 := eq_of_beq hln
    simp only [lm_i] at hs
    split at hs
    · cases hs
      exact lv_dup_x1 hx hb hd rfl rfl (lm_K_st kk G (fun v hv => hst v (by simp at hv ⊢; rcases hv with z | z | z | z <;> simp [z])))
    · cases hs
  case dup2 =>
    obtain rfl : len = 1 := eq_of_beq hln
    simp only [lm_i] at hs
    split at hs
    · cases hs
      exact lv_dup2_11 hx hb hd rfl rfl (lm_K_st kk G (fun v hv => hst v (by simp at hv ⊢; rcases hv with z | z | z | z | z <;> simp [z])))
    · cases hs
  case pop =>
    obtain rfl : len = 1 := eq_of_beq hln
    simp only [lm_i] at hs
    split at hs
    · cases hs
      exact lv_pop hx hb hd rfl (lm_K_st kk G (fun v hv => hst v (List.mem_cons_of_mem _ hv)))
    · cases hs
  case goto off =>
    obtain rfl : len = 3 := eq_of_beq hln
    obtain ⟨t, ht, rfl⟩ := lm_go_inv hs
    exact lv_goto hx hb hd ht (lm_K_st kk G hst)
  case if_icmp co off =>
    obtain rfl : len = 3 := eq_of_beq hln
    simp only [lm_i] at hs
    split at hs
    · exact lm_t_if_icmp hx hb (lm_G_sub G (fun v hv => by simp [hv])) kk hd hs
    · cases hs
  case ifCond co off =>
    obtain rfl : len = 3 := eq_of_beq hln
    simp only [lm_i] at hs
    split at hs
    · exact lm_t_ifCond hx hb (lm_G_sub G (fun v hv => by simp [hv])) kk hd hs
    · cases hs
  case ifnonnull off =>
    obtain rfl : len = 3 := eq_of_beq hln
    simp only [lm_i] at hs
    split at hs
    · obtain ⟨t, ht, rfl⟩ := lm_go_inv hs
      exact lv_ifnonnull hx hb hd ht (lm_K_st kk G (fun v hv => hst v (List.mem_cons_of_mem _ hv)))
    · cases hs
      exact lv_ifnonnullN hx hb hd (lm_K_st kk G (fun v hv => hst v (List.mem_cons_of_mem _ hv)))
    · cases hs
  case tableswitch d lo hi os =>
    simp only [lm_i] at hs
    split at hs
    · rename_i x r
      split at hs
      · rename_i hc
        obtain ⟨t, ht, rfl⟩ := lm_go_inv hs
        have hlen : (os.toList.length : Int) = (os.size : Int) := by simp
        obtain ⟨g1, g2⟩ := lm_sw_spec x os.toList lo d hc.2.1 (by omega)
        by_cases ho : x.toInt < lo ∨ hi < x.toInt
        · rw [g1 (by omega)] at ht
          exact lv_tableOut hx hb hd ho ht (lm_K_st kk G (fun v hv => hst v (List.mem_cons_of_mem _ hv)))
        · have ho1 : ¬ x.toInt < lo := fun z => ho (Or.inl z)
          have ho2 : ¬ hi < x.toInt := fun z => ho (Or.inr z)
          exact lv_tableIn hx hb hd ho1 ho2 (by have := g2 ho1 (by omega); rwa [Array.getElem?_toList] at this) ht (lm_K_st kk G (fun v hv => hst v (List.mem_cons_of_mem _ hv)))
      · cases hs
    · cases hs
  case lookupswitch d ps =>
    simp only [lm_i] at hs
    split at hs
    · rename_i x r
      split at hs
      · rename_i hc
        obtain ⟨t, ht, rfl⟩ := lm_go_inv hs
        rw [lm_lk_spec x d ps.toList (fun q hq => of_decide_eq_true (List.all_eq_true.mp hc.2 q hq))] at ht
        exact lv_lookup hx hb hd hc.1 rfl ht (lm_K_st kk G (fun v hv => hst v (List.mem_cons_of_mem _ hv)))
      · cases hs
    · cases hs
  case getfield idx =>
    obtain rfl : len = 3 := eq_of_beq hln
    simp only [lm_i] at hs
    split at hs
    · rename_i ci k z hlk
      split at hs
      · split at hs
        · rename_i hk
          cases hs
          exact lm_t_getfield hx hb V hown (lm_lookup_mem hlk) hd G hk kk
        · cases hs
      · cases hs
    · cases hs
  case putfield idx =>
    obtain rfl : len = 3 := eq_of_beq hln
    simp only [lm_i] at hs
    split at hs
    · rename_i ci k z hlk
      split at hs
      · split at hs
        · rename_i hk
          split at hs
          · rename_i h1 hp
            cases hs
            exact lm_t_putfield (f := f) V hx hb hown hini hc0 (lm_lookup_mem hlk) hd G hk.1 hk.2.2 hp kk
          · cases hs
        · cases hs
      · cases hs
    · cases hs
  case iaload =>
    obtain rfl : len = 1 := eq_of_beq hln
    simp only [lm_i] at hs
    split at hs
    · obtain ⟨hk, hin, rfl⟩ := lm_ir_inv hs
      exact lm_t_iaload hx hb V hd G (of_decide_eq_true hk) hin kk
    · cases hs
  case laload =>
    obtain rfl : len = 1 := eq_of_beq hln
    simp only [lm_i] at hs
    split at hs
    · obtain ⟨hk, hin, rfl⟩ := lm_ir_inv hs
      exact lm_t_laload hx hb V hd G (of_decide_eq_true hk) hin kk
    · cases hs
  case baload =>
    obtain rfl : len = 1 := eq_of_beq hln
    simp only [lm_i] at hs
    split at hs
    · obtain ⟨hk, hin, rfl⟩ := lm_ir_inv hs
      exact lm_t_baload hx hb hd G (of_decide_eq_true hk) hin kk
    · cases hs
  case aaload =>
    obtain rfl : len = 1 := eq_of_beq hln
    simp only [lm_i] at hs
    split at hs
    · obtain ⟨hk, hin, rfl⟩ := lm_ir_inv hs
      exact lm_t_aaload hx hb V hd G (of_decide_eq_true hk) hin kk
    · cases hs
  case iastore =>
    obtain rfl : len = 1 := eq_of_beq hln
    simp only [lm_i] at hs
    split at hs
    · split at hs
      · rename_i hk
        cases hs
        exact lm_t_iastore hx hb V hd G hk.1 hk.2.1 hk.2.2 kk
      · cases hs
    · cases hs
  case lastore =>
    obtain rfl : len = 1 := eq_of_beq hln
    simp only [lm_i] at hs
    split at hs
    · split at hs
      · rename_i hk
        cases hs
        exact lm_t_lastore hx hb V hd G hk.1 hk.2.1 hk.2.2 kk
      · cases hs
    · cases hs
  case aastore =>
    obtain rfl : len = 1 := eq_of_beq hln
    simp only [lm_i] at hs
    split at hs
    · split at hs
      · rename_i hk
        cases hs
        exact lm_t_aastore hx hb V hd G hk.1 hk.2.1 hk.2.2.1 hk.2.2.2.1 hk.2.2.2.2 kk
      · cases hs
    · cases hs
  case arraylength =>
    obtain rfl : len = 1 := eq_of_beq hln
    simp only [lm_i] at hs
    split at hs
    · split at hs
      · rename_i hk
        cases hs
        exact lm_t_arraylength hx hb V hd G hk kk
      · cases hs
    · cases hs
  case new idx =>
    obtain rfl : len = 3 := eq_of_beq hln
    simp only [lm_i] at hs
    split at hs
    · rename_i ci N z hlk
      split at hs
      · rename_i hk
        cases hs
        exact lm_t_new V hx hb hown hB (lm_lookup_mem hlk) hd G hk.1 hk.2.1 hk.2.2 (by have := hr.2.2.1; simp only [lm_new, lm_nc] at this; omega) (by have := hr.2.2.2; simp only [lm_new, lm_ns] at this; omega) kk
      · cases hs
    · cases hs
  case newarray ty =>
    obtain rfl : len = 2 := eq_of_beq hln
    simp only [lm_i] at hs
    split at hs
    · split at hs
      · rename_i hk
        cases hs
        have hr1 := hr.2.2.1
        have hr2 := hr.2.2.2
        simp only [lm_arr, lm_nc, lm_ns] at hr1 hr2
        rcases hk.2.2.2.2 with rfl | rfl
        · exact lm_t_newi V hx hb hB hd G hk.1 hk.2.1 hk.2.2.1 hk.2.2.2.1 (by omega) (by omega) kk
        · exact lm_t_newl V hx hb hB hd G hk.1 hk.2.1 hk.2.2.1 hk.2.2.2.1 (by omega) (by omega) kk
      · cases hs
    · cases hs
  case anewarray idx =>
    obtain rfl : len = 3 := eq_of_beq hln
    simp only [lm_i] at hs
    split at hs
    · rename_i ci N z hlk
      split at hs
      · split at hs
        · rename_i hk
          cases hs
          have hr1 := hr.2.2.1
          have hr2 := hr.2.2.2
          simp only [lm_arr, lm_nc, lm_ns] at hr1 hr2
          obtain rfl := hk.2.2.2.2
          exact lm_t_newq V hx hb hown hB (lm_lookup_mem hlk) hd G hk.1 hk.2.1 hk.2.2.1 hk.2.2.2.1 (by omega) (by omega) kk
        · cases hs
      · cases hs
    · cases hs
  case multianewarray idx dm =>
    obtain rfl : len = 4 := eq_of_beq hln
    simp only [lm_i] at hs
    split at hs
    · rename_i ci N z hlk
      split at hs
      · split at hs
        · rename_i hk
          cases hs
          obtain ⟨rfl, hci, h64, hn, hk0, hn2, hk2, hall⟩ := hk
          have hfree : ∀ j, j < _ + 1 → lm_kd h (h.2.2.2.2.2.1 + j) = 0 := fun j hj => by have := List.all_eq_true.mp hall j (List.mem_range.mpr hj); simpa using this
          have hr1 := hr.2.2.1
          have hr2 := hr.2.2.2
          simp only [lm_mul, lm_nc, lm_ns] at hr1 hr2
          have hw := lm_okn_all _ _ (lm_lookup_mem hlk)
          rcases hci with rfl | rfl
          · exact lm_t_mul (ty := .int) (K := 5) (ki := 1) (z := (_, .inl (fun _ => 0))) V hx hb hown hB (V.1 _ (lm_in (hw.2.1 rfl) rfl) args) (Or.inl rfl) (Or.inl rfl) V.2.2.2.1 (V.1 _ (List.mem_filter.mpr ⟨lm_arr_words.1, rfl⟩) args) (V.2.1.2 0 (cy 1, .int) rfl).2 (V.2.1.2 3 (cy 5, .array .int) rfl).2 (fun c9 => lm_inner_i c9 _) (fun ρ9 j9 hj9 => lm_mul_Ei ρ9 hj9) rfl rfl (by decide) hd G h64 hfree hn hk0 hn2 hk2 (by omega) (by omega) kk
          · exact lm_t_mul (ty := .long) (K := 6) (ki := 2) (z := (_, .inr (.inl (fun _ => 0)))) V hx hb hown hB (V.1 _ (lm_in (hw.2.2 rfl) rfl) args) (Or.inr rfl) (Or.inr rfl) V.2.2.2.2 (V.1 _ (List.mem_filter.mpr ⟨lm_arr_words.2, rfl⟩) args) (V.2.1.2 1 (cy 2, .long) rfl).2 (V.2.1.2 4 (cy 6, .array .long) rfl).2 (fun c9 => lm_inner_l c9 _) (fun ρ9 j9 hj9 => lm_mul_El ρ9 hj9) rfl rfl (by decide) hd G h64 hfree hn hk0 hn2 hk2 (by omega) (by omega) kk
        · cases hs
      · cases hs
    · cases hs
  case invokevirtual idx =>
    obtain rfl : len = 3 := eq_of_beq hln
    exact absurd hs (lm_iv_no0 _ _ _ _ _)
  case invokestatic idx =>
    obtain rfl : len = 3 := eq_of_beq hln
    exact lm_t_ivS V hx hb (hnl.trans hml.symm) hown hd G ⟨by omega, by omega, by omega, by omega⟩ hs kk
  case invokespecial idx =>
    obtain rfl : len = 3 := eq_of_beq hln
    exact lm_t_ivI V hx hb (hnl.trans hml.symm) hown hd G ⟨by omega, by omega, by omega, by omega⟩ hs kk
  all_goals exact absurd hs (by first | (intro z; cases z; done) | (simp only [lm_i]; (repeat' split) <;> simp))
end LMZ
