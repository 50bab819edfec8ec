section AMU
variable {w : aE} {m0 : aM} {d : Nat} {p : Program} {l : Launch} {e : Env} {R : Room} {s : State} {m : MethodId} {args : Array Value} {below : List Frame} {meth : Method} {c : Code} {Q : State → Prop}
variable {pc np r : Nat} {L : aL} {S : List Value} {h : aH} {k' : aK}
theorem am_ss_lt : ∀ q ∈ am_ss, q.2.2.1 < 3 ∧ (q.2.2.2 = false → q.1 = 8 ∧ q.2.1 = 284 ∧ q.2.2.1 = 0) := by decide
theorem am_next {i : Instr} (C : am_Cx w m0 d p l e R s m args below meth c) (hcd : am_cd m0 pc = some (i, np, r)) (hs : am_op (ae_al w) m0 i pc np r L S h = some (.inl k')) (hLl : L.length ≤ c.maxLocals) (hn1 : k'.2.2.2.length ≤ ae_n1 w) (hz1 : am_slt k'.2.2.2 ≤ ae_z1 w) (g : am_Gl w p l e R s m args below meth c Q k') : am_Gl w p l e R s m args below meth c Q (pc, L, S, h) := by
  have CC := C
  obtain ⟨hx, hb, hr, hml, hown, hts, hK, hSE, hlk, hnm, hA1, hRR, hm0⟩ := CC
  obtain ⟨n, hd, hnp, hsok⟩ := am_cd_ok hm0 hcd
  cases i with
  | tableswitch dd lo hi offs => exact so_tsw hx hb hd hs g
  | lookupswitch dd ps => exact so_lsw hx hb hd hs g
  | iconst n =>
    obtain ⟨rfl, rfl⟩ := hnp.resolve_left Bool.false_ne_true
    refine so_kn hs (fun ls H locs cells slots rest v h1 h2 h3 k => lv_iconst hx hb hd ?_ k) g
    rcases h3 with ⟨j, rfl, hj⟩ | ⟨j, rfl, hj⟩
    · rw [h1 j rfl hj]; exact (kn_8 ⟨j, hj⟩).1
    · rw [h2 j rfl hj]; exact (kn_8 ⟨j, hj⟩).2.1
  | bipush n =>
    obtain ⟨rfl, rfl⟩ := hnp.resolve_left Bool.false_ne_true
    refine so_kn hs (fun ls H locs cells slots rest v h1 h2 h3 k => lv_bipush hx hb hd ?_ k) g
    rcases h3 with ⟨j, rfl, hj⟩ | ⟨j, rfl, hj⟩
    · rw [h1 j rfl hj]; exact (kn_8 ⟨j, hj⟩).2.2.1
    · rw [h2 j rfl hj]; exact (kn_8 ⟨j, hj⟩).2.2.2
  | sipush n =>
    obtain ⟨rfl, rfl⟩ := hnp.resolve_left Bool.false_ne_true
    refine so_kn hs (fun ls H locs cells slots rest v h1 h2 h3 k => lv_sipush hx hb hd ?_ k) g
    rcases h3 with ⟨j, rfl, hj⟩ | ⟨j, rfl, hj⟩
    · rw [h1 j rfl hj]; exact (kn_16 ⟨j, hj⟩).1
    · rw [h2 j rfl hj]; exact (kn_16 ⟨j, hj⟩).2
  | lconst n =>
    obtain ⟨rfl, rfl⟩ := hnp.resolve_left Bool.false_ne_true
    cases hs
    exact so_push _ (fun ls H locs cells slots rest k => lv_lconst hx hb hd rfl k) rfl g
  | ldc x =>
    obtain ⟨rfl, rfl⟩ := hnp.resolve_left Bool.false_ne_true
    simp only [am_op, am_ldc] at hs
    split at hs
    · rename_i h9
      cases hs
      simp only [am_sok, h9, if_true, decide_eq_true_eq] at hsok
      obtain ⟨h8, rfl⟩ := hsok
      intro ls H locs cells slots hp hl
      rw [h8] at hown
      exact va_ldcS hx hb hown hSE.2.2.2.2.1 hd (g ls H locs cells slots hp hl)
    · rename_i h9
      simp only [am_sok, h9, if_false] at hsok
      split at hs
      · rename_i a b v hk
        cases hs
        rw [hk] at hsok
        simp only [decide_eq_true_eq] at hsok
        obtain ⟨rfl, rfl⟩ := hsok
        exact so_push _ (fun ls H locs cells slots rest k => lv_ldc hx hb hown (hts _ (am_in_ks (List.mem_of_getElem? hk))) hd k) rfl g
      · rename_i a b v hk
        rw [hk] at hsok
        cases hsok
      · cases hs
  | ldc_w x =>
    obtain ⟨rfl, rfl⟩ := hnp.resolve_left Bool.false_ne_true
    simp only [am_op, am_ldc] at hs
    split at hs
    · rename_i h9
      simp only [am_sok, h9, if_true] at hsok
      cases hsok
    · rename_i h9
      simp only [am_sok, h9, if_false] at hsok
      split at hs
      · rename_i a b v hk
        cases hs
        rw [hk] at hsok
        simp only [decide_eq_true_eq] at hsok
        obtain ⟨rfl, rfl⟩ := hsok
        exact so_push _ (fun ls H locs cells slots rest k => lv_ldcw hx hb hown (hts _ (am_in_ks (List.mem_of_getElem? hk))) hd k) rfl g
      · rename_i a b v hk
        rw [hk] at hsok
        cases hsok
      · cases hs
  | ldc2_w x =>
    obtain ⟨rfl, rfl⟩ := hnp.resolve_left Bool.false_ne_true
    simp only [am_op, am_ldc] at hs
    split at hs
    · rename_i h9
      simp only [am_sok, h9, if_true] at hsok
      cases hsok
    · rename_i h9
      simp only [am_sok, h9, if_false] at hsok
      split at hs
      · rename_i a b v hk
        rw [hk] at hsok
        cases hsok
      · rename_i a b v hk
        cases hs
        rw [hk] at hsok
        simp only [decide_eq_true_eq] at hsok
        obtain ⟨rfl, rfl⟩ := hsok
        exact so_push _ (fun ls H locs cells slots rest k => lv_ldc2 hx hb hown (hts _ (am_in_ks (List.mem_of_getElem? hk))) hd k) rfl g
      · cases hs
  | iload_n k =>
    obtain ⟨rfl, rfl⟩ := hnp.resolve_left Bool.false_ne_true
    exact so_loadi _ hs (fun ls H locs cells slots rest x h1 k => lv_iload_n hx hb hd rfl h1 k) g
  | iload k =>
    obtain ⟨rfl, rfl⟩ := hnp.resolve_left Bool.false_ne_true
    exact so_loadi _ hs (fun ls H locs cells slots rest x h1 k => lv_iload hx hb hd h1 k) g
  | lload_n k =>
    obtain ⟨rfl, rfl⟩ := hnp.resolve_left Bool.false_ne_true
    exact so_loadl _ hs (fun ls H locs cells slots rest x h1 k => lv_lload_n hx hb hd rfl h1 k) g
  | aload_n k =>
    obtain ⟨rfl, rfl⟩ := hnp.resolve_left Bool.false_ne_true
    exact so_loada _ hs (fun ls H locs cells slots rest x h1 k => lv_aload_n hx hb hd rfl h1 k) g
  | aload k =>
    obtain ⟨rfl, rfl⟩ := hnp.resolve_left Bool.false_ne_true
    exact so_loada _ hs (fun ls H locs cells slots rest x h1 k => lv_aload hx hb hd h1 k) g
  | istore_n k =>
    obtain ⟨rfl, rfl⟩ := hnp.resolve_left Bool.false_ne_true
    exact so_stori _ hs hLl (fun ls H locs cells slots rest x lv h1 h2 k => lv_istore_n hx hb hd rfl h1 h2 rfl k) g
  | istore k =>
    obtain ⟨rfl, rfl⟩ := hnp.resolve_left Bool.false_ne_true
    exact so_stori _ hs hLl (fun ls H locs cells slots rest x lv h1 h2 k => lv_istore hx hb hd h1 h2 rfl k) g
  | lstore_n k =>
    obtain ⟨rfl, rfl⟩ := hnp.resolve_left Bool.false_ne_true
    exact so_storl _ hs hLl (fun ls H locs cells slots rest x lv h1 h2 k => lv_lstore_n hx hb hd rfl h1 h2 rfl k) g
  | iinc k n =>
    obtain ⟨rfl, rfl⟩ := hnp.resolve_left Bool.false_ne_true
    exact so_iinc _ _ hs hLl (fun ls H locs cells slots rest x lv kk h1 h2 h3 k => lv_iinc hx hb hd h1 h2 rfl h3 rfl k) g
  | iadd =>
    obtain ⟨rfl, rfl⟩ := hnp.resolve_left Bool.false_ne_true
    exact so_bin (i := .iadd) hs (fun ls H locs cells slots rest x y v hv k => by cases hv; exact lv_iadd hx hb hd k) g
  | isub =>
    obtain ⟨rfl, rfl⟩ := hnp.resolve_left Bool.false_ne_true
    exact so_bin (i := .isub) hs (fun ls H locs cells slots rest x y v hv k => by cases hv; exact lv_isub hx hb hd k) g
  | imul =>
    obtain ⟨rfl, rfl⟩ := hnp.resolve_left Bool.false_ne_true
    exact so_bin (i := .imul) hs (fun ls H locs cells slots rest x y v hv k => by cases hv; exact lv_imul hx hb hd k) g
  | iand =>
    obtain ⟨rfl, rfl⟩ := hnp.resolve_left Bool.false_ne_true
    exact so_bin (i := .iand) hs (fun ls H locs cells slots rest x y v hv k => by cases hv; exact lv_iand hx hb hd k) g
  | ior =>
    obtain ⟨rfl, rfl⟩ := hnp.resolve_left Bool.false_ne_true
    exact so_bin (i := .ior) hs (fun ls H locs cells slots rest x y v hv k => by cases hv; exact lv_ior hx hb hd k) g
  | ixor =>
    obtain ⟨rfl, rfl⟩ := hnp.resolve_left Bool.false_ne_true
    exact so_bin (i := .ixor) hs (fun ls H locs cells slots rest x y v hv k => by cases hv; exact lv_ixor hx hb hd k) g
  | ishl =>
    obtain ⟨rfl, rfl⟩ := hnp.resolve_left Bool.false_ne_true
    exact so_bin (i := .ishl) hs (fun ls H locs cells slots rest x y v hv k => by cases hv; exact lv_ishl hx hb hd k) g
  | ishr =>
    obtain ⟨rfl, rfl⟩ := hnp.resolve_left Bool.false_ne_true
    exact so_bin (i := .ishr) hs (fun ls H locs cells slots rest x y v hv k => by cases hv; exact lv_ishr hx hb hd k) g
  | iushr =>
    obtain ⟨rfl, rfl⟩ := hnp.resolve_left Bool.false_ne_true
    exact so_bin (i := .iushr) hs (fun ls H locs cells slots rest x y v hv k => by cases hv; exact lv_iushr hx hb hd rfl k) g
  | idiv =>
    obtain ⟨rfl, rfl⟩ := hnp.resolve_left Bool.false_ne_true
    exact so_bin (i := .idiv) hs (fun ls H locs cells slots rest x y v hv k => by
      simp only [am_b2] at hv
      split at hv
      · cases hv
      · rename_i h0; cases hv; exact lv_idiv hx hb hd h0 k) g
  | irem =>
    obtain ⟨rfl, rfl⟩ := hnp.resolve_left Bool.false_ne_true
    exact so_bin (i := .irem) hs (fun ls H locs cells slots rest x y v hv k => by
      simp only [am_b2] at hv
      split at hv
      · cases hv
      · rename_i h0; cases hv; exact lv_irem hx hb hd h0 k) g
  | ladd =>
    obtain ⟨rfl, rfl⟩ := hnp.resolve_left Bool.false_ne_true
    exact so_lin (i := .ladd) hs (fun ls H locs cells slots rest x y v hv k => by cases hv; exact lv_ladd hx hb hd k) g
  | lmul =>
    obtain ⟨rfl, rfl⟩ := hnp.resolve_left Bool.false_ne_true
    exact so_lin (i := .lmul) hs (fun ls H locs cells slots rest x y v hv k => by cases hv; exact lv_lmul hx hb hd k) g
  | land =>
    obtain ⟨rfl, rfl⟩ := hnp.resolve_left Bool.false_ne_true
    exact so_lin (i := .land) hs (fun ls H locs cells slots rest x y v hv k => by cases hv; exact lv_land hx hb hd k) g
  | lrem =>
    obtain ⟨rfl, rfl⟩ := hnp.resolve_left Bool.false_ne_true
    exact so_lin (i := .lrem) hs (fun ls H locs cells slots rest x y v hv k => by
      simp only [am_l2] at hv
      split at hv
      · cases hv
      · rename_i h0; cases hv; exact lv_lrem hx hb hd h0 k) g
  | lshr =>
    obtain ⟨rfl, rfl⟩ := hnp.resolve_left Bool.false_ne_true
    simp only [am_op] at hs
    split at hs
    · cases hs
      intro ls H locs cells slots hp hl
      exact lv_lshr hx hb hd rfl (g ls H locs cells slots hp hl)
    · cases hs
  | i2l =>
    obtain ⟨rfl, rfl⟩ := hnp.resolve_left Bool.false_ne_true
    exact so_uno (i := .i2l) hs (fun ls H locs cells slots rest v v' hv => by
      unfold am_un at hv
      split at hv <;> first | (rename_i e1; cases e1; cases hv; exact ⟨rfl, rfl, fun k => lv_i2l hx hb hd rfl k⟩) | (cases hv; exact ⟨rfl, rfl, fun k => lv_i2l hx hb hd rfl k⟩) | (exfalso; simp_all; done) | cases hv) g
  | l2i =>
    obtain ⟨rfl, rfl⟩ := hnp.resolve_left Bool.false_ne_true
    exact so_uno (i := .l2i) hs (fun ls H locs cells slots rest v v' hv => by
      cases v <;> simp only [am_un] at hv <;> cases hv
      exact ⟨rfl, rfl, fun k => lv_l2i hx hb hd rfl k⟩) g
  | i2b =>
    obtain ⟨rfl, rfl⟩ := hnp.resolve_left Bool.false_ne_true
    exact so_uno (i := .i2b) hs (fun ls H locs cells slots rest v v' hv => by
      cases v <;> simp only [am_un] at hv <;> cases hv
      exact ⟨rfl, rfl, fun k => lv_i2b hx hb hd rfl k⟩) g
  | i2c =>
    obtain ⟨rfl, rfl⟩ := hnp.resolve_left Bool.false_ne_true
    exact so_uno (i := .i2c) hs (fun ls H locs cells slots rest v v' hv => by
      cases v <;> simp only [am_un] at hv <;> cases hv
      exact ⟨rfl, rfl, fun k => lv_i2c hx hb hd rfl k⟩) g
  | dup =>
    obtain ⟨rfl, rfl⟩ := hnp.resolve_left Bool.false_ne_true
    simp only [am_op] at hs
    split at hs
    · split at hs
      · rename_i hc
        cases hs
        intro ls H locs cells slots hp hl
        exact lv_dup hx hb hd (by rw [am_v_cat]; exact hc) (g ls H locs cells slots hp hl)
      · cases hs
    · cases hs
  | dup2 =>
    obtain ⟨rfl, rfl⟩ := hnp.resolve_left Bool.false_ne_true
    simp only [am_op] at hs
    split at hs
    · split at hs
      · rename_i hc
        cases hs
        intro ls H locs cells slots hp hl
        exact lv_dup2_11 hx hb hd (by rw [am_v_cat]; exact hc.1) (by rw [am_v_cat]; exact hc.2) (g ls H locs cells slots hp hl)
      · cases hs
    · cases hs
  | pop =>
    obtain ⟨rfl, rfl⟩ := hnp.resolve_left Bool.false_ne_true
    simp only [am_op] at hs
    split at hs
    · split at hs
      · rename_i hc
        cases hs
        intro ls H locs cells slots hp hl
        exact lv_pop hx hb hd (by rw [am_v_cat]; exact hc) (g ls H locs cells slots hp hl)
      · cases hs
    · cases hs
  | ifCond cnd off =>
    obtain ⟨rfl, rfl⟩ := hnp.resolve_left Bool.false_ne_true
    simp only [am_sok, decide_eq_true_eq] at hsok
    refine so_if hs (fun ls H locs cells slots rest x kt kf => ?_) g
    cases cnd
    · exact lv_if_eq hx hb hd hsok (fun hc => kt (by simpa [am_c2] using hc)) (fun hc => kf (by simpa [am_c2] using hc))
    · exact lv_if_ne hx hb hd hsok (fun hc => kt (by simpa [am_c2] using hc)) (fun hc => kf (by simpa [am_c2] using hc))
    · exact lv_if_lt hx hb hd hsok (fun hc => kt (by simpa only [am_c2, decide_eq_true_eq] using hc)) (fun hc => kf (by simpa only [am_c2, decide_eq_false_iff_not] using hc))
    · exact lv_if_ge hx hb hd hsok (fun hc => kt (by simpa only [am_c2, decide_eq_true_eq] using hc)) (fun hc => kf (by simpa only [am_c2, decide_eq_false_iff_not] using hc))
    · exact lv_if_gt hx hb hd hsok (fun hc => kt (by simpa only [am_c2, decide_eq_true_eq] using hc)) (fun hc => kf (by simpa only [am_c2, decide_eq_false_iff_not] using hc))
    · exact lv_if_le hx hb hd hsok (fun hc => kt (by simpa only [am_c2, decide_eq_true_eq] using hc)) (fun hc => kf (by simpa only [am_c2, decide_eq_false_iff_not] using hc))
  | if_icmp cnd off =>
    obtain ⟨rfl, rfl⟩ := hnp.resolve_left Bool.false_ne_true
    simp only [am_sok, decide_eq_true_eq] at hsok
    refine so_icmp hs (fun ls H locs cells slots rest x y kt kf => ?_) g
    cases cnd
    · exact lv_icmp_eq hx hb hd hsok (fun hc => kt (by simpa [am_c2] using hc)) (fun hc => kf (by simpa [am_c2] using hc))
    · exact lv_icmp_ne hx hb hd hsok (fun hc => kt (by simpa [am_c2] using hc)) (fun hc => kf (by simpa [am_c2] using hc))
    · exact lv_icmp_lt hx hb hd hsok (fun hc => kt (by simpa only [am_c2, decide_eq_true_eq] using hc)) (fun hc => kf (by simpa only [am_c2, decide_eq_false_iff_not] using hc))
    · exact lv_icmp_ge hx hb hd hsok (fun hc => kt (by simpa only [am_c2, decide_eq_true_eq] using hc)) (fun hc => kf (by simpa only [am_c2, decide_eq_false_iff_not] using hc))
    · exact lv_icmp_gt hx hb hd hsok (fun hc => kt (by simpa only [am_c2, decide_eq_true_eq] using hc)) (fun hc => kf (by simpa only [am_c2, decide_eq_false_iff_not] using hc))
    · exact lv_icmp_le hx hb hd hsok (fun hc => kt (by simpa only [am_c2, decide_eq_true_eq] using hc)) (fun hc => kf (by simpa only [am_c2, decide_eq_false_iff_not] using hc))
  | goto off =>
    obtain ⟨rfl, rfl⟩ := hnp.resolve_left Bool.false_ne_true
    simp only [am_sok, decide_eq_true_eq] at hsok
    cases hs
    intro ls H locs cells slots hp hl
    exact lv_goto hx hb hd hsok (g ls H locs cells slots hp hl)
  | iaload =>
    obtain ⟨rfl, rfl⟩ := hnp.resolve_left Bool.false_ne_true
    exact so_ald 0 C hs (fun ls H locs cells slots rest a k n f i hP ha hin kk => va_iald hx hb hK hP k 0 ha rfl hin hd kk) (fun ls H locs cells slots rest j i x _ hj hS hin hv kk => va_ti hx hb (hSE.2.2.2.1 j hj).2 hS hin (v := .int x) (by rw [hv]) hd kk) g
  | caload =>
    obtain ⟨rfl, rfl⟩ := hnp.resolve_left Bool.false_ne_true
    exact so_ald 1 C hs (fun ls H locs cells slots rest a k n f i hP ha hin kk => va_cald hx hb hK hP k 1 ha rfl hin hd kk) (fun ls H locs cells slots rest j i x h0 => absurd h0 (by decide)) g
  | baload =>
    obtain ⟨rfl, rfl⟩ := hnp.resolve_left Bool.false_ne_true
    exact so_ald 2 C hs (fun ls H locs cells slots rest a k n f i hP ha hin kk => va_bald hx hb hK hP k 2 ha rfl hin hd kk) (fun ls H locs cells slots rest j i x h0 => absurd h0 (by decide)) g
  | iastore =>
    obtain ⟨rfl, rfl⟩ := hnp.resolve_left Bool.false_ne_true
    exact so_ast 0 .int (Or.inl ⟨rfl, rfl⟩) C hs (fun ls H locs cells slots rest a i x cell h1 h2 h3 h4 kk => W.iast hx hb h1 h2 h3 h4 rfl rfl hd kk) g
  | castore =>
    obtain ⟨rfl, rfl⟩ := hnp.resolve_left Bool.false_ne_true
    exact so_ast 1 .char (Or.inr (Or.inl ⟨rfl, rfl⟩)) C hs (fun ls H locs cells slots rest a i x cell h1 h2 h3 h4 kk => W.cast hx hb h1 h2 h3 h4 rfl rfl hd kk) g
  | bastore =>
    obtain ⟨rfl, rfl⟩ := hnp.resolve_left Bool.false_ne_true
    exact so_ast 2 .byte (Or.inr (Or.inr ⟨rfl, rfl⟩)) C hs (fun ls H locs cells slots rest a i x cell h1 h2 h3 h4 kk => W.bast hx hb h1 h2 h3 h4 rfl rfl hd kk) g
  | aaload =>
    obtain ⟨rfl, rfl⟩ := hnp.resolve_left Bool.false_ne_true
    exact so_aald C hd hs g
  | aastore =>
    obtain ⟨rfl, rfl⟩ := hnp.resolve_left Bool.false_ne_true
    exact so_aast C hd hs g
  | arraylength =>
    obtain ⟨rfl, rfl⟩ := hnp.resolve_left Bool.false_ne_true
    simp only [am_op] at hs
    split at hs
    · split at hs
      · rename_i t la hla
        split at hs
        · rename_i ht
          cases hs
          exact so_alen C hd hla ht g
        · cases hs
      · cases hs
    · cases hs
  | getfield x =>
    obtain ⟨rfl, rfl⟩ := hnp.resolve_left Bool.false_ne_true
    simp only [am_op] at hs
    split at hs
    · rename_i q hq
      simp only [am_sok, hq, decide_eq_true_eq] at hsok
      obtain ⟨h1, rfl⟩ := hsok
      exact so_get C hq h1 hd hs g
    · cases hs
  | putfield x =>
    obtain ⟨rfl, rfl⟩ := hnp.resolve_left Bool.false_ne_true
    simp only [am_op] at hs
    split at hs
    · rename_i q hq
      simp only [am_sok, hq, decide_eq_true_eq] at hsok
      obtain ⟨h1, rfl⟩ := hsok
      exact so_put C hq h1 hd hs g
    · cases hs
  | getstatic x =>
    obtain ⟨rfl, rfl⟩ := hnp.resolve_left Bool.false_ne_true
    simp only [am_op] at hs
    split at hs
    · rename_i q hq
      simp only [am_sok, hq, decide_eq_true_eq] at hsok
      obtain ⟨h1, rfl⟩ := hsok
      cases hs
      have hmem := List.mem_of_getElem? hq
      obtain ⟨hj, hne⟩ := am_ss_lt q hmem
      intro ls H locs cells slots hp hl
      have g1 := g ls H locs cells slots hp hl
      have e1 : am_v (ae_s w) (.ref (100000 + q.2.2.1)) = .ref (ae_ts w q.2.2.1) := by simp only [am_v, am_sg, if_neg (show ¬ 100000 + q.2.2.1 < 100000 by omega), Nat.add_sub_cancel_left]
      simp only [List.map_cons, e1] at g1
      by_cases hn : q.2.2.2 = true
      · have w1 := hSE.2.1 q hmem hn
        rw [h1] at w1
        exact va_getsN hx hb (hSE.2.2.2.1 _ hj).1 hp.2.2.1 hown (va_Nw.use rfl w1) (fun x h => h) hd g1
      · have hn : q.2.2.2 = false := by simpa using hn
        obtain ⟨a1, a2, a3⟩ := hne hn
        rw [h1] at a1
        rw [a1] at hown
        rw [a2] at hd
        rw [a3] at g1
        exact va_gets hx hb (hSE.2.2.2.1 0 (by decide)).1 hp.2.2.1 hown (hts _ (am_in_xw xw_3)) (fun x h => h) hd g1
    · cases hs
  | invokevirtual x =>
    obtain ⟨rfl, rfl⟩ := hnp.resolve_left Bool.false_ne_true
    simp only [am_op] at hs
    split at hs
    · rename_i q hq
      simp only [am_sok, hq, decide_eq_true_eq] at hsok
      obtain ⟨h1, rfl, h2⟩ := hsok
      exact so_prim C hq h1 _ hd (Or.inl ⟨rfl, h2⟩) hs g
    · cases hs
  | invokestatic x =>
    obtain ⟨rfl, rfl⟩ := hnp.resolve_left Bool.false_ne_true
    simp only [am_op] at hs
    split at hs
    · rename_i q hq
      simp only [am_sok, hq, decide_eq_true_eq] at hsok
      obtain ⟨h1, rfl, h2⟩ := hsok
      exact so_prim C hq h1 _ hd (Or.inr (Or.inl ⟨rfl, h2⟩)) hs g
    · cases hs
  | invokespecial x =>
    obtain ⟨rfl, rfl⟩ := hnp.resolve_left Bool.false_ne_true
    simp only [am_op] at hs
    split at hs
    · rename_i q hq
      simp only [am_sok, hq, decide_eq_true_eq] at hsok
      obtain ⟨h1, rfl, h2⟩ := hsok
      exact so_prim C hq h1 _ hd (Or.inr (Or.inr ⟨rfl, h2⟩)) hs g
    · cases hs
  | new x =>
    obtain ⟨rfl, rfl⟩ := hnp.resolve_left Bool.false_ne_true
    cases hq : am_cs[r]? with
    | none => simp only [am_sok, hq] at hsok; cases hsok
    | some q =>
      simp only [am_sok, hq, decide_eq_true_eq] at hsok
      obtain ⟨h1, rfl⟩ := hsok
      exact so_new C hq h1 hd hs hn1 hz1 g
  | newarray t =>
    obtain ⟨rfl, rfl⟩ := hnp.resolve_left Bool.false_ne_true
    exact so_newa C hd hs hn1 hz1 g
  | anewarray x =>
    obtain ⟨rfl, rfl⟩ := hnp.resolve_left Bool.false_ne_true
    cases hq : am_cs[r]? with
    | none => simp only [am_sok, hq] at hsok; cases hsok
    | some q =>
      simp only [am_sok, hq, decide_eq_true_eq] at hsok
      obtain ⟨h1, rfl⟩ := hsok
      exact so_anew C hq h1 hd hs hn1 hz1 g
  | ireturn =>
    simp only [am_op, am_iret] at hs
    split at hs
    · split at hs
      · split at hs <;> cases hs
      · cases hs
    · cases hs
  | return_ =>
    simp only [am_op] at hs
    split at hs
    · split at hs <;> cases hs
    · cases hs
  | _ => cases hs
end AMU
