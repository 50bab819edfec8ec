/-! one step of the abstract machine is one step of the machine -/
section AMR
variable {w : aE} {m0 : aM} {d : Nat} {p : Program} {l : Launch} {e : Env} {R : Room} {s : State} {m : MethodId} {args : Array Value} {below : List Frame} {meth : Method} {c : Code} {Q : State → Prop}
variable {pc np r : Nat} {L : aL} {S : List Value} {h : aH} {k' : aK}
theorem am_cl_ty {ci : Nat} (h : ci < 10) : ∃ ty0 : Nat → FieldType, (∀ k, k < (am_cl ci).2.2 → parseFieldDescriptor ((am_cl ci).2.1 k).2.2.1 = some (ty0 k)) ∧ ∀ a, a < (am_cl ci).2.2 → ∀ b, b < (am_cl ci).2.2 → a ≠ b → ((am_cl ci).2.1 a).2.1 ≠ ((am_cl ci).2.1 b).2.1 := by
  match ci, h with
  | 0, _ => exact ⟨tyX0, tyX0_ok, nmX0⟩
  | 1, _ => exact ⟨tyX1, tyX1_ok, nmX1⟩
  | 2, _ => exact ⟨tyX2, tyX2_ok, nmX2⟩
  | 3, _ => exact ⟨tyX3, tyX3_ok, nmX3⟩
  | 4, _ => exact ⟨tyX4, tyX4_ok, nmX4⟩
  | 5, _ => exact ⟨tyX5, tyX5_ok, nmX5⟩
  | 6, _ => exact ⟨tyX6, tyX6_ok, nmX6⟩
  | 7, _ => exact ⟨tyX7, tyX7_ok, nmX7⟩
  | 8, _ => exact ⟨tyX8, tyX8_ok, nmX8⟩
  | 9, _ => exact ⟨tyX9, tyX9_ok, nmX9⟩
theorem so_push (v : Value) (hrow : ∀ (ls : Array Slot) (H : Heap) (locs : List Loc) (cells slots : Nat) (rest : List Value), W p l e R s m args below meth c H locs cells slots Q (F0 m np ls (v :: rest)) → W p l e R s m args below meth c H locs cells slots Q (F0 m pc ls rest)) (hv : am_v (ae_s w) v = v) (g : am_Gl w p l e R s m args below meth c Q (np, L, v :: S, h)) : am_Gl w p l e R s m args below meth c Q (pc, L, S, h) := by
  intro ls H locs cells slots hp hl
  refine hrow ls H locs cells slots _ ?_
  have g1 := g ls H locs cells slots hp hl
  simp only [List.map_cons, hv] at g1
  exact g1
theorem so_loadi (i : Nat) (hs : am_loadi i np L S h = some (.inl k')) (hrow : ∀ (ls : Array Slot) (H : Heap) (locs : List Loc) (cells slots : Nat) (rest : List Value) (x : Int32), ls[i]? = some (.val (.int x)) → W p l e R s m args below meth c H locs cells slots Q (F0 m np ls (.int x :: rest)) → W p l e R s m args below meth c H locs cells slots Q (F0 m pc ls rest)) (g : am_Gl w p l e R s m args below meth c Q k') : am_Gl w p l e R s m args below meth c Q (pc, L, S, h) := by
  unfold am_loadi at hs
  split at hs
  · rename_i x hx
    cases hs
    intro ls H locs cells slots hp hl
    exact hrow ls H locs cells slots _ x (am_lv_at hl hx) (g ls H locs cells slots hp hl)
  · cases hs
theorem so_loadl (i : Nat) (hs : am_loadl i np L S h = some (.inl k')) (hrow : ∀ (ls : Array Slot) (H : Heap) (locs : List Loc) (cells slots : Nat) (rest : List Value) (x : Int64), ls[i]? = some (.val (.long x)) → W p l e R s m args below meth c H locs cells slots Q (F0 m np ls (.long x :: rest)) → W p l e R s m args below meth c H locs cells slots Q (F0 m pc ls rest)) (g : am_Gl w p l e R s m args below meth c Q k') : am_Gl w p l e R s m args below meth c Q (pc, L, S, h) := by
  unfold am_loadl at hs
  split at hs
  · rename_i x hx
    cases hs
    intro ls H locs cells slots hp hl
    exact hrow ls H locs cells slots _ x (am_lv_at hl hx) (g ls H locs cells slots hp hl)
  · cases hs
theorem so_loada (i : Nat) (hs : am_loada i np L S h = some (.inl k')) (hrow : ∀ (ls : Array Slot) (H : Heap) (locs : List Loc) (cells slots : Nat) (rest : List Value) (x : Nat), ls[i]? = some (.val (.ref x)) → W p l e R s m args below meth c H locs cells slots Q (F0 m np ls (.ref x :: rest)) → W p l e R s m args below meth c H locs cells slots Q (F0 m pc ls rest)) (g : am_Gl w p l e R s m args below meth c Q k') : am_Gl w p l e R s m args below meth c Q (pc, L, S, h) := by
  unfold am_loada at hs
  split at hs
  · rename_i x hx
    cases hs
    intro ls H locs cells slots hp hl
    exact hrow ls H locs cells slots _ (ae_s w x) (am_lv_at hl hx) (g ls H locs cells slots hp hl)
  · cases hs
theorem so_stori (i : Nat) (hs : am_stori i np L S h = some (.inl k')) (hLl : L.length ≤ c.maxLocals) (hrow : ∀ (ls : Array Slot) (H : Heap) (locs : List Loc) (cells slots : Nat) (rest : List Value) (x : Int32) (lv : List (Nat × Value)), lv_has ls c.maxLocals lv → i < c.maxLocals → (∀ ls' : Array Slot, lv_has ls' c.maxLocals ((i, Value.int x) :: lv.filter (fun q => !(q.1 == i) && !(q.1 + 1 == i && q.2.category == 2))) → W p l e R s m args below meth c H locs cells slots Q (F0 m np ls' rest)) → W p l e R s m args below meth c H locs cells slots Q (F0 m pc ls (.int x :: rest))) (g : am_Gl w p l e R s m args below meth c Q k') : am_Gl w p l e R s m args below meth c Q (pc, L, S, h) := by
  unfold am_stori at hs
  split at hs
  · rename_i x S'
    split at hs
    · rename_i hi
      cases hs
      intro ls H locs cells slots hp hl
      exact hrow ls H locs cells slots _ x _ hl (Nat.lt_of_lt_of_le hi.1 hLl) (fun ls' hl' => g ls' H locs cells slots hp (am_lv_st (v := .int x) hl' hi.2))
    · cases hs
  · cases hs
theorem so_storl (i : Nat) (hs : am_storl i np L S h = some (.inl k')) (hLl : L.length ≤ c.maxLocals) (hrow : ∀ (ls : Array Slot) (H : Heap) (locs : List Loc) (cells slots : Nat) (rest : List Value) (x : Int64) (lv : List (Nat × Value)), lv_has ls c.maxLocals lv → i + 1 < c.maxLocals → (∀ ls' : Array Slot, lv_has ls' c.maxLocals ((i, Value.long x) :: lv.filter (fun q => !(q.1 == i) && (!(q.1 == i + 1) && !(q.1 + 1 == i && q.2.category == 2)))) → W p l e R s m args below meth c H locs cells slots Q (F0 m np ls' rest)) → W p l e R s m args below meth c H locs cells slots Q (F0 m pc ls (.long x :: rest))) (g : am_Gl w p l e R s m args below meth c Q k') : am_Gl w p l e R s m args below meth c Q (pc, L, S, h) := by
  unfold am_storl at hs
  split at hs
  · rename_i x S'
    split at hs
    · rename_i hi
      cases hs
      intro ls H locs cells slots hp hl
      exact hrow ls H locs cells slots _ x _ hl (Nat.lt_of_lt_of_le hi.1 hLl) (fun ls' hl' => g ls' H locs cells slots hp (am_lv_st2 hl' hi.2))
    · cases hs
  · cases hs
theorem kn_8 : ∀ k : Fin 128, Int32.ofInt (Int.ofNat k) = nI k ∧ Int32.ofInt (Int.negSucc k) = -(nI (k + 1)) ∧ (Int8.ofInt (Int.ofNat k)).toInt32 = nI k ∧ (Int8.ofInt (Int.negSucc k)).toInt32 = -(nI (k + 1)) := by decide +kernel
theorem kn_16a : ∀ a b : Fin 100, (Int16.ofInt (Int.ofNat (100 * a.val + b.val))).toInt32 = nI (100 * a.val + b.val) ∧ (Int16.ofInt (Int.negSucc (100 * a.val + b.val))).toInt32 = -(nI (100 * a.val + b.val + 1)) := by decide +kernel
theorem kn_16 (k : Fin 10000) : (Int16.ofInt (Int.ofNat k.val)).toInt32 = nI k.val ∧ (Int16.ofInt (Int.negSucc k.val)).toInt32 = -(nI (k.val + 1)) := by
  have h := kn_16a ⟨k.val / 100, by omega⟩ ⟨k.val % 100, by omega⟩
  have e : 100 * (k.val / 100) + k.val % 100 = k.val := by omega
  simp only [e] at h
  exact h
theorem so_kn {b : Nat} {n : Int} (hs : am_kn b n r np L S h = some (.inl k')) (hrow : ∀ (ls : Array Slot) (H : Heap) (locs : List Loc) (cells slots : Nat) (rest : List Value) (v : Int32), (∀ k, n = .ofNat k → k < b → v = nI k) → (∀ k, n = .negSucc k → k < b → v = -(nI (k + 1))) → ((∃ k, n = .ofNat k ∧ k < b) ∨ ∃ k, n = .negSucc k ∧ k < b) → W p l e R s m args below meth c H locs cells slots Q (F0 m np ls (.int v :: rest)) → W p l e R s m args below meth c H locs cells slots Q (F0 m pc ls rest)) (g : am_Gl w p l e R s m args below meth c Q k') : am_Gl w p l e R s m args below meth c Q (pc, L, S, h) := by
  unfold am_kn at hs
  split at hs
  · rename_i k
    split at hs
    · rename_i hk
      obtain ⟨rfl, hk⟩ := hk
      cases hs
      intro ls H locs cells slots hp hl
      refine hrow ls H locs cells slots _ (nI k) (fun j hj _ => ?_) (fun j hj => ?_) (Or.inl ⟨k, rfl, hk⟩) (g ls H locs cells slots hp hl)
      · cases hj; rfl
      · cases hj
    · cases hs
  · rename_i k
    split at hs
    · rename_i hk
      obtain ⟨rfl, hk⟩ := hk
      cases hs
      intro ls H locs cells slots hp hl
      refine hrow ls H locs cells slots _ (-(nI (k + 1))) (fun j hj => ?_) (fun j hj _ => ?_) (Or.inr ⟨k, rfl, hk⟩) (g ls H locs cells slots hp hl)
      · cases hj
      · cases hj; rfl
    · cases hs
theorem so_iinc (i : Nat) (n : Int) (hs : am_iinc i n r np L S h = some (.inl k')) (hLl : L.length ≤ c.maxLocals) (hrow : ∀ (ls : Array Slot) (H : Heap) (locs : List Loc) (cells slots : Nat) (rest : List Value) (x : Int32) (lv : List (Nat × Value)) (kk : Nat), lv_has ls c.maxLocals lv → lv[kk]? = some (i, .int x) → i < c.maxLocals → (∀ ls' : Array Slot, lv_has ls' c.maxLocals ((i, Value.int (x + Int32.ofInt n)) :: lv.filter (fun q => !(q.1 == i) && !(q.1 + 1 == i && q.2.category == 2))) → W p l e R s m args below meth c H locs cells slots Q (F0 m np ls' rest)) → W p l e R s m args below meth c H locs cells slots Q (F0 m pc ls rest)) (g : am_Gl w p l e R s m args below meth c Q k') : am_Gl w p l e R s m args below meth c Q (pc, L, S, h) := by
  unfold am_iinc at hs
  split at hs
  · rename_i x hx
    split at hs
    · rename_i hi
      have h1 := am_ld_at hx
      have fin : ∀ y : Int32, x + Int32.ofInt n = y → k' = (np, L.set i (some (.int y)), S, h) → am_Gl w p l e R s m args below meth c Q (pc, L, S, h) := by
        intro y hy hk'
        subst hk'
        intro ls H locs cells slots hp hl
        obtain ⟨kk, hkk⟩ := List.getElem?_of_mem (am_lv_mem (f := ae_s w).mpr ⟨.int x, h1, rfl⟩)
        exact hrow ls H locs cells slots _ x _ kk hl hkk (Nat.lt_of_lt_of_le (List.getElem?_eq_some_iff.mp h1).1 hLl) (fun ls' hl' => g ls' H locs cells slots hp (am_lv_st (v := .int y) (by rw [hy] at hl'; exact hl') hi))
      split at hs
      · rename_i k
        split at hs
        · rename_i hk
          obtain ⟨rfl, hk⟩ := hk
          cases hs
          exact fin _ (by rw [(kn_8 ⟨k, hk⟩).1]) rfl
        · cases hs
      · rename_i k
        split at hs
        · rename_i hk
          obtain ⟨rfl, hk⟩ := hk
          cases hs
          exact fin _ (by rw [(kn_8 ⟨k, hk⟩).2.1, Int32.sub_eq_add_neg]) rfl
        · cases hs
    · cases hs
  · cases hs
theorem so_bin {i : Instr} (hs : am_bin i np L S h = some (.inl k')) (hrow : ∀ (ls : Array Slot) (H : Heap) (locs : List Loc) (cells slots : Nat) (rest : List Value) (x y v : Int32), am_b2 i x y = some v → W p l e R s m args below meth c H locs cells slots Q (F0 m np ls (.int v :: rest)) → W p l e R s m args below meth c H locs cells slots Q (F0 m pc ls (.int y :: .int x :: rest))) (g : am_Gl w p l e R s m args below meth c Q k') : am_Gl w p l e R s m args below meth c Q (pc, L, S, h) := by
  unfold am_bin at hs
  split at hs
  · rename_i y x S'
    split at hs
    · rename_i v hv
      cases hs
      intro ls H locs cells slots hp hl
      exact hrow ls H locs cells slots _ x y v hv (g ls H locs cells slots hp hl)
    · cases hs
  · cases hs
theorem so_lin {i : Instr} (hs : am_lin i np L S h = some (.inl k')) (hrow : ∀ (ls : Array Slot) (H : Heap) (locs : List Loc) (cells slots : Nat) (rest : List Value) (x y v : Int64), am_l2 i x y = some v → W p l e R s m args below meth c H locs cells slots Q (F0 m np ls (.long v :: rest)) → W p l e R s m args below meth c H locs cells slots Q (F0 m pc ls (.long y :: .long x :: rest))) (g : am_Gl w p l e R s m args below meth c Q k') : am_Gl w p l e R s m args below meth c Q (pc, L, S, h) := by
  unfold am_lin at hs
  split at hs
  · rename_i y x S'
    split at hs
    · rename_i v hv
      cases hs
      intro ls H locs cells slots hp hl
      exact hrow ls H locs cells slots _ x y v hv (g ls H locs cells slots hp hl)
    · cases hs
  · cases hs
theorem so_uno {i : Instr} (hs : am_uno i np L S h = some (.inl k')) (hrow : ∀ (ls : Array Slot) (H : Heap) (locs : List Loc) (cells slots : Nat) (rest : List Value) (v v' : Value), am_un i v = some v' → am_v (ae_s w) v = v ∧ am_v (ae_s w) v' = v' ∧ (W p l e R s m args below meth c H locs cells slots Q (F0 m np ls (v' :: rest)) → W p l e R s m args below meth c H locs cells slots Q (F0 m pc ls (v :: rest)))) (g : am_Gl w p l e R s m args below meth c Q k') : am_Gl w p l e R s m args below meth c Q (pc, L, S, h) := by
  unfold am_uno at hs
  split at hs
  · rename_i v S'
    split at hs
    · rename_i v' hv
      cases hs
      intro ls H locs cells slots hp hl
      obtain ⟨e1, e2, h3⟩ := hrow ls H locs cells slots (S'.map (am_v (ae_s w))) v v' hv
      have g1 := g ls H locs cells slots hp hl
      simp only [List.map_cons, e1, e2] at g1 ⊢
      exact h3 g1
    · cases hs
  · cases hs
theorem so_if {cnd : ClassFile.Cond} (hs : am_if cnd np r L S h = some (.inl k')) (hrow : ∀ (ls : Array Slot) (H : Heap) (locs : List Loc) (cells slots : Nat) (rest : List Value) (x : Int32), (am_c2 cnd x 0 = true → W p l e R s m args below meth c H locs cells slots Q (F0 m r ls rest)) → (am_c2 cnd x 0 = false → W p l e R s m args below meth c H locs cells slots Q (F0 m np ls rest)) → W p l e R s m args below meth c H locs cells slots Q (F0 m pc ls (.int x :: rest))) (g : am_Gl w p l e R s m args below meth c Q k') : am_Gl w p l e R s m args below meth c Q (pc, L, S, h) := by
  unfold am_if at hs
  split at hs
  · rename_i x S'
    cases hs
    intro ls H locs cells slots hp hl
    have g1 := g ls H locs cells slots hp hl
    refine hrow ls H locs cells slots _ x (fun hc => ?_) (fun hc => ?_)
    · simp only [hc, if_true] at g1; exact g1
    · simp only [hc] at g1; exact g1
  · cases hs
theorem so_icmp {cnd : ClassFile.Cond} (hs : am_icmp cnd np r L S h = some (.inl k')) (hrow : ∀ (ls : Array Slot) (H : Heap) (locs : List Loc) (cells slots : Nat) (rest : List Value) (x y : Int32), (am_c2 cnd x y = true → W p l e R s m args below meth c H locs cells slots Q (F0 m r ls rest)) → (am_c2 cnd x y = false → W p l e R s m args below meth c H locs cells slots Q (F0 m np ls rest)) → W p l e R s m args below meth c H locs cells slots Q (F0 m pc ls (.int y :: .int x :: rest))) (g : am_Gl w p l e R s m args below meth c Q k') : am_Gl w p l e R s m args below meth c Q (pc, L, S, h) := by
  unfold am_icmp at hs
  split at hs
  · rename_i y x S'
    cases hs
    intro ls H locs cells slots hp hl
    have g1 := g ls H locs cells slots hp hl
    refine hrow ls H locs cells slots _ x y (fun hc => ?_) (fun hc => ?_)
    · simp only [hc, if_true] at g1; exact g1
    · simp only [hc] at g1; exact g1
  · cases hs
theorem am_jmp_eq {pc : Nat} {off : Int} (h : 0 ≤ (pc : Int) + off) : (pc : Int) + off = (am_jmp pc off : Int) := (Int.toNat_of_nonneg h).symm
theorem so_tsw {dd lo hi : Int} {offs : Array Int} {len : Nat} (hx : p.tables.exec = Jvm.exec) (hb : c.code = m0.2.2.1) (hd : decode m0.2.2.1 pc = .ok (.tableswitch dd lo hi offs, len)) (hs : am_tsw pc dd lo hi offs L S h = some (.inl k')) (g : am_Gl w p l e R s m args below meth c Q k') : am_Gl w p l e R s m args below meth c Q (pc, L, S, h) := by
  unfold am_tsw at hs
  split at hs
  · rename_i x S'
    split at hs
    · rename_i ho
      split at hs
      · rename_i hj
        cases hs
        intro ls H locs cells slots hp hl
        exact lv_tableOut hx hb hd ho (am_jmp_eq hj) (g ls H locs cells slots hp hl)
      · cases hs
    · rename_i ho
      split at hs
      · rename_i off hoff
        split at hs
        · rename_i hj
          cases hs
          intro ls H locs cells slots hp hl
          exact lv_tableIn hx hb hd (fun q => ho (Or.inl q)) (fun q => ho (Or.inr q)) hoff (am_jmp_eq hj) (g ls H locs cells slots hp hl)
        · cases hs
      · cases hs
  · cases hs
theorem so_lsw {dd : Int} {ps : Array (Int × Int)} {len : Nat} (hx : p.tables.exec = Jvm.exec) (hb : c.code = m0.2.2.1) (hd : decode m0.2.2.1 pc = .ok (.lookupswitch dd ps, len)) (hs : am_lsw pc dd ps L S h = some (.inl k')) (g : am_Gl w p l e R s m args below meth c Q k') : am_Gl w p l e R s m args below meth c Q (pc, L, S, h) := by
  unfold am_lsw at hs
  split at hs
  · rename_i x S'
    split at hs
    · rename_i ho
      cases hs
      intro ls H locs cells slots hp hl
      exact lv_lookup hx hb hd ho.1 rfl (am_jmp_eq ho.2) (g ls H locs cells slots hp hl)
    · cases hs
  · cases hs
theorem am_ix_in {α : Type} {l : List α} {i : Int32} {x : α} (hx : am_ix l i = some x) : vp_in i l.length ∧ l[i.toNatClampNeg]? = some x := by
  unfold am_ix at hx
  split at hx
  · cases hx
  · rename_i hi
    refine ⟨fun q => ?_, hx⟩
    rcases q with q | q
    · exact hi q
    · have := (List.getElem?_eq_some_iff.mp hx).1
      omega
theorem am_ty_at (tc : Nat → ClassId) {t : Nat} {ty : FieldType} (ht : (t = 0 ∧ ty = .int) ∨ (t = 1 ∧ ty = .char) ∨ (t = 2 ∧ ty = .byte)) : (am_tys tc)[t]? = some (tc t, ty) := by
  rcases ht with ⟨rfl, rfl⟩ | ⟨rfl, rfl⟩ | ⟨rfl, rfl⟩ <;> rfl
theorem so_ald (t : Nat) (C : am_Cx w m0 d p l e R s m args below meth c) (hs : am_ald t np L S h = some (.inl k'))
    (hrow : ∀ (ls : Array Slot) (H : Heap) (locs : List Loc) (cells slots : Nat) (rest : List Value) (a k : Nat) (n : Nat) (f : Nat → Int32) (i : Int32), va_P (ae_D w) vwCl (am_W (ae_s w) (ae_tc w) h) H → (am_W (ae_s w) (ae_tc w) h)[k]? = some (a, .inl (ae_tc w t, n, .inl f)) → vp_in i n → W p l e R s m args below meth c H locs cells slots Q (F0 m np ls (.int (f i.toNatClampNeg) :: rest)) → W p l e R s m args below meth c H locs cells slots Q (F0 m pc ls (.int i :: .ref a :: rest)))
    (hrow2 : ∀ (ls : Array Slot) (H : Heap) (locs : List Loc) (cells slots : Nat) (rest : List Value) (j : Nat) (i x : Int32), t = 0 → j < 3 → va_S (ae_A w) s.heap H locs → vp_in i (am_sta.getD j []).length → (am_sta.getD j []).getD i.toNatClampNeg 0 = x → W p l e R s m args below meth c H locs cells slots Q (F0 m np ls (.int x :: rest)) → W p l e R s m args below meth c H locs cells slots Q (F0 m pc ls (.int i :: .ref (ae_ts w j) :: rest)))
    (g : am_Gl w p l e R s m args below meth c Q k') : am_Gl w p l e R s m args below meth c Q (pc, L, S, h) := by
  unfold am_ald at hs
  split at hs
  · rename_i i a S'
    split at hs
    · rename_i t' la hla
      split at hs
      · rename_i ht
        split at hs
        · rename_i x hxx
          cases hs
          obtain ⟨hin, hget⟩ := am_ix_in hxx
          subst ht
          intro ls H locs cells slots hp hl
          have hx2 : la.getD i.toNatClampNeg 0 = x := by simp [List.getD, hget]
          unfold am_arr at hla
          split at hla
          · rename_i ha
            split at hla
            · rename_i y hy
              cases hla
              have g1 := g ls H locs cells slots hp hl
              refine hrow ls H locs cells slots _ _ a la.length (fun j => la.getD j 0) i hp.2.1 (am_W_at hy) hin ?_
              simp only [hx2]
              exact g1
            · cases hla
          · rename_i ha
            have g1 := g ls H locs cells slots hp hl
            cases hj : am_sta[a - 100000]? with
            | none => rw [hj] at hla; cases hla
            | some l1 =>
              rw [hj] at hla
              cases hla
              have hj3 : a - 100000 < 3 := (List.getElem?_eq_some_iff.mp hj).1
              have hgd : am_sta.getD (a - 100000) [] = la := by simp [List.getD, hj]
              have hr := hrow2 ls H locs cells slots (S'.map (am_v (ae_s w))) (a - 100000) i x rfl hj3 hp.2.2.1 (by rw [hgd]; exact hin) (by rw [hgd]; exact hx2) g1
              have e1 : am_v (ae_s w) (.ref a) = .ref (ae_ts w (a - 100000)) := by simp [am_v, am_sg, ha]
              simp only [List.map_cons, e1]
              exact hr
        · cases hs
      · cases hs
    · cases hs
  · cases hs
theorem am_upd_set (la : List Int32) {i : Nat} (hi : i < la.length) (x : Int32) : upd (fun j => la.getD j 0) i x = fun j => (la.set i x).getD j 0 := by
  funext j
  simp only [upd, List.getD, List.getElem?_set]
  by_cases hj : j = i
  · subst hj; simp [hi]
  · rw [if_neg hj, if_neg (fun q => hj q.symm)]
theorem am_Hp.set {s : State} {h : aH} {H H1 : Heap} {locs locs1 : List Loc} {cells slots : Nat} {k : Nat} {c1 c2 : aC} (hp : am_Hp w s h H locs cells slots) (hk : h[k]? = some c1) (hz : am_sz c2 = am_sz c1) (hP : va_P (ae_D w) vwCl ((am_W (ae_s w) (ae_tc w) h).set k (ae_s w k, am_e (ae_s w) (ae_tc w) c2)) H1) (hS : va_S (ae_A w) s.heap H1 locs1) (hsz : H1.size = H.size) : am_Hp w s (h.set k c2) H1 locs1 cells slots := by
  obtain ⟨⟨a1, a2, a3, a4⟩, a5, a6, a7, a8, a9⟩ := hp
  refine ⟨⟨by rw [List.length_set]; exact a1, by rw [am_slt_set hk hz]; exact a2, by rw [List.length_set]; exact a3, by rw [am_slt_set hk hz]; exact a4⟩, by rw [am_W_set]; exact hP, hS, by rw [List.length_set]; exact a7, by rw [List.length_set]; exact a8, fun q => by rw [List.length_set, hsz]; exact a9 q⟩
theorem am_ast_cell {cA : ClassId} {n : Nat} {f : Nat → Int32} {i : Int32} {v : Value} {y : Int32} {H1 : Heap} {a : Nat} (hv : v = .int y) (e : H1[a]? = some ((vp_cell cA (n, .inl f)).setSlot i.toNatClampNeg v)) : H1[a]? = some (vp_cell cA (n, .inl (upd f i.toNatClampNeg y))) := by
  rw [e, vp_cell_i, vp_cell_i, arrV_store]
  congr 2
  funext q
  by_cases hq : q = i.toNatClampNeg
  · subst hq
    simp [updV, upd, hv]
  · simp [updV, upd, hq]
theorem so_ast (t : Nat) (ty : FieldType) (ht : (t = 0 ∧ ty = .int) ∨ (t = 1 ∧ ty = .char) ∨ (t = 2 ∧ ty = .byte)) (C : am_Cx w m0 d p l e R s m args below meth c) (hs : am_ast t ty np L S h = some (.inl k'))
    (hrow : ∀ (ls : Array Slot) (H : Heap) (locs : List Loc) (cells slots : Nat) (rest : List Value) (a : Nat) (i x : Int32) (cell : Cell), H[a]? = some cell → s.isArrayOf cell ty → cell.vm ≠ .unknown → ¬ (i < 0 ∨ cell.slots.size ≤ i.toNatClampNeg) → (∀ H' : Heap, H'[a]? = some (cell.setSlot i.toNatClampNeg (.int (vp_nar ty x))) → H'.size = H.size → (∀ q, q ≠ a → H'[q]? = H[q]?) → W p l e R s m args below meth c H' (locs ++ [⟨a, i.toNatClampNeg⟩]) cells slots Q (F0 m np ls rest)) → W p l e R s m args below meth c H locs cells slots Q (F0 m pc ls (.int x :: .int i :: .ref a :: rest)))
    (g : am_Gl w p l e R s m args below meth c Q k') : am_Gl w p l e R s m args below meth c Q (pc, L, S, h) := by
  unfold am_ast at hs
  split at hs
  · rename_i x i a S'
    split at hs
    · rename_i t' la hla
      split at hs
      · rename_i hc
        obtain ⟨ha, rfl, hi0, hil⟩ := hc
        cases hs
        intro ls H locs cells slots hp hl
        have hat := am_W_at (f := ae_s w) (tc := ae_tc w) hla
        have hP := hp.2.1
        have hDD := am_D (ts := ae_ts w) (tc := ae_tc w) hp.2.2.2.1 hp.2.2.2.2.1
        have hA9 := hDD.2 a _ hat
        obtain ⟨-, -, -, -, -, -, hK, -⟩ := C
        refine hrow ls H locs cells slots _ (ae_s w a) i x _ (hP a _ hat) ((hK.2 t' _ (am_ty_at (ae_tc w) ht)).1 la.length (fun j => .int (la.getD j 0))) (fun q => by cases q) (by show ¬ (i < 0 ∨ (arrV _ _ _).slots.size ≤ _); rw [arrV_size]; exact fun q => q.elim hi0 (fun q => Nat.not_le.mpr hil q)) (fun H1 e1 z1 oq => ?_)
        refine g ls H1 _ cells slots (am_Hp.set hp hla ?_ ?_ (hp.2.2.1.put z1 oq hA9) z1) hl
        · simp [am_sz]
        · refine hP.set hDD hat ?_ oq
          show H1[_]? = some (vp_cell _ _)
          have e2 := am_ast_cell (f := fun j => la.getD j 0) rfl e1
          rw [am_upd_set la hil] at e2
          simpa [am_e] using e2
      · cases hs
    · cases hs
  · cases hs
theorem am_cl_at {ci : Nat} (h : ci < 10) : vwCl[ci]? = some (am_cl ci) := by
  have h1 : ci < vwCl.length := h
  rw [am_cl, List.getD, List.getElem?_eq_getElem h1]; rfl
theorem am_fs_of {r : Nat} {q : Nat × Nat × Nat × Nat × FieldType × Bool} (hq : am_fs[r]? = some q) : q ∈ am_fs ∧ am_fsk q = true := ⟨List.mem_of_getElem? hq, List.all_eq_true.mp am_fs_ok q (List.mem_of_getElem? hq)⟩
theorem so_get {q : Nat × Nat × Nat × Nat × FieldType × Bool} (C : am_Cx w m0 d p l e R s m args below meth c) (hq : am_fs[r]? = some q) (hq1 : q.1 = m0.2.1) (hd : decode m0.2.2.1 pc = .ok (.getfield q.2.1, 3)) (hs : am_get q (pc + 3) L S h = some (.inl k')) (g : am_Gl w p l e R s m args below meth c Q k') : am_Gl w p l e R s m args below meth c Q (pc, L, S, h) := by
  obtain ⟨hmem, hk⟩ := am_fs_of hq
  simp only [am_fsk, decide_eq_true_eq] at hk
  obtain ⟨k1, k2, k3, k4, k5, k6⟩ := hk
  unfold am_get at hs
  split at hs
  · rename_i a S'
    split at hs
    · rename_i ci fs hfs
      split at hs
      · rename_i v hv
        split at hs
        · rename_i hc
          obtain ⟨ha, rfl⟩ := hc
          cases hs
          intro ls H locs cells slots hp hl
          obtain ⟨hx, hb, hr, hml, hown, hts, hK, hSE, -⟩ := C
          have hat := am_W_at (f := ae_s w) (tc := ae_tc w) hfs
          have hw := hts _ (am_in_fs hmem)
          simp only [am_fw] at hw
          refine va_get hx hb (C := (am_cl q.2.2.1).1) (T := (am_cl q.2.2.1).2.1) (N := (am_cl q.2.2.1).2.2) hts (fun w hw => am_in_uw (List.mem_of_getElem? (am_cl_at k1)) hw) hown hK hp.2.1 a hat (am_cl_at k1) q.2.2.2.1 k2 (by rw [← hq1]; exact hw) (fun x hx => by rw [← k3]; exact hx) (v := am_v (ae_s w) v) (by rw [List.getElem?_map, hv]; rfl) hd ?_
          exact g ls H locs cells slots hp hl
        · cases hs
      · cases hs
    · cases hs
  · cases hs
theorem am_v_nar (f : Nat → Nat) (ty : FieldType) (v : Value) (h : narrow ty v = v) : narrow ty (am_v f v) = am_v f v := by
  cases v <;> first | exact h | (cases ty <;> rfl)
theorem am_v_fit (f : Nat → Nat) (ty : FieldType) (v : Value) (h : fits ty v = true) : fits ty (am_v f v) = true := by
  cases v <;> first | exact h | (cases ty <;> first | exact h | rfl | (simp [fits] at h))
theorem so_put {q : Nat × Nat × Nat × Nat × FieldType × Bool} (C : am_Cx w m0 d p l e R s m args below meth c) (hq : am_fs[r]? = some q) (hq1 : q.1 = m0.2.1) (hd : decode m0.2.2.1 pc = .ok (.putfield q.2.1, 3)) (hs : am_put m0 q (pc + 3) L S h = some (.inl k')) (g : am_Gl w p l e R s m args below meth c Q k') : am_Gl w p l e R s m args below meth c Q (pc, L, S, h) := by
  obtain ⟨hmem, hk⟩ := am_fs_of hq
  simp only [am_fsk, decide_eq_true_eq] at hk
  obtain ⟨k1, k2, k3, k4, k5, k6⟩ := hk
  unfold am_put at hs
  split at hs
  · rename_i v a S'
    split at hs
    · rename_i ci fs hfs
      split at hs
      · rename_i hc
        obtain ⟨ha, rfl, hlt, hnar, hfit, hini⟩ := hc
        cases hs
        intro ls H locs cells slots hp hl
        obtain ⟨hx, hb, hr, hml, hown, hts, hK, hSE, hlk, hnm, -⟩ := C
        have hat := am_W_at (f := ae_s w) (tc := ae_tc w) hfs
        have hP := hp.2.1
        have hDD := am_D (ts := ae_ts w) (tc := ae_tc w) hp.2.2.2.1 hp.2.2.2.2.1
        have hA9 := hDD.2 a _ hat
        have hw := hts _ (am_in_fs hmem)
        simp only [am_fw] at hw
        rw [hq1] at hw
        have hinU : ∀ w ∈ u_ws (am_cl q.2.2.1).1 (am_cl q.2.2.1).2.1 (am_cl q.2.2.1).2.2, w ∈ am_G := fun w hw => am_in_uw (List.mem_of_getElem? (am_cl_at k1)) hw
        obtain ⟨ty0, hty, hnmm⟩ := am_cl_ty k1
        have hap := va_apart (own := am_nm m0.2.1) hts hinU ty0 hty hnmm hK (am_cl_at k1)
        obtain ⟨r9, h1, cell, q1, q2, q3, q4⟩ := hP a _ hat
        have hr9 : r9 = am_cl q.2.2.1 := Option.some.inj (h1.symm.trans (am_cl_at k1))
        subst hr9
        obtain ⟨hS, hfc, kC, hkC, hkind⟩ := hK.1 q.2.2.1 _ (am_cl_at k1)
        obtain ⟨cf, kf, fi, f, hi, hsl⟩ := hS q.2.2.2.1 k2
        have hlay := hts _ (hinU _ (u_in_lay k2))
        unfold u_lay at hlay
        have hst := (u_facts hfc hkC (u_lays hts hinU k2) hi).1
        have hnar' := am_v_nar (ae_s w) _ v hnar
        have hfit' := am_v_fit (ae_s w) _ v hfit
        have fin : ∀ H' : Heap, H'[ae_s w a]? = some (cell.setSlot f.slot (am_v (ae_s w) v)) → H'.size = H.size → (∀ x, x ≠ ae_s w a → H'[x]? = H[x]?) → W p l e R s m args below meth c H' (locs ++ [⟨ae_s w a, f.slot⟩]) cells slots Q (F0 m (pc + 3) ls (S'.map (am_v (ae_s w)))) := by
          intro H' e1 e2 e3
          rw [hsl] at e1 ⊢
          refine g ls H' _ cells slots (am_Hp.set hp hfs (by simp [am_sz]) ?_ (hp.2.2.1.put e2 e3 hA9) e2) hl
          refine hP.set hDD hat ⟨_, am_cl_at k1, t_OB.to (V := updV (vp_V (fs.map (am_v (ae_s w)))) q.2.2.2.1 (am_v (ae_s w) v)) ⟨_, e1, q2, q3, t_set q4 hap k2 _⟩ (fun j _ => ?_)⟩ e3
          rw [vp_updV_set (by rw [List.length_map]; exact hlt), List.map_set]
        by_cases hfin : q.2.2.2.2.2 = true
        · obtain ⟨n1, n2⟩ := hini hfin
          rw [if_pos (by rw [k5]; exact hfin)] at hlay
          have hcf : m.cls = cf := by
            obtain ⟨_, _, c', _, _, _, -, -, hf', -, -, -, hown2, -⟩ := Cond.laysFinal_spec hlay
            have e1 : c' = cf := by have := hi.symm.trans hf'; simp at this; exact this.1.symm
            rw [k3, ← k6, ← n2, hq1] at hown2
            rw [← e1]; exact Option.some.inj (hown.symm.trans hown2)
          have h6 := u_fits hfc hkC hkind (Or.inr hlay) hi k4 hnar' hfit'
          exact W.putFinK hx hb hown hw (by rw [k3] at hi; exact hi) hst hcf (by rw [hnm]; exact n1) (by rw [q2]; exact h6) q1 q3 (by rw [hsl]; exact k2_hasslot (q4 _ k2)) rfl rfl hd fin
        · rw [if_neg (by rw [k5]; exact hfin)] at hlay
          have h6 := u_store hfc hkC hkind hlay hi k4 hnar' hfit'
          exact W.putK hx hb (f := f) ⟨hown, hw, ⟨_, _, _, by rw [k3] at hi; exact hi⟩, hst⟩ (by rw [q2]; exact h6) q1 q3 (by rw [hsl]; exact k2_hasslot (q4 _ k2)) rfl rfl hd fin
      · cases hs
    · cases hs
  · cases hs
theorem so_aald (C : am_Cx w m0 d p l e R s m args below meth c) (hd : decode m0.2.2.1 pc = .ok (.aaload, 1)) (hs : am_aald (pc + 1) L S h = some (.inl k')) (g : am_Gl w p l e R s m args below meth c Q k') : am_Gl w p l e R s m args below meth c Q (pc, L, S, h) := by
  unfold am_aald at hs
  split at hs
  · rename_i i a S'
    split at hs
    · rename_i la hla
      split at hs
      · rename_i x hxx
        split at hs
        · rename_i ha
          cases hs
          intro ls H locs cells slots hp hl
          obtain ⟨hx, hb, hr, hml, hown, hts, hK, hSE, -⟩ := C
          have hat := am_W_at (f := ae_s w) (tc := ae_tc w) hla
          obtain ⟨hin, hget⟩ := am_ix_in hxx
          have g1 := g ls H locs cells slots hp hl
          refine va_aldq hx hb hK hp.2.1 a 3 hat rfl hin hd ?_
          have e1 : va_rf ((la.getD i.toNatClampNeg none).map (ae_s w)) = am_v (ae_s w) (.ref x) := by simp [List.getD, hget, va_rf, am_v]
          rw [e1]
          exact g1
        · cases hs
      · cases hs
    · cases hs
  · cases hs
theorem am_up_set (f : Nat → Nat) (la : List (Option Nat)) {i : Nat} (hi : i < la.length) (x : Nat) : va_up (fun j => (la.getD j none).map f) i (some (f x)) = fun j => ((la.set i (some x)).getD j none).map f := by
  funext j
  simp only [va_up, List.getD, List.getElem?_set]
  by_cases hj : j = i
  · subst hj; simp [hi]
  · rw [if_neg hj, if_neg (fun q => hj q.symm)]
theorem so_aast (C : am_Cx w m0 d p l e R s m args below meth c) (hd : decode m0.2.2.1 pc = .ok (.aastore, 1)) (hs : am_aast (pc + 1) L S h = some (.inl k')) (g : am_Gl w p l e R s m args below meth c Q k') : am_Gl w p l e R s m args below meth c Q (pc, L, S, h) := by
  unfold am_aast at hs
  split at hs
  · rename_i v i a S'
    split at hs
    · rename_i la hla
      split at hs
      · rename_i fs hfs
        split at hs
        · rename_i hc
          obtain ⟨ha, hv, hi0, hil⟩ := hc
          cases hs
          intro ls H locs cells slots hp hl
          obtain ⟨hx, hb, hr, hml, hown, hts, hK, hSE, -⟩ := C
          have hat := am_W_at (f := ae_s w) (tc := ae_tc w) hla
          have hvt := am_W_at (f := ae_s w) (tc := ae_tc w) hfs
          have hP := hp.2.1
          have hDD := am_D (ts := ae_ts w) (tc := ae_tc w) hp.2.2.2.1 hp.2.2.2.2.1
          have hA9 := hDD.2 a _ hat
          obtain ⟨r', hr', cellV, g1, g2, g3, -⟩ := hP v _ hvt
          have hcls := (hK.1 3 (RX3, TX3, 7) rfl).2
          obtain ⟨kA, comp, k1, k2, k3, -⟩ := (hK.2 3 (ae_tc w 3, .object RX3) rfl).2
          have hcomp : comp = (ae_D w).1 3 := Option.some.inj (k3.symm.trans hcls.1)
          subst hcomp
          obtain ⟨kC, hkC, -⟩ := hcls.2
          refine W.aast hx hb (hP a _ hat) (fun q h => by cases h) (fun h => by cases h) k1 k2 rfl hkC ⟨hi0, by show _ < (arrV _ _ _).slots.size; rw [arrV_size]; exact hil⟩ g1 (fun q h => by rw [g3] at h; cases h) (by rw [g2]; exact hkC) (by rw [g2]; exact va_assign hcls) rfl rfl hd fun H1 e1 z1 oq => ?_
          refine g ls H1 _ cells slots (am_Hp.set hp hla (by simp [am_sz]) ?_ (hp.2.2.1.put z1 oq hA9) z1) hl
          refine hP.set hDD hat ?_ oq
          show H1[_]? = some (vp_cell _ _)
          rw [e1]
          show some ((vp_cell _ (_, .inr (.inr (.inr (.inr _))))).setSlot _ _) = some (vp_cell _ (_, .inr (.inr (.inr (.inr _)))))
          rw [vp_cell_q, vp_cell_q, arrV_store]
          have e5 := am_up_set (ae_s w) la hil v
          simp only [List.length_set]
          congr 2
          funext x
          have e6 := congrFun e5 x
          simp only [← e6]
          by_cases hq : x = i.toNatClampNeg
          · subst hq; simp [updV, va_up, va_rf]
          · simp [updV, va_up, hq]
        · cases hs
      · cases hs
    · cases hs
  · cases hs
theorem so_alen (C : am_Cx w m0 d p l e R s m args below meth c) (hd : decode m0.2.2.1 pc = .ok (.arraylength, 1)) {a : Nat} {t : Nat} {la : List Int32} (hla : am_arr h a = some (t, la)) (ht : t < 3) (g : am_Gl w p l e R s m args below meth c Q (pc + 1, L, .int (Int32.ofNat la.length) :: S, h)) : am_Gl w p l e R s m args below meth c Q (pc, L, .ref a :: S, h) := by
  intro ls H locs cells slots hp hl
  obtain ⟨hx, hb, hr, hml, hown, hts, hK, hSE, -⟩ := C
  have g1 := g ls H locs cells slots hp hl
  unfold am_arr at hla
  split at hla
  · rename_i ha
    split at hla
    · rename_i y hy
      cases hla
      have hat := am_W_at (f := ae_s w) (tc := ae_tc w) hy
      rcases (show t = 0 ∨ t = 1 ∨ t = 2 by omega) with rfl | rfl | rfl
      · exact va_alen hx hb hK hp.2.1 a 0 hat rfl rfl hd g1
      · exact va_alen hx hb hK hp.2.1 a 1 hat rfl rfl hd g1
      · exact va_alen hx hb hK hp.2.1 a 2 hat rfl rfl hd g1
    · cases hla
  · rename_i ha
    cases hj : am_sta[a - 100000]? with
    | none => rw [hj] at hla; cases hla
    | some l1 =>
      rw [hj] at hla
      cases hla
      have hj3 : a - 100000 < 3 := (List.getElem?_eq_some_iff.mp hj).1
      have hgd : am_sta.getD (a - 100000) [] = la := by simp [List.getD, hj]
      have hT := (hSE.2.2.2.1 _ hj3).2
      rw [hgd] at hT
      have e1 : am_v (ae_s w) (.ref a) = .ref (ae_ts w (a - 100000)) := by simp [am_v, am_sg, ha]
      simp only [List.map_cons, e1]
      exact va_tlen hx hb hT hp.2.2.1 rfl hd g1
end AMR
