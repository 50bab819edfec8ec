/-! what a step leaves: the number of locals, cells, slots -/
def am_Fi (al : Bool) (L : aL) (h : aH) (x : aS) : Prop := match x with
  | .inl k' => am_Mo al h k'.2.2.2 ∧ k'.2.1.length = L.length
  | .inr (.inl r) => r.2 = h
  | .inr (.inr (_, _, k1)) => k1.2.2.2 = h ∧ k1.2.1.length = L.length
section AMF
variable {al : Bool} {m : aM} {pc np r : Nat} {L L' : aL} {S S' : List Value} {h h' : aH} {x : aS}
theorem fi_nx (hs : am_nx np L' S' h' = some x) (hm : am_Mo al h h') (hl : L'.length = L.length) : am_Fi al L h x := by cases hs; exact ⟨hm, hl⟩
theorem fi_same (hs : am_nx np L S' h = some x) : am_Fi al L h x := fi_nx hs .rf rfl
theorem fi_loadi {i : Nat} (hs : am_loadi i np L S h = some x) : am_Fi al L h x := by
  unfold am_loadi at hs; split at hs
  · exact fi_same hs
  · cases hs
theorem fi_loadl {i : Nat} (hs : am_loadl i np L S h = some x) : am_Fi al L h x := by
  unfold am_loadl at hs; split at hs
  · exact fi_same hs
  · cases hs
theorem fi_loada {i : Nat} (hs : am_loada i np L S h = some x) : am_Fi al L h x := by
  unfold am_loada at hs; split at hs
  · exact fi_same hs
  · cases hs
theorem fi_stori {i : Nat} (hs : am_stori i np L S h = some x) : am_Fi al L h x := by
  unfold am_stori at hs; split at hs
  · split at hs
    · exact fi_nx hs .rf (by simp)
    · cases hs
  · cases hs
theorem fi_storl {i : Nat} (hs : am_storl i np L S h = some x) : am_Fi al L h x := by
  unfold am_storl at hs; split at hs
  · split at hs
    · exact fi_nx hs .rf (by simp)
    · cases hs
  · cases hs
theorem fi_iinc {i : Nat} {n : Int} (hs : am_iinc i n r np L S h = some x) : am_Fi al L h x := by
  unfold am_iinc at hs; split at hs
  · split at hs
    · split at hs
      · split at hs
        · exact fi_nx hs .rf (by simp)
        · cases hs
      · split at hs
        · exact fi_nx hs .rf (by simp)
        · cases hs
    · cases hs
  · cases hs
theorem fi_kn {b : Nat} {n : Int} (hs : am_kn b n r np L S h = some x) : am_Fi al L h x := by
  unfold am_kn at hs; split at hs
  · split at hs
    · exact fi_same hs
    · cases hs
  · split at hs
    · exact fi_same hs
    · cases hs
theorem fi_bin {i : Instr} (hs : am_bin i np L S h = some x) : am_Fi al L h x := by
  unfold am_bin at hs; split at hs
  · split at hs
    · exact fi_same hs
    · cases hs
  · cases hs
theorem fi_lin {i : Instr} (hs : am_lin i np L S h = some x) : am_Fi al L h x := by
  unfold am_lin at hs; split at hs
  · split at hs
    · exact fi_same hs
    · cases hs
  · cases hs
theorem fi_uno {i : Instr} (hs : am_uno i np L S h = some x) : am_Fi al L h x := by
  unfold am_uno at hs; split at hs
  · split at hs
    · exact fi_same hs
    · cases hs
  · cases hs
theorem fi_if {c : ClassFile.Cond} (hs : am_if c np r L S h = some x) : am_Fi al L h x := by
  unfold am_if at hs; split at hs
  · exact fi_same hs
  · cases hs
theorem fi_icmp {c : ClassFile.Cond} (hs : am_icmp c np r L S h = some x) : am_Fi al L h x := by
  unfold am_icmp at hs; split at hs
  · exact fi_same hs
  · cases hs
theorem fi_tsw {d lo hi : Int} {offs : Array Int} (hs : am_tsw pc d lo hi offs L S h = some x) : am_Fi al L h x := by
  unfold am_tsw at hs; split at hs
  · split at hs
    · split at hs
      · exact fi_same hs
      · cases hs
    · split at hs
      · split at hs
        · exact fi_same hs
        · cases hs
      · cases hs
  · cases hs
theorem fi_lsw {d : Int} {ps : Array (Int × Int)} (hs : am_lsw pc d ps L S h = some x) : am_Fi al L h x := by
  unfold am_lsw at hs; split at hs
  · split at hs
    · exact fi_same hs
    · cases hs
  · cases hs
theorem fi_new (hs : am_new al r np L S h = some x) : am_Fi al L h x := by
  unfold am_new at hs; split at hs
  · split at hs
    · rename_i hc; exact fi_nx hs (.app hc.1 hc.2) rfl
    · cases hs
  · cases hs
theorem fi_newa {t : ArrayType} (hs : am_newa al t np L S h = some x) : am_Fi al L h x := by
  unfold am_newa at hs; split at hs
  · split at hs
    · split at hs
      · rename_i hc; exact fi_nx hs (.app hc.1 hc.2.1) rfl
      · cases hs
    · cases hs
  · cases hs
theorem fi_anew (hs : am_anew al r np L S h = some x) : am_Fi al L h x := by
  unfold am_anew at hs; split at hs
  · split at hs
    · split at hs
      · rename_i hc; exact fi_nx hs (.app hc.1 hc.2.2.1) rfl
      · cases hs
    · cases hs
  · cases hs
theorem fi_aald (hs : am_aald np L S h = some x) : am_Fi al L h x := by
  unfold am_aald at hs; split at hs
  · split at hs
    · split at hs
      · split at hs
        · exact fi_same hs
        · cases hs
      · cases hs
    · cases hs
  · cases hs
theorem fi_aast (hs : am_aast np L S h = some x) : am_Fi al L h x := by
  unfold am_aast at hs; split at hs
  · split at hs
    · rename_i hk
      split at hs
      · split at hs
        · exact fi_nx hs (.set hk (by simp [am_sz])) rfl
        · cases hs
      · cases hs
    · cases hs
  · cases hs
theorem fi_ald {t : Nat} (hs : am_ald t np L S h = some x) : am_Fi al L h x := by
  unfold am_ald at hs; split at hs
  · split at hs
    · split at hs
      · split at hs
        · exact fi_same hs
        · cases hs
      · cases hs
    · cases hs
  · cases hs
theorem fi_ast {t : Nat} {ty : FieldType} (hs : am_ast t ty np L S h = some x) : am_Fi al L h x := by
  unfold am_ast at hs; split at hs
  · split at hs
    · rename_i hk
      split at hs
      · exact fi_nx hs (.set hk (by simp [am_sz])) rfl
      · cases hs
    · cases hs
  · cases hs
theorem fi_get {q : Nat × Nat × Nat × Nat × FieldType × Bool} (hs : am_get q np L S h = some x) : am_Fi al L h x := by
  unfold am_get at hs; split at hs
  · split at hs
    · split at hs
      · split at hs
        · exact fi_same hs
        · cases hs
      · cases hs
    · cases hs
  · cases hs
theorem fi_put {q : Nat × Nat × Nat × Nat × FieldType × Bool} (hs : am_put m q np L S h = some x) : am_Fi al L h x := by
  unfold am_put at hs; split at hs
  · split at hs
    · rename_i hk
      split at hs
      · exact fi_nx hs (.set hk (by simp [am_sz])) rfl
      · cases hs
    · cases hs
  · cases hs
theorem fi_ldc {i : Instr} (hs : am_ldc i r np L S h = some x) : am_Fi al L h x := by
  unfold am_ldc at hs; split at hs
  · exact fi_same hs
  · split at hs
    · exact fi_same hs
    · exact fi_same hs
    · cases hs
theorem fi_iret (hs : am_iret m S h = some x) : am_Fi al L h x := by
  unfold am_iret at hs; split at hs
  · split at hs
    · split at hs
      · cases hs; rfl
      · cases hs
    · cases hs
  · cases hs
theorem fi_call {q : Nat × Nat × Nat × Nat × Nat} (hs : am_call q np L S h = some x) : am_Fi al L h x ∧ (∀ r, x ≠ .inr (.inl r)) ∧ ∀ c as k1, x = .inr (.inr (c, as, k1)) → c = q.2.2.1 ∧ (q.2.2.2.1 = 0 ∨ q.2.2.2.1 = 1 ∨ q.2.2.2.1 = 4 ∨ q.2.2.2.1 = 2 ∨ q.2.2.2.1 = 5) := by
  unfold am_call at hs
  simp only at hs
  generalize (if q.2.2.2.1 = 1 ∨ q.2.2.2.1 = 4 ∨ q.2.2.2.1 = 9 ∨ q.2.2.2.1 = 10 then q.2.2.2.2 else q.2.2.2.2 + 1) = n at hs
  have nx : ∀ S1, am_nx np L S1 h = some x → am_Fi al L h x ∧ (∀ r, x ≠ .inr (.inl r)) ∧ ∀ c as k1, x = .inr (.inr (c, as, k1)) → c = q.2.2.1 ∧ (q.2.2.2.1 = 0 ∨ q.2.2.2.1 = 1 ∨ q.2.2.2.1 = 4 ∨ q.2.2.2.1 = 2 ∨ q.2.2.2.1 = 5) := by
    intro S1 h1
    refine ⟨fi_same h1, ?_, ?_⟩
    · intro r e; subst e; cases h1
    · intro c as k1 e; subst e; cases h1
  have cl : ∀ as1 rest, some (Sum.inr (Sum.inr (q.2.2.1, as1, np, L, rest, h))) = some x → (q.2.2.2.1 = 0 ∨ q.2.2.2.1 = 1 ∨ q.2.2.2.1 = 4 ∨ q.2.2.2.1 = 2 ∨ q.2.2.2.1 = 5) → am_Fi al L h x ∧ (∀ r, x ≠ .inr (.inl r)) ∧ ∀ c as k1, x = .inr (.inr (c, as, k1)) → c = q.2.2.1 ∧ (q.2.2.2.1 = 0 ∨ q.2.2.2.1 = 1 ∨ q.2.2.2.1 = 4 ∨ q.2.2.2.1 = 2 ∨ q.2.2.2.1 = 5) := by
    intro as1 rest h1 hk
    cases h1
    refine ⟨⟨rfl, rfl⟩, ?_, ?_⟩
    · intro r e; cases e
    · intro c as k1 e; cases e; exact ⟨rfl, hk⟩
  split at hs
  · split at hs
    · rename_i hk
      split at hs
      · split at hs
        · split at hs
          · exact cl _ _ hs (Or.inl hk)
          · cases hs
        · cases hs
      · cases hs
    · rename_i hk; exact cl _ _ hs (Or.inr (Or.inl hk))
    · rename_i hk; exact cl _ _ hs (Or.inr (Or.inr (Or.inl hk)))
    · rename_i hk
      split at hs
      · exact cl _ _ hs (Or.inr (Or.inr (Or.inr (Or.inl hk))))
      · cases hs
    · rename_i hk
      split at hs
      · exact cl _ _ hs (Or.inr (Or.inr (Or.inr (Or.inr hk))))
      · cases hs
    · split at hs
      · exact nx _ hs
      · cases hs
    · split at hs
      · split at hs
        · exact nx _ hs
        · cases hs
      · cases hs
    · split at hs
      · split at hs
        · split at hs
          · exact nx _ hs
          · cases hs
        · cases hs
      · cases hs
    · split at hs
      · exact nx _ hs
      · cases hs
    · split at hs
      · exact nx _ hs
      · cases hs
    · cases hs
  · cases hs
theorem fi_inv (hs : (match am_ms[r]? with
    | some q => am_call q np L S h
    | none => none) = some x) : am_Fi al L h x := by
  split at hs
  · exact (fi_call hs).1
  · cases hs
theorem fi_op {i : Instr} (hs : am_op al m i pc np r L S h = some x) : am_Fi al L h x := by
  unfold am_op at hs
  split at hs <;> first | exact fi_same hs | exact fi_kn hs | exact fi_ldc hs | exact fi_loadi hs | exact fi_loadl hs | exact fi_loada hs | exact fi_stori hs | exact fi_storl hs | exact fi_iinc hs | exact fi_bin hs | exact fi_lin hs | exact fi_uno hs | exact fi_if hs | exact fi_icmp hs | exact fi_tsw hs | exact fi_lsw hs | exact fi_ald hs | exact fi_ast hs | exact fi_aald hs | exact fi_aast hs | exact fi_inv hs | exact fi_new hs | exact fi_newa hs | exact fi_anew hs | exact fi_iret hs | skip
  · split at hs
    · exact fi_same hs
    · cases hs
  · split at hs
    · split at hs
      · exact fi_same hs
      · cases hs
    · cases hs
  · split at hs
    · split at hs
      · exact fi_same hs
      · cases hs
    · cases hs
  · split at hs
    · split at hs
      · exact fi_same hs
      · cases hs
    · cases hs
  · split at hs
    · split at hs
      · split at hs
        · exact fi_same hs
        · cases hs
      · cases hs
    · cases hs
  · split at hs
    · exact fi_get hs
    · cases hs
  · split at hs
    · exact fi_put hs
    · cases hs
  · split at hs
    · exact fi_same hs
    · cases hs
  · split at hs
    · split at hs
      · cases hs; rfl
      · cases hs
    · cases hs
  · cases hs
end AMF
