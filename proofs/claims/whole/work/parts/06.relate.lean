/-! the abstract machine's states and the machine's -/
def am_v (f : Nat → Nat) (v : Value) : Value := match v with
  | .ref a => .ref (f a)
  | w => w
theorem am_v_cat (f : Nat → Nat) (v : Value) : (am_v f v).category = v.category := by cases v <;> rfl
theorem am_v_sum (f : Nat → Nat) (S : List Value) : ((S.map (am_v f)).map fun v => v.category).sum = am_sum S := by
  simp only [am_sum, List.map_map, Function.comp_def, am_v_cat]
def am_lv (f : Nat → Nat) (L : aL) : List (Nat × Value) := L.zipIdx.filterMap (fun q => q.1.map (fun v => (q.2, am_v f v)))
theorem am_lv_mem {f : Nat → Nat} {L : aL} {i : Nat} {w : Value} : (i, w) ∈ am_lv f L ↔ ∃ v, L[i]? = some (some v) ∧ w = am_v f v := by
  unfold am_lv
  rw [List.mem_filterMap]
  constructor
  · rintro ⟨⟨o, j⟩, hm, hq⟩
    have h1 := List.mem_zipIdx_iff_getElem?.mp hm
    cases o with
    | none => simp at hq
    | some v =>
      simp at hq
      obtain ⟨rfl, rfl⟩ := hq
      exact ⟨v, h1, rfl⟩
  · rintro ⟨v, h1, rfl⟩
    exact ⟨(some v, i), List.mem_zipIdx_iff_getElem?.mpr h1, rfl⟩
theorem am_lv_sub {ls : Array Slot} {nL : Nat} {l l' : List (Nat × Value)} (h : lv_has ls nL l) (hs : ∀ q ∈ l', q ∈ l) : lv_has ls nL l' := ⟨h.1, h.2.1, fun q hq => h.2.2 q (hs q hq)⟩
theorem am_ld_at {L : aL} {i : Nat} {v : Value} (h : am_ld L i = some v) : L[i]? = some (some v) := by
  unfold am_ld at h
  cases h1 : L[i]? with
  | none => rw [h1] at h; cases h
  | some o => rw [h1] at h; cases o with
    | none => cases h
    | some w => cases h; rfl
theorem am_lv_at {f : Nat → Nat} {ls : Array Slot} {nL : Nat} {L : aL} {i : Nat} {v : Value} (h : lv_has ls nL (am_lv f L)) (hi : am_ld L i = some v) : ls[i]? = some (.val (am_v f v)) :=
  h.2.2 (i, am_v f v) (am_lv_mem.mpr ⟨v, am_ld_at hi, rfl⟩)
theorem am_lv_st {f : Nat → Nat} {ls : Array Slot} {nL : Nat} {L : aL} {i : Nat} {v : Value} (h : lv_has ls nL ((i, am_v f v) :: (am_lv f L).filter (fun q => !(q.1 == i) && !(q.1 + 1 == i && q.2.category == 2)))) (hn : am_nl L i = true) : lv_has ls nL (am_lv f (L.set i (some v))) := by
  refine am_lv_sub h ?_
  rintro ⟨j, w⟩ hq
  obtain ⟨v', h1, rfl⟩ := am_lv_mem.mp hq
  rw [List.getElem?_set] at h1
  by_cases hj : i = j
  · rw [if_pos hj] at h1
    split at h1
    · cases h1; subst hj; exact List.mem_cons_self
    · cases h1
  · rw [if_neg hj] at h1
    refine List.mem_cons_of_mem _ (List.mem_filter.mpr ⟨am_lv_mem.mpr ⟨v', h1, rfl⟩, ?_⟩)
    have e1 : (j == i) = false := by simpa using fun e => hj e.symm
    simp only [e1, am_v_cat, Bool.not_false, Bool.true_and, Bool.not_eq_true', Bool.and_eq_false_iff]
    by_cases h2 : j + 1 = i
    · subst h2
      right
      simp only [am_nl, h1] at hn
      simp at hn
      simp [hn]
    · left; simpa using h2
theorem am_lv_st2 {f : Nat → Nat} {ls : Array Slot} {nL : Nat} {L : aL} {i : Nat} {x : Int64} (h : lv_has ls nL ((i, .long x) :: (am_lv f L).filter (fun q => !(q.1 == i) && (!(q.1 == i + 1) && !(q.1 + 1 == i && q.2.category == 2))))) (hn : am_nl L i = true) : lv_has ls nL (am_lv f ((L.set i (some (.long x))).set (i + 1) none)) := by
  refine am_lv_sub h ?_
  rintro ⟨j, w⟩ hq
  obtain ⟨v', h1, rfl⟩ := am_lv_mem.mp hq
  rw [List.getElem?_set] at h1
  by_cases hj : i + 1 = j
  · rw [if_pos hj] at h1
    split at h1 <;> cases h1
  · rw [if_neg hj, List.getElem?_set] at h1
    by_cases hk : i = j
    · rw [if_pos hk] at h1
      split at h1
      · cases h1; subst hk; exact List.mem_cons_self
      · cases h1
    · rw [if_neg hk] at h1
      refine List.mem_cons_of_mem _ (List.mem_filter.mpr ⟨am_lv_mem.mpr ⟨v', h1, rfl⟩, ?_⟩)
      have e1 : (j == i) = false := by simpa using fun e => hk e.symm
      have e2 : (j == i + 1) = false := by simpa using fun e => hj e.symm
      simp only [e1, e2, am_v_cat, Bool.not_false, Bool.true_and, Bool.not_eq_true', Bool.and_eq_false_iff]
      by_cases h2 : j + 1 = i
      · subst h2
        right
        simp only [am_nl, h1] at hn
        simp at hn
        simp [hn]
      · left; simpa using h2
/-! cells -/
def am_e (f : Nat → Nat) (tc : Nat → ClassId) (c : aC) : va_E := match c with
  | .inl (t, l) => .inl (tc t, l.length, .inl (fun j => l.getD j 0))
  | .inr (.inl l) => .inl (tc 3, l.length, .inr (.inr (.inr (.inr (fun j => (l.getD j none).map f)))))
  | .inr (.inr (ci, fs)) => .inr (ci, fs.map (am_v f))
def am_W (f : Nat → Nat) (tc : Nat → ClassId) (h : aH) : va_W := h.mapIdx (fun k c => (f k, am_e f tc c))
theorem am_W_get {f : Nat → Nat} {tc : Nat → ClassId} {h : aH} {k : Nat} : (am_W f tc h)[k]? = (h[k]?).map (fun c => (f k, am_e f tc c)) := List.getElem?_mapIdx
theorem am_W_at {f : Nat → Nat} {tc : Nat → ClassId} {h : aH} {k : Nat} {c : aC} (hk : h[k]? = some c) : (am_W f tc h)[k]? = some (f k, am_e f tc c) := by rw [am_W_get, hk]; rfl
theorem am_W_set {f : Nat → Nat} {tc : Nat → ClassId} {h : aH} {k : Nat} {c : aC} : am_W f tc (h.set k c) = (am_W f tc h).set k (f k, am_e f tc c) := by
  apply List.ext_getElem?
  intro i
  rw [am_W_get, List.getElem?_set, List.getElem?_set]
  have hl : (am_W f tc h).length = h.length := List.length_mapIdx
  rw [hl]
  by_cases hi : k = i
  · subst hi
    rw [if_pos rfl, if_pos rfl]
    split <;> rfl
  · rw [if_neg hi, if_neg hi, am_W_get]
theorem am_W_app {f : Nat → Nat} {tc : Nat → ClassId} {h : aH} {c : aC} : am_W f tc (h ++ [c]) = am_W f tc h ++ [(f h.length, am_e f tc c)] := List.mapIdx_concat
def am_sg (base : Nat) (ts : Nat → Nat) : Nat → Nat := fun k => if k < 100000 then base + k else ts (k - 100000)
theorem am_sg_lt {base : Nat} {ts : Nat → Nat} {k : Nat} (h : k < 100000) : am_sg base ts k = base + k := if_pos h
theorem am_D {base : Nat} {ts : Nat → Nat} {tc : Nat → ClassId} {A : Nat → Prop} {h : aH} (hA : ∀ j, j < h.length → A (base + j)) (hl : h.length ≤ 100000) : va_D A (am_W (am_sg base ts) tc h) := by
  have key : ∀ (i : Nat) (q : Nat × va_E), (am_W (am_sg base ts) tc h)[i]? = some q → i < h.length ∧ q.1 = base + i := by
    intro i q hq
    rw [am_W_get] at hq
    cases hi : h[i]? with
    | none => rw [hi] at hq; cases hq
    | some c =>
      rw [hi] at hq
      cases hq
      have h1 : i < h.length := (List.getElem?_eq_some_iff.mp hi).1
      exact ⟨h1, am_sg_lt (by omega)⟩
  refine ⟨fun i j a b ha hb e => ?_, fun k q hq => ?_⟩
  · have h1 := (key i a ha).2
    have h2 := (key j b hb).2
    omega
  · obtain ⟨h1, h2⟩ := key k q hq
    rw [h2]; exact hA k h1
def am_tys (tc : Nat → ClassId) : List (ClassId × FieldType) := [(tc 0, .int), (tc 1, .char), (tc 2, .byte), (tc 3, .object RX3)]
def am_sz (c : aC) : Nat := match c with
  | .inl (_, l) => l.length
  | .inr (.inl l) => l.length
  | .inr (.inr (_, fs)) => fs.length
def am_slt (h : aH) : Nat := (h.map am_sz).sum
theorem am_slt_app (h : aH) (c : aC) : am_slt (h ++ [c]) = am_slt h + am_sz c := by simp [am_slt]
theorem am_slt_set {h : aH} {k : Nat} {c c' : aC} (hk : h[k]? = some c) (hz : am_sz c' = am_sz c) : am_slt (h.set k c') = am_slt h := by
  unfold am_slt
  congr 1
  apply List.ext_getElem?
  intro i
  rw [List.getElem?_map, List.getElem?_map, List.getElem?_set]
  by_cases hi : k = i
  · subst hi
    rw [if_pos rfl, hk, if_pos (List.getElem?_eq_some_iff.mp hk).1]
    simp [hz]
  · rw [if_neg hi]
/-! what is there beside the cells: tables of the class, its text, links of nest mates -/
def am_sn (j : Nat) : String := ["POINTING", "LETTER_BETWEEN", "SPELLING"].getD j "POINTING"
def am_str : String := "n1,1;n3,2;j3;mQUAKER;mSLOUGH;mLATE;"
def am_SE (A : Nat → Prop) (ts : Nat → Nat) (U : State) (H : Heap) : Prop :=
  (∀ q ∈ am_ms, q.2.2.2.1 = 4 ∨ q.2.2.2.1 = 5 → va_Nw (.methodLinkNest (am_nm q.1) q.2.1 (am_y q.2.2.1) RX8) U) ∧
  (∀ q ∈ am_ss, q.2.2.2 = true → va_Nw (.fieldLinkNest (am_nm q.1) q.2.1 RX8 (am_sn q.2.2.1) "[I" RX8) U) ∧
  va_AO RX3 U ∧
  (∀ j, j < 3 → va_Z RX8 (am_sn j) "[I" (.ref (ts j)) A U H ∧ va_T .int (ts j) (am_sta.getD j []).length (fun i => .int ((am_sta.getD j []).getD i 0)) A U H) ∧
  vk_R RX8 68 am_str (ts 3) U ∧ vk_S 1 [35] [am_tx] (fun _ => ts 3) (fun _ => ts 4) A U H ∧
  va_Z "java/lang/String" "COMPACT_STRINGS" "Z" (.int 1) A U H ∧ va_Zq "jdk/internal/util/Preconditions" "SIOOBE_FORMATTER" "Ljava/util/function/BiFunction;" A U H
theorem am_SE.go {A : Nat → Prop} {ts : Nat → Nat} {s U : State} {H0 : Heap} (h : am_SE A ts s H0) (hW : s.WarmedH U.vm) {H : Heap} (hH : ∀ a : Nat, a < H0.size → ¬ A a → H[a]? = H0[a]?) : am_SE A ts U H := by
  obtain ⟨h1, h2, h3, h4, h5, h6, h7, h8⟩ := h
  have hv : s.vm.Alike U.vm := hW.alike
  exact ⟨fun q hq hk => va_Nw.warmM hW (h1 q hq hk), fun q hq hk => va_Nw.warmF hW (h2 q hq hk), h3.moved hv, fun j hj => ⟨((h4 j hj).1.moved hv).kept hH, ((h4 j hj).2.moved hv).kept hH⟩, h5.warm hW, (h6.moved hv).kept hH, (h7.moved hv).kept hH, (h8.moved hv).kept hH⟩
theorem am_SE.same {A : Nat → Prop} {ts : Nat → Nat} {s U : State} {H : Heap} (h : am_SE A ts s H) (hv : s.vm = U.vm) : am_SE A ts U H := by
  obtain ⟨h1, h2, h3, h4, h5, h6, h7, h8⟩ := h
  have ha : s.vm.Alike U.vm := by rw [hv]; exact Vm.Alike.refl _
  exact ⟨fun q hq hk => va_Nw.same rfl hv (h1 q hq hk), fun q hq hk => va_Nw.same rfl hv (h2 q hq hk), h3.moved ha, fun j hj => ⟨(h4 j hj).1.moved ha, (h4 j hj).2.moved ha⟩, h5.same hv.symm, h6.moved ha, h7.moved ha, h8.moved ha⟩
/-! a world: allocation allowed, base, static cells, the frame, classes, array classes; cells and slots at the start and at the end -/
abbrev aE : Type := Bool × Nat × (Nat → Nat) × (Nat → Prop) × va_G × (Nat → ClassId) × Nat × Nat × Nat × Nat
abbrev ae_al (w : aE) : Bool := w.1
abbrev ae_b (w : aE) : Nat := w.2.1
abbrev ae_ts (w : aE) : Nat → Nat := w.2.2.1
abbrev ae_A (w : aE) : Nat → Prop := w.2.2.2.1
abbrev ae_D (w : aE) : va_G := w.2.2.2.2.1
abbrev ae_tc (w : aE) : Nat → ClassId := w.2.2.2.2.2.1
abbrev ae_n0 (w : aE) : Nat := w.2.2.2.2.2.2.1
abbrev ae_z0 (w : aE) : Nat := w.2.2.2.2.2.2.2.1
abbrev ae_n1 (w : aE) : Nat := w.2.2.2.2.2.2.2.2.1
abbrev ae_z1 (w : aE) : Nat := w.2.2.2.2.2.2.2.2.2
abbrev ae_s (w : aE) : Nat → Nat := am_sg (ae_b w) (ae_ts w)
def am_Hp (w : aE) (s : State) (h : aH) (H : Heap) (locs : List Loc) (cells slots : Nat) : Prop :=
  (h.length ≤ ae_n1 w ∧ am_slt h ≤ ae_z1 w ∧ cells + ae_n0 w = h.length ∧ slots + ae_z0 w = am_slt h) ∧ va_P (ae_D w) vwCl (am_W (ae_s w) (ae_tc w) h) H ∧ va_S (ae_A w) s.heap H locs ∧ (∀ j, j < h.length → ae_A w (ae_b w + j)) ∧ h.length ≤ 100000 ∧ (ae_al w = true → H.size = ae_b w + h.length)
def am_Gl (w : aE) (p : Program) (l : Launch) (e : Env) (R : Room) (s : State) (m : MethodId) (args : Array Value) (below : List Frame) (meth : Method) (c : Code) (Q : State → Prop) (k : aK) : Prop :=
  ∀ (ls : Array Slot) (H : Heap) (locs : List Loc) (cells slots : Nat), am_Hp w s k.2.2.2 H locs cells slots → lv_has ls c.maxLocals (am_lv (ae_s w) k.2.1) → W p l e R s m args below meth c H locs cells slots Q (F0 m k.1 ls (k.2.2.1.map (am_v (ae_s w))))
def am_Cx (w : aE) (m0 : aM) (d : Nat) (p : Program) (l : Launch) (e : Env) (R : Room) (s : State) (m : MethodId) (args : Array Value) (below : List Frame) (meth : Method) (c : Code) : Prop :=
  p.tables.exec = Jvm.exec ∧ c.code = m0.2.2.1 ∧ meth.sig.returnType = m0.2.2.2.2.1 ∧ c.maxLocals = m0.2.2.2.1 ∧ s.vm.findClass (am_nm m0.2.1) = some m.cls ∧ (∀ w ∈ am_G, w.before args s = true) ∧ va_K (ae_D w) vwCl (am_tys (ae_tc w)) s ∧ am_SE (ae_A w) (ae_ts w) s s.heap ∧ meth.locks = false ∧ meth.name = m0.1.name ∧
  (ae_al w = true → ∀ q, ae_b w ≤ q → ae_A w q) ∧ (d + 8 ≤ R.frames ∧ 40 * d + 400 ≤ R.locals ∧ ae_n1 w ≤ R.cells + ae_n0 w ∧ ae_z1 w ≤ R.slots + ae_z0 w) ∧ m0 ∈ am_tab
