/-! rows for runs: branches on numbers, cells, calls -/
section EVR
variable {d : Nat} {m : aM} {pc np r x p q : Nat} {L : aL} {S : List Value} {h : aH} {Q : Option Value → aH → Prop} {a b : Nat}
theorem ev_t {c : Bool} (hc : c = true) (k : Ev d m p L S h Q) : Ev d m (if c then p else q) L S h Q := by rw [hc]; exact k
theorem ev_f {c : Bool} (hc : c = false) (k : Ev d m q L S h Q) : Ev d m (if c then p else q) L S h Q := by rw [hc]; exact k
theorem ev_eq (kt : a = b → Ev d m p L S h Q) (kf : ¬ a = b → Ev d m q L S h Q) (ha : a < 2147483648 := by omega) (hb : b < 2147483648 := by omega) : Ev d m (if am_c2 .eq (nI a) (nI b) then p else q) L S h Q :=
  ev_if (fun hc => kt ((nI_eq ha hb).mp (by simpa [am_c2] using hc))) (fun hc => kf (fun e => by subst e; simp [am_c2] at hc))
theorem ev_ne (kt : ¬ a = b → Ev d m p L S h Q) (kf : a = b → Ev d m q L S h Q) (ha : a < 2147483648 := by omega) (hb : b < 2147483648 := by omega) : Ev d m (if am_c2 .ne (nI a) (nI b) then p else q) L S h Q :=
  ev_if (fun hc => kt (fun e => by subst e; simp [am_c2] at hc)) (fun hc => kf ((nI_eq ha hb).mp (by simpa [am_c2] using hc)))
theorem ev_lt (kt : a < b → Ev d m p L S h Q) (kf : b ≤ a → Ev d m q L S h Q) (ha : a < 2147483648 := by omega) (hb : b < 2147483648 := by omega) : Ev d m (if am_c2 .lt (nI a) (nI b) then p else q) L S h Q :=
  ev_if (fun hc => kt ((nI_ltI ha hb).mp (by simpa only [am_c2, decide_eq_true_eq] using hc))) (fun hc => kf (Nat.le_of_not_lt (fun e => by have := (nI_ltI ha hb).mpr e; simp only [am_c2, decide_eq_false_iff_not] at hc; exact hc this)))
theorem ev_ge (kt : b ≤ a → Ev d m p L S h Q) (kf : a < b → Ev d m q L S h Q) (ha : a < 2147483648 := by omega) (hb : b < 2147483648 := by omega) : Ev d m (if am_c2 .ge (nI a) (nI b) then p else q) L S h Q :=
  ev_if (fun hc => kt ((nI_leI hb ha).mp (by simpa only [am_c2, decide_eq_true_eq] using hc))) (fun hc => kf (Nat.lt_of_not_le (fun e => by have := (nI_leI hb ha).mpr e; simp only [am_c2, decide_eq_false_iff_not] at hc; exact hc this)))
theorem ev_gt (kt : b < a → Ev d m p L S h Q) (kf : a ≤ b → Ev d m q L S h Q) (ha : a < 2147483648 := by omega) (hb : b < 2147483648 := by omega) : Ev d m (if am_c2 .gt (nI a) (nI b) then p else q) L S h Q :=
  ev_if (fun hc => kt ((nI_ltI hb ha).mp (by simpa only [am_c2, decide_eq_true_eq] using hc))) (fun hc => kf (Nat.le_of_not_lt (fun e => by have := (nI_ltI hb ha).mpr e; simp only [am_c2, decide_eq_false_iff_not] at hc; exact hc this)))
theorem ev_leq (kt : a ≤ b → Ev d m p L S h Q) (kf : b < a → Ev d m q L S h Q) (ha : a < 2147483648 := by omega) (hb : b < 2147483648 := by omega) : Ev d m (if am_c2 .le (nI a) (nI b) then p else q) L S h Q :=
  ev_if (fun hc => kt ((nI_leI ha hb).mp (by simpa only [am_c2, decide_eq_true_eq] using hc))) (fun hc => kf (Nat.lt_of_not_le (fun e => by have := (nI_leI ha hb).mpr e; simp only [am_c2, decide_eq_false_iff_not] at hc; exact hc this)))
theorem ev_eq0 (kt : a = 0 → Ev d m p L S h Q) (kf : ¬ a = 0 → Ev d m q L S h Q) (ha : a < 2147483648 := by omega) : Ev d m (if am_c2 .eq (nI a) 0 then p else q) L S h Q := ev_eq (b := 0) kt kf ha (by decide)
theorem ev_ne0 (kt : ¬ a = 0 → Ev d m p L S h Q) (kf : a = 0 → Ev d m q L S h Q) (ha : a < 2147483648 := by omega) : Ev d m (if am_c2 .ne (nI a) 0 then p else q) L S h Q := ev_ne (b := 0) kt kf ha (by decide)
theorem ev_lt0 (kf : Ev d m q L S h Q) (ha : a < 2147483648 := by omega) : Ev d m (if am_c2 .lt (nI a) 0 then p else q) L S h Q := ev_lt (b := 0) (fun h => absurd h (Nat.not_lt_zero _)) (fun _ => kf) ha (by decide)
theorem ev_ge0 (kt : Ev d m p L S h Q) (ha : a < 2147483648 := by omega) : Ev d m (if am_c2 .ge (nI a) 0 then p else q) L S h Q := ev_ge (b := 0) (fun _ => kt) (fun h => absurd h (Nat.not_lt_zero _)) ha (by decide)
theorem ev_gt0 (kt : 0 < a → Ev d m p L S h Q) (kf : a = 0 → Ev d m q L S h Q) (ha : a < 2147483648 := by omega) : Ev d m (if am_c2 .gt (nI a) 0 then p else q) L S h Q := ev_gt (b := 0) kt (fun h => kf (by omega)) ha (by decide)
theorem ev_le0 (kt : a = 0 → Ev d m p L S h Q) (kf : 0 < a → Ev d m q L S h Q) (ha : a < 2147483648 := by omega) : Ev d m (if am_c2 .le (nI a) 0 then p else q) L S h Q := ev_leq (b := 0) (fun h => kt (by omega)) kf ha (by decide)
/-- a test of any number against a constant: by cases -/
theorem ev_c {c : ClassFile.Cond} {u v : Int32} {P : Prop} (hP : am_c2 c u v = true ↔ P) (kt : P → Ev d m p L S h Q) (kf : ¬ P → Ev d m q L S h Q) : Ev d m (if am_c2 c u v then p else q) L S h Q :=
  ev_if (fun hc => kt (hP.mp hc)) (fun hc => kf (fun e => by rw [hP.mpr e] at hc; cases hc))
/-! cells -/
theorem am_arr_h {y : Nat × List Int32} (ha : a < 100000) (hh : h[a]? = some (.inl y)) : am_arr h a = some y := by
  unfold am_arr; rw [if_pos ha, hh]
theorem am_ix_nI {α : Type} {l : List α} {j : Nat} (hj : j < 2147483648) : am_ix l (nI j) = l[j]? := by
  unfold am_ix; rw [if_neg (nI_pos hj), nI_clamp hj]
theorem ev_gf {y : Nat × Nat × Nat × Nat × FieldType × Bool} {fs : List Value} {v : Value} (hc : am_cd m pc = some (.getfield x, np, r)) (hy : am_fs[r]? = some y) (hh : h[a]? = some (.inr (.inr (y.2.2.1, fs)))) (hv : fs[y.2.2.2.1]? = some v) (k : Ev d m np L (v :: S) h Q) (ha : a < 100000 := by omega) : Ev d m pc L (.ref a :: S) h Q := by
  refine ev_nx (pc' := np) (L' := L) (S' := v :: S) (h' := h) ?_ k
  simp only [am_go, hc, am_op, hy, am_get, hh, hv, ha, and_self, if_true, am_nx]
theorem ev_pf {y : Nat × Nat × Nat × Nat × FieldType × Bool} {fs : List Value} {v : Value} (hc : am_cd m pc = some (.putfield x, np, r)) (hy : am_fs[r]? = some y) (hh : h[a]? = some (.inr (.inr (y.2.2.1, fs)))) (hl : y.2.2.2.1 < fs.length) (hn : narrow y.2.2.2.2.1 v = v) (hf : fits y.2.2.2.2.1 v = true) (hfin : y.2.2.2.2.2 = false) (k : Ev d m np L S (h.set a (.inr (.inr (y.2.2.1, fs.set y.2.2.2.1 v)))) Q) (ha : a < 100000 := by omega) : Ev d m pc L (v :: .ref a :: S) h Q := by
  refine ev_nx (pc' := np) (L' := L) (S' := S) (h' := h.set a (.inr (.inr (y.2.2.1, fs.set y.2.2.2.1 v)))) ?_ k
  simp only [am_go, hc, am_op, hy, am_put, hh, am_nx]
  rw [if_pos ⟨ha, trivial, hl, hn, hf, fun q => by rw [hfin] at q; cases q⟩]
theorem ev_ia {l : List Int32} {j : Nat} {v : Int32} (hc : am_cd m pc = some (.iaload, np, r)) (hh : am_arr h a = some (0, l)) (hv : l[j]? = some v) (k : Ev d m np L (.int v :: S) h Q) (hj : j < 2147483648 := by omega) : Ev d m pc L (.int (nI j) :: .ref a :: S) h Q := by
  refine ev_nx (pc' := np) (L' := L) (S' := .int v :: S) (h' := h) ?_ k
  simp only [am_go, hc, am_op, am_ald, hh, if_true, am_ix_nI hj, hv, am_nx]
theorem ev_ca {l : List Int32} {j : Nat} {v : Int32} (hc : am_cd m pc = some (.caload, np, r)) (hh : am_arr h a = some (1, l)) (hv : l[j]? = some v) (k : Ev d m np L (.int v :: S) h Q) (hj : j < 2147483648 := by omega) : Ev d m pc L (.int (nI j) :: .ref a :: S) h Q := by
  refine ev_nx (pc' := np) (L' := L) (S' := .int v :: S) (h' := h) ?_ k
  simp only [am_go, hc, am_op, am_ald, hh, if_true, am_ix_nI hj, hv, am_nx]
theorem ev_ba {l : List Int32} {j : Nat} {v : Int32} (hc : am_cd m pc = some (.baload, np, r)) (hh : am_arr h a = some (2, l)) (hv : l[j]? = some v) (k : Ev d m np L (.int v :: S) h Q) (hj : j < 2147483648 := by omega) : Ev d m pc L (.int (nI j) :: .ref a :: S) h Q := by
  refine ev_nx (pc' := np) (L' := L) (S' := .int v :: S) (h' := h) ?_ k
  simp only [am_go, hc, am_op, am_ald, hh, if_true, am_ix_nI hj, hv, am_nx]
theorem ev_is {l : List Int32} {j : Nat} {v : Int32} (hc : am_cd m pc = some (.iastore, np, r)) (hh : h[a]? = some (.inl (0, l))) (hl : j < l.length) (k : Ev d m np L S (h.set a (.inl (0, l.set j v))) Q) (hj : j < 2147483648 := by omega) (ha : a < 100000 := by omega) : Ev d m pc L (.int v :: .int (nI j) :: .ref a :: S) h Q := by
  refine ev_nx (pc' := np) (L' := L) (S' := S) (h' := h.set a (.inl (0, l.set j v))) ?_ k
  simp only [am_go, hc, am_op, am_ast, hh, nI_clamp hj, am_nx]
  rw [if_pos ⟨ha, trivial, nI_pos hj, hl⟩]
  rfl
theorem ev_cs {l : List Int32} {j : Nat} {v : Int32} (hc : am_cd m pc = some (.castore, np, r)) (hh : h[a]? = some (.inl (1, l))) (hl : j < l.length) (k : Ev d m np L S (h.set a (.inl (1, l.set j (vp_nar .char v)))) Q) (hj : j < 2147483648 := by omega) (ha : a < 100000 := by omega) : Ev d m pc L (.int v :: .int (nI j) :: .ref a :: S) h Q := by
  refine ev_nx (pc' := np) (L' := L) (S' := S) (h' := h.set a (.inl (1, l.set j (vp_nar .char v)))) ?_ k
  simp only [am_go, hc, am_op, am_ast, hh, nI_clamp hj, am_nx]
  rw [if_pos ⟨ha, trivial, nI_pos hj, hl⟩]
theorem ev_bs {l : List Int32} {j : Nat} {v : Int32} (hc : am_cd m pc = some (.bastore, np, r)) (hh : h[a]? = some (.inl (2, l))) (hl : j < l.length) (k : Ev d m np L S (h.set a (.inl (2, l.set j (vp_nar .byte v)))) Q) (hj : j < 2147483648 := by omega) (ha : a < 100000 := by omega) : Ev d m pc L (.int v :: .int (nI j) :: .ref a :: S) h Q := by
  refine ev_nx (pc' := np) (L' := L) (S' := S) (h' := h.set a (.inl (2, l.set j (vp_nar .byte v)))) ?_ k
  simp only [am_go, hc, am_op, am_ast, hh, nI_clamp hj, am_nx]
  rw [if_pos ⟨ha, trivial, nI_pos hj, hl⟩]
theorem ev_aa {l : List (Option Nat)} {j v : Nat} (hc : am_cd m pc = some (.aaload, np, r)) (hh : h[a]? = some (.inr (.inl l))) (hv : l[j]? = some (some v)) (k : Ev d m np L (.ref v :: S) h Q) (hj : j < 2147483648 := by omega) (ha : a < 100000 := by omega) : Ev d m pc L (.int (nI j) :: .ref a :: S) h Q := by
  refine ev_nx (pc' := np) (L' := L) (S' := .ref v :: S) (h' := h) ?_ k
  simp only [am_go, hc, am_op, am_aald, hh, am_ix_nI hj, hv, ha, if_true, am_nx]
theorem ev_al {l : List Int32} {t : Nat} (hc : am_cd m pc = some (.arraylength, np, r)) (hh : am_arr h a = some (t, l)) (ht : t < 3) (k : Ev d m np L (.int (nI l.length) :: S) h Q) : Ev d m pc L (.ref a :: S) h Q := by
  refine ev_nx (pc' := np) (L' := L) (S' := .int (nI l.length) :: S) (h' := h) ?_ k
  simp only [am_go, hc, am_op, hh, ht, if_true, am_nx]
  rfl
theorem ev_ri {ty : FieldType} {v : Int32} (hc : am_cd m pc = some (.ireturn, np, r)) (hty : m.2.2.2.2.1 = some ty) (hn : narrow ty (.int v) = .int v) (k : Q (some (.int v)) h) : Ev d m pc L [.int v] h Q := by
  refine ev_rt (r := some (.int v)) (h' := h) ?_ k
  simp only [am_go, hc, am_op, am_iret, hty, hn, if_true]
/-! calls of a method of an object -/
theorem ev_v {o x' c n : Nat} {as : List Value} {ci : Nat} {fs : List Value} {m' : aM} {Q1 : Option Value → aH → Prop} (hc : am_cd m pc = some (.invokevirtual x, np, r)) (hq : am_ms[r]? = some (o, x', c, 0, n)) (hl : (n + 1).ble S.length = true) (ht : (S.take (n + 1)).reverse = .ref b :: as) (hsum : (am_sum (S.drop (n + 1))).ble 8 = true) (hm : am_tab[c]? = some m') (hh : h[b]? = some (.inr (.inr (ci, fs)))) (hci : m'.2.1 = ci) (hcall : Ec d m' (.ref b :: as) h Q1) (k : ∀ rv h2, Q1 rv h2 → Ev (d + 1) m np L (rv.toList ++ S.drop (n + 1)) h2 Q) (hb : b < 100000 := by omega) : Ev (d + 1) m pc L S h Q := by
  refine ev_call (c := c) (as := .ref b :: as) (pc' := np) (L' := L) (S' := S.drop (n + 1)) (h' := h) ?_ hm hcall k
  simp only [am_go, hc, am_op, hq, am_call]
  simp only [show ((0 : Nat) = 1 ∨ (0 : Nat) = 4 ∨ (0 : Nat) = 9 ∨ (0 : Nat) = 10) ↔ False from by decide, if_false]
  rw [if_pos ⟨Nat.le_of_ble_eq_true hl, Nat.le_of_ble_eq_true hsum⟩]
  simp only [ht, hh, hm]
  rw [if_pos ⟨hb, by rw [← hci]; rfl⟩]
theorem ev_vi {o x' c n : Nat} {as : List Value} {ci : Nat} {fs : List Value} {m' : aM} {v : Value} {h2 : aH} (hc : am_cd m pc = some (.invokevirtual x, np, r)) (hq : am_ms[r]? = some (o, x', c, 0, n)) (hl : (n + 1).ble S.length = true) (ht : (S.take (n + 1)).reverse = .ref b :: as) (hsum : (am_sum (S.drop (n + 1))).ble 8 = true) (hm : am_tab[c]? = some m') (hh : h[b]? = some (.inr (.inr (ci, fs)))) (hci : m'.2.1 = ci) (hcall : Ec d m' (.ref b :: as) h (rt v h2)) (k : Ev (d + 1) m np L (v :: S.drop (n + 1)) h2 Q) (hb : b < 100000 := by omega) : Ev (d + 1) m pc L S h Q :=
  ev_v hc hq hl ht hsum hm hh hci hcall (fun rv h3 q => by obtain ⟨rfl, rfl⟩ := q; exact k) hb
theorem ev_vv {o x' c n : Nat} {as : List Value} {ci : Nat} {fs : List Value} {m' : aM} {h2 : aH} (hc : am_cd m pc = some (.invokevirtual x, np, r)) (hq : am_ms[r]? = some (o, x', c, 0, n)) (hl : (n + 1).ble S.length = true) (ht : (S.take (n + 1)).reverse = .ref b :: as) (hsum : (am_sum (S.drop (n + 1))).ble 8 = true) (hm : am_tab[c]? = some m') (hh : h[b]? = some (.inr (.inr (ci, fs)))) (hci : m'.2.1 = ci) (hcall : Ec d m' (.ref b :: as) h (rtv h2)) (k : Ev (d + 1) m np L (S.drop (n + 1)) h2 Q) (hb : b < 100000 := by omega) : Ev (d + 1) m pc L S h Q :=
  ev_v hc hq hl ht hsum hm hh hci hcall (fun rv h3 q => by obtain ⟨rfl, rfl⟩ := q; exact k) hb
end EVR
