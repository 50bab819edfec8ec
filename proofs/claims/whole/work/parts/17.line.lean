/-! lists of small numbers as arrays; a line in the heap: its object and four arrays -/
def ar (l : List Nat) : aC := .inl (0, l.map nI)
theorem mg {K : List Nat} {p : Nat} (hp : p < K.length) : (K.map nI)[p]? = some (nI (K.getD p 0)) := by
  rw [List.getElem?_map, List.getD, List.getElem?_eq_getElem hp]; rfl
theorem ms_ {K : List Nat} {p x : Nat} : (K.map nI).set p (nI x) = (K.set p x).map nI := List.map_set.symm
theorem gd_s {K : List Nat} {p x : Nat} (hp : p < K.length) : (K.set p x).getD p 0 = x := by simp [List.getD, hp]
theorem gd_n {K : List Nat} {p q x : Nat} (hn : p ≠ q) : (K.set p x).getD q 0 = K.getD q 0 := by simp [List.getD, List.getElem?_set_ne hn]
def lo (i c t j : Nat) : aC := .inr (.inr (3, [.ref (i + 1), .ref (i + 2), .ref (i + 3), .ref (i + 4), .int (nI c), .int (nI t), .int (nI j)]))
def lh (h : aH) (i : Nat) (K S G C : List Nat) (c t j : Nat) : aH := ((((h.set i (lo i c t j)).set (i + 1) (ar K)).set (i + 2) (ar S)).set (i + 3) (ar G)).set (i + 4) (ar C)
section LH
variable {h : aH} {i : Nat} {K S G C : List Nat} {c t j : Nat}
theorem lh_len : (lh h i K S G C c t j).length = h.length := by simp [lh]
theorem lh_0 (hi : i + 4 < h.length) : (lh h i K S G C c t j)[i]? = some (lo i c t j) := by
  unfold lh
  rw [List.getElem?_set_ne (by omega), List.getElem?_set_ne (by omega), List.getElem?_set_ne (by omega), List.getElem?_set_ne (by omega), List.getElem?_set_self (by omega)]
theorem lh_1 (hi : i + 4 < h.length) : (lh h i K S G C c t j)[i + 1]? = some (ar K) := by
  unfold lh
  rw [List.getElem?_set_ne (by omega), List.getElem?_set_ne (by omega), List.getElem?_set_ne (by omega), List.getElem?_set_self (by simp; omega)]
theorem lh_2 (hi : i + 4 < h.length) : (lh h i K S G C c t j)[i + 2]? = some (ar S) := by
  unfold lh
  rw [List.getElem?_set_ne (by omega), List.getElem?_set_ne (by omega), List.getElem?_set_self (by simp; omega)]
theorem lh_3 (hi : i + 4 < h.length) : (lh h i K S G C c t j)[i + 3]? = some (ar G) := by
  unfold lh
  rw [List.getElem?_set_ne (by omega), List.getElem?_set_self (by simp; omega)]
theorem lh_4 (hi : i + 4 < h.length) : (lh h i K S G C c t j)[i + 4]? = some (ar C) := by
  unfold lh
  rw [List.getElem?_set_self (by simp; omega)]
theorem lh_o {k : Nat} (hk : k < i ∨ i + 4 < k) : (lh h i K S G C c t j)[k]? = h[k]? := by
  unfold lh
  rw [List.getElem?_set_ne (by omega), List.getElem?_set_ne (by omega), List.getElem?_set_ne (by omega), List.getElem?_set_ne (by omega), List.getElem?_set_ne (by omega)]
/-- heaps are alike where all their cells are -/
theorem lh_ext {h2 : aH} (hi : i + 4 < h.length) (hl : h2.length = h.length) (h0 : h2[i]? = some (lo i c t j)) (h1 : h2[i + 1]? = some (ar K)) (hS : h2[i + 2]? = some (ar S)) (hG : h2[i + 3]? = some (ar G)) (hC : h2[i + 4]? = some (ar C)) (ho : ∀ k, k < i ∨ i + 4 < k → h2[k]? = h[k]?) : h2 = lh h i K S G C c t j := by
  apply List.ext_getElem?
  intro k
  by_cases hk : k < i ∨ i + 4 < k
  · rw [lh_o hk]; exact ho k hk
  · rcases (show k = i ∨ k = i + 1 ∨ k = i + 2 ∨ k = i + 3 ∨ k = i + 4 by omega) with rfl | rfl | rfl | rfl | rfl
    · rw [h0, lh_0 hi]
    · rw [h1, lh_1 hi]
    · rw [hS, lh_2 hi]
    · rw [hG, lh_3 hi]
    · rw [hC, lh_4 hi]
theorem lh_s0 (hi : i + 4 < h.length) {c' t' j' : Nat} : (lh h i K S G C c t j).set i (lo i c' t' j') = lh h i K S G C c' t' j' :=
  lh_ext hi (by rw [List.length_set, lh_len]) (by rw [List.getElem?_set_self (by rw [lh_len]; omega)]) (by rw [List.getElem?_set_ne (by omega), lh_1 hi]) (by rw [List.getElem?_set_ne (by omega), lh_2 hi]) (by rw [List.getElem?_set_ne (by omega), lh_3 hi]) (by rw [List.getElem?_set_ne (by omega), lh_4 hi]) (fun k hk => by rw [List.getElem?_set_ne (by omega), lh_o hk])
theorem lh_s1 (hi : i + 4 < h.length) {K' : List Nat} : (lh h i K S G C c t j).set (i + 1) (ar K') = lh h i K' S G C c t j :=
  lh_ext hi (by rw [List.length_set, lh_len]) (by rw [List.getElem?_set_ne (by omega), lh_0 hi]) (by rw [List.getElem?_set_self (by rw [lh_len]; omega)]) (by rw [List.getElem?_set_ne (by omega), lh_2 hi]) (by rw [List.getElem?_set_ne (by omega), lh_3 hi]) (by rw [List.getElem?_set_ne (by omega), lh_4 hi]) (fun k hk => by rw [List.getElem?_set_ne (by omega), lh_o hk])
theorem lh_s2 (hi : i + 4 < h.length) {S' : List Nat} : (lh h i K S G C c t j).set (i + 2) (ar S') = lh h i K S' G C c t j :=
  lh_ext hi (by rw [List.length_set, lh_len]) (by rw [List.getElem?_set_ne (by omega), lh_0 hi]) (by rw [List.getElem?_set_ne (by omega), lh_1 hi]) (by rw [List.getElem?_set_self (by rw [lh_len]; omega)]) (by rw [List.getElem?_set_ne (by omega), lh_3 hi]) (by rw [List.getElem?_set_ne (by omega), lh_4 hi]) (fun k hk => by rw [List.getElem?_set_ne (by omega), lh_o hk])
theorem lh_s3 (hi : i + 4 < h.length) {G' : List Nat} : (lh h i K S G C c t j).set (i + 3) (ar G') = lh h i K S G' C c t j :=
  lh_ext hi (by rw [List.length_set, lh_len]) (by rw [List.getElem?_set_ne (by omega), lh_0 hi]) (by rw [List.getElem?_set_ne (by omega), lh_1 hi]) (by rw [List.getElem?_set_ne (by omega), lh_2 hi]) (by rw [List.getElem?_set_self (by rw [lh_len]; omega)]) (by rw [List.getElem?_set_ne (by omega), lh_4 hi]) (fun k hk => by rw [List.getElem?_set_ne (by omega), lh_o hk])
theorem lh_s4 (hi : i + 4 < h.length) {C' : List Nat} : (lh h i K S G C c t j).set (i + 4) (ar C') = lh h i K S G C' c t j :=
  lh_ext hi (by rw [List.length_set, lh_len]) (by rw [List.getElem?_set_ne (by omega), lh_0 hi]) (by rw [List.getElem?_set_ne (by omega), lh_1 hi]) (by rw [List.getElem?_set_ne (by omega), lh_2 hi]) (by rw [List.getElem?_set_ne (by omega), lh_3 hi]) (by rw [List.getElem?_set_self (by rw [lh_len]; omega)]) (fun k hk => by rw [List.getElem?_set_ne (by omega), lh_o hk])
/-! rows for a line; hi: its cells are there, and below 100000 -/
variable {d : Nat} {m : aM} {pc np r x p v : Nat} {L : aL} {T : List Value} {Q : Option Value → aH → Prop}
abbrev lI (h : aH) (i : Nat) : Prop := i + 4 < h.length ∧ h.length ≤ 100000
theorem ev_lf {y : Nat × Nat × Nat × Nat × FieldType × Bool} {u : Value} (hi : lI h i) (hc : am_cd m pc = some (.getfield x, np, r)) (hy : am_fs[r]? = some y) (h3 : y.2.2.1 = 3) (hv : [.ref (i + 1), .ref (i + 2), .ref (i + 3), .ref (i + 4), .int (nI c), .int (nI t), .int (nI j)][y.2.2.2.1]? = some u) (k : Ev d m np L (u :: T) (lh h i K S G C c t j) Q) : Ev d m pc L (.ref i :: T) (lh h i K S G C c t j) Q :=
  ev_gf hc hy (by rw [lh_0 hi.1, h3]; rfl) hv k (by have := hi.1; have := hi.2; omega)
theorem ev_lp {y : Nat × Nat × Nat × Nat × FieldType × Bool} {c' t' j' : Nat} (hi : lI h i) (hc : am_cd m pc = some (.putfield x, np, r)) (hy : am_fs[r]? = some y) (h3 : y.2.2.1 = 3 ∧ y.2.2.2.2.1 = .int ∧ y.2.2.2.2.2 = false) (hl : y.2.2.2.1 < 7) (hv : [Value.ref (i + 1), .ref (i + 2), .ref (i + 3), .ref (i + 4), .int (nI c), .int (nI t), .int (nI j)].set y.2.2.2.1 (.int (nI v)) = [.ref (i + 1), .ref (i + 2), .ref (i + 3), .ref (i + 4), .int (nI c'), .int (nI t'), .int (nI j')]) (k : Ev d m np L T (lh h i K S G C c' t' j') Q) : Ev d m pc L (.int (nI v) :: .ref i :: T) (lh h i K S G C c t j) Q := by
  refine ev_pf hc hy (fs := [.ref (i + 1), .ref (i + 2), .ref (i + 3), .ref (i + 4), .int (nI c), .int (nI t), .int (nI j)]) (by rw [lh_0 hi.1, h3.1]; rfl) hl (by rw [h3.2.1]; rfl) (by rw [h3.2.1]; rfl) h3.2.2 ?_ (by have := hi.1; have := hi.2; omega)
  rw [hv, h3.1]
  have e : (lh h i K S G C c t j).set i (lo i c' t' j') = lh h i K S G C c' t' j' := lh_s0 hi.1
  unfold lo at e
  rw [e]
  exact k
theorem ev_lK (hi : lI h i) (hc : am_cd m pc = some (.iaload, np, r)) (hp : p < K.length ∧ p < 2147483648) (k : Ev d m np L (.int (nI (K.getD p 0)) :: T) (lh h i K S G C c t j) Q) : Ev d m pc L (.int (nI p) :: .ref (i + 1) :: T) (lh h i K S G C c t j) Q :=
  ev_ia hc (am_arr_h (by have := hi.1; have := hi.2; omega) (lh_1 hi.1)) (mg hp.1) k hp.2
theorem ev_lS (hi : lI h i) (hc : am_cd m pc = some (.iaload, np, r)) (hp : p < S.length ∧ p < 2147483648) (k : Ev d m np L (.int (nI (S.getD p 0)) :: T) (lh h i K S G C c t j) Q) : Ev d m pc L (.int (nI p) :: .ref (i + 2) :: T) (lh h i K S G C c t j) Q :=
  ev_ia hc (am_arr_h (by have := hi.1; have := hi.2; omega) (lh_2 hi.1)) (mg hp.1) k hp.2
theorem ev_lG (hi : lI h i) (hc : am_cd m pc = some (.iaload, np, r)) (hp : p < G.length ∧ p < 2147483648) (k : Ev d m np L (.int (nI (G.getD p 0)) :: T) (lh h i K S G C c t j) Q) : Ev d m pc L (.int (nI p) :: .ref (i + 3) :: T) (lh h i K S G C c t j) Q :=
  ev_ia hc (am_arr_h (by have := hi.1; have := hi.2; omega) (lh_3 hi.1)) (mg hp.1) k hp.2
theorem ev_lC (hi : lI h i) (hc : am_cd m pc = some (.iaload, np, r)) (hp : p < C.length ∧ p < 2147483648) (k : Ev d m np L (.int (nI (C.getD p 0)) :: T) (lh h i K S G C c t j) Q) : Ev d m pc L (.int (nI p) :: .ref (i + 4) :: T) (lh h i K S G C c t j) Q :=
  ev_ia hc (am_arr_h (by have := hi.1; have := hi.2; omega) (lh_4 hi.1)) (mg hp.1) k hp.2
theorem ev_sK (hi : lI h i) (hc : am_cd m pc = some (.iastore, np, r)) (hp : p < K.length ∧ p < 2147483648) (k : Ev d m np L T (lh h i (K.set p v) S G C c t j) Q) : Ev d m pc L (.int (nI v) :: .int (nI p) :: .ref (i + 1) :: T) (lh h i K S G C c t j) Q := by
  refine ev_is hc (lh_1 hi.1) (by simpa using hp.1) ?_ hp.2 (by have := hi.1; have := hi.2; omega)
  rw [ms_]
  exact (lh_s1 hi.1 (K' := K.set p v)) ▸ k
theorem ev_sS (hi : lI h i) (hc : am_cd m pc = some (.iastore, np, r)) (hp : p < S.length ∧ p < 2147483648) (k : Ev d m np L T (lh h i K (S.set p v) G C c t j) Q) : Ev d m pc L (.int (nI v) :: .int (nI p) :: .ref (i + 2) :: T) (lh h i K S G C c t j) Q := by
  refine ev_is hc (lh_2 hi.1) (by simpa using hp.1) ?_ hp.2 (by have := hi.1; have := hi.2; omega)
  rw [ms_]
  exact (lh_s2 hi.1 (S' := S.set p v)) ▸ k
theorem ev_sG (hi : lI h i) (hc : am_cd m pc = some (.iastore, np, r)) (hp : p < G.length ∧ p < 2147483648) (k : Ev d m np L T (lh h i K S (G.set p v) C c t j) Q) : Ev d m pc L (.int (nI v) :: .int (nI p) :: .ref (i + 3) :: T) (lh h i K S G C c t j) Q := by
  refine ev_is hc (lh_3 hi.1) (by simpa using hp.1) ?_ hp.2 (by have := hi.1; have := hi.2; omega)
  rw [ms_]
  exact (lh_s3 hi.1 (G' := G.set p v)) ▸ k
theorem ev_sC (hi : lI h i) (hc : am_cd m pc = some (.iastore, np, r)) (hp : p < C.length ∧ p < 2147483648) (k : Ev d m np L T (lh h i K S G (C.set p v) c t j) Q) : Ev d m pc L (.int (nI v) :: .int (nI p) :: .ref (i + 4) :: T) (lh h i K S G C c t j) Q := by
  refine ev_is hc (lh_4 hi.1) (by simpa using hp.1) ?_ hp.2 (by have := hi.1; have := hi.2; omega)
  rw [ms_]
  exact (lh_s4 hi.1 (C' := C.set p v)) ▸ k
end LH
