/-! rows: numbers on the stack, cells of an explicit heap -/
section EVS
variable {d : Nat} {m : aM} {pc np r x p q : Nat} {L : aL} {S : List Value} {h : aH} {Q : Option Value → aH → Prop} {a b : Nat}
theorem ev_add (hc : am_cd m pc = some (.iadd, np, r)) (k : Ev d m np L (.int (nI (a + b)) :: S) h Q) : Ev d m pc L (.int (nI b) :: .int (nI a) :: S) h Q := by
  refine ev_nx (pc' := np) (L' := L) (S' := .int (nI a + nI b) :: S) (h' := h) ?_ (by rw [nI_add]; exact k)
  simp only [am_go, hc, am_op, am_bin, am_b2, am_nx]
theorem ev_sub (hc : am_cd m pc = some (.isub, np, r)) (hab : b ≤ a) (k : Ev d m np L (.int (nI (a - b)) :: S) h Q) : Ev d m pc L (.int (nI b) :: .int (nI a) :: S) h Q := by
  refine ev_nx (pc' := np) (L' := L) (S' := .int (nI a - nI b) :: S) (h' := h) ?_ (by rw [pk_sub hab]; exact k)
  simp only [am_go, hc, am_op, am_bin, am_b2, am_nx]
theorem ev_mul (hc : am_cd m pc = some (.imul, np, r)) (k : Ev d m np L (.int (nI (a * b)) :: S) h Q) : Ev d m pc L (.int (nI b) :: .int (nI a) :: S) h Q := by
  refine ev_nx (pc' := np) (L' := L) (S' := .int (nI a * nI b) :: S) (h' := h) ?_ (by rw [pk_mul]; exact k)
  simp only [am_go, hc, am_op, am_bin, am_b2, am_nx]
theorem nI_nz (hb : 0 < b) (hb2 : b < 2147483648) : ¬ nI b = 0 := fun e => by
  have := (nI_eq (a := b) (b := 0) hb2 (by decide)).mp e
  omega
theorem ev_div (hc : am_cd m pc = some (.idiv, np, r)) (ha : a < 2147483648) (hb : 0 < b ∧ b < 2147483648) (k : Ev d m np L (.int (nI (a / b)) :: S) h Q) : Ev d m pc L (.int (nI b) :: .int (nI a) :: S) h Q := by
  refine ev_nx (pc' := np) (L' := L) (S' := .int (nI a / nI b) :: S) (h' := h) ?_ (by rw [pk_div ha hb.1 hb.2]; exact k)
  simp only [am_go, hc, am_op, am_bin, am_b2, am_nx, if_neg (nI_nz hb.1 hb.2)]
theorem ev_rem (hc : am_cd m pc = some (.irem, np, r)) (ha : a < 2147483648) (hb : 0 < b ∧ b < 2147483648) (k : Ev d m np L (.int (nI (a % b)) :: S) h Q) : Ev d m pc L (.int (nI b) :: .int (nI a) :: S) h Q := by
  refine ev_nx (pc' := np) (L' := L) (S' := .int (nI a - nI a / nI b * nI b) :: S) (h' := h) ?_ (by rw [pk_rem ha hb.1 hb.2]; exact k)
  simp only [am_go, hc, am_op, am_bin, am_b2, am_nx, if_neg (nI_nz hb.1 hb.2)]
theorem ev_or (hc : am_cd m pc = some (.ior, np, r)) (k : Ev d m np L (.int (nI (a ||| b)) :: S) h Q) : Ev d m pc L (.int (nI b) :: .int (nI a) :: S) h Q := by
  refine ev_nx (pc' := np) (L' := L) (S' := .int (nI a ||| nI b) :: S) (h' := h) ?_ (by rw [n_or]; exact k)
  simp only [am_go, hc, am_op, am_bin, am_b2, am_nx]
theorem ev_shr (hc : am_cd m pc = some (.ishr, np, r)) (ha : a < 2147483648) (hb : b < 32) (k : Ev d m np L (.int (nI (a / 2 ^ b)) :: S) h Q) : Ev d m pc L (.int (nI b) :: .int (nI a) :: S) h Q := by
  refine ev_nx (pc' := np) (L' := L) (S' := .int (nI a >>> (nI b &&& 31)) :: S) (h' := h) ?_ (by rw [n_shr ha hb]; exact k)
  simp only [am_go, hc, am_op, am_bin, am_b2, am_nx]
/-- 1, shifted -/
theorem ev_sh1 (hc : am_cd m pc = some (.ishl, np, r)) (hb : b < 31) (k : Ev d m np L (.int (nI (1 * 2 ^ b)) :: S) h Q) : Ev d m pc L (.int (nI b) :: .int (nI 1) :: S) h Q := by
  have hp : 1 * 2 ^ b < 4294967296 := by
    have := Nat.pow_lt_pow_right (a := 2) (by decide) (show b < 32 by omega); omega
  refine ev_nx (pc' := np) (L' := L) (S' := .int (nI 1 <<< (nI b &&& 31)) :: S) (h' := h) ?_ (by rw [n_shl (by omega) hp]; exact k)
  simp only [am_go, hc, am_op, am_bin, am_b2, am_nx]
/-- the bit at a place: shifted, and 1 -/
theorem ev_bit (hc : am_cd m pc = some (.iand, np, r)) (ha : a < 2147483648) (k : Ev d m np L (.int (nI (bt a b)) :: S) h Q) : Ev d m pc L (.int (nI 1) :: .int (nI (a / 2 ^ b)) :: S) h Q := by
  refine ev_nx (pc' := np) (L' := L) (S' := .int (nI (a / 2 ^ b) &&& nI 1) :: S) (h' := h) ?_ (by rw [n_and1 (Nat.lt_of_le_of_lt (Nat.div_le_self _ _) (by omega))]; exact k)
  simp only [am_go, hc, am_op, am_bin, am_b2, am_nx]
theorem ev_inc {i : Nat} {n : Int} (hc : am_cd m pc = some (.iinc i n, np, r)) (hn : n = Int.ofNat r ∧ r < 128) (hl : am_ld L i = some (.int (nI a))) (hnl : am_nl L i = true) (k : Ev d m np (L.set i (some (.int (nI (a + r))))) S h Q) : Ev d m pc L S h Q := by
  obtain ⟨rfl, hr⟩ := hn
  refine ev_nx (pc' := np) (L' := L.set i (some (.int (nI a + nI r)))) (S' := S) (h' := h) ?_ (by rw [nI_add]; exact k)
  simp only [am_go, hc, am_op, am_iinc, hl, hnl, if_true, am_nx, hr, and_self]
theorem ev_lN {l : List Nat} {j : Nat} (hc : am_cd m pc = some (.iaload, np, r)) (hh : h[a]? = some (ar l)) (hj : j < l.length ∧ j < 2147483648 ∧ a < 100000) (k : Ev d m np L (.int (nI (l.getD j 0)) :: S) h Q) : Ev d m pc L (.int (nI j) :: .ref a :: S) h Q :=
  ev_ia hc (am_arr_h hj.2.2 hh) (mg hj.1) k hj.2.1
theorem ev_sN {l : List Nat} {j v : Nat} (hc : am_cd m pc = some (.iastore, np, r)) (hh : h[a]? = some (ar l)) (hj : j < l.length ∧ j < 2147483648 ∧ a < 100000) (k : Ev d m np L S (h.set a (ar (l.set j v))) Q) : Ev d m pc L (.int (nI v) :: .int (nI j) :: .ref a :: S) h Q := by
  refine ev_is hc hh (by rw [List.length_map]; exact hj.1) ?_ hj.2.1 hj.2.2
  rw [ms_]
  exact k
end EVS
