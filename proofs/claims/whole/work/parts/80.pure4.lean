/-! the class's past is the reference's book -/
theorem brg_at {A : List Nat} {i j : Nat} : ∀ n k B q, j + k + n ≤ B.length → (brg A B i j n k).getD q 0 = if j + k ≤ q ∧ q < j + k + n then A.getD (i + (q - j)) 0 else B.getD q 0 := by
  intro n
  induction n with
  | zero => intro k B q _; rw [brg, if_neg (by omega)]
  | succ n ih =>
    intro k B q hl
    rw [brg, ih (k + 1) _ q (by rw [List.length_set]; omega)]
    by_cases h : q = j + k
    · subst h
      rw [if_neg (by omega), if_pos (by omega), gd_s (by omega), show i + (j + k - j) = i + k by omega]
    · rw [gd_n (fun e => h e.symm)]
      by_cases h2 : j + (k + 1) ≤ q ∧ q < j + (k + 1) + n
      · rw [if_pos h2, if_pos (by omega)]
      · rw [if_neg h2, if_neg (by omega)]
theorem bsg_at : ∀ n k B q, k + n ≤ B.length → (bsg 29 0 n k B).getD q 0 = if k ≤ q ∧ q < k + n then B.getD (q + 29) 0 else B.getD q 0 := by
  intro n
  induction n with
  | zero => intro k B q _; rw [bsg, if_neg (by omega)]
  | succ n ih =>
    intro k B q hl
    rw [bsg, ih (k + 1) _ q (by rw [List.length_set]; omega), Nat.zero_add]
    by_cases h : q = k
    · subst h
      rw [if_neg (by omega), if_pos (by omega), gd_s (by omega), Nat.add_comm]
    · by_cases h2 : k + 1 ≤ q ∧ q < k + 1 + n
      · rw [if_pos h2, if_pos (by omega), gd_n (by omega)]
      · rw [if_neg h2, if_neg (by omega), gd_n (fun e => h e.symm)]
/-- the book holds what the ring holds -/
def bkR (nx dd : Nat) (L : List aN) (bk : List Nat) : Prop := bk.length = 232 ∧ ∀ u, u < dd → ∀ q, q < 29 → bk.getD (29 * u + q) 0 = (llN (L.getD ((nx + 8 - dd + u) % 8) zN)).getD q 0
def kpR (kp : Nat) (L : List aN) (kb : List Nat) : Prop := kb.length = 58 ∧ ∀ u, u < kp → ∀ q, q < 29 → kb.getD (29 * u + q) 0 = (llN (L.getD (8 + u) zN)).getD q 0
section BK
variable {nx dd kp : Nat} {L : List aN} {bk kb : List Nat} {x : aN}
theorem gL_s {n : Nat} {y : aN} (hn : n < L.length) : (L.set n y).getD n zN = y := by rw [List.getD_eq_getElem?_getD, List.getElem?_set_self hn]; rfl
theorem gL_n {n m : Nat} {y : aN} (h : n ≠ m) : (L.set n y).getD m zN = L.getD m zN := by rw [List.getD_eq_getElem?_getD, List.getElem?_set_ne h, List.getD_eq_getElem?_getD]
theorem ntu_min (hd : dd ≤ 8) : ntu dd = min (dd + 1) 8 := by
  unfold ntu
  split <;> omega
theorem bk_note (h : bkR nx dd L bk) (hL : L.length = 10) (hn : nx < 8) (hd : dd ≤ 8) (ok : lokN x) : bkR ((nx + 1) % 8) (min (dd + 1) 8) (L.set nx x) (ntb (llN x) dd bk) := by
  have hl : (llN x).length = 29 := ll_len ok
  obtain ⟨h1, h2⟩ := h
  unfold ntb
  by_cases h8 : dd = 8
  · subst h8
    rw [if_pos rfl]
    have lb : (bsg 29 0 203 0 bk).length = 232 := by rw [bsg_len, h1]
    refine ⟨by rw [brg_len, lb], fun u hu q hq => ?_⟩
    rw [brg_at _ _ _ _ (by omega)]
    have hu8 : u < 8 := by omega
    by_cases h7 : u = 7
    · subst h7
      rw [if_pos (by omega), show 0 + (29 * 7 + q - 29 * 7) = q by omega, show ((nx + 1) % 8 + 8 - min (8 + 1) 8 + 7) % 8 = nx by omega, gL_s (by omega)]
    · rw [if_neg (by omega), bsg_at _ _ _ _ (by omega), if_pos (by omega), show 29 * u + q + 29 = 29 * (u + 1) + q by omega, h2 (u + 1) (by omega) q hq, gL_n (by omega), show (nx + 8 - 8 + (u + 1)) % 8 = ((nx + 1) % 8 + 8 - min (8 + 1) 8 + u) % 8 by omega]
  · rw [if_neg h8]
    refine ⟨by rw [brg_len, h1], fun u hu q hq => ?_⟩
    rw [brg_at _ _ _ _ (by omega)]
    by_cases hd2 : u = dd
    · subst hd2
      rw [if_pos (by omega), show 0 + (29 * u + q - 29 * u) = q by omega, show ((nx + 1) % 8 + 8 - min (u + 1) 8 + u) % 8 = nx by omega, gL_s (by omega)]
    · rw [if_neg (by omega), h2 u (by omega) q hq, gL_n (by omega), show (nx + 8 - dd + u) % 8 = ((nx + 1) % 8 + 8 - min (dd + 1) 8 + u) % 8 by omega]
theorem kp_note (h : kpR kp L kb) (hn : nx < 8) : kpR kp (L.set nx x) kb := ⟨h.1, fun u hu q hq => by rw [gL_n (by omega)]; exact h.2 u hu q hq⟩
theorem bk_undo (h : bkR nx dd L bk) (hn : nx < 8) (hd : dd ≤ 8) (h0 : 0 < dd) : bkR ((nx + 7) % 8) (dd - 1) L bk := ⟨h.1, fun u hu q hq => by rw [h.2 u (by omega) q hq, show (nx + 8 - dd + u) % 8 = ((nx + 7) % 8 + 8 - (dd - 1) + u) % 8 by omega]⟩
theorem bk_line {st : List Nat} (h : bkR nx dd L bk) (hs : st.length = 29) (hd : dd ≤ 8) (h0 : 0 < dd) (ok : ∀ q, lokN (L.getD q zN)) : brg bk st (29 * (dd - 1)) 0 29 0 = llN (L.getD ((nx + 7) % 8) zN) := by
  have hl : (llN (L.getD ((nx + 7) % 8) zN)).length = 29 := ll_len (ok _)
  refine ext_gd (by rw [brg_len, hs, hl]) (fun q hq => ?_)
  rw [brg_len, hs] at hq
  rw [brg_at _ _ _ _ (by omega), if_pos (by omega), show q - 0 = q by omega, h.2 (dd - 1) (by omega) q hq, show (nx + 8 - dd + (dd - 1)) % 8 = (nx + 7) % 8 by omega]
theorem kp_keep (h : kpR kp L kb) (hL : L.length = 10) (hk : kp < 2) (ok : lokN x) : kpR (kp + 1) (L.set (8 + kp) x) (brg (llN x) kb 0 (29 * kp) 29 0) := by
  have hl : (llN x).length = 29 := ll_len ok
  obtain ⟨h1, h2⟩ := h
  refine ⟨by rw [brg_len, h1], fun u hu q hq => ?_⟩
  rw [brg_at _ _ _ _ (by omega)]
  by_cases hd2 : u = kp
  · subst hd2
    rw [if_pos (by omega), show 0 + (29 * u + q - 29 * u) = q by omega, gL_s (by omega)]
  · rw [if_neg (by omega), h2 u (by omega) q hq, gL_n (by omega)]
theorem bk_keep (h : bkR nx dd L bk) : bkR nx dd (L.set (8 + kp) x) bk := ⟨h.1, fun u hu q hq => by rw [gL_n (by omega)]; exact h.2 u hu q hq⟩
theorem kp_line {st : List Nat} (h : kpR kp L kb) (hs : st.length = 29) (hk : kp ≤ 2) (h0 : 0 < kp) (ok : ∀ q, lokN (L.getD q zN)) : brg kb st (29 * (kp - 1)) 0 29 0 = llN (L.getD (8 + (kp - 1)) zN) := by
  have hl : (llN (L.getD (8 + (kp - 1)) zN)).length = 29 := ll_len (ok _)
  have h1 := h.1
  refine ext_gd (by rw [brg_len, hs, hl]) (fun q hq => ?_)
  rw [brg_len, hs] at hq
  rw [brg_at _ _ _ _ (by omega), if_pos (by omega), show q - 0 = q by omega, h.2 (kp - 1) (by omega) q hq]
theorem kp_back (h : kpR kp L kb) : kpR (kp - 1) L kb := ⟨h.1, fun u hu q hq => h.2 u (by omega) q hq⟩
theorem bk_0 (h : bk.length = 232) : bkR nx 0 L bk := ⟨h, fun u hu => absurd hu (Nat.not_lt_zero _)⟩
theorem kp_0 (h : kb.length = 58) : kpR 0 L kb := ⟨h, fun u hu => absurd hu (Nat.not_lt_zero _)⟩
/-! what was seen -/
theorem sn_see {ss sr sn : List Nat} {n s r : Nat} (h : snO ss sr sn n) (h1 : ss.length = 8) (h2 : sr.length = 8) (hn : n < 8) (hs : s < 30) (hr : r < 32) : snO (ss.set n s) (sr.set n r) ((sn.set (2 * n) s).set (2 * n + 1) r) (n + 1) := by
  obtain ⟨a, b, c⟩ := h
  refine ⟨by rw [List.length_set, List.length_set, a], by omega, fun p hp => ?_⟩
  by_cases e : p = n
  · subst e
    have e1 : ((sn.set (2 * p) s).set (2 * p + 1) r).getD (2 * p) 0 = s := by rw [gd_n (by omega), gd_s (by omega)]
    have e2 : ((sn.set (2 * p) s).set (2 * p + 1) r).getD (2 * p + 1) 0 = r := gd_s (by rw [List.length_set]; omega)
    have e3 : (ss.set p s).getD p 0 = s := gd_s (by omega)
    have e4 : (sr.set p r).getD p 0 = r := gd_s (by omega)
    rw [e1, e2, e3, e4]
    exact ⟨rfl, rfl, hs, hr⟩
  · have e1 : ((sn.set (2 * n) s).set (2 * n + 1) r).getD (2 * p) 0 = sn.getD (2 * p) 0 := by rw [gd_n (by omega), gd_n (by omega)]
    have e2 : ((sn.set (2 * n) s).set (2 * n + 1) r).getD (2 * p + 1) 0 = sn.getD (2 * p + 1) 0 := by rw [gd_n (by omega), gd_n (by omega)]
    have e3 : (ss.set n s).getD p 0 = ss.getD p 0 := gd_n (fun q => e q.symm)
    have e4 : (sr.set n r).getD p 0 = sr.getD p 0 := gd_n (fun q => e q.symm)
    rw [e1, e2, e3, e4]
    exact c p (by omega)
theorem sn_0 {ss sr sn : List Nat} {n : Nat} (h : snO ss sr sn n) : snO ss sr sn 0 := ⟨h.1, Nat.zero_le _, fun p hp => absurd hp (Nat.not_lt_zero _)⟩
end BK
