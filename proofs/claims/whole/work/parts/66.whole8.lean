/-! the class's heap whole -/
/-- text; messages; line; past; seen; heard -/
abbrev aV : Type := (List Nat × Nat) × (List Nat × List Nat × Nat) × aN × (Nat × Nat × Nat × List aN) × (List Nat × List Nat × Nat) × (List Nat × Nat)
def xq1 (v : List Nat × Nat) (h : aH) : Prop := sat h v.1 v.2 ∧ sok v.1 v.2
def xq2 (v : List Nat × List Nat × Nat) (h : aH) : Prop := mat h v.1 v.2.1 v.2.2 ∧ mok v.1 v.2.1 v.2.2 ∧ 0 < v.2.2
def xq3 (x : aN) (h : aH) : Prop := ltx h 6 x ∧ lokN x
def xq4 (h : aH) : Prop := ∃ K c t j, lnw h 11 K c t j
def xq5 (v : Nat × Nat × Nat × List aN) (h : aH) : Prop := pat h v.1 v.2.1 v.2.2.1 v.2.2.2 ∧ v.1 < 8 ∧ v.2.1 ≤ 8 ∧ v.2.2.1 ≤ 2 ∧ ∀ q, lokN (v.2.2.2.getD q zN)
def xq6 (v : List Nat × List Nat × Nat) (h : aH) : Prop := ∃ R hr P, uat h v.1 v.2.1 R hr P v.2.2 ∧ uok v.1 v.2.1 R P v.2.2 ∧ (hr = 0 ∨ hr = 1 ∧ R = RT)
def xq7 (v : List Nat × Nat) (h : aH) : Prop := hat h v.1 v.2 ∧ v.1.length = 8 ∧ v.2 ≤ 8 ∧ ∀ s ∈ v.1, s < 32
def xq8 (h : aH) : Prop := (∃ em m, cat h em m ∧ em.length = 1024) ∧ (∃ K c t j, lnw h 77 K c t j) ∧ ∃ K c t j, lnw h 82 K c t j
def xq9 (h : aH) : Prop := ∃ sh ch be mo, aat h sh ch be mo ∧ sh.length = 25 ∧ ch.length = 5 ∧ be.length = 5
def XH (V : aV) (h : aH) : Prop := (h.length = 92 ∧ h[0]? = some ob) ∧ xq1 V.1 h ∧ xq2 V.2.1 h ∧ xq3 V.2.2.1 h ∧ xq4 h ∧ xq5 V.2.2.2.1 h ∧ xq6 V.2.2.2.2.1 h ∧ xq7 V.2.2.2.2.2 h ∧ xq8 h ∧ xq9 h
def v1 (V : aV) (v : List Nat × Nat) : aV := (v, V.2)
def v2 (V : aV) (v : List Nat × List Nat × Nat) : aV := (V.1, v, V.2.2)
def v3 (V : aV) (v : aN) : aV := (V.1, V.2.1, v, V.2.2.2)
def v5 (V : aV) (v : Nat × Nat × Nat × List aN) : aV := (V.1, V.2.1, V.2.2.1, v, V.2.2.2.2)
def v6 (V : aV) (v : List Nat × List Nat × Nat) : aV := (V.1, V.2.1, V.2.2.1, V.2.2.2.1, v, V.2.2.2.2.2)
def v7 (V : aV) (v : List Nat × Nat) : aV := (V.1, V.2.1, V.2.2.1, V.2.2.2.1, V.2.2.2.2.1, v)
section WH
variable {h h' : aH} {V : aV}
theorem xq1_mv {v} (x : xq1 v h) (m : ∀ q, 1 ≤ q → q ≤ 2 → h'[q]? = h[q]?) : xq1 v h' := ⟨⟨by rw [m 1 (by decide) (by decide)]; exact x.1.1, by rw [m 2 (by decide) (by decide)]; exact x.1.2⟩, x.2⟩
theorem xq2_mv {v} (x : xq2 v h) (m : ∀ q, 3 ≤ q → q ≤ 5 → h'[q]? = h[q]?) : xq2 v h' := ⟨⟨by rw [m 3 (by decide) (by decide)]; exact x.1.1, by rw [m 4 (by decide) (by decide)]; exact x.1.2.1, by rw [m 5 (by decide) (by decide)]; exact x.1.2.2⟩, x.2⟩
theorem xq3_mv {v} (x : xq3 v h) (m : ∀ q, 6 ≤ q → q ≤ 10 → h'[q]? = h[q]?) : xq3 v h' := ⟨ltx_fr x.1 m, x.2⟩
theorem xq4_mv (x : xq4 h) (m : ∀ q, 11 ≤ q → q ≤ 15 → h'[q]? = h[q]?) : xq4 h' := by
  obtain ⟨K, c, t, j, S, G, hl, ok⟩ := x
  exact ⟨K, c, t, j, S, G, ltx_fr hl m, ok⟩
theorem xq5_mv {v} (x : xq5 v h) (m : ∀ q, 16 ≤ q → q ≤ 68 → h'[q]? = h[q]?) : xq5 v h' :=
  ⟨⟨by rw [m 16 (by decide) (by decide)]; exact x.1.1, by rw [m 17 (by decide) (by decide)]; exact x.1.2.1, by rw [m 18 (by decide) (by decide)]; exact x.1.2.2.1, x.1.2.2.2.1, fun n hn => ⟨ltx_fr (x.1.2.2.2.2 n hn).1 (fun q a b => m q (by omega) (by omega)), (x.1.2.2.2.2 n hn).2⟩⟩, x.2⟩
theorem xq6_mv {v} (x : xq6 v h) (m : ∀ q, 69 ≤ q → q ≤ 73 → h'[q]? = h[q]?) : xq6 v h' := by
  obtain ⟨R, hr, P, hu, r⟩ := x
  exact ⟨R, hr, P, ⟨by rw [m 69 (by decide) (by decide)]; exact hu.1, by rw [m 70 (by decide) (by decide)]; exact hu.2.1, by rw [m 71 (by decide) (by decide)]; exact hu.2.2.1, by rw [m 72 (by decide) (by decide)]; exact hu.2.2.2.1, by rw [m 73 (by decide) (by decide)]; exact hu.2.2.2.2⟩, r⟩
theorem xq7_mv {v} (x : xq7 v h) (m : ∀ q, 74 ≤ q → q ≤ 75 → h'[q]? = h[q]?) : xq7 v h' := ⟨⟨by rw [m 74 (by decide) (by decide)]; exact x.1.1, by rw [m 75 (by decide) (by decide)]; exact x.1.2⟩, x.2⟩
theorem xq8_mv (x : xq8 h) (m : ∀ q, 76 ≤ q → q ≤ 87 → h'[q]? = h[q]?) : xq8 h' := by
  obtain ⟨⟨em, k, hc, r⟩, ⟨K, c, t, j, S, G, hl, ok⟩, K2, c2, t2, j2, S2, G2, hl2, ok2⟩ := x
  exact ⟨⟨em, k, ⟨by rw [m 76 (by decide) (by decide)]; exact hc.1, by rw [m 87 (by decide) (by decide)]; exact hc.2⟩, r⟩, ⟨K, c, t, j, S, G, ltx_fr hl (fun q a b => m q (by omega) (by omega)), ok⟩, K2, c2, t2, j2, S2, G2, ltx_fr hl2 (fun q a b => m q (by omega) (by omega)), ok2⟩
theorem xq9_mv (x : xq9 h) (m : ∀ q, 88 ≤ q → q ≤ 91 → h'[q]? = h[q]?) : xq9 h' := by
  obtain ⟨sh, ch, be, mo, ha, r⟩ := x
  exact ⟨sh, ch, be, mo, ⟨by rw [m 88 (by decide) (by decide)]; exact ha.1, by rw [m 89 (by decide) (by decide)]; exact ha.2.1, by rw [m 90 (by decide) (by decide)]; exact ha.2.2.1, by rw [m 91 (by decide) (by decide)]; exact ha.2.2.2⟩, r⟩
/-- all but some cells is as it was -/
theorem xq0_mv (x : h.length = 92 ∧ h[0]? = some ob) (l : h'.length = h.length) (m : h'[0]? = h[0]?) : h'.length = 92 ∧ h'[0]? = some ob := ⟨by rw [l]; exact x.1, by rw [m]; exact x.2⟩
theorem XH_1 (X : XH V h) {v} (f : fr 1 2 h h') (x : xq1 v h') : XH (v1 V v) h' := by
  obtain ⟨h0, h1, h2, h3, h4, h5, h6, h7, h8, h9⟩ := X
  exact ⟨xq0_mv h0 f.1 (f.2 _ (by omega)), x, xq2_mv h2 (fun q _ _ => f.2 q (by omega)), xq3_mv h3 (fun q _ _ => f.2 q (by omega)), xq4_mv h4 (fun q _ _ => f.2 q (by omega)), xq5_mv h5 (fun q _ _ => f.2 q (by omega)), xq6_mv h6 (fun q _ _ => f.2 q (by omega)), xq7_mv h7 (fun q _ _ => f.2 q (by omega)), xq8_mv h8 (fun q _ _ => f.2 q (by omega)), xq9_mv h9 (fun q _ _ => f.2 q (by omega))⟩
theorem XH_3 (X : XH V h) {v} (f : fr 6 10 h h') (x : xq3 v h') : XH (v3 V v) h' := by
  obtain ⟨h0, h1, h2, h3, h4, h5, h6, h7, h8, h9⟩ := X
  exact ⟨xq0_mv h0 f.1 (f.2 _ (by omega)), xq1_mv h1 (fun q _ _ => f.2 q (by omega)), xq2_mv h2 (fun q _ _ => f.2 q (by omega)), x, xq4_mv h4 (fun q _ _ => f.2 q (by omega)), xq5_mv h5 (fun q _ _ => f.2 q (by omega)), xq6_mv h6 (fun q _ _ => f.2 q (by omega)), xq7_mv h7 (fun q _ _ => f.2 q (by omega)), xq8_mv h8 (fun q _ _ => f.2 q (by omega)), xq9_mv h9 (fun q _ _ => f.2 q (by omega))⟩
theorem XH_4 (X : XH V h) (f : fr 11 15 h h') (x : xq4 h') : XH V h' := by
  obtain ⟨h0, h1, h2, h3, h4, h5, h6, h7, h8, h9⟩ := X
  exact ⟨xq0_mv h0 f.1 (f.2 _ (by omega)), xq1_mv h1 (fun q _ _ => f.2 q (by omega)), xq2_mv h2 (fun q _ _ => f.2 q (by omega)), xq3_mv h3 (fun q _ _ => f.2 q (by omega)), x, xq5_mv h5 (fun q _ _ => f.2 q (by omega)), xq6_mv h6 (fun q _ _ => f.2 q (by omega)), xq7_mv h7 (fun q _ _ => f.2 q (by omega)), xq8_mv h8 (fun q _ _ => f.2 q (by omega)), xq9_mv h9 (fun q _ _ => f.2 q (by omega))⟩
theorem XH_5 (X : XH V h) {v} (f : fr 16 68 h h') (x : xq5 v h') : XH (v5 V v) h' := by
  obtain ⟨h0, h1, h2, h3, h4, h5, h6, h7, h8, h9⟩ := X
  exact ⟨xq0_mv h0 f.1 (f.2 _ (by omega)), xq1_mv h1 (fun q _ _ => f.2 q (by omega)), xq2_mv h2 (fun q _ _ => f.2 q (by omega)), xq3_mv h3 (fun q _ _ => f.2 q (by omega)), xq4_mv h4 (fun q _ _ => f.2 q (by omega)), x, xq6_mv h6 (fun q _ _ => f.2 q (by omega)), xq7_mv h7 (fun q _ _ => f.2 q (by omega)), xq8_mv h8 (fun q _ _ => f.2 q (by omega)), xq9_mv h9 (fun q _ _ => f.2 q (by omega))⟩
theorem XH_6 (X : XH V h) {v} (f : fr 69 73 h h') (x : xq6 v h') : XH (v6 V v) h' := by
  obtain ⟨h0, h1, h2, h3, h4, h5, h6, h7, h8, h9⟩ := X
  exact ⟨xq0_mv h0 f.1 (f.2 _ (by omega)), xq1_mv h1 (fun q _ _ => f.2 q (by omega)), xq2_mv h2 (fun q _ _ => f.2 q (by omega)), xq3_mv h3 (fun q _ _ => f.2 q (by omega)), xq4_mv h4 (fun q _ _ => f.2 q (by omega)), xq5_mv h5 (fun q _ _ => f.2 q (by omega)), x, xq7_mv h7 (fun q _ _ => f.2 q (by omega)), xq8_mv h8 (fun q _ _ => f.2 q (by omega)), xq9_mv h9 (fun q _ _ => f.2 q (by omega))⟩
theorem XH_7 (X : XH V h) {v} (f : fr 74 75 h h') (x : xq7 v h') : XH (v7 V v) h' := by
  obtain ⟨h0, h1, h2, h3, h4, h5, h6, h7, h8, h9⟩ := X
  exact ⟨xq0_mv h0 f.1 (f.2 _ (by omega)), xq1_mv h1 (fun q _ _ => f.2 q (by omega)), xq2_mv h2 (fun q _ _ => f.2 q (by omega)), xq3_mv h3 (fun q _ _ => f.2 q (by omega)), xq4_mv h4 (fun q _ _ => f.2 q (by omega)), xq5_mv h5 (fun q _ _ => f.2 q (by omega)), xq6_mv h6 (fun q _ _ => f.2 q (by omega)), x, xq8_mv h8 (fun q _ _ => f.2 q (by omega)), xq9_mv h9 (fun q _ _ => f.2 q (by omega))⟩
/-- the line and a cell of the past -/
theorem XH_35 (X : XH V h) {v w} (l : h'.length = h.length) (f : ∀ q, q < 6 ∨ 6 + 4 < q → ¬ q = 16 → h'[q]? = h[q]?) (x : xq3 v h') (y : xq5 w h') : XH (v5 (v3 V v) w) h' := by
  obtain ⟨h0, h1, h2, h3, h4, h5, h6, h7, h8, h9⟩ := X
  exact ⟨xq0_mv h0 l (f _ (by omega) (by omega)), xq1_mv h1 (fun q _ _ => f q (by omega) (by omega)), xq2_mv h2 (fun q _ _ => f q (by omega) (by omega)), x, xq4_mv h4 (fun q _ _ => f q (by omega) (by omega)), y, xq6_mv h6 (fun q _ _ => f q (by omega) (by omega)), xq7_mv h7 (fun q _ _ => f q (by omega) (by omega)), xq8_mv h8 (fun q _ _ => f q (by omega) (by omega)), xq9_mv h9 (fun q _ _ => f q (by omega) (by omega))⟩
/-- the trial line and the suspects -/
theorem XH_46 (X : XH V h) {v} (f : fw 11 h h') (x : xq4 h') (y : xq6 v h') : XH (v6 V v) h' := by
  obtain ⟨h0, h1, h2, h3, h4, h5, h6, h7, h8, h9⟩ := X
  exact ⟨xq0_mv h0 f.1 (f.2 _ (by omega) (by omega)), xq1_mv h1 (fun q _ _ => f.2 q (by omega) (by omega)), xq2_mv h2 (fun q _ _ => f.2 q (by omega) (by omega)), xq3_mv h3 (fun q _ _ => f.2 q (by omega) (by omega)), x, xq5_mv h5 (fun q _ _ => f.2 q (by omega) (by omega)), y, xq7_mv h7 (fun q _ _ => f.2 q (by omega) (by omega)), xq8_mv h8 (fun q _ _ => f.2 q (by omega) (by omega)), xq9_mv h9 (fun q _ _ => f.2 q (by omega) (by omega))⟩
theorem XH_len (X : XH V h) : h.length ≤ 100000 := by rw [X.1.1]; decide
/-- the line's cells -/
theorem XH_l6 (X : XH V h) : ∃ C, C.length = 5 ∧ lat h 6 V.2.2.1.1 V.2.2.1.2.1 V.2.2.1.2.2.1 C V.2.2.1.2.2.2.1 V.2.2.1.2.2.2.2.1 V.2.2.1.2.2.2.2.2 := X.2.2.2.1.1
end WH
