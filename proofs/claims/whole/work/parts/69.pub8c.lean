/-! the class: undo, keep, back, text, seen, heard -/
section PC
variable {h h' : aH} {V : aV} {d i : Nat} {x : aN}
theorem c_undo (X : XH V h) : Ec (d + 2) m_X8_undo [.ref 0] h (fun v h' => v = some (.int (if V.2.2.2.1.2.1 = 0 then -(nI 2) else nI (V.2.2.2.1.2.1 - 1))) ∧ XH (v5 (v3 V (if 0 < V.2.2.2.1.2.1 then V.2.2.2.1.2.2.2.getD ((V.2.2.2.1.1 + 7) % 8) zN else V.2.2.1)) (if 0 < V.2.2.2.1.2.1 then (V.2.2.2.1.1 + 7) % 8 else V.2.2.2.1.1, V.2.2.2.1.2.1 - 1, V.2.2.2.1.2.2.1, V.2.2.2.1.2.2.2)) h') := by
  have x3 := X.2.2.2.1
  have x5 := X.2.2.2.2.2.1
  refine ec_mono (e_undo X.1.2 x5.1 x5.2.1 x5.2.2.1 x3.1 (nokN x3.2) (XH_len X)) ?_
  rintro r h' ⟨rfl, q1, q2, q3, q4⟩
  have h8 := x5.2.1
  have hd8 := x5.2.2.1
  refine ⟨rfl, XH_35 X q3 q4 ⟨q2, ?_⟩ ⟨q1, ?_, by show V.2.2.2.1.2.1 - 1 ≤ 8; omega, x5.2.2.2⟩⟩
  · split
    · exact x5.2.2.2.2 _
    · exact x3.2
  · show (if 0 < V.2.2.2.1.2.1 then (V.2.2.2.1.1 + 7) % 8 else V.2.2.2.1.1) < 8
    split <;> omega
theorem c_keep (X : XH V h) : Ec (d + 2) m_X8_keep [.ref 0] h (fun v h' => v = some (.int (if V.2.2.2.1.2.2.1 < 2 then nI (V.2.2.2.1.2.2.1 + 1) else -(nI 3))) ∧ XH (v5 V (V.2.2.2.1.1, V.2.2.2.1.2.1, if V.2.2.2.1.2.2.1 < 2 then V.2.2.2.1.2.2.1 + 1 else V.2.2.2.1.2.2.1, if V.2.2.2.1.2.2.1 < 2 then V.2.2.2.1.2.2.2.set (8 + V.2.2.2.1.2.2.1) V.2.2.1 else V.2.2.2.1.2.2.2)) h') := by
  have x3 := X.2.2.2.1
  have x5 := X.2.2.2.2.2.1
  have k2 := x5.2.2.2.1
  refine ec_mono (e_keep X.1.2 x5.1 x5.2.2.2.1 x3.1 (nokN x3.2) (XH_len X)) ?_
  rintro r h' ⟨rfl, q1, q2⟩
  refine ⟨rfl, XH_5 X q2 ⟨q1, x5.2.1, x5.2.2.1, ?_, fun q => ?_⟩⟩
  · show (if V.2.2.2.1.2.2.1 < 2 then V.2.2.2.1.2.2.1 + 1 else V.2.2.2.1.2.2.1) ≤ 2
    split <;> omega
  · show lokN ((if V.2.2.2.1.2.2.1 < 2 then V.2.2.2.1.2.2.2.set (8 + V.2.2.2.1.2.2.1) V.2.2.1 else V.2.2.2.1.2.2.2).getD q zN)
    split
    · exact gd_set x5.2.2.2.2 x3.2
    · exact x5.2.2.2.2 q
theorem c_back (X : XH V h) : Ec (d + 2) m_X8_back [.ref 0] h (fun v h' => v = some (.int (if V.2.2.2.1.2.2.1 = 0 then -(nI 2) else nI (V.2.2.2.1.2.2.1 - 1))) ∧ XH (v5 (v3 V (if 0 < V.2.2.2.1.2.2.1 then V.2.2.2.1.2.2.2.getD (8 + (V.2.2.2.1.2.2.1 - 1)) zN else V.2.2.1)) (V.2.2.2.1.1, if 0 < V.2.2.2.1.2.2.1 then 0 else V.2.2.2.1.2.1, V.2.2.2.1.2.2.1 - 1, V.2.2.2.1.2.2.2)) h') := by
  have x3 := X.2.2.2.1
  have x5 := X.2.2.2.2.2.1
  have k2 := x5.2.2.2.1
  have k8 := x5.2.2.1
  refine ec_mono (e_back X.1.2 x5.1 x5.2.2.2.1 x3.1 (nokN x3.2) (XH_len X)) ?_
  rintro r h' ⟨rfl, q1, q2, q3, q4⟩
  refine ⟨rfl, XH_35 X q3 q4 ⟨q2, ?_⟩ ⟨q1, x5.2.1, ?_, by show V.2.2.2.1.2.2.1 - 1 ≤ 2; omega, x5.2.2.2.2⟩⟩
  · split
    · exact x5.2.2.2.2 _
    · exact x3.2
  · show (if 0 < V.2.2.2.1.2.2.1 then 0 else V.2.2.2.1.2.1) ≤ 8
    split <;> omega
theorem c_wipe (X : XH V h) : Ec (d + 1) m_X8_wipe [.ref 0] h (fun v h' => v = some (.int (nI V.1.2)) ∧ XH (v1 V (V.1.1, 0)) h') := by
  refine ec_mono (e_wipe X.1.2 X.2.1.1) ?_
  rintro r h' ⟨rfl, q1, q2⟩
  exact ⟨rfl, XH_1 X q2 ⟨q1, X.2.1.2.1, Nat.zero_le _, X.2.1.2.2.2⟩⟩
theorem c_fault (X : XH V h) : Ec (d + 5) m_X8_fault [.ref 0] h (rt (.int (eo (ffr V.1.1 V.1.2 200 0 0))) h) := e_fault X.1.2 X.2.1.1 X.2.1.2
theorem c_fits (X : XH V h) : Ec (d + 2) m_X8_fits [.ref 0] h (rt (.int (nI (fts (V.2.2.2.2.2.1.take V.2.2.2.2.2.2) V.2.1.1 V.2.1.2.1 V.2.1.2.2 0 0))) h) := by
  have x7 := X.2.2.2.2.2.2.2.1
  exact e_fits X.1.2 x7.1 x7.2.1 x7.2.2.1 x7.2.2.2 X.2.2.1.1 X.2.2.1.2.1
theorem i2c_n : ∀ c : Fin 127, ((nI c.val).toUInt32 % 65536).toInt32 = nI c.val := by decide +kernel
theorem c_write {c : Nat} (X : XH V h) (hc : 32 ≤ c ∧ c ≤ 126) : Ec (d + 1) m_X8_write [.ref 0, .int (nI c)] h (fun v h' => v = some (.int (if V.1.2 < 200 then nI (V.1.2 + 1) else -(nI 3))) ∧ XH (if V.1.2 < 200 then v1 V (V.1.1.set V.1.2 c, V.1.2 + 1) else V) h') := by
  have w1 : wi (nI c) (nI 32) (nI 126) = 1 := by rw [wi_n (by omega) (by omega) (by omega), if_pos (by omega)]
  have x1 := X.2.1
  have hle := x1.2.2.1
  refine ec_in [some (.ref 0), some (.int (nI c))] rfl rfl ?_
  iterate 3 refine ev_nx rfl ?_
  refine ev_si rfl rfl (by decide) rfl rfl rfl rfl (ec_le (by omega) (e_within _ _ _ _)) ?_
  rw [w1]
  refine ev_nx rfl ?_
  refine ev_t (by decide) ?_
  refine ev_nx rfl ?_
  refine ev_gf rfl rfl X.1.2 rfl ?_
  refine ev_gf rfl rfl x1.1.1 rfl ?_
  iterate 2 refine ev_nx rfl ?_
  refine ev_lt (fun b23 => ?_) (fun b23 => ?_)
  · refine ev_nx rfl ?_
    refine ev_gf rfl rfl X.1.2 rfl ?_
    refine ev_nx rfl ?_
    refine ev_nx rfl ?_
    rw [i2c_n ⟨c, by omega⟩]
    refine ev_v rfl rfl rfl rfl rfl rfl x1.1.1 rfl (e_append x1.1 x1.2 (x := c) (by omega)) (fun rv h2 q => ?_)
    obtain ⟨rfl, q1, q2⟩ := q
    simp only [if_pos b23] at q1 ⊢
    have X2 : XH (v1 V (V.1.1.set V.1.2 c, V.1.2 + 1)) h2 := XH_1 X q2 ⟨q1, by show (V.1.1.set V.1.2 c).length = 200; rw [List.length_set]; exact x1.2.1, by show V.1.2 + 1 ≤ 200; omega, l_set_lt x1.2.2.2 (by omega)⟩
    refine ev_nx rfl ?_
    refine ev_gf rfl rfl X2.1.2 rfl ?_
    refine ev_gf rfl rfl X2.2.1.1.1 rfl ?_
    exact ev_ri rfl rfl rfl ⟨rfl, X2⟩
  · refine ev_nx rfl ?_
    simp only [if_neg (show ¬ V.1.2 < 200 by omega)]
    exact ev_ri rfl rfl rfl ⟨rfl, X⟩
theorem c_hear {s : Nat} (X : XH V h) (hs : s ≤ 19 ∨ s = 31) : Ec (d + 1) m_X8_hear [.ref 0, .int (nI s)] h (fun v h' => v = some (.int (if V.2.2.2.2.2.2 < 8 then nI (V.2.2.2.2.2.2 + 1) else -(nI 3))) ∧ XH (v7 V (if V.2.2.2.2.2.2 < 8 then V.2.2.2.2.2.1.set V.2.2.2.2.2.2 s else V.2.2.2.2.2.1, if V.2.2.2.2.2.2 < 8 then V.2.2.2.2.2.2 + 1 else V.2.2.2.2.2.2)) h') := by
  have x7 := X.2.2.2.2.2.2.2.1
  have k8 := x7.2.2.1
  have H : Ev (d + 1) m_X8_hear 18 [some (.ref 0), some (.int (nI s))] [] h (fun v h' => v = some (.int (if V.2.2.2.2.2.2 < 8 then nI (V.2.2.2.2.2.2 + 1) else -(nI 3))) ∧ XH (v7 V (if V.2.2.2.2.2.2 < 8 then V.2.2.2.2.2.1.set V.2.2.2.2.2.2 s else V.2.2.2.2.2.1, if V.2.2.2.2.2.2 < 8 then V.2.2.2.2.2.2 + 1 else V.2.2.2.2.2.2)) h') := by
    refine ev_mono (hear_in X.1.2 x7.1 x7.2.1 x7.2.2.1 s) ?_
    rintro r h' ⟨rfl, q1, q2⟩
    refine ⟨rfl, XH_7 X q2 ⟨q1, ?_, ?_, ?_⟩⟩
    · show (if V.2.2.2.2.2.2 < 8 then V.2.2.2.2.2.1.set V.2.2.2.2.2.2 s else V.2.2.2.2.2.1).length = 8
      split
      · rw [List.length_set]; exact x7.2.1
      · exact x7.2.1
    · show (if V.2.2.2.2.2.2 < 8 then V.2.2.2.2.2.2 + 1 else V.2.2.2.2.2.2) ≤ 8
      split <;> omega
    · show ∀ q ∈ (if V.2.2.2.2.2.2 < 8 then V.2.2.2.2.2.1.set V.2.2.2.2.2.2 s else V.2.2.2.2.2.1), q < 32
      split
      · exact l_set_lt x7.2.2.2 (by omega)
      · exact x7.2.2.2
  refine ec_in [some (.ref 0), some (.int (nI s))] rfl rfl ?_
  rcases hs with hs | rfl
  · have w1 : wi (nI s) (nI 0) (nI 19) = 1 := by rw [wi_n (by omega) (by omega) (by omega), if_pos (by omega)]
    iterate 3 refine ev_nx rfl ?_
    refine ev_si rfl rfl (by decide) rfl rfl rfl rfl (ec_le (by omega) (e_within _ _ _ _)) ?_
    rw [w1]
    refine ev_nx rfl ?_
    refine ev_t (by decide) ?_
    exact H
  · have w1 : wi (nI 31) (nI 0) (nI 19) = 0 := by decide
    iterate 3 refine ev_nx rfl ?_
    refine ev_si rfl rfl (by decide) rfl rfl rfl rfl (ec_le (by omega) (e_within _ _ _ _)) ?_
    rw [w1]
    refine ev_nx rfl ?_
    refine ev_f (by decide) ?_
    iterate 3 refine ev_nx rfl ?_
    refine ev_t (by decide) ?_
    exact H
theorem uok_add {ss sr R P : List Nat} {n s r : Nat} (ok : uok ss sr R P n) (hn : n < 8) (hs : s < 30) (hr : r < 32) : uok (ss.set n s) (sr.set n r) R P (n + 1) := ⟨⟨by rw [List.length_set]; exact ok.1.1, l_set_lt ok.1.2 hs⟩, ⟨by rw [List.length_set]; exact ok.2.1.1, l_set_lt ok.2.1.2 hr⟩, ok.2.2.1, ok.2.2.2.1, hn⟩
theorem c_see {s r : Nat} (X : XH V h) (hs : s ≤ 29) (hr : r ≤ 31) : Ec (d + 1) m_X8_see [.ref 0, .int (nI s), .int (nI r)] h (fun v h' => v = some (.int (if V.2.2.2.2.1.2.2 < 8 then nI (V.2.2.2.2.1.2.2 + 1) else -(nI 3))) ∧ XH (if V.2.2.2.2.1.2.2 < 8 then v6 V (V.2.2.2.2.1.1.set V.2.2.2.2.1.2.2 s, V.2.2.2.2.1.2.1.set V.2.2.2.2.1.2.2 r, V.2.2.2.2.1.2.2 + 1) else V) h') := by
  have w1 : wi (nI s) (nI 0) (nI 29) = 1 := by rw [wi_n (by omega) (by omega) (by omega), if_pos (by omega)]
  have w2 : wi (nI r) (nI 0) (nI 31) = 1 := by rw [wi_n (by omega) (by omega) (by omega), if_pos (by omega)]
  obtain ⟨R, hrr, P, hu, uk, hR⟩ := X.2.2.2.2.2.2.1
  have k8 := uk.2.2.2.2
  refine ec_in [some (.ref 0), some (.int (nI s)), some (.int (nI r))] rfl rfl ?_
  iterate 3 refine ev_nx rfl ?_
  refine ev_si rfl rfl (by decide) rfl rfl rfl rfl (ec_le (by omega) (e_within _ _ _ _)) ?_
  rw [w1]
  refine ev_nx rfl ?_
  refine ev_f (by decide) ?_
  iterate 3 refine ev_nx rfl ?_
  refine ev_si rfl rfl (by decide) rfl rfl rfl rfl (ec_le (by omega) (e_within _ _ _ _)) ?_
  rw [w2]
  refine ev_nx rfl ?_
  refine ev_t (by decide) ?_
  refine ev_nx rfl ?_
  refine ev_gf rfl rfl X.1.2 rfl ?_
  refine ev_gf rfl rfl hu.1 rfl ?_
  iterate 2 refine ev_nx rfl ?_
  refine ev_lt (fun b31 => ?_) (fun b31 => ?_)
  · refine ev_nx rfl ?_
    refine ev_gf rfl rfl X.1.2 rfl ?_
    iterate 2 refine ev_nx rfl ?_
    refine ev_v rfl rfl rfl rfl rfl rfl hu.1 rfl (e_uadd hu uk (s := s) (r := r)) (fun rv h2 q => ?_)
    obtain ⟨rfl, q1, q2⟩ := q
    simp only [if_pos b31] at q1 ⊢
    have X2 : XH (v6 V (V.2.2.2.2.1.1.set V.2.2.2.2.1.2.2 s, V.2.2.2.2.1.2.1.set V.2.2.2.2.1.2.2 r, V.2.2.2.2.1.2.2 + 1)) h2 := XH_6 X q2 ⟨R, hrr, P, q1, uok_add uk b31 (by omega) (by omega), hR⟩
    refine ev_nx rfl ?_
    refine ev_gf rfl rfl X2.1.2 rfl ?_
    refine ev_gf rfl rfl q1.1 rfl ?_
    exact ev_ri rfl rfl rfl ⟨rfl, X2⟩
  · refine ev_nx rfl ?_
    simp only [if_neg (show ¬ V.2.2.2.2.1.2.2 < 8 by omega)]
    exact ev_ri rfl rfl rfl ⟨rfl, X⟩
theorem c_forget {w : Nat} (X : XH V h) (hw : w ≤ 1) : Ec (d + 1) m_X8_forget [.ref 0, .int (nI w)] h (fun v h' => v = some (.int (nI (if w = 0 then V.2.2.2.2.1.2.2 else V.2.2.2.2.2.2))) ∧ XH (if w = 0 then v6 V (V.2.2.2.2.1.1, V.2.2.2.2.1.2.1, 0) else v7 V (V.2.2.2.2.2.1, 0)) h') := by
  have w1 : wi (nI w) (nI 0) (nI 1) = 1 := by rw [wi_n (by omega) (by omega) (by omega), if_pos (by omega)]
  obtain ⟨R, hrr, P, hu, uk, hR⟩ := X.2.2.2.2.2.2.1
  have x7 := X.2.2.2.2.2.2.2.1
  refine ec_in [some (.ref 0), some (.int (nI w))] rfl rfl ?_
  iterate 3 refine ev_nx rfl ?_
  refine ev_si rfl rfl (by decide) rfl rfl rfl rfl (ec_le (by omega) (e_within _ _ _ _)) ?_
  rw [w1]
  refine ev_nx rfl ?_
  refine ev_t (by decide) ?_
  iterate 2 refine ev_nx rfl ?_
  refine ev_ne0 (fun b12 => ?_) (fun b12 => ?_)
  · refine ev_nx rfl ?_
    refine ev_gf rfl rfl X.1.2 rfl ?_
    refine ev_v rfl rfl rfl rfl rfl rfl x7.1.1 rfl (e_hempty x7.1) (fun rv h2 q => ?_)
    obtain ⟨rfl, q1, q2⟩ := q
    simp only [if_neg b12]
    have X2 : XH (v7 V (V.2.2.2.2.2.1, 0)) h2 := XH_7 X q2 ⟨q1, x7.2.1, Nat.zero_le _, x7.2.2.2⟩
    exact ev_ri rfl rfl rfl ⟨rfl, X2⟩
  · refine ev_nx rfl ?_
    refine ev_gf rfl rfl X.1.2 rfl ?_
    refine ev_v rfl rfl rfl rfl rfl rfl hu.1 rfl (e_uempty hu) (fun rv h2 q => ?_)
    obtain ⟨rfl, q1, q2⟩ := q
    simp only [if_pos b12]
    have X2 : XH (v6 V (V.2.2.2.2.1.1, V.2.2.2.2.1.2.1, 0)) h2 := XH_6 X q2 ⟨R, hrr, P, q1, ⟨uk.1, uk.2.1, uk.2.2.1, uk.2.2.2.1, Nat.zero_le _⟩, hR⟩
    refine ev_nx rfl ?_
    exact ev_ri rfl rfl rfl ⟨rfl, X2⟩
theorem c_canBe (X : XH V h) : Ec (d + 6) m_X8_canBe [.ref 0] h (fun v h' => v = some (.int (nI (psr V.2.2.2.2.1.1 V.2.2.2.2.1.2.1 V.2.2.2.2.1.2.2 25 0 0))) ∧ XH V h') := by
  obtain ⟨R, hrr, P, hu, uk, hR⟩ := X.2.2.2.2.2.2.1
  obtain ⟨K, c, t, j, hx⟩ := X.2.2.2.2.1
  refine ec_in [some (.ref 0)] rfl rfl ?_
  refine ev_nx rfl ?_
  refine ev_gf rfl rfl X.1.2 rfl ?_
  refine ev_nx rfl ?_
  refine ev_gf rfl rfl X.1.2 rfl ?_
  refine ev_v rfl rfl rfl rfl rfl rfl hu.1 rfl (e_possible hu uk hR hx (by decide) (XH_len X)) (fun rv h2 q => ?_)
  obtain ⟨rfl, q1, q2, q3⟩ := q
  exact ev_ri rfl rfl rfl ⟨rfl, XH_46 X q3 q2 ⟨RT, 1, P, q1, ⟨uk.1, uk.2.1, ⟨RT_len, RT_lt⟩, uk.2.2.2⟩, .inr ⟨rfl, rfl⟩⟩⟩
def trB (w what : Nat) : Int32 := if pcn w ≤ 1 then -(nI 4) else if what = 0 then nI (bsr RT w 30 0 0 26) else nI (gpt RT w (bsr RT w 30 0 0 26))
theorem bsr_lt {R : List Nat} {w : Nat} : ∀ r s b m, s + r = 30 → b < 30 → bsr R w r s b m < 30 := by
  intro r
  induction r with
  | zero => intro s b m _ hb; exact hb
  | succ r ih =>
    intro s b m hs hb
    rw [bsr]
    split
    · exact ih _ _ _ (by omega) hb
    · exact ih _ _ _ (by omega) (by omega)
theorem c_tries {w : Nat} (X : XH V h) (hw : w ≤ 1) : Ec (d + 6) m_X8_tries [.ref 0, .int (nI w)] h (fun v h' => v = some (.int (trB (psr V.2.2.2.2.1.1 V.2.2.2.2.1.2.1 V.2.2.2.2.1.2.2 25 0 0) w)) ∧ XH V h') := by
  have w1 : wi (nI w) (nI 0) (nI 1) = 1 := by rw [wi_n (by omega) (by omega) (by omega), if_pos (by omega)]
  obtain ⟨R, hrr, P, hu, uk, hR⟩ := X.2.2.2.2.2.2.1
  obtain ⟨K, c, t, j, hx⟩ := X.2.2.2.2.1
  have hW : psr V.2.2.2.2.1.1 V.2.2.2.2.1.2.1 V.2.2.2.2.1.2.2 25 0 0 < 33554432 := psr_lt 25 0 0 _ rfl (by decide)
  have hpc := pcn_le (psr V.2.2.2.2.1.1 V.2.2.2.2.1.2.1 V.2.2.2.2.1.2.2 25 0 0)
  have hE := e_possible (d := d) hu uk hR hx (by decide) (XH_len X)
  generalize psr V.2.2.2.2.1.1 V.2.2.2.2.1.2.1 V.2.2.2.2.1.2.2 25 0 0 = W at hW hpc hE ⊢
  have hb := bsr_lt (R := RT) (w := W) 30 0 0 26 rfl (by decide)
  refine ec_in [some (.ref 0), some (.int (nI w)), none, none] rfl rfl ?_
  rw [trB]
  iterate 3 refine ev_nx rfl ?_
  refine ev_si rfl rfl (by decide) rfl rfl rfl rfl (ec_le (by omega) (e_within _ _ _ _)) ?_
  rw [w1]
  refine ev_nx rfl ?_
  refine ev_t (by decide) ?_
  refine ev_nx rfl ?_
  refine ev_gf rfl rfl X.1.2 rfl ?_
  refine ev_nx rfl ?_
  refine ev_gf rfl rfl X.1.2 rfl ?_
  refine ev_v rfl rfl rfl rfl rfl rfl hu.1 rfl hE (fun rv h2 q => ?_)
  obtain ⟨rfl, q1, q2, q3⟩ := q
  have ukR : uok V.2.2.2.2.1.1 V.2.2.2.2.1.2.1 RT P V.2.2.2.2.1.2.2 := ⟨uk.1, uk.2.1, ⟨RT_len, RT_lt⟩, uk.2.2.2⟩
  have X2 : XH V h2 := XH_46 X q3 q2 ⟨RT, 1, P, q1, ukR, .inr ⟨rfl, rfl⟩⟩
  iterate 2 refine ev_nx rfl ?_
  refine ev_si rfl rfl (by decide) rfl rfl rfl rfl (e_bitCount hW) ?_
  iterate 2 refine ev_nx rfl ?_
  refine ev_gt (fun b28 => ?_) (fun b28 => ?_)
  · refine ev_nx rfl ?_
    refine ev_gf rfl rfl X2.1.2 rfl ?_
    refine ev_nx rfl ?_
    refine ev_v rfl rfl rfl rfl rfl rfl q1.1 rfl (e_bestSign q1 ukR (by omega)) (fun rv h3 q => ?_)
    obtain ⟨rfl, P2, hP2, rfl⟩ := q
    have q5 := uat_p q1 (P' := P2)
    have X3 : XH V (h2.set 73 (ar P2)) := XH_6 X2 (v := V.2.2.2.2.1) ⟨by rw [List.length_set], fun q hq => gset_n (by omega)⟩ ⟨RT, 1, P2, q5, uok_p ukR hP2, .inr ⟨rfl, rfl⟩⟩
    iterate 3 refine ev_nx rfl ?_
    refine ev_ne0 (fun b44 => ?_) (fun b44 => ?_)
    · refine ev_nx rfl ?_
      refine ev_gf rfl rfl X3.1.2 rfl ?_
      iterate 2 refine ev_nx rfl ?_
      refine ev_v rfl rfl rfl rfl rfl rfl q5.1 rfl (e_greatestPart q5 (uok_p ukR hP2) (by omega) hb) (fun rv h4 q => ?_)
      obtain ⟨rfl, P3, hP3, rfl⟩ := q
      have X4 : XH V ((h2.set 73 (ar P2)).set 73 (ar P3)) := XH_6 X3 (v := V.2.2.2.2.1) ⟨by rw [List.length_set], fun q hq => gset_n (by omega)⟩ ⟨RT, 1, P3, uat_p q5, uok_p ukR hP3, .inr ⟨rfl, rfl⟩⟩
      rw [if_neg (show ¬ pcn W ≤ 1 by omega)]
      first | (rw [if_pos b44]; exact ev_ri rfl rfl rfl ⟨rfl, X3⟩) | (rw [if_neg b44]; exact ev_ri rfl rfl rfl ⟨rfl, X4⟩)
    · iterate 2 refine ev_nx rfl ?_
      rw [if_neg (show ¬ pcn W ≤ 1 by omega)]
      first | (rw [if_pos b44]; exact ev_ri rfl rfl rfl ⟨rfl, X3⟩) | (rw [if_neg b44]; exact ev_ri rfl rfl rfl ⟨rfl, X4⟩)
  · refine ev_nx rfl ?_
    rw [if_pos b28]
    exact ev_ri rfl rfl rfl ⟨rfl, X2⟩
end PC
