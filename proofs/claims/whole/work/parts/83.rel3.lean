/-! side by side: deeds -/
section SK
variable {hx hm : aH} {V : aV} {z : aZ} {y : aY} {h : aH}
theorem XH_L (X : XH V h) : V.2.2.2.1.2.2.2.length = 10 := X.2.2.2.2.2.1.1.2.2.2.1
theorem RLn_note (X : XH V h) (R : RLn V z y) {x' : aN} : RLn (v3 (vR V) x') (znt (llN V.2.2.1) z) y := by
  have x5 := X.2.2.2.2.2.1
  have x3 := X.2.2.2.1
  have e := R.2.2.1.1
  have hb := bk_note R.2.2.1.2 (XH_L X) x5.2.1 x5.2.2.1 x3.2
  refine ⟨R.1, R.2.1, ⟨?_, ?_⟩, ⟨R.2.2.2.1.1, kp_note R.2.2.2.1.2 x5.2.1⟩, R.2.2.2.2.1, R.2.2.2.2.2.1, R.2.2.2.2.2.2⟩
  · show min (V.2.2.2.1.2.1 + 1) 8 = ntu z.1.2.2.1
    rw [← e, ntu_min x5.2.2.1]
  · show bkR ((V.2.2.2.1.1 + 1) % 8) (min (V.2.2.2.1.2.1 + 1) 8) (V.2.2.2.1.2.2.2.set V.2.2.2.1.1 V.2.2.1) (ntb (llN V.2.2.1) z.1.2.2.1 z.2.2.2.2.1)
    rw [← e]
    exact hb
theorem RLn_bk (X : XH V h) (R : RLn V z y) : z.2.2.2.2.1.length = 232 ∧ z.1.2.2.1 ≤ 8 := ⟨R.2.2.1.2.1, by rw [← R.2.2.1.1]; exact X.2.2.2.2.2.1.2.2.1⟩
theorem s_send (Rl : RELn hx hm) (a : Int32) : SIM m_X8_send m_X9_send [.int a] hx hm := by
  have Rl0 := Rl
  obtain ⟨V, z, y, X, M, R⟩ := Rl
  by_cases g : wi a (nI 0) (nI 30) = 1
  · obtain ⟨s, _, h1, rfl⟩ := wi_nat (by decide) g (by decide)
    refine sim_mk (c_send (d := 0) X h1) (g_send (d := 0) X.2.2.2.1.2 M h1 (RLn_bk X R).1 (RLn_bk X R).2) (by decide) (by decide) ?_
    rintro r1 h1 r2 h2 ⟨rfl, X'⟩ ⟨rfl, M'⟩
    exact ⟨_, rfl, rfl, _, _, y, X', M', RLn_note X R⟩
  · exact sim_r Rl0 (b8_send X g) (b9_send M (RLn_me X R).1 g) rfl
theorem s_cut (Rl : RELn hx hm) (a : Int32) : SIM m_X8_cut m_X9_cut [.int a] hx hm := by
  have Rl0 := Rl
  obtain ⟨V, z, y, X, M, R⟩ := Rl
  by_cases g : wi a (nI 0) (nI 4) = 1
  · obtain ⟨p, _, h1, rfl⟩ := wi_nat (by decide) g (by decide)
    refine sim_mk (c_cut (d := 0) X (show p < 5 by omega)) (g_cut (d := 0) X.2.2.2.1.2 M (show p < 5 by omega) (RLn_bk X R).1 (RLn_bk X R).2) (by decide) (by decide) ?_
    rintro r1 h1 r2 h2 ⟨rfl, X'⟩ ⟨rfl, M'⟩
    refine ⟨_, rfl, rfl, ?_⟩
    by_cases hb : bt V.2.2.1.2.2.2.1 p = 1
    · rw [if_pos hb] at X'
      rw [if_pos hb, if_pos hb] at M'
      exact ⟨V, z, y, X', M', R⟩
    · rw [if_neg hb] at X'
      rw [if_neg hb, if_neg hb] at M'
      exact ⟨_, _, y, X', M', RLn_note X R⟩
  · exact sim_r Rl0 (b8_cut X g) (b9_cut M (RLn_me X R).1 g) rfl
theorem s_turn (Rl : RELn hx hm) (a : Int32) : SIM m_X8_turn m_X9_turn [.int a] hx hm := by
  have Rl0 := Rl
  obtain ⟨V, z, y, X, M, R⟩ := Rl
  by_cases g : wi a (nI 0) (nI 4) = 1
  · obtain ⟨p, _, h1, rfl⟩ := wi_nat (by decide) g (by decide)
    refine sim_mk (c_turn (d := 0) X (show p < 5 by omega)) (g_turn (d := 0) X.2.2.2.1.2 M (show p < 5 by omega) (RLn_bk X R).1 (RLn_bk X R).2) (by decide) (by decide) ?_
    rintro r1 h1 r2 h2 ⟨rfl, X'⟩ ⟨rfl, M'⟩
    exact ⟨_, rfl, rfl, _, _, y, X', M', RLn_note X R⟩
  · exact sim_r Rl0 (b8_turn X g) (b9_turn M (RLn_me X R).1 g) rfl
theorem s_touch (Rl : RELn hx hm) (a : Int32) : SIM m_X8_touch m_X9_touch [.int a] hx hm := by
  have Rl0 := Rl
  obtain ⟨V, z, y, X, M, R⟩ := Rl
  by_cases g : wi a (nI 0) (nI 3) = 1
  · obtain ⟨p, _, h1, rfl⟩ := wi_nat (by decide) g (by decide)
    refine sim_mk (c_touch (d := 0) X (show p < 4 by omega)) (g_touch (d := 0) X.2.2.2.1.2 M (show p < 4 by omega) (RLn_bk X R).1 (RLn_bk X R).2) (by decide) (by decide) ?_
    rintro r1 h1 r2 h2 ⟨rfl, X'⟩ ⟨rfl, M'⟩
    refine ⟨_, rfl, rfl, ?_⟩
    by_cases hb : bt V.2.2.1.2.2.2.2.2 p = 1
    · rw [if_pos hb] at X'
      rw [if_pos hb, if_pos hb] at M'
      exact ⟨V, z, y, X', M', R⟩
    · rw [if_neg hb] at X'
      rw [if_neg hb, if_neg hb] at M'
      exact ⟨_, _, y, X', M', RLn_note X R⟩
  · exact sim_r Rl0 (b8_touch X g) (b9_touch M (RLn_me X R).1 g) rfl
theorem s_mend (Rl : RELn hx hm) (a : Int32) : SIM m_X8_mend m_X9_mend [.int a] hx hm := by
  have Rl0 := Rl
  obtain ⟨V, z, y, X, M, R⟩ := Rl
  by_cases g : wi a (nI 0) (nI 4) = 1
  · obtain ⟨p, _, h1, rfl⟩ := wi_nat (by decide) g (by decide)
    refine sim_mk (c_mend (d := 0) X (show p < 5 by omega)) (g_mend (d := 0) X.2.2.2.1.2 M (show p < 5 by omega) (RLn_bk X R).1 (RLn_bk X R).2) (by decide) (by decide) ?_
    rintro r1 h1 r2 h2 ⟨rfl, X'⟩ ⟨rfl, M'⟩
    refine ⟨_, rfl, rfl, ?_⟩
    by_cases hb : bt (mdw V.2.2.1.2.2.2.1 V.2.2.1.2.2.2.2.1 V.2.2.1.2.2.2.2.2) p = 0
    · rw [if_pos hb] at X'
      rw [if_pos hb, if_pos hb] at M'
      exact ⟨V, z, y, X', M', R⟩
    · rw [if_neg hb] at X'
      rw [if_neg hb, if_neg hb] at M'
      exact ⟨_, _, y, X', M', RLn_note X R⟩
  · exact sim_r Rl0 (b8_mend X g) (b9_mend M (RLn_me X R).1 g) rfl
theorem s_change (Rl : RELn hx hm) (a b : Int32) : SIM m_X8_change m_X9_change [.int a, .int b] hx hm := by
  have Rl0 := Rl
  obtain ⟨V, z, y, X, M, R⟩ := Rl
  by_cases g : wi a (nI 0) (nI 4) = 1 ∧ wi b (nI 0) (nI 4) = 1 ∧ ¬ a = b
  · obtain ⟨p, _, h1, rfl⟩ := wi_nat (by decide) g.1 (by decide)
    obtain ⟨q, _, h2, rfl⟩ := wi_nat (by decide) g.2.1 (by decide)
    have hpq : p ≠ q := fun e => g.2.2 (by rw [e])
    refine sim_mk (c_change (d := 0) X (show p < 5 by omega) (show q < 5 by omega) hpq) (g_change (d := 0) X.2.2.2.1.2 M (show p < 5 by omega) (show q < 5 by omega) hpq (RLn_bk X R).1 (RLn_bk X R).2) (by decide) (by decide) ?_
    rintro r1 h1 r2 h2 ⟨rfl, X'⟩ ⟨rfl, M'⟩
    exact ⟨_, rfl, rfl, _, _, y, X', M', RLn_note X R⟩
  · exact sim_r Rl0 (b8_change X g) (b9_change M (RLn_me X R).1 g) rfl
theorem s_undo (Rl : RELn hx hm) : SIM m_X8_undo m_X9_undo [] hx hm := by
  obtain ⟨V, z, y, X, M, R⟩ := Rl
  have x5 := X.2.2.2.2.2.1
  have hl : (llN V.2.2.1).length = 29 := ll_len X.2.2.2.1.2
  have e := R.2.2.1.1
  refine sim_mk (c_undo (d := 0) X) (g_undo (d := 0) M hl (RLn_bk X R).1 (RLn_bk X R).2) (by decide) (by decide) ?_
  rintro r1 h1 r2 h2 ⟨rfl, X'⟩ ⟨rfl, M'⟩
  refine ⟨_, rfl, by rw [e], ?_⟩
  by_cases h0 : z.1.2.2.1 = 0
  · have h0' : ¬ 0 < V.2.2.2.1.2.1 := by omega
    rw [if_pos h0, if_pos h0] at M'
    rw [if_neg h0', if_neg h0'] at X'
    refine ⟨_, z, y, X', M', R.1, R.2.1, ⟨?_, ?_⟩, R.2.2.2.1, R.2.2.2.2.1, R.2.2.2.2.2.1, R.2.2.2.2.2.2⟩
    · show V.2.2.2.1.2.1 - 1 = z.1.2.2.1; omega
    · show bkR V.2.2.2.1.1 (V.2.2.2.1.2.1 - 1) V.2.2.2.1.2.2.2 z.2.2.2.2.1
      rw [show V.2.2.2.1.2.1 - 1 = 0 by omega]
      exact bk_0 (RLn_bk X R).1
  · have h0' : 0 < V.2.2.2.1.2.1 := by omega
    rw [if_neg h0, if_neg h0] at M'
    rw [if_pos h0', if_pos h0'] at X'
    have el := bk_line R.2.2.1.2 hl x5.2.2.1 h0' x5.2.2.2.2
    rw [e] at el
    rw [el] at M'
    refine ⟨_, _, y, X', M', R.1, R.2.1, ⟨?_, ?_⟩, R.2.2.2.1, R.2.2.2.2.1, R.2.2.2.2.2.1, R.2.2.2.2.2.2⟩
    · show V.2.2.2.1.2.1 - 1 = z.1.2.2.1 - 1; omega
    · exact bk_undo R.2.2.1.2 x5.2.1 x5.2.2.1 h0'
theorem s_keep (Rl : RELn hx hm) : SIM m_X8_keep m_X9_keep [] hx hm := by
  obtain ⟨V, z, y, X, M, R⟩ := Rl
  have x5 := X.2.2.2.2.2.1
  have k2 := x5.2.2.2.1
  have hl : (llN V.2.2.1).length = 29 := ll_len X.2.2.2.1.2
  have e := R.2.2.2.1.1
  refine sim_mk (c_keep (d := 0) X) (g_keep (d := 0) M hl R.2.2.2.1.2.1 (by rw [← e]; exact k2)) (by decide) (by decide) ?_
  rintro r1 h1 r2 h2 ⟨rfl, X'⟩ ⟨rfl, M'⟩
  by_cases h0 : z.1.2.2.2.1 = 2
  · have h0' : ¬ V.2.2.2.1.2.2.1 < 2 := by omega
    rw [if_pos h0] at M'
    rw [if_neg h0', if_neg h0'] at X'
    refine ⟨_, rfl, by rw [if_pos h0, if_neg h0'], _, z, y, X', M', R⟩
  · have h0' : V.2.2.2.1.2.2.1 < 2 := by omega
    rw [if_neg h0] at M'
    rw [if_pos h0', if_pos h0'] at X'
    obtain ⟨KB, eKB⟩ : ∃ KB, KB = brg (llN V.2.2.1) z.2.2.2.2.2.1 0 (29 * z.1.2.2.2.1) 29 0 := ⟨_, rfl⟩
    rw [← eKB] at M'
    have hK : kpR (V.2.2.2.1.2.2.1 + 1) (V.2.2.2.1.2.2.2.set (8 + V.2.2.2.1.2.2.1) V.2.2.1) KB := by
      rw [eKB, ← e]
      exact kp_keep R.2.2.2.1.2 (XH_L X) h0' X.2.2.2.1.2
    clear eKB
    refine ⟨nI (V.2.2.2.1.2.2.1 + 1), by rw [if_pos h0'], by rw [if_neg h0, e], _, _, y, X', M', R.1, R.2.1, ⟨R.2.2.1.1, bk_keep R.2.2.1.2⟩, ⟨?_, hK⟩, R.2.2.2.2.1, R.2.2.2.2.2.1, R.2.2.2.2.2.2⟩
    show V.2.2.2.1.2.2.1 + 1 = z.1.2.2.2.1 + 1; omega
theorem s_back (Rl : RELn hx hm) : SIM m_X8_back m_X9_back [] hx hm := by
  obtain ⟨V, z, y, X, M, R⟩ := Rl
  have x5 := X.2.2.2.2.2.1
  have k2 := x5.2.2.2.1
  have hl : (llN V.2.2.1).length = 29 := ll_len X.2.2.2.1.2
  have e := R.2.2.2.1.1
  refine sim_mk (c_back (d := 0) X) (g_back (d := 0) M hl R.2.2.2.1.2.1 (by rw [← e]; exact k2)) (by decide) (by decide) ?_
  rintro r1 h1 r2 h2 ⟨rfl, X'⟩ ⟨rfl, M'⟩
  refine ⟨_, rfl, by rw [e], ?_⟩
  by_cases h0 : z.1.2.2.2.1 = 0
  · have h0' : ¬ 0 < V.2.2.2.1.2.2.1 := by omega
    rw [if_pos h0, if_pos h0] at M'
    rw [if_neg h0', if_neg h0'] at X'
    refine ⟨_, z, y, X', M', R.1, R.2.1, R.2.2.1, ⟨?_, kp_back R.2.2.2.1.2⟩, R.2.2.2.2.1, R.2.2.2.2.2.1, R.2.2.2.2.2.2⟩
    show V.2.2.2.1.2.2.1 - 1 = z.1.2.2.2.1; omega
  · have h0' : 0 < V.2.2.2.1.2.2.1 := by omega
    rw [if_neg h0, if_neg h0] at M'
    rw [if_pos h0', if_pos h0'] at X'
    have el := kp_line R.2.2.2.1.2 hl k2 h0' x5.2.2.2.2
    rw [e] at el
    rw [el, ← e] at M'
    refine ⟨_, _, y, X', M', R.1, R.2.1, ⟨rfl, bk_0 (RLn_bk X R).1⟩, ⟨rfl, kp_back R.2.2.2.1.2⟩, R.2.2.2.2.1, R.2.2.2.2.2.1, R.2.2.2.2.2.2⟩
theorem s_write (Rl : RELn hx hm) (a : Int32) : SIM m_X8_write m_X9_write [.int a] hx hm := by
  have Rl0 := Rl
  obtain ⟨V, z, y, X, M, R⟩ := Rl
  have x1 := X.2.1.2
  have e1 := R.1.1
  have e2 := R.1.2
  by_cases g : wi a (nI 32) (nI 126) = 1
  · obtain ⟨c, h1, h2, rfl⟩ := wi_nat (by decide) g (by decide)
    refine sim_mk (c_write (d := 0) X ⟨h1, h2⟩) (g_write (d := 0) M ⟨h1, h2⟩ (by rw [← e2]; exact x1.2.1) (by rw [← e1]; exact x1.1)) (by decide) (by decide) ?_
    rintro r1 h1 r2 h2 ⟨rfl, X'⟩ ⟨rfl, M'⟩
    refine ⟨_, rfl, by rw [e2], ?_⟩
    by_cases hl : z.1.1 < 200
    · have hl' : V.1.2 < 200 := by omega
      rw [if_pos hl] at M'
      rw [if_pos hl'] at X'
      refine ⟨_, _, y, X', M', ⟨?_, ?_⟩, R.2⟩
      · show V.1.1.set V.1.2 c = z.2.1.set z.1.1 c; rw [e1, e2]
      · show V.1.2 + 1 = z.1.1 + 1; rw [e2]
    · have hl' : ¬ V.1.2 < 200 := by omega
      rw [if_neg hl] at M'
      rw [if_neg hl'] at X'
      exact ⟨V, z, y, X', M', R⟩
  · exact sim_r Rl0 (b8_write X g) (b9_write M (RLn_me X R).1 g) rfl
theorem s_wipe (Rl : RELn hx hm) : SIM m_X8_wipe m_X9_wipe [] hx hm := by
  obtain ⟨V, z, y, X, M, R⟩ := Rl
  refine sim_mk (c_wipe (d := 0) X) (g_wipe (d := 0) M) (by decide) (by decide) ?_
  rintro r1 h1 r2 h2 ⟨rfl, X'⟩ ⟨rfl, M'⟩
  exact ⟨_, rfl, by rw [R.1.2], _, _, y, X', M', ⟨R.1.1, rfl⟩, R.2⟩
end SK
