/-! side by side: seen, heard, lay -/
section SL
variable {hx hm : aH} {V : aV} {z : aZ} {y : aY} {h : aH}
theorem s_see (Rl : RELn hx hm) (a b : Int32) : SIM m_X8_see m_X9_see [.int a, .int b] hx hm := by
  have Rl0 := Rl
  obtain ⟨V, z, y, X, M, R⟩ := Rl
  have e := R.2.2.2.2.1.1
  have hs := R.2.2.2.2.1.2
  obtain ⟨Rr, hrr, P, hu, uk, hR⟩ := X.2.2.2.2.2.2.1
  by_cases g : wi a (nI 0) (nI 29) = 1 ∧ wi b (nI 0) (nI 31) = 1
  · obtain ⟨s, _, h1, rfl⟩ := wi_nat (by decide) g.1 (by decide)
    obtain ⟨r, _, h2, rfl⟩ := wi_nat (by decide) g.2 (by decide)
    refine sim_mk (c_see (d := 0) X h1 h2) (g_see (d := 0) M h1 h2 (by rw [← e]; exact hs.2.1) hs.1) (by decide) (by decide) ?_
    rintro r1 h1' r2 h2' ⟨rfl, X'⟩ ⟨rfl, M'⟩
    refine ⟨_, rfl, by rw [e], ?_⟩
    by_cases hl : z.1.2.2.2.2.1 < 8
    · have hl' : V.2.2.2.2.1.2.2 < 8 := by omega
      rw [if_pos hl] at M'
      rw [if_pos hl'] at X'
      refine ⟨_, _, y, X', M', R.1, R.2.1, R.2.2.1, R.2.2.2.1, ⟨?_, ?_⟩, R.2.2.2.2.2.1, R.2.2.2.2.2.2⟩
      · show V.2.2.2.2.1.2.2 + 1 = z.1.2.2.2.2.1 + 1; rw [e]
      · show snO (V.2.2.2.2.1.1.set V.2.2.2.2.1.2.2 s) (V.2.2.2.2.1.2.1.set V.2.2.2.2.1.2.2 r) ((z.2.2.2.2.2.2.1.set (2 * z.1.2.2.2.2.1) s).set (2 * z.1.2.2.2.2.1 + 1) r) (V.2.2.2.2.1.2.2 + 1)
        rw [← e]
        exact sn_see hs uk.1.1 uk.2.1.1 hl' (by omega) (by omega)
    · have hl' : ¬ V.2.2.2.2.1.2.2 < 8 := by omega
      rw [if_neg hl] at M'
      rw [if_neg hl'] at X'
      exact ⟨V, z, y, X', M', R⟩
  · exact sim_r Rl0 (b8_see X g) (b9_see M (RLn_me X R).1 g) rfl
theorem s_hear (Rl : RELn hx hm) (a : Int32) : SIM m_X8_hear m_X9_hear [.int a] hx hm := by
  have Rl0 := Rl
  obtain ⟨V, z, y, X, M, R⟩ := Rl
  have e1 := R.2.2.2.2.2.1.1
  have e2 := R.2.2.2.2.2.1.2
  have x7 := X.2.2.2.2.2.2.2.1
  by_cases g : wi a (nI 0) (nI 19) = 1 ∨ a = nI 31
  · obtain ⟨s, hs, rfl⟩ : ∃ s, (s ≤ 19 ∨ s = 31) ∧ a = nI s := by
      rcases g with g | g
      · obtain ⟨s, _, h1, rfl⟩ := wi_nat (by decide) g (by decide)
        exact ⟨s, .inl h1, rfl⟩
      · exact ⟨31, .inr rfl, g⟩
    refine sim_mk (c_hear (d := 0) X hs) (g_hear (d := 0) M hs (by rw [← e2]; exact x7.2.2.1) (by rw [← e1]; exact x7.2.1)) (by decide) (by decide) ?_
    rintro r1 h1' r2 h2' ⟨rfl, X'⟩ ⟨rfl, M'⟩
    refine ⟨_, rfl, by rw [e2], ?_⟩
    by_cases hl : z.1.2.2.2.2.2 < 8
    · have hl' : V.2.2.2.2.2.2 < 8 := by omega
      rw [if_pos hl] at M'
      rw [if_pos hl', if_pos hl'] at X'
      refine ⟨_, _, y, X', M', R.1, R.2.1, R.2.2.1, R.2.2.2.1, R.2.2.2.2.1, ⟨?_, ?_⟩, R.2.2.2.2.2.2⟩
      · show V.2.2.2.2.2.1.set V.2.2.2.2.2.2 s = z.2.2.2.2.2.2.2.set z.1.2.2.2.2.2 s; rw [e1, e2]
      · show V.2.2.2.2.2.2 + 1 = z.1.2.2.2.2.2 + 1; rw [e2]
    · have hl' : ¬ V.2.2.2.2.2.2 < 8 := by omega
      rw [if_neg hl] at M'
      rw [if_neg hl', if_neg hl'] at X'
      exact ⟨_, z, y, X', M', R⟩
  · exact sim_r Rl0 (b8_hear X g) (b9_hear M (RLn_me X R).1 g) rfl
theorem s_forget (Rl : RELn hx hm) (a : Int32) : SIM m_X8_forget m_X9_forget [.int a] hx hm := by
  have Rl0 := Rl
  obtain ⟨V, z, y, X, M, R⟩ := Rl
  have e := R.2.2.2.2.1.1
  have e2 := R.2.2.2.2.2.1.2
  by_cases g : wi a (nI 0) (nI 1) = 1
  · obtain ⟨w, _, h1, rfl⟩ := wi_nat (by decide) g (by decide)
    refine sim_mk (c_forget (d := 0) X h1) (g_forget (d := 0) M h1) (by decide) (by decide) ?_
    rintro r1 h1' r2 h2' ⟨rfl, X'⟩ ⟨rfl, M'⟩
    refine ⟨_, rfl, by rw [e, e2], ?_⟩
    by_cases hw : w = 0
    · rw [if_pos hw] at M' X'
      exact ⟨_, _, y, X', M', R.1, R.2.1, R.2.2.1, R.2.2.2.1, ⟨rfl, sn_0 R.2.2.2.2.1.2⟩, R.2.2.2.2.2.1, R.2.2.2.2.2.2⟩
    · rw [if_neg hw] at M' X'
      exact ⟨_, _, y, X', M', R.1, R.2.1, R.2.2.1, R.2.2.2.1, R.2.2.2.2.1, ⟨R.2.2.2.2.2.1.1, rfl⟩, R.2.2.2.2.2.2⟩
  · exact sim_r Rl0 (b8_forget X g) (b9_forget M (RLn_me X R).1 g) rfl
theorem s_lay (Rl : RELn hx hm) : SIM m_X8_lay m_X9_lay [] hx hm := by
  obtain ⟨V, z, y, X, M, R⟩ := Rl
  have sk := X.2.1.2
  have e1 := R.1.1
  have e2 := R.1.2
  have sk2 : sok z.2.1 z.1.1 := by rw [← e1, ← e2]; exact sk
  have mo := X.2.2.1.2.1
  have mo0 : mok V.2.1.1 V.2.1.2.1 0 := ⟨mo.1, mo.2.1, mo.2.2.1, mo.2.2.2.1, Nat.zero_le _⟩
  have hl : (llN V.2.2.1).length = 29 := ll_len X.2.2.2.1.2
  have T1 : ffr V.1.1 V.1.2 200 0 0 = none → ((V.1.1.take V.1.2).any (· == 109) = true ↔ 0 < (tC V).2.2.2) := fun hf => by
    rw [any_iff sk]
    exact tells_iff sk.2.1 200 0 (zN, V.2.1.1, V.2.1.2.1, 0) (by omega) hf mo0 rfl
  have T2 : ffr V.1.1 V.1.2 200 0 0 = none → mrl (tC V) (tT z y) := fun hf => by
    unfold tT
    rw [← e1, ← e2]
    exact mrl_all 200 0 (zN, V.2.1.1, V.2.1.2.1, 0) (zN, y.2.2.2.2.2, y.2.2.2.2.1, 0) hf ⟨rfl, rfl, fun q hq => absurd hq (Nat.not_lt_zero _)⟩ lokN_z mo0 R.2.2.2.2.2.2.2
  refine sim_mk (c_lay (d := 0) X (fun hf ha => (T1 hf).mp ha)) (g_lay (d := 0) sk2 R.2.2.2.2.2.2 M hl R.2.1.2.1.2.2.1 R.2.1.2.1.1) (by decide) (by decide) ?_
  rintro r1 h1 r2 h2 q1 ⟨y', hy, q2⟩
  have ef : ffr z.2.1 z.1.1 200 0 0 = ffr V.1.1 V.1.2 200 0 0 := by rw [e1, e2]
  rw [ef] at q2
  rcases q1 with ⟨⟨hf, ha⟩, rfl, X'⟩ | ⟨hn, rfl, X'⟩
  · have hr := T2 hf
    have hp := (T1 hf).mp ha
    have hmn : (tC V).2.2.2 = (tT z y).2.2.2 := hr.2.1
    rcases q2 with ⟨_, rfl, ⟨okT, moT, h6⟩, M'⟩ | ⟨hn2, _, _⟩
    · refine ⟨_, rfl, by rw [hmn], vL V, zly z (tT z y), y', X', ?_, R.1, ⟨hmn, ⟨moT.1, moT.2.1, moT.2.2.1, moT.2.2.2.1, h6⟩, ?_⟩, ⟨rfl, bk_0 (RLn_bk X R).1⟩, ⟨rfl, kp_0 R.2.2.2.1.2.1⟩, ⟨rfl, sn_0 R.2.2.2.2.1.2⟩, ⟨R.2.2.2.2.2.1.1, rfl⟩, hy⟩
      · show Mq (zly z (tT z y)) y' (llN (tC V).1) h2
        rw [hr.1]; exact M'
      · intro q hq
        exact hr.2.2 q (by rw [hmn]; exact hq)
    · exact absurd ⟨hf, by rw [← hmn]; exact hp⟩ hn2
  · rcases q2 with ⟨⟨hf, hp⟩, _, _, _⟩ | ⟨_, rfl, M'⟩
    · have hr := T2 hf
      have hmn : (tC V).2.2.2 = (tT z y).2.2.2 := hr.2.1
      exact absurd ⟨hf, (T1 hf).mpr (by rw [hmn]; exact hp)⟩ hn
    · exact ⟨_, rfl, rfl, V, z, y', X', M', R.1, R.2.1, R.2.2.1, R.2.2.2.1, R.2.2.2.2.1, R.2.2.2.2.2.1, hy⟩
end SL
