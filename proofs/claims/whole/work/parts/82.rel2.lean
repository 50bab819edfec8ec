/-! side by side: questions of messages, of what is seen, counts -/
section SJ
variable {hx hm : aH}
theorem s_spelt (Rl : RELn hx hm) (a b : Int32) : SIM m_X8_spelt m_X9_spelt [.int a, .int b] hx hm := by
  have Rl0 := Rl
  obtain ⟨V, z, y, X, M, R⟩ := Rl
  have h6 := (RLn_me X R).2
  have eM := R.2.1.1
  by_cases g : wi a (nI 0) (nI (z.1.2.1 - 1)) = 1 ∧ wi b (-(nI 1)) (nI 7) = 1
  · obtain ⟨m, _, h1, rfl⟩ := wi_nat (by omega) g.1 (by omega)
    obtain ⟨k, hk, rfl⟩ := wi_opt (by decide) g.2
    have hm' : m < z.1.2.1 := by have := (RLn_me X R).1; omega
    refine sim_r Rl0 (c_spelt X (by omega) hk) (g_spelt R.2.1.2.1 M hm' hk) ?_
    rw [R.2.1.2.2 m hm']
  · exact sim_r Rl0 (b8_spelt X (by rw [eM]; exact g)) (b9_spelt M (RLn_me X R).1 g) rfl
theorem s_said (Rl : RELn hx hm) (a b c e : Int32) : SIM m_X8_said m_X9_said [.int a, .int b, .int c, .int e] hx hm := by
  have Rl0 := Rl
  obtain ⟨V, z, y, X, M, R⟩ := Rl
  have h6 := (RLn_me X R).2
  have eM := R.2.1.1
  by_cases g : wi a (nI 0) (nI (z.1.2.1 - 1)) = 1 ∧ wi b (nI 1) (nI 3) = 1 ∧ wi c (nI 0) (nI 3) = 1 ∧ wi e (-(nI 1)) (nI 7) = 1
  · obtain ⟨m, _, h1, rfl⟩ := wi_nat (by omega) g.1 (by omega)
    obtain ⟨r, h2, h3, rfl⟩ := wi_nat (by decide) g.2.1 (by decide)
    obtain ⟨u, _, h4, rfl⟩ := wi_nat (by decide) g.2.2.1 (by decide)
    obtain ⟨k, hk, rfl⟩ := wi_opt (by decide) g.2.2.2
    have hm' : m < z.1.2.1 := by have := (RLn_me X R).1; omega
    refine sim_q R (c_said X (by omega) ⟨h2, h3⟩ h4 hk) (g_said R.2.1.2.1 M X.2.2.2.1.2 hm' ⟨h2, h3⟩ h4 hk) ?_
    rw [R.2.1.2.2 m hm']
  · exact sim_r Rl0 (b8_said X (by rw [eM]; exact g)) (b9_said M (RLn_me X R).1 g) rfl
theorem s_pace (Rl : RELn hx hm) (a b : Int32) : SIM m_X8_pace m_X9_pace [.int a, .int b] hx hm := by
  have Rl0 := Rl
  obtain ⟨V, z, y, X, M, R⟩ := Rl
  have h6 := (RLn_me X R).2
  have eM := R.2.1.1
  by_cases g : wi a (nI 0) (nI (z.1.2.1 - 1)) = 1 ∧ wi b (nI 0) (nI 1) = 1
  · obtain ⟨m, _, h1, rfl⟩ := wi_nat (by omega) g.1 (by omega)
    obtain ⟨w, _, h2, rfl⟩ := wi_nat (by decide) g.2 (by decide)
    have hm' : m < z.1.2.1 := by have := (RLn_me X R).1; omega
    refine sim_q R (c_pace X (by omega) h2) (g_pace R.2.1.2.1 M X.2.2.2.1.2 hm' h2) ?_
    rw [R.2.1.2.2 m hm']
    have e : (fun r g => alr V.2.2.1.1 V.2.2.1.2.2.2.1 V.2.2.1.2.2.2.2.1 V.2.2.1.2.2.2.2.2 r g (msg z.2.2.2.1 z.2.2.1 m) z55) = (fun r g => decide (rgt V.2.2.1.1 V.2.2.1.2.2.2.1 V.2.2.1.2.2.2.2.1 V.2.2.1.2.2.2.2.2 r g (msg z.2.2.2.1 z.2.2.1 m) z55 = (msg z.2.2.2.1 z.2.2.1 m).length)) := by
      funext r g; exact alr_rgt _ _
    rw [e]
  · exact sim_r Rl0 (b8_pace X (by rw [eM]; exact g)) (b9_pace M (RLn_me X R).1 g) rfl
theorem s_mending (Rl : RELn hx hm) (a b c : Int32) : SIM m_X8_mending m_X9_mending [.int a, .int b, .int c] hx hm := by
  have Rl0 := Rl
  obtain ⟨V, z, y, X, M, R⟩ := Rl
  have h6 := (RLn_me X R).2
  have eM := R.2.1.1
  by_cases g : wi a (nI 0) (nI (z.1.2.1 - 1)) = 1 ∧ wi b (nI 1) (nI 3) = 1 ∧ wi c (nI 0) (nI 3) = 1
  · obtain ⟨m, _, h1, rfl⟩ := wi_nat (by omega) g.1 (by omega)
    obtain ⟨r, h2, h3, rfl⟩ := wi_nat (by decide) g.2.1 (by decide)
    obtain ⟨u, _, h4, rfl⟩ := wi_nat (by decide) g.2.2 (by decide)
    have hm' : m < z.1.2.1 := by have := (RLn_me X R).1; omega
    refine sim_q R (c_mending X (by omega) ⟨h2, h3⟩ h4) (g_mending R.2.1.2.1 M X.2.2.2.1.2 hm' ⟨h2, h3⟩ h4) ?_
    rw [mnF_mnC, R.2.1.2.2 m hm']
    have e : (fun w => alr V.2.2.1.1 (clr V.2.2.1.2.2.2.1 w) (clr V.2.2.1.2.2.2.2.1 w) (clr V.2.2.1.2.2.2.2.2 (mdj w)) r u (msg z.2.2.2.1 z.2.2.1 m) z55) = (fun w => decide (rgt V.2.2.1.1 (clr V.2.2.1.2.2.2.1 w) (clr V.2.2.1.2.2.2.2.1 w) (clr V.2.2.1.2.2.2.2.2 (mdj w)) r u (msg z.2.2.2.1 z.2.2.1 m) z55 = (msg z.2.2.2.1 z.2.2.1 m).length)) := by
      funext w; exact alr_rgt _ _
    rw [e]
  · exact sim_r Rl0 (b8_mending X (by rw [eM]; exact g)) (b9_mending M (RLn_me X R).1 g) rfl
theorem s_changing (Rl : RELn hx hm) (a b c e : Int32) : SIM m_X8_changing m_X9_changing [.int a, .int b, .int c, .int e] hx hm := by
  have Rl0 := Rl
  obtain ⟨V, z, y, X, M, R⟩ := Rl
  have h6 := (RLn_me X R).2
  have eM := R.2.1.1
  by_cases g : wi a (nI 0) (nI (z.1.2.1 - 1)) = 1 ∧ wi b (nI 1) (nI 3) = 1 ∧ wi c (nI 0) (nI 3) = 1 ∧ wi e (nI 0) (nI 1) = 1
  · obtain ⟨m, _, h1, rfl⟩ := wi_nat (by omega) g.1 (by omega)
    obtain ⟨r, h2, h3, rfl⟩ := wi_nat (by decide) g.2.1 (by decide)
    obtain ⟨u, _, h4, rfl⟩ := wi_nat (by decide) g.2.2.1 (by decide)
    obtain ⟨w, _, h5, rfl⟩ := wi_nat (by decide) g.2.2.2 (by decide)
    have hm' : m < z.1.2.1 := by have := (RLn_me X R).1; omega
    refine sim_q R (c_changing X (by omega) ⟨h2, h3⟩ h4 h5) (g_changing R.2.1.2.1 M X.2.2.2.1.2 hm' ⟨h2, h3⟩ h4 h5) ?_
    rw [R.2.1.2.2 m hm']
  · exact sim_r Rl0 (b8_changing X (by rw [eM]; exact g)) (b9_changing M (RLn_me X R).1 g) rfl
theorem s_duel (Rl : RELn hx hm) (a b : Int32) : SIM m_X8_duel m_X9_duel [.int a, .int b] hx hm := by
  have Rl0 := Rl
  obtain ⟨V, z, y, X, M, R⟩ := Rl
  have h6 := (RLn_me X R).2
  have eM := R.2.1.1
  by_cases g : wi a (nI 0) (nI (z.1.2.1 - 1)) = 1 ∧ wi b (nI 0) (nI 4) = 1
  · obtain ⟨m, _, h1, rfl⟩ := wi_nat (by omega) g.1 (by omega)
    obtain ⟨n, _, h2, rfl⟩ := wi_nat (by decide) g.2 (by decide)
    have hm' : m < z.1.2.1 := by have := (RLn_me X R).1; omega
    have ok := X.2.2.2.1.2
    refine sim_q R (c_duel X (by omega) h2) (g_duel ok R.2.1.2.1 M hm' h2) ?_
    rw [R.2.1.2.2 m hm', duel_eq ok.2.2.2.1 ok.2.2.2.2.1 ok.2.2.2.2.2]
  · exact sim_r Rl0 (b8_duel X (by rw [eM]; exact g)) (b9_duel M (RLn_me X R).1 g) rfl
theorem s_mean (Rl : RELn hx hm) (a b c : Int32) : SIM m_X8_mean m_X9_mean [.int a, .int b, .int c] hx hm := by
  have Rl0 := Rl
  obtain ⟨V, z, y, X, M, R⟩ := Rl
  have h6 := (RLn_me X R).2
  have eM := R.2.1.1
  by_cases g : wi a (nI 0) (nI (z.1.2.1 - 1)) = 1 ∧ wi b (nI 0) (nI 10) = 1 ∧ wi c (nI 0) (nI 1) = 1
  · obtain ⟨m, _, h1, rfl⟩ := wi_nat (by omega) g.1 (by omega)
    obtain ⟨x, _, h2, rfl⟩ := wi_nat (by decide) g.2.1 (by decide)
    obtain ⟨w, _, h3, rfl⟩ := wi_nat (by decide) g.2.2 (by decide)
    have hm' : m < z.1.2.1 := by have := (RLn_me X R).1; omega
    refine sim_q R (c_mean X (by omega) h2 h3) (g_mean R.2.1.2.1 X.2.2.2.1.2 M hm' h2 h3) ?_
    rw [R.2.1.2.2 m hm']
  · exact sim_r Rl0 (b8_mean X (by rw [eM]; exact g)) (b9_mean M (RLn_me X R).1 g) rfl
theorem s_count (Rl : RELn hx hm) (a : Int32) : SIM m_X8_count m_X9_count [.int a] hx hm := by
  have Rl0 := Rl
  obtain ⟨V, z, y, X, M, R⟩ := Rl
  by_cases g : wi a (nI 0) (nI 9) = 1
  · obtain ⟨w, _, h1, rfl⟩ := wi_nat (by decide) g (by decide)
    refine sim_r Rl0 (c_count X h1) (g_count X.2.2.2.1.2 M h1) ?_
    rw [R.2.1.1, R.2.2.1.1, R.2.2.2.1.1, R.2.2.2.2.1.1, R.2.2.2.2.2.1.2, R.1.2]
  · exact sim_r Rl0 (b8_count g) (b9_count g) rfl
/-- the reference's heap, for what is wrong -/
theorem Mq_JN {z : aZ} {y : aY} {st : List Nat} {h : aH} (M : Mq z y st h) : ∃ re rl br pt_ wo, lns re rl br pt_ wo ∧ JN z y st re rl br pt_ wo h := by
  obtain ⟨nw, be, ge, re, rl, br, pt_, wo, hl, rfl⟩ := M
  exact ⟨re, rl, br, pt_, wo, hl.2.2.2, nw, hl.1, be, ge, hl.2.1, hl.2.2.1, rfl⟩
theorem JN_Mq {z : aZ} {y : aY} {st re rl br pt_ : List Nat} {wo : List Int32} {h : aH} (hl : lns re rl br pt_ wo) (J : JN z y st re rl br pt_ wo h) : Mq z y st h := by
  obtain ⟨nw, hn, be, ge, hbe, hge, rfl⟩ := J
  exact ⟨nw, be, ge, re, rl, br, pt_, wo, ⟨hn, hbe, hge, hl⟩, rfl⟩
theorem s_canBe (Rl : RELn hx hm) : SIM m_X8_canBe m_X9_canBe [] hx hm := by
  obtain ⟨V, z, y, X, M, R⟩ := Rl
  obtain ⟨re, rl, br, pt_, wo, hl, J⟩ := Mq_JN M
  have k2 := f_canBe (d := 12) R.2.2.2.2.1.2 R.2.2.2.2.1.1.symm J
  exact sim_q R (c_canBe X) (ec_mono k2 (fun r h q => ⟨q.1, JN_Mq hl q.2⟩)) rfl
theorem s_tries (Rl : RELn hx hm) (a : Int32) : SIM m_X8_tries m_X9_tries [.int a] hx hm := by
  have Rl0 := Rl
  obtain ⟨V, z, y, X, M, R⟩ := Rl
  by_cases g : wi a (nI 0) (nI 1) = 1
  · obtain ⟨w, _, h1, rfl⟩ := wi_nat (by decide) g (by decide)
    obtain ⟨re, rl, br, pt_, wo, hl, J⟩ := Mq_JN M
    have k2 := f_tries (d := 11) R.2.2.2.2.1.2 R.2.2.2.2.1.1.symm J hl.2.2.2.1 h1
    refine sim_q R (c_tries X h1) (ec_mono k2 (fun r h q => ⟨q.1, ?_⟩)) (trA_trB _ _).symm
    obtain ⟨-, P, hP, JP⟩ := q
    exact JN_Mq ⟨hl.1, hl.2.1, hl.2.2.1, hP, hl.2.2.2.2⟩ JP
  · exact sim_r Rl0 (b8_tries X g) (b9_tries M (RLn_me X R).1 g) rfl
theorem fts_eq {hd sg ln sp sz : List Nat} {N : Nat} (h : ∀ q, q < N → msg sg ln q = msg sp sz q) : ∀ r k w, k + r = N → fts hd sg ln r k w = fts hd sp sz r k w := by
  intro r
  induction r with
  | zero => intro k w _; rfl
  | succ r ih =>
    intro k w hk
    rw [fts, fts, h k (by omega)]
    exact ih _ _ (by omega)
theorem s_fits (Rl : RELn hx hm) : SIM m_X8_fits m_X9_fits [] hx hm := by
  have Rl0 := Rl
  obtain ⟨V, z, y, X, M, R⟩ := Rl
  have x7 := X.2.2.2.2.2.2.2.1
  have e1 := R.2.2.2.2.2.1.1
  have e2 := R.2.2.2.2.2.1.2
  refine sim_r Rl0 (c_fits X) (g_fits R.2.1.2.1 M (by rw [← e1]; exact x7.2.1) (by rw [← e2]; exact x7.2.2.1) (by rw [← e1]; exact x7.2.2.2)) ?_
  rw [e1, e2, R.2.1.1, fts_eq R.2.1.2.2 z.1.2.1 0 0 (by omega)]
theorem s_fault (Rl : RELn hx hm) : SIM m_X8_fault m_X9_fault [] hx hm := by
  obtain ⟨V, z, y, X, M, R⟩ := Rl
  have sk : sok z.2.1 z.1.1 := by rw [← R.1.1, ← R.1.2]; exact X.2.1.2
  refine sim_mk (c_fault (d := 0) X) (g_fault (d := 0) sk R.2.2.2.2.2.2 M) (by decide) (by decide) ?_
  rintro r1 h1 r2 h2 ⟨rfl, rfl⟩ ⟨rfl, y', hy, M'⟩
  exact ⟨_, rfl, by rw [R.1.1, R.1.2], V, z, y', X, M', R.1, R.2.1, R.2.2.1, R.2.2.2.1, R.2.2.2.2.1, R.2.2.2.2.2.1, hy⟩
end SJ
