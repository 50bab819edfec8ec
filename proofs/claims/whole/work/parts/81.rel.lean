/-! the class and the reference side by side -/
def RLn (V : aV) (z : aZ) (y : aY) : Prop :=
  (V.1.1 = z.2.1 ∧ V.1.2 = z.1.1) ∧ (V.2.1.2.2 = z.1.2.1 ∧ mok z.2.2.2.1 z.2.2.1 z.1.2.1 ∧ ∀ q, q < z.1.2.1 → msg V.2.1.1 V.2.1.2.1 q = msg z.2.2.2.1 z.2.2.1 q) ∧
  (V.2.2.2.1.2.1 = z.1.2.2.1 ∧ bkR V.2.2.2.1.1 V.2.2.2.1.2.1 V.2.2.2.1.2.2.2 z.2.2.2.2.1) ∧ (V.2.2.2.1.2.2.1 = z.1.2.2.2.1 ∧ kpR V.2.2.2.1.2.2.1 V.2.2.2.1.2.2.2 z.2.2.2.2.2.1) ∧
  (V.2.2.2.2.1.2.2 = z.1.2.2.2.2.1 ∧ snO V.2.2.2.2.1.1 V.2.2.2.2.1.2.1 z.2.2.2.2.2.2.1 V.2.2.2.2.1.2.2) ∧ (V.2.2.2.2.2.1 = z.2.2.2.2.2.2.2 ∧ V.2.2.2.2.2.2 = z.1.2.2.2.2.2) ∧ yok y
def RELn (hx hm : aH) : Prop := ∃ V z y, XH V hx ∧ Mq z y (llN V.2.2.1) hm ∧ RLn V z y
/-- both answer alike, and stay alike -/
def SIM (cm mm : aM) (as : List Value) (hx hm : aH) : Prop := ∃ v hx' hm', Ec 20 cm (.ref 0 :: as) hx (rt (.int v) hx') ∧ Ec 20 mm (.ref 0 :: as) hm (rt (.int v) hm') ∧ RELn hx' hm'
theorem ec_ex {d : Nat} {m : aM} {as : List Value} {h : aH} {P : Option Value → aH → Prop} (k : Ec d m as h P) : ∃ r h', Ec d m as h (fun a b => a = r ∧ b = h') ∧ P r h' := by
  obtain ⟨h1, n, r, h', e, q⟩ := k
  exact ⟨r, h', ⟨h1, n, r, h', e, rfl, rfl⟩, q⟩
theorem sim_mk {cm mm : aM} {as : List Value} {hx hm : aH} {d1 d2 : Nat} {P1 P2 : Option Value → aH → Prop} (k1 : Ec d1 cm (.ref 0 :: as) hx P1) (k2 : Ec d2 mm (.ref 0 :: as) hm P2) (l1 : d1 ≤ 20) (l2 : d2 ≤ 20) (hq : ∀ r1 h1 r2 h2, P1 r1 h1 → P2 r2 h2 → ∃ v, r1 = some (.int v) ∧ r2 = some (.int v) ∧ RELn h1 h2) : SIM cm mm as hx hm := by
  obtain ⟨r1, h1, e1, q1⟩ := ec_ex k1
  obtain ⟨r2, h2, e2, q2⟩ := ec_ex k2
  obtain ⟨v, rfl, rfl, hr⟩ := hq r1 h1 r2 h2 q1 q2
  exact ⟨v, h1, h2, ec_le l1 e1, ec_le l2 e2, hr⟩
/-- questions -/
theorem sim_q {cm mm : aM} {as : List Value} {hx hm : aH} {V : aV} {z : aZ} {y : aY} {a b : Int32} (R : RLn V z y) (k1 : Ec 16 cm (.ref 0 :: as) hx (fun v h' => v = some (.int a) ∧ XH V h')) (k2 : Ec 16 mm (.ref 0 :: as) hm (fun v h' => v = some (.int b) ∧ Mq z y (llN V.2.2.1) h')) (e : a = b) : SIM cm mm as hx hm :=
  sim_mk k1 k2 (by decide) (by decide) (fun r1 h1 r2 h2 q1 q2 => ⟨a, q1.1, by rw [q2.1, e], V, z, y, q1.2, q2.2, R⟩)
theorem sim_r {cm mm : aM} {as : List Value} {hx hm : aH} {a b : Int32} (R : RELn hx hm) (k1 : Ec 16 cm (.ref 0 :: as) hx (rt (.int a) hx)) (k2 : Ec 16 mm (.ref 0 :: as) hm (rt (.int b) hm)) (e : a = b) : SIM cm mm as hx hm :=
  sim_mk k1 k2 (by decide) (by decide) (fun r1 h1 r2 h2 q1 q2 => ⟨a, q1.1, by rw [q2.1, e], by rw [q1.2, q2.2]; exact R⟩)
theorem wi_nat {x : Int32} {a b : Nat} (hb : b < 65536) (h : wi x (nI a) (nI b) = 1) (ha : a ≤ b) : ∃ k, a ≤ k ∧ k ≤ b ∧ x = nI k := by
  unfold wi at h
  by_cases hc : nI a ≤ x ∧ x ≤ nI b
  · have h0 : ¬ x < 0 := fun q => by
      have q1 := Int32.le_iff_toInt_le.mp hc.1
      have q2 := Int32.lt_iff_toInt_lt.mp q
      rw [nI_toInt (by omega)] at q1
      have q3 : (0 : Int32).toInt = 0 := by decide
      omega
    obtain ⟨k, h1, rfl⟩ := nI_of2 (x := x) (M := nI b) (n := b) (nI_toInt (by omega)) h0 hc.2
    exact ⟨k, (nI_leI (by omega) (by omega)).mp hc.1, h1, rfl⟩
  · rw [if_neg hc] at h; cases h
theorem wi_opt {x : Int32} {n : Nat} (hn : n < 65536) (h : wi x (-(nI 1)) (nI n) = 1) : ∃ k : Option Nat, (∀ q, k = some q → q ≤ n) ∧ x = oI k := by
  rcases wi_m (x := x) hn with q | q
  · exact q.2
  · rw [q] at h; cases h
section SI
variable {hx hm : aH}
theorem RLn_me {V : aV} {z : aZ} {y : aY} {h : aH} (X : XH V h) (R : RLn V z y) : 0 < z.1.2.1 ∧ z.1.2.1 ≤ 6 := ⟨by rw [← R.2.1.1]; exact X.2.2.1.2.2, R.2.1.2.1.2.2.2.2⟩
theorem s_reads (Rl : RELn hx hm) : SIM m_X8_reads m_X9_reads [] hx hm := by
  have Rl0 := Rl
  obtain ⟨V, z, y, X, M, R⟩ := Rl
  exact sim_r Rl0 (c_reads X) (g_reads X.2.2.2.1.2 M) rfl
theorem s_needle (Rl : RELn hx hm) (a b : Int32) : SIM m_X8_needle m_X9_needle [.int a, .int b] hx hm := by
  have Rl0 := Rl
  obtain ⟨V, z, y, X, M, R⟩ := Rl
  by_cases g : wi a (nI 0) (nI 4) = 1 ∧ wi b (nI 0) (nI 2) = 1
  · obtain ⟨p, _, hp, rfl⟩ := wi_nat (by decide) g.1 (by decide)
    obtain ⟨w, _, hw, rfl⟩ := wi_nat (by decide) g.2 (by decide)
    exact sim_r Rl0 (c_needle X (by omega) hw) (g_needle X.2.2.2.1.2 M (by omega) hw) rfl
  · exact sim_r Rl0 (b8_needle X g) (b9_needle M (RLn_me X R).1 g) rfl
theorem s_wire (Rl : RELn hx hm) (a b : Int32) : SIM m_X8_wire m_X9_wire [.int a, .int b] hx hm := by
  have Rl0 := Rl
  obtain ⟨V, z, y, X, M, R⟩ := Rl
  by_cases g : wi a (nI 0) (nI 4) = 1 ∧ wi b (nI 0) (nI 2) = 1
  · obtain ⟨p, _, hp, rfl⟩ := wi_nat (by decide) g.1 (by decide)
    obtain ⟨w, _, hw, rfl⟩ := wi_nat (by decide) g.2 (by decide)
    exact sim_r Rl0 (c_wire X (by omega) hw) (g_wire X.2.2.2.1.2 M (by omega) hw) rfl
  · exact sim_r Rl0 (b8_wire X g) (b9_wire M (RLn_me X R).1 g) rfl
theorem s_clear (Rl : RELn hx hm) (a : Int32) : SIM m_X8_clear m_X9_clear [.int a] hx hm := by
  have Rl0 := Rl
  obtain ⟨V, z, y, X, M, R⟩ := Rl
  by_cases g : wi a (nI 1) (nI 3) = 1
  · obtain ⟨r, h1, h2, rfl⟩ := wi_nat (by decide) g (by decide)
    exact sim_q R (c_clear X ⟨h1, h2⟩) (g_clear M X.2.2.2.1.2 ⟨h1, h2⟩) rfl
  · exact sim_r Rl0 (b8_clear X g) (b9_clear M (RLn_me X R).1 g) rfl
theorem s_like (Rl : RELn hx hm) (a : Int32) : SIM m_X8_like m_X9_like [.int a] hx hm := by
  have Rl0 := Rl
  obtain ⟨V, z, y, X, M, R⟩ := Rl
  by_cases g : wi a (nI 0) (nI 30) = 1
  · obtain ⟨r, h1, h2, rfl⟩ := wi_nat (by decide) g (by decide)
    exact sim_q R (c_like X h2) (g_like M X.2.2.2.1.2 h2) rfl
  · exact sim_r Rl0 (b8_like X g) (b9_like M (RLn_me X R).1 g) rfl
theorem s_order (Rl : RELn hx hm) (a b : Int32) : SIM m_X8_order m_X9_order [.int a, .int b] hx hm := by
  have Rl0 := Rl
  obtain ⟨V, z, y, X, M, R⟩ := Rl
  by_cases g : wi a (nI 1) (nI 3) = 1 ∧ wi b (-(nI 1)) (nI 4) = 1
  · obtain ⟨r, h1, h2, rfl⟩ := wi_nat (by decide) g.1 (by decide)
    obtain ⟨k, hk, rfl⟩ := wi_opt (by decide) g.2
    refine sim_q R (c_order X ⟨h1, h2⟩ hk) (g_order X.2.2.2.1.2 M ⟨h1, h2⟩ hk) ?_
    have e := order_eq (r := r) X.2.2.2.1.2
    rw [e]
  · exact sim_r Rl0 (b8_order X g) (b9_order M (RLn_me X R).1 g) rfl
theorem s_odds (Rl : RELn hx hm) (a b c : Int32) : SIM m_X8_odds m_X9_odds [.int a, .int b, .int c] hx hm := by
  have Rl0 := Rl
  obtain ⟨V, z, y, X, M, R⟩ := Rl
  by_cases g : wi a (nI 0) (nI 29) = 1 ∧ wi b (nI 0) (nI 10) = 1 ∧ wi c (nI 0) (nI 1) = 1
  · obtain ⟨s, _, h1, rfl⟩ := wi_nat (by decide) g.1 (by decide)
    obtain ⟨x, _, h2, rfl⟩ := wi_nat (by decide) g.2.1 (by decide)
    obtain ⟨w, _, h3, rfl⟩ := wi_nat (by decide) g.2.2 (by decide)
    exact sim_q R (c_odds X h1 h2 h3) (g_odds X.2.2.2.1.2 M h1 h2 h3) rfl
  · exact sim_r Rl0 (b8_odds X g) (b9_odds M (RLn_me X R).1 g) rfl
theorem s_day (Rl : RELn hx hm) (a b c : Int32) : SIM m_X8_day m_X9_day [.int a, .int b, .int c] hx hm := by
  have Rl0 := Rl
  obtain ⟨V, z, y, X, M, R⟩ := Rl
  by_cases g : wi a (nI 0) (nI 9999) = 1 ∧ wi b (nI 1) (nI 60) = 1 ∧ wi c (nI 0) (nI 2) = 1
  · obtain ⟨s, _, h1, rfl⟩ := wi_nat (by decide) g.1 (by decide)
    obtain ⟨x, h4, h2, rfl⟩ := wi_nat (by decide) g.2.1 (by decide)
    obtain ⟨w, _, h3, rfl⟩ := wi_nat (by decide) g.2.2 (by decide)
    exact sim_q R (c_day X h1 ⟨h4, h2⟩ h3) (g_day X.2.2.2.1.2 M h1 ⟨h4, h2⟩ h3) rfl
  · exact sim_r Rl0 (b8_day X g) (b9_day M (RLn_me X R).1 g) rfl
end SI
