/-! the reference: what would be read: said, pace, clear, like -/
/-- the reference's heap beside all that is worked with -/
def lns (re rl br pt_ : List Nat) (wo : List Int32) : Prop := re.length = 8 ∧ rl.length = 5 ∧ br.length = 5 ∧ pt_.length = 32 ∧ wo.length = 1296
def Mq (z : aZ) (y : aY) (st : List Nat) (h : aH) : Prop := ∃ nw be ge re rl br pt_ wo, (nw.length = 29 ∧ be.length = 5 ∧ ge.length = 5 ∧ lns re rl br pt_ wo) ∧ h = XM z y st nw be ge re rl br pt_ wo
def MJ (z : aZ) (y : aY) (st K : List Nat) (c t j : Nat) (h : aH) : Prop := ∃ re rl br pt_ wo, lns re rl br pt_ wo ∧ JL z y st K c t j re rl br pt_ wo h
section XG
variable {d : Nat} {h : aH} {Q : Option Value → aH → Prop} {z : aZ} {y : aY} {st nw be ge re rl br pt_ : List Nat} {wo : List Int32} {K S G C K' : List Nat} {c t j c' t' j' : Nat}
theorem MJ_Q (hJ : MJ z y st K c t j h) : Mq z y st h := by
  obtain ⟨re, rl, br, pt_, wo, hl, S, G, ok, be, ge, hbe, hge, rfl⟩ := hJ
  exact ⟨_, be, ge, re, rl, br, pt_, wo, ⟨ll_len ok, hbe, hge, hl⟩, rfl⟩
theorem Mq_0 (hJ : Mq z y st h) : h[0]? = some (xo z.1.1 z.1.2.1 z.1.2.2.1 z.1.2.2.2.1 z.1.2.2.2.2.1 z.1.2.2.2.2.2 y.1 y.2.1 y.2.2.1) := by
  obtain ⟨nw, be, ge, re, rl, br, pt_, wo, _, rfl⟩ := hJ; rfl
theorem MJ_0 (hJ : MJ z y st K c t j h) : h[0]? = some (xo z.1.1 z.1.2.1 z.1.2.2.1 z.1.2.2.2.1 z.1.2.2.2.2.1 z.1.2.2.2.2.2 y.1 y.2.1 y.2.2.1) := Mq_0 (MJ_Q hJ)
theorem Mq_3 (hJ : Mq z y st h) : h[3]? = some (ar z.2.2.1) := by
  obtain ⟨nw, be, ge, re, rl, br, pt_, wo, _, rfl⟩ := hJ; rfl
theorem Mq_4 (hJ : Mq z y st h) : h[4]? = some (ar z.2.2.2.1) := by
  obtain ⟨nw, be, ge, re, rl, br, pt_, wo, _, rfl⟩ := hJ; rfl
theorem g_asItIs (hJ : Mq z y (ll K S G c t j) h) (ok : lok K S G c t j) : Ec (d + 1) m_X9_asItIs [.ref 0] h (fun r h' => r = none ∧ MJ z y (ll K S G c t j) K c t j h') := by
  obtain ⟨nw, be, ge, re, rl, br, pt_, wo, ⟨hn, hbe, hge, hl⟩, rfl⟩ := hJ
  refine ec_mono (f_asItIs (ll_len ok) hn) ?_
  rintro r h' ⟨rfl, rfl⟩
  exact ⟨rfl, re, rl, br, pt_, wo, hl, S, G, ok, be, ge, hbe, hge, rfl⟩
theorem g_sent {s r : Nat} (hJ : MJ z y st K c t j h) (hs : s < 31) (hr : r < 1000) : Ec (d + 3) m_X9_sent [.ref 0, .int (nI s), .int (nI r)] h (fun v h' => v = some (.int (nI (rdS (btn K (cry s c t j) r z5 z5)))) ∧ MJ z y st K c t j h') := by
  obtain ⟨re, rl, br, pt_, wo, hl, hJ⟩ := hJ
  refine ec_mono (f_sent hJ hs hr) ?_
  rintro v h' ⟨rfl, hJ⟩
  exact ⟨rfl, re, rl, br, pt_, wo, hl, hJ⟩
theorem g_says {m r g : Nat} (mo : mok z.2.2.2.1 z.2.2.1 z.1.2.1) (hm : m < 6) (hr : r < 1000) (hg : g < 1000) (hJ : MJ z y st K c t j h) : Ec (d + 3) m_X9_says [.ref 0, .int (nI m), .int (nI r), .int (nI g)] h (fun v h' => v = some (.int (nI (rgt K c t j r g (msg z.2.2.2.1 z.2.2.1 m) z55))) ∧ (∃ re, h'[16]? = some (ar re) ∧ re.length = 8 ∧ ∀ q, q < z.2.2.1.getD m 0 → re.getD q 0 = rdk K c t j r g (msg z.2.2.2.1 z.2.2.1 m) q z55) ∧ MJ z y st K c t j h') := by
  obtain ⟨re, rl, br, pt_, wo, hl, hJ⟩ := hJ
  refine ec_mono (f_says mo hm hr hg hl.1 hJ) ?_
  rintro v h' ⟨rfl, re', hre, hJ⟩
  refine ⟨rfl, ⟨re', ?_, hre⟩, re', rl, br, pt_, wo, ⟨hre.1, hl.2⟩, hJ⟩
  obtain ⟨S, G, ok, be, ge, hbe, hge, rfl⟩ := hJ
  rfl
/-! guards -/
theorem f_isMessage {x : Int32} (hJ : Mq z y st h) (hme : 0 < z.1.2.1) : Ec (d + 1) m_X9_isMessage [.ref 0, .int x] h (rt (.int (nI (wi x (nI 0) (nI (z.1.2.1 - 1))))) h) := by
  refine ec_in [some (.ref 0), some (.int x)] rfl rfl ?_
  iterate 3 refine ev_nx rfl ?_
  refine ev_gf rfl rfl (Mq_0 hJ) rfl ?_
  refine ev_nx rfl ?_
  refine ev_sub rfl (by omega) ?_
  refine ev_ci rfl rfl (f_in _ _ _ _) ?_
  exact ev_ri rfl rfl wi_nr ⟨rfl, rfl⟩
def isp (r g : Int32) : Nat := if wi r (nI 1) (nI 3) = 1 ∧ wi g (nI 0) (nI 3) = 1 then 1 else 0
theorem isp_lt (r g : Int32) : isp r g < 2 := by unfold isp; split <;> omega
theorem f_isPace (r g : Int32) (h : aH) : Ec (d + 1) m_X9_isPace [.int r, .int g] h (rt (.int (nI (isp r g))) h) := by
  refine ec_in [some (.int r), some (.int g)] rfl rfl ?_
  have h1 := wi_lt r (nI 1) (nI 3)
  have h2 := wi_lt g (nI 0) (nI 3)
  iterate 3 refine ev_nx rfl ?_
  refine ev_ci rfl rfl (f_in _ _ _ _) ?_
  refine ev_nx rfl ?_
  refine ev_eq0 (fun b6 => ?_) (fun b6 => ?_)
  · refine ev_nx rfl ?_
    exact ev_ri rfl rfl rfl ⟨vI (by unfold isp; split <;> omega), rfl⟩
  · iterate 3 refine ev_nx rfl ?_
    refine ev_ci rfl rfl (f_in _ _ _ _) ?_
    refine ev_nx rfl ?_
    refine ev_eq0 (fun b15 => ?_) (fun b15 => ?_)
    · refine ev_nx rfl ?_
      exact ev_ri rfl rfl rfl ⟨vI (by unfold isp; split <;> omega), rfl⟩
    · iterate 2 refine ev_nx rfl ?_
      exact ev_ri rfl rfl rfl ⟨vI (by unfold isp; split <;> omega), rfl⟩
theorem isp_n {r g : Nat} (hr : r < 65536) (hg : g < 65536) : isp (nI r) (nI g) = if (1 ≤ r ∧ r ≤ 3) ∧ g ≤ 3 then 1 else 0 := by
  unfold isp
  rw [wi_n hr (by decide) (by decide), wi_n hg (by decide) (by decide)]
  (repeat' split) <;> omega
/-! said -/
def sdA (K : List Nat) (c t j r g : Nat) (l : List Nat) (k : Option Nat) : Int32 := match k with
  | none => nI (rgt K c t j r g l z55)
  | some k => if k < l.length then nI (rdk K c t j r g l k z55) else -(nI 4)
def oI : Option Nat → Int32
  | none => -(nI 1)
  | some k => nI k
theorem lt_m1 {n : Nat} (hn : n < 2147483648) : -(nI 1) < nI n := by
  rw [Int32.lt_iff_toInt_lt, nI_toInt (by omega)]
  have : (-(nI 1)).toInt = -1 := by decide
  omega
theorem wi_m {x : Int32} {n : Nat} (hn : n < 65536) : (wi x (-(nI 1)) (nI n) = 1 ∧ ∃ k : Option Nat, (∀ j, k = some j → j ≤ n) ∧ x = oI k) ∨ wi x (-(nI 1)) (nI n) = 0 := by
  unfold wi
  by_cases h : -(nI 1) ≤ x ∧ x ≤ nI n
  · rw [if_pos h]
    left
    refine ⟨rfl, ?_⟩
    by_cases h0 : x < 0
    · refine ⟨none, fun j e => (by cases e), ?_⟩
      have h1 := Int32.le_iff_toInt_le.mp h.1
      have h2 := Int32.lt_iff_toInt_lt.mp h0
      have h3 : (-(nI 1)).toInt = -1 := by decide
      have h4 : (0 : Int32).toInt = 0 := by decide
      apply Int32.toInt_inj.mp
      show x.toInt = (-(nI 1)).toInt
      omega
    · obtain ⟨j, h1, h2⟩ := nI_of2 (x := x) (M := nI n) (n := n) (nI_toInt (by omega)) h0 h.2
      exact ⟨some j, fun q e => (by cases e; exact h1), h2⟩
  · rw [if_neg h]; right; rfl
theorem mok8 {sg ln : List Nat} {mn m : Nat} (mo : mok sg ln mn) (hm : m < 6) : ln.getD m 0 ≤ 8 := by
  have := mo.2.2.1
  rw [List.getD, List.getElem?_eq_getElem (by omega)]; exact mo.2.2.2.1 _ (List.getElem_mem _)
theorem g_said {m r g : Nat} {k : Option Nat} (mo : mok z.2.2.2.1 z.2.2.1 z.1.2.1) (hJ : Mq z y (ll K S G c t j) h) (ok : lok K S G c t j) (hm : m < z.1.2.1) (hr : 1 ≤ r ∧ r ≤ 3) (hg : g ≤ 3) (hk : ∀ q, k = some q → q ≤ 7) : Ec (d + 4) m_X9_said [.ref 0, .int (nI m), .int (nI r), .int (nI g), .int (oI k)] h (fun v h' => v = some (.int (sdA K c t j r g (msg z.2.2.2.1 z.2.2.1 m) k)) ∧ Mq z y (ll K S G c t j) h') := by
  have h6 := mo.2.2.2.2
  have h8 := mok8 mo (show m < 6 by omega)
  have hzl := mo.2.2.1
  have hsl := mo.1
  refine ec_in [some (.ref 0), some (.int (nI m)), some (.int (nI r)), some (.int (nI g)), some (.int (oI k)), none] rfl rfl ?_
  have w1 : wi (nI m) (nI 0) (nI (z.1.2.1 - 1)) = 1 := by rw [wi_n (by omega) (by omega) (by omega), if_pos (by omega)]
  have w2 : isp (nI r) (nI g) = 1 := by rw [isp_n (by omega) (by omega), if_pos (by omega)]
  have w3 : wi (oI k) (-(nI 1)) (nI 7) = 1 := by
    cases k with
    | none => decide
    | some k => unfold wi; rw [if_pos ⟨Int32.le_of_lt (lt_m1 (by have := hk k rfl; omega)), nI_le (hk k rfl) (by decide)⟩]
  iterate 2 refine ev_nx rfl ?_
  refine ev_vi rfl rfl rfl rfl rfl rfl (Mq_0 hJ) rfl (f_isMessage hJ (by omega)) ?_
  rw [w1]
  refine ev_nx rfl ?_
  refine ev_f (by decide) ?_
  iterate 2 refine ev_nx rfl ?_
  refine ev_ci rfl rfl (f_isPace _ _ _) ?_
  rw [w2]
  refine ev_nx rfl ?_
  refine ev_f (by decide) ?_
  iterate 3 refine ev_nx rfl ?_
  refine ev_ci rfl rfl (f_in _ _ _ _) ?_
  rw [w3]
  refine ev_nx rfl ?_
  refine ev_t (by decide) ?_
  refine ev_nx rfl ?_
  refine ev_v rfl rfl rfl rfl rfl rfl (Mq_0 hJ) rfl (g_asItIs hJ ok) (fun rv h1 q => ?_)
  obtain ⟨rfl, hJ1⟩ := q
  iterate 4 refine ev_nx rfl ?_
  refine ev_v rfl rfl rfl rfl rfl rfl (MJ_0 hJ1) rfl (g_says mo (by omega) (by omega) (by omega) hJ1) (fun rv h2 q => ?_)
  obtain ⟨rfl, ⟨re, e16, hre, hrd⟩, hJ2⟩ := q
  iterate 2 refine ev_nx rfl ?_
  skip
  have hQ := MJ_Q hJ2
  cases k with
  | none =>
    refine ev_nx rfl ?_
    refine ev_f (by decide) ?_
    iterate 2 refine ev_nx rfl ?_
    exact ev_ri rfl rfl rfl ⟨rfl, hQ⟩
  | some k =>
    have hk7 := hk k rfl
    have hml := msg_len mo.1 (show m < 6 by omega) h8
    refine ev_nx rfl ?_
    refine ev_ge0 ?_
    iterate 2 refine ev_nx rfl ?_
    first | refine ev_gf rfl rfl (Mq_0 hQ) rfl ?_
    refine ev_nx rfl ?_
    refine ev_lN rfl (Mq_3 hQ) (by omega) ?_
    refine ev_nx rfl ?_
    refine ev_ge (fun b60 => ?_) (fun b60 => ?_)
    · refine ev_nx rfl ?_
      first | exact ev_ri rfl rfl rfl ⟨by rw [sdA, if_pos (by omega), hrd k (by omega)], hQ⟩ | exact ev_ri rfl rfl rfl ⟨by rw [sdA, if_neg (by omega)], hQ⟩
    · refine ev_nx rfl ?_
      first | refine ev_gf rfl rfl (Mq_0 hQ) rfl ?_
      refine ev_nx rfl ?_
      refine ev_lN rfl e16 (by omega) ?_
      refine ev_nx rfl ?_
      first | exact ev_ri rfl rfl rfl ⟨by rw [sdA, if_pos (by omega), hrd k (by omega)], hQ⟩ | exact ev_ri rfl rfl rfl ⟨by rw [sdA, if_neg (by omega)], hQ⟩
end XG
