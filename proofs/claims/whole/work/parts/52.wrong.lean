/-! the reference: readBy, canBe, greatest, tries -/
def JN (z : aZ) (y : aY) (st re rl br pt_ : List Nat) (wo : List Int32) (h : aH) : Prop := ∃ nw, nw.length = 29 ∧ JB z y st nw re rl br pt_ wo h
def rbl (k : Nat) : List Nat := if k < 14 then (ll z5 z5 z5 0 0 0).set k 1 else if k < 19 then (ll z5 z5 z5 0 0 0).set (14 + k - 14) 1 else if k < 24 then (ll z5 z5 z5 0 0 0).set (14 + k - 19) 3 else ll z5 z5 z5 0 0 0
theorem rbl_e : ∀ k : Fin 25, rbl k.val = ll (wrK k.val) z5 z5 (wrC k.val) (wrT k.val) (wrJ k.val) := by decide +kernel
theorem zfl_all : ∀ (n k : Nat) (l : List Nat), k + n = l.length → zfl n k l = l.take k ++ List.replicate n 0
  | 0, k, l, h => by rw [zfl, List.take_of_length_le (by omega)]; simp
  | n + 1, k, l, h => by
    rw [zfl, zfl_all n (k + 1) _ (by rw [List.length_set]; omega), List.take_set, List.take_succ_eq_append_getElem (by omega), List.set_append_right k _ (by rw [List.length_take]; omega)]
    simp [List.length_take, Nat.min_eq_left (show k ≤ l.length by omega), List.replicate_succ]
theorem zfl_0 {n : Nat} {l : List Nat} (h : l.length = n) : zfl n 0 l = List.replicate n 0 := by
  rw [zfl_all n 0 l (by omega)]; rfl
theorem RT_at {k s : Nat} (hk : k < 25) (hs : s < 30) : RT.getD (k * 30 + s) 0 = rdw k s := by
  unfold RT
  rw [List.getD, List.getElem?_map, List.getElem?_range (by omega)]
  show rdw ((k * 30 + s) / 30) ((k * 30 + s) % 30) = _
  rw [show (k * 30 + s) / 30 = k by omega, show (k * 30 + s) % 30 = s by omega]
section XJ
variable {d : Nat} {h : aH} {z : aZ} {y : aY} {st nw be ge re rl br pt_ : List Nat} {wo : List Int32} {ss sr : List Nat}
theorem f_readBy {k s : Nat} (hJ : JN z y st re rl br pt_ wo h) (hk : k < 25) (hs : s < 31) : Ec (d + 3) m_X9_readBy [.ref 0, .int (nI k), .int (nI s)] h (fun v h' => v = some (.int (nI (rdw k s))) ∧ JN z y st re rl br pt_ wo h') := by
  obtain ⟨nw, hn, be, ge, hbe, hge, rfl⟩ := hJ
  refine ec_in [some (.ref 0), some (.int (nI k)), some (.int (nI s)), none] rfl rfl ?_
  have ok : lok (wrK k) z5 z5 (wrC k) (wrT k) (wrJ k) := by
    have := wr_ok ⟨k, hk⟩
    exact ⟨this.1, ⟨rfl, by decide⟩, ⟨rfl, by decide⟩, this.2⟩
  have K1 : ∀ l3, Ev (d + 3) m_X9_readBy 78 [some (.ref 0), some (.int (nI k)), some (.int (nI s)), l3] [] (XM z y st (rbl k) be ge re rl br pt_ wo) (fun v h' => v = some (.int (nI (rdw k s))) ∧ JN z y st re rl br pt_ wo h') := by
    intro l3
    rw [rbl_e ⟨k, hk⟩]
    show Ev (d + 3) m_X9_readBy 78 _ [] (XM z y st (ll (wrK k) z5 z5 (wrC k) (wrT k) (wrJ k)) be ge re rl br pt_ wo) _
    iterate 4 refine ev_nx rfl ?_
    refine ev_vv rfl rfl rfl rfl rfl rfl rfl rfl (f_beat6 ok hbe hge hs) ?_
    iterate 3 refine ev_nx rfl ?_
    refine ev_vi rfl rfl rfl rfl rfl rfl rfl rfl (f_readOf6 (bst_ok ok hs)) ?_
    exact ev_ri rfl rfl rfl ⟨rfl, _, ll_len (bst_ok ok hs), _, _, rfl, cry_len, rfl⟩
  have hz : (ll z5 z5 z5 0 0 0).length = 29 := rfl
  have K2 : Ev (d + 3) m_X9_readBy 21 [some (.ref 0), some (.int (nI k)), some (.int (nI s)), some (.int (nI 29))] [] (XM z y st (ll z5 z5 z5 0 0 0) be ge re rl br pt_ wo) (fun v h' => v = some (.int (nI (rdw k s))) ∧ JN z y st re rl br pt_ wo h') := by
    rw [rbl] at K1
    iterate 3 refine ev_nx rfl ?_
    refine ev_ge (fun b24 => ?_) (fun b24 => ?_)
    · iterate 3 refine ev_nx rfl ?_
      refine ev_ge (fun b40 => ?_) (fun b40 => ?_)
      · iterate 3 refine ev_nx rfl ?_
        refine ev_ge (fun b62 => ?_) (fun b62 => ?_)
        · first | (rw [if_pos b24] at K1; exact K1 _) | (rw [if_neg (by omega), if_pos b40] at K1; exact K1 _) | (rw [if_neg (by omega), if_neg (by omega), if_pos b62] at K1; exact K1 _) | (rw [if_neg (by omega), if_neg (by omega), if_neg (by omega)] at K1; exact K1 _)
        · iterate 4 refine ev_nx rfl ?_
          refine ev_add rfl ?_
          refine ev_nx rfl ?_
          refine ev_sub rfl (by omega) ?_
          refine ev_nx rfl ?_
          refine ev_sN rfl rfl (by omega) ?_
          first | (rw [if_pos b24] at K1; exact K1 _) | (rw [if_neg (by omega), if_pos b40] at K1; exact K1 _) | (rw [if_neg (by omega), if_neg (by omega), if_pos b62] at K1; exact K1 _) | (rw [if_neg (by omega), if_neg (by omega), if_neg (by omega)] at K1; exact K1 _)
      · iterate 4 refine ev_nx rfl ?_
        refine ev_add rfl ?_
        refine ev_nx rfl ?_
        refine ev_sub rfl (by omega) ?_
        refine ev_nx rfl ?_
        refine ev_sN rfl rfl (by omega) ?_
        refine ev_nx rfl ?_
        first | (rw [if_pos b24] at K1; exact K1 _) | (rw [if_neg (by omega), if_pos b40] at K1; exact K1 _) | (rw [if_neg (by omega), if_neg (by omega), if_pos b62] at K1; exact K1 _) | (rw [if_neg (by omega), if_neg (by omega), if_neg (by omega)] at K1; exact K1 _)
    · iterate 4 refine ev_nx rfl ?_
      refine ev_sN rfl rfl (by omega) ?_
      refine ev_nx rfl ?_
      first | (rw [if_pos b24] at K1; exact K1 _) | (rw [if_neg (by omega), if_pos b40] at K1; exact K1 _) | (rw [if_neg (by omega), if_neg (by omega), if_pos b62] at K1; exact K1 _) | (rw [if_neg (by omega), if_neg (by omega), if_neg (by omega)] at K1; exact K1 _)
  have H : ∀ r q nw, q + r = 29 → nw.length = 29 → zfl r q nw = ll z5 z5 z5 0 0 0 → Ev (d + 3) m_X9_readBy 2 [some (.ref 0), some (.int (nI k)), some (.int (nI s)), some (.int (nI q))] [] (XM z y st nw be ge re rl br pt_ wo) (fun v h' => v = some (.int (nI (rdw k s))) ∧ JN z y st re rl br pt_ wo h') := by
    intro r
    induction r with
    | zero =>
      intro q nw hq hn e
      obtain rfl : q = 29 := by omega
      obtain rfl : nw = ll z5 z5 z5 0 0 0 := e
      iterate 3 refine ev_nx rfl ?_
      refine ev_ge (fun b5 => ?_) (fun b5 => absurd b5 (by omega))
      exact K2
    | succ r ih =>
      intro q nw hq hn e
      iterate 3 refine ev_nx rfl ?_
      refine ev_ge (fun b5 => absurd b5 (by omega)) (fun b5 => ?_)
      iterate 4 refine ev_nx rfl ?_
      refine ev_sN rfl rfl (by first | omega | (simp only [List.length_set, List.length_replicate]; omega)) ?_
      refine ev_inc rfl ⟨rfl, by decide⟩ rfl rfl ?_
      refine ev_nx rfl ?_
      exact ih (q + 1) _ (by omega) (by rw [List.length_set, hn]) e
  iterate 2 refine ev_nx rfl ?_
  exact H 29 0 nw rfl hn (by rw [zfl_0 hn]; rfl)
theorem JN_0 (hJ : JN z y st re rl br pt_ wo h) : h[0]? = some (xo z.1.1 z.1.2.1 z.1.2.2.1 z.1.2.2.2.1 z.1.2.2.2.2.1 z.1.2.2.2.2.2 y.1 y.2.1 y.2.2.1) := by
  obtain ⟨nw, hn, be, ge, hbe, hge, rfl⟩ := hJ; rfl
theorem JN_9 (hJ : JN z y st re rl br pt_ wo h) : h[9]? = some (ar z.2.2.2.2.2.2.1) := by
  obtain ⟨nw, hn, be, ge, hbe, hge, rfl⟩ := hJ; rfl
theorem JN_19 (hJ : JN z y st re rl br pt_ wo h) : h[19]? = some (ar pt_) := by
  obtain ⟨nw, hn, be, ge, hbe, hge, rfl⟩ := hJ; rfl
theorem JN_s {p' : List Nat} (hJ : JN z y st re rl br pt_ wo h) : JN z y st re rl br p' wo (h.set 19 (ar p')) := by
  obtain ⟨nw, hn, be, ge, hbe, hge, rfl⟩ := hJ; exact ⟨nw, hn, be, ge, hbe, hge, rfl⟩
/-- what was seen, in two rows and in one -/
def snO (ss sr sn : List Nat) (n : Nat) : Prop := sn.length = 16 ∧ n ≤ 8 ∧ ∀ p, p < n → sn.getD (2 * p) 0 = ss.getD p 0 ∧ sn.getD (2 * p + 1) 0 = sr.getD p 0 ∧ ss.getD p 0 < 30 ∧ sr.getD p 0 < 32
theorem lp_cb {k w n : Nat} {T : Nat} {QQ : Option Value → aH → Prop} (hs : snO ss sr z.2.2.2.2.2.2.1 n) (hn : z.1.2.2.2.2.1 = n) (hk : k < 25) (kk : ∀ h1 l4, JN z y st re rl br pt_ wo h1 → Ev (d + 4) m_X9_canBe 68 [some (.ref 0), some (.int (nI w)), some (.int (nI k)), some (.int (nI T)), l4] [] h1 QQ) : ∀ r p h1, p + r = n → T = b2n (agr ss sr RT k r p) → JN z y st re rl br pt_ wo h1 → Ev (d + 4) m_X9_canBe 15 [some (.ref 0), some (.int (nI w)), some (.int (nI k)), some (.int (nI 1)), some (.int (nI p))] [] h1 QQ := by
  have hs1 := hs.1
  have hs2 := hs.2.1
  intro r
  induction r with
  | zero =>
    intro p h1 hp hT hJ1
    obtain rfl : T = 1 := hT
    iterate 2 refine ev_nx rfl ?_
    refine ev_gf rfl rfl (JN_0 hJ1) rfl ?_
    rw [hn]
    refine ev_nx rfl ?_
    refine ev_ge (fun b21 => ?_) (fun b21 => absurd b21 (by omega))
    exact kk h1 _ hJ1
  | succ r ih =>
    intro p h1 hp hT hJ1
    obtain ⟨e1, e2, e3, e4⟩ := hs.2.2 p (by omega)
    rw [agr, RT_at hk e3] at hT
    have hrd := rdw_lt hk (show ss.getD p 0 < 31 by omega)
    have Z : ∀ h2, JN z y st re rl br pt_ wo h2 → T = 0 → Ev (d + 4) m_X9_canBe 15 [some (.ref 0), some (.int (nI w)), some (.int (nI k)), some (.int (nI 0)), some (.int (nI (p + 1)))] [] h2 QQ := by
      rintro h2 hJ2 rfl
      iterate 2 refine ev_nx rfl ?_
      refine ev_gf rfl rfl (JN_0 hJ2) rfl ?_
      rw [hn]
      refine ev_nx rfl ?_
      refine ev_ge (fun b21 => ?_) (fun b21 => ?_)
      · exact kk h2 _ hJ2
      · iterate 2 refine ev_nx rfl ?_
        refine ev_t (by decide) ?_
        exact kk h2 _ hJ2
    iterate 2 refine ev_nx rfl ?_
    refine ev_gf rfl rfl (JN_0 hJ1) rfl ?_
    rw [hn]
    refine ev_nx rfl ?_
    refine ev_ge (fun b21 => absurd b21 (by omega)) (fun b21 => ?_)
    iterate 2 refine ev_nx rfl ?_
    refine ev_f (by decide) ?_
    iterate 3 refine ev_nx rfl ?_
    refine ev_gf rfl rfl (JN_0 hJ1) rfl ?_
    iterate 2 refine ev_nx rfl ?_
    refine ev_mul rfl ?_
    refine ev_lN rfl (JN_9 hJ1) (by omega) ?_
    rw [e1]
    refine ev_v rfl rfl rfl rfl rfl rfl (JN_0 hJ1) rfl (f_readBy hJ1 hk (by omega)) (fun rv h2 q => ?_)
    obtain ⟨rfl, hJ2⟩ := q
    refine ev_nx rfl ?_
    refine ev_gf rfl rfl (JN_0 hJ2) rfl ?_
    iterate 2 refine ev_nx rfl ?_
    refine ev_mul rfl ?_
    refine ev_nx rfl ?_
    refine ev_add rfl ?_
    refine ev_lN rfl (JN_9 hJ2) (by omega) ?_
    rw [e2]
    refine ev_nx rfl ?_
    refine ev_ne (fun b53 => ?_) (fun b53 => ?_)
    · iterate 2 refine ev_nx rfl ?_
      refine ev_inc rfl ⟨rfl, by decide⟩ rfl rfl ?_
      refine ev_nx rfl ?_
      first | exact ih (p + 1) h2 (by omega) (by rw [hT, if_pos b53]) hJ2 | exact Z h2 hJ2 (by rw [hT, if_neg b53]; rfl)
    · iterate 3 refine ev_nx rfl ?_
      refine ev_inc rfl ⟨rfl, by decide⟩ rfl rfl ?_
      refine ev_nx rfl ?_
      first | exact ih (p + 1) h2 (by omega) (by rw [hT, if_pos b53]) hJ2 | exact Z h2 hJ2 (by rw [hT, if_neg b53]; rfl)
theorem f_canBe {n : Nat} (hs : snO ss sr z.2.2.2.2.2.2.1 n) (hn : z.1.2.2.2.2.1 = n) (hJ : JN z y st re rl br pt_ wo h) : Ec (d + 4) m_X9_canBe [.ref 0] h (fun v h' => v = some (.int (nI (psr ss sr n 25 0 0))) ∧ JN z y st re rl br pt_ wo h') := by
  refine ec_in [some (.ref 0), none, none, none, none] rfl rfl ?_
  have H : ∀ r k w h1 l3 l4, k + r = 25 → JN z y st re rl br pt_ wo h1 → am_nl [some (.ref 0), some (.int (nI w)), some (.int (nI k)), l3] 4 = true → Ev (d + 4) m_X9_canBe 4 [some (.ref 0), some (.int (nI w)), some (.int (nI k)), l3, l4] [] h1 (fun v h' => v = some (.int (nI (psr ss sr n r k w))) ∧ JN z y st re rl br pt_ wo h') := by
    intro r
    induction r with
    | zero =>
      intro k w h1 l3 l4 hk hJ1 hnl
      iterate 3 refine ev_nx rfl ?_
      refine ev_ge (fun b7 => ?_) (fun b7 => absurd b7 (by omega))
      refine ev_nx rfl ?_
      exact ev_ri rfl rfl rfl ⟨rfl, hJ1⟩
    | succ r ih =>
      intro k w h1 l3 l4 hk hJ1 hnl
      rw [psr]
      iterate 3 refine ev_nx rfl ?_
      refine ev_ge (fun b7 => absurd b7 (by omega)) (fun b7 => ?_)
      iterate 4 refine ev_nx rfl ?_
      refine lp_cb hs hn (by omega) (fun h2 l4 hJ2 => ?_) n 0 h1 (by omega) rfl hJ1
      cases hA : agr ss sr RT k n 0 with
      | true =>
        show Ev (d + 4) m_X9_canBe 68 [some (.ref 0), some (.int (nI w)), some (.int (nI k)), some (.int (nI 1)), l4] [] h2 _
        rw [if_pos rfl]
        iterate 3 refine ev_nx rfl ?_
        refine ev_f (by decide) ?_
        iterate 2 refine ev_nx rfl ?_
        refine ev_sh1 rfl (by omega) ?_
        refine ev_nx rfl ?_
        refine ev_or rfl ?_
        refine ev_nx rfl ?_
        refine ev_inc rfl ⟨rfl, by decide⟩ rfl rfl ?_
        refine ev_nx rfl ?_
        exact ih (k + 1) _ h2 _ _ (by omega) hJ2 rfl
      | false =>
        show Ev (d + 4) m_X9_canBe 68 [some (.ref 0), some (.int (nI w)), some (.int (nI k)), some (.int (nI 0)), l4] [] h2 _
        rw [if_neg (by decide)]
        iterate 3 refine ev_nx rfl ?_
        refine ev_t (by decide) ?_
        refine ev_nx rfl ?_
        refine ev_or rfl ?_
        rw [Nat.or_zero]
        refine ev_nx rfl ?_
        refine ev_inc rfl ⟨rfl, by decide⟩ rfl rfl ?_
        refine ev_nx rfl ?_
        exact ih (k + 1) _ h2 _ _ (by omega) hJ2 rfl
  iterate 4 refine ev_nx rfl ?_
  exact H 25 0 0 h _ _ rfl hJ rfl
theorem f_greatest {w s : Nat} (hw : w < 2147483648) (hs : s < 30) (hJ : JN z y st re rl br pt_ wo h) (hp : pt_.length = 32) : Ec (d + 4) m_X9_greatest [.ref 0, .int (nI w), .int (nI s)] h (fun v h' => v = some (.int (nI (gpt RT w s))) ∧ ∃ P, P.length = 32 ∧ JN z y st re rl br P wo h') := by
  refine ec_in [some (.ref 0), some (.int (nI w)), some (.int (nI s)), none, none, none] rfl rfl ?_
  have H : ∀ r k P m h1 l5, k + r = 25 → P.length = 32 → (∀ x ∈ P, x ≤ k) → m ≤ k → JN z y st re rl br P wo h1 → Ev (d + 4) m_X9_greatest 29 [some (.ref 0), some (.int (nI w)), some (.int (nI s)), some (.int (nI m)), some (.int (nI k)), l5] [] h1 (fun v h' => v = some (.int (nI (gpr RT w s r k P m).2)) ∧ ∃ P, P.length = 32 ∧ JN z y st re rl br P wo h') := by
    intro r
    induction r with
    | zero =>
      intro k P m h1 l5 hk hP hPl hm hJ1
      iterate 3 refine ev_nx rfl ?_
      refine ev_ge (fun b33 => ?_) (fun b33 => absurd b33 (by omega))
      refine ev_nx rfl ?_
      exact ev_ri rfl rfl rfl ⟨rfl, P, hP, hJ1⟩
    | succ r ih =>
      intro k P m h1 l5 hk hP hPl hm hJ1
      have hrd := rdw_lt (show k < 25 by omega) (show s < 31 by omega)
      have hb := bt_lt w k
      have hPr : P.getD (rdw k s) 0 ≤ k := by
        rw [List.getD, List.getElem?_eq_getElem (by omega)]; exact hPl _ (List.getElem_mem _)
      rw [gpr, RT_at (by omega) hs]
      have hP2 : ∀ x ∈ P.set (rdw k s) (P.getD (rdw k s) 0 + 1), x ≤ k + 1 := by
        intro x hx
        rcases List.mem_or_eq_of_mem_set hx with q | q
        · have := hPl x q; omega
        · omega
      iterate 3 refine ev_nx rfl ?_
      refine ev_ge (fun b33 => absurd b33 (by omega)) (fun b33 => ?_)
      iterate 2 refine ev_nx rfl ?_
      refine ev_shr rfl (by omega) (by omega) ?_
      refine ev_nx rfl ?_
      refine ev_bit rfl hw ?_
      iterate 2 refine ev_nx rfl ?_
      refine ev_ne (fun b43 => ?_) (fun b43 => ?_)
      · refine ev_inc rfl ⟨rfl, by decide⟩ rfl rfl ?_
        refine ev_nx rfl ?_
        first | (rw [if_neg b43]; exact ih (k + 1) P m h1 _ (by omega) hP (fun x hx => by have := hPl x hx; omega) (by omega) hJ1) | (rw [if_pos b43, Nat.max_eq_left (by omega)]; exact ih (k + 1) _ _ h3 _ (by omega) (by rw [List.length_set, hP]) hP2 (by omega) hJ3) | (rw [if_pos b43, Nat.max_eq_right (by omega)]; exact ih (k + 1) _ _ h3 _ (by omega) (by rw [List.length_set, hP]) hP2 (by omega) hJ3)
      · iterate 3 refine ev_nx rfl ?_
        refine ev_v rfl rfl rfl rfl rfl rfl (JN_0 hJ1) rfl (f_readBy hJ1 (by omega) (by omega)) (fun rv h2 q => ?_)
        obtain ⟨rfl, hJ2⟩ := q
        iterate 2 refine ev_nx rfl ?_
        refine ev_gf rfl rfl (JN_0 hJ2) rfl ?_
        iterate 2 refine ev_nx rfl ?_
        refine ev_lN rfl (JN_19 hJ2) (by omega) ?_
        refine ev_nx rfl ?_
        refine ev_add rfl ?_
        refine ev_sN rfl (JN_19 hJ2) (by omega) ?_
        have hJ3 : JN z y st re rl br (P.set (rdw k s) (P.getD (rdw k s) 0 + 1)) wo (h2.set 19 (ar (P.set (rdw k s) (P.getD (rdw k s) 0 + 1)))) := JN_s hJ2
        generalize h2.set 19 (ar (P.set (rdw k s) (P.getD (rdw k s) 0 + 1))) = h3 at hJ3 ⊢
        refine ev_nx rfl ?_
        refine ev_gf rfl rfl (JN_0 hJ3) rfl ?_
        refine ev_nx rfl ?_
        refine ev_lN rfl (JN_19 hJ3) (by rw [List.length_set]; omega) ?_
        rw [gd_s (by omega)]
        iterate 2 refine ev_nx rfl ?_
        refine ev_leq (fun b74 => ?_) (fun b74 => ?_)
        · iterate 2 refine ev_nx rfl ?_
          refine ev_inc rfl ⟨rfl, by decide⟩ rfl rfl ?_
          refine ev_nx rfl ?_
          first | (rw [if_neg b43]; exact ih (k + 1) P m h1 _ (by omega) hP (fun x hx => by have := hPl x hx; omega) (by omega) hJ1) | (rw [if_pos b43, Nat.max_eq_left (by omega)]; exact ih (k + 1) _ _ h3 _ (by omega) (by rw [List.length_set, hP]) hP2 (by omega) hJ3) | (rw [if_pos b43, Nat.max_eq_right (by omega)]; exact ih (k + 1) _ _ h3 _ (by omega) (by rw [List.length_set, hP]) hP2 (by omega) hJ3)
        · refine ev_nx rfl ?_
          refine ev_gf rfl rfl (JN_0 hJ3) rfl ?_
          refine ev_nx rfl ?_
          refine ev_lN rfl (JN_19 hJ3) (by rw [List.length_set]; omega) ?_
          rw [gd_s (by omega)]
          iterate 2 refine ev_nx rfl ?_
          refine ev_inc rfl ⟨rfl, by decide⟩ rfl rfl ?_
          refine ev_nx rfl ?_
          first | (rw [if_neg b43]; exact ih (k + 1) P m h1 _ (by omega) hP (fun x hx => by have := hPl x hx; omega) (by omega) hJ1) | (rw [if_pos b43, Nat.max_eq_left (by omega)]; exact ih (k + 1) _ _ h3 _ (by omega) (by rw [List.length_set, hP]) hP2 (by omega) hJ3) | (rw [if_pos b43, Nat.max_eq_right (by omega)]; exact ih (k + 1) _ _ h3 _ (by omega) (by rw [List.length_set, hP]) hP2 (by omega) hJ3)
  have Z : ∀ r k P h1, k + r = 32 → P.length = 32 → zfl r k P = z32 → JN z y st re rl br P wo h1 → Ev (d + 4) m_X9_greatest 5 [some (.ref 0), some (.int (nI w)), some (.int (nI s)), some (.int (nI 0)), some (.int (nI k)), none] [] h1 (fun v h' => v = some (.int (nI (gpt RT w s))) ∧ ∃ P, P.length = 32 ∧ JN z y st re rl br P wo h') := by
    intro r
    induction r with
    | zero =>
      intro k P h1 hk hP e hJ1
      obtain rfl : P = z32 := e
      iterate 3 refine ev_nx rfl ?_
      refine ev_gt (fun b9 => ?_) (fun b9 => absurd b9 (by omega))
      iterate 2 refine ev_nx rfl ?_
      exact H 25 0 z32 0 h1 _ rfl rfl (fun x hx => by rw [List.eq_of_mem_replicate hx]; exact Nat.le_refl _) (by omega) hJ1
    | succ r ih =>
      intro k P h1 hk hP e hJ1
      iterate 3 refine ev_nx rfl ?_
      refine ev_gt (fun b9 => absurd b9 (by omega)) (fun b9 => ?_)
      refine ev_nx rfl ?_
      refine ev_gf rfl rfl (JN_0 hJ1) rfl ?_
      iterate 2 refine ev_nx rfl ?_
      refine ev_sN rfl (JN_19 hJ1) (by omega) ?_
      refine ev_inc rfl ⟨rfl, by decide⟩ rfl rfl ?_
      refine ev_nx rfl ?_
      exact ih (k + 1) _ _ (by omega) (by rw [List.length_set, hP]) e (JN_s hJ1)
  iterate 4 refine ev_nx rfl ?_
  exact Z 32 0 pt_ h rfl hp (zfl_0 hp) hJ
/-- the sign that is best told apart by, and its greatest part -/
def mtr (w : Nat) : Nat → Nat → Nat × Nat → Nat × Nat
  | 0, _, b => b
  | r + 1, s, b => mtr w r (s + 1) (if gpt RT w s < b.2 then (s, gpt RT w s) else b)
def trA (w what : Nat) : Int32 := if pcn w < 2 then -(nI 4) else if what = 0 then nI (mtr w 29 1 (0, gpt RT w 0)).1 else nI (mtr w 29 1 (0, gpt RT w 0)).2
theorem pcn_le (w : Nat) : pcn w ≤ 30 := by
  have pl : ∀ n k, pc_ w n k ≤ n := by
    intro n
    induction n with
    | zero => intro k; exact Nat.le_refl _
    | succ n ih => intro k; rw [pc_]; have := ih (k + 1); have := bt_lt w k; omega
  exact pl 30 0
theorem psr_lt : ∀ r k w n, k + r = 25 → w < 2 ^ 25 → psr ss sr n r k w < 2 ^ 25 := by
  intro r
  induction r with
  | zero => intro k w n _ hw; exact hw
  | succ r ih =>
    intro k w n hk hw
    rw [psr]
    refine ih (k + 1) _ n (by omega) ?_
    split
    · refine Nat.or_lt_two_pow hw ?_
      rw [Nat.one_mul]
      exact Nat.pow_lt_pow_right (by decide) (by omega)
    · exact hw
theorem f_tries {n what : Nat} (hs : snO ss sr z.2.2.2.2.2.2.1 n) (hn : z.1.2.2.2.2.1 = n) (hJ : JN z y st re rl br pt_ wo h) (hp : pt_.length = 32) (hwh : what ≤ 1) : Ec (d + 5) m_X9_tries [.ref 0, .int (nI what)] h (fun v h' => v = some (.int (trA (psr ss sr n 25 0 0) what)) ∧ ∃ P, P.length = 32 ∧ JN z y st re rl br P wo h') := by
  refine ec_in [some (.ref 0), some (.int (nI what)), none, none, none, none, none, none] rfl rfl ?_
  have w1 : wi (nI what) (nI 0) (nI 1) = 1 := by rw [wi_n (by omega) (by omega) (by omega), if_pos (by omega)]
  have hW := psr_lt (ss := ss) (sr := sr) 25 0 0 n rfl (by decide)
  generalize hWe : psr ss sr n 25 0 0 = W at hW ⊢
  have hpc := pcn_le W
  have H : ∀ r s b P h1 l6 l7, s + r = 30 → b.1 < 30 → b.2 ≤ 25 → P.length = 32 → JN z y st re rl br P wo h1 → am_nl [some (.ref 0), some (.int (nI what)), some (.int (nI W)), some (.int (nI b.1)), some (.int (nI b.2)), some (.int (nI s)), l6] 7 = true → Ev (d + 5) m_X9_tries 36 [some (.ref 0), some (.int (nI what)), some (.int (nI W)), some (.int (nI b.1)), some (.int (nI b.2)), some (.int (nI s)), l6, l7] [] h1 (fun v h' => v = some (.int (if what = 0 then nI (mtr W r s b).1 else nI (mtr W r s b).2)) ∧ ∃ P, P.length = 32 ∧ JN z y st re rl br P wo h') := by
    intro r
    induction r with
    | zero =>
      intro s b P h1 l6 l7 hs1 hb1 hb2 hP hJ1 hnl
      rw [mtr]
      iterate 3 refine ev_nx rfl ?_
      refine ev_ge (fun b40 => ?_) (fun b40 => absurd b40 (by omega))
      iterate 2 refine ev_nx rfl ?_
      refine ev_ne0 (fun b105 => ?_) (fun b105 => ?_)
      · refine ev_nx rfl ?_
        exact ev_ri rfl rfl rfl ⟨by first | rw [if_neg b105] | rw [if_pos b105], P, hP, hJ1⟩
      · iterate 2 refine ev_nx rfl ?_
        exact ev_ri rfl rfl rfl ⟨by first | rw [if_neg b105] | rw [if_pos b105], P, hP, hJ1⟩
    | succ r ih =>
      intro s b P h1 l6 l7 hs1 hb1 hb2 hP hJ1 hnl
      have hg := gpt_le (R := RT) W s
      rw [mtr]
      iterate 3 refine ev_nx rfl ?_
      refine ev_ge (fun b40 => absurd b40 (by omega)) (fun b40 => ?_)
      iterate 3 refine ev_nx rfl ?_
      refine ev_v rfl rfl rfl rfl rfl rfl (JN_0 hJ1) rfl (f_greatest (by omega) (by omega) hJ1 hP) (fun rv h2 q => ?_)
      obtain ⟨rfl, P2, hP2, hJ2⟩ := q
      iterate 3 refine ev_nx rfl ?_
      skip
      refine ev_nx rfl ?_
      refine ev_if (fun q => absurd (show nI b.1 = -(nI 4) by simpa [am_c2] using q) (eo_c (show b.1 < 1000 by omega))) (fun _ => ?_)
      iterate 3 refine ev_nx rfl ?_
      refine ev_ge (fun b62 => ?_) (fun b62 => ?_)
      · rw [if_neg (show ¬ gpt RT W s < b.2 by omega)]
        iterate 3 refine ev_nx rfl ?_
        refine ev_nx rfl ?_
        refine ev_t (by decide) ?_
        iterate 3 refine ev_nx rfl ?_
        refine ev_nx rfl ?_
        refine ev_t (by decide) ?_
        iterate 2 refine ev_nx rfl ?_
        refine ev_inc rfl ⟨rfl, by decide⟩ rfl rfl ?_
        refine ev_nx rfl ?_
        exact ih (s + 1) b P2 h2 _ _ (by omega) hb1 hb2 hP2 hJ2 rfl
      · iterate 5 refine ev_nx rfl ?_
        refine ev_f (by decide) ?_
        iterate 5 refine ev_nx rfl ?_
        refine ev_f (by decide) ?_
        iterate 3 refine ev_nx rfl ?_
        refine ev_inc rfl ⟨rfl, by decide⟩ rfl rfl ?_
        refine ev_nx rfl ?_
        rw [if_pos b62]
        exact ih (s + 1) (s, gpt RT W s) P2 h2 _ _ (by omega) (by show s < 30; omega) hg hP2 hJ2 rfl
  have hg := gpt_le (R := RT) W 0
  have G : ∀ h1, JN z y st re rl br pt_ wo h1 → Ev (d + 5) m_X9_tries 36 [some (.ref 0), some (.int (nI what)), some (.int (nI W)), some (.int (-(nI 4))), some (.int (nI 0)), some (.int (nI 0)), none, none] [] h1 (fun v h' => v = some (.int (if what = 0 then nI (mtr W 29 1 (0, gpt RT W 0)).1 else nI (mtr W 29 1 (0, gpt RT W 0)).2)) ∧ ∃ P, P.length = 32 ∧ JN z y st re rl br P wo h') := by
    intro h1 hJ1
    iterate 3 refine ev_nx rfl ?_
    refine ev_ge (fun b40 => absurd b40 (by omega)) (fun b40 => ?_)
    iterate 3 refine ev_nx rfl ?_
    refine ev_v rfl rfl rfl rfl rfl rfl (JN_0 hJ1) rfl (f_greatest (by omega) (by omega) hJ1 hp) (fun rv h2 q => ?_)
    obtain ⟨rfl, P2, hP2, hJ2⟩ := q
    iterate 4 refine ev_nx rfl ?_
    refine ev_t (by decide) ?_
    iterate 5 refine ev_nx rfl ?_
    refine ev_f (by decide) ?_
    iterate 5 refine ev_nx rfl ?_
    refine ev_f (by decide) ?_
    iterate 3 refine ev_nx rfl ?_
    refine ev_inc rfl ⟨rfl, by decide⟩ rfl rfl ?_
    refine ev_nx rfl ?_
    exact H 29 1 (0, gpt RT W 0) P2 h2 _ _ rfl (by show 0 < 30; decide) hg hP2 hJ2 rfl
  rw [trA]
  iterate 3 refine ev_nx rfl ?_
  refine ev_si rfl rfl (by decide) rfl rfl rfl rfl (f_in _ _ _ _) ?_
  rw [w1]
  refine ev_nx rfl ?_
  refine ev_t (by decide) ?_
  refine ev_nx rfl ?_
  refine ev_v rfl rfl rfl rfl rfl rfl (JN_0 hJ) rfl (f_canBe hs hn hJ) (fun rv h1 q => ?_)
  obtain ⟨rfl, hJ1⟩ := q
  rw [hWe]
  iterate 2 refine ev_nx rfl ?_
  refine ev_si rfl rfl (by decide) rfl rfl rfl rfl (f_bits (by omega)) ?_
  iterate 2 refine ev_nx rfl ?_
  refine ev_ge (fun b21 => ?_) (fun b21 => ?_)
  · iterate 6 refine ev_nx rfl ?_
    rw [if_neg (by omega)]
    exact G h1 hJ1
  · refine ev_nx rfl ?_
    rw [if_pos b21]
    exact ev_ri rfl rfl rfl ⟨rfl, pt_, hp, hJ1⟩
end XJ
