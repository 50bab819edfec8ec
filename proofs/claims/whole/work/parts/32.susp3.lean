/-! the suspects: workOutReadings, possible -/
def RT : List Nat := (List.range 750).map (fun p => rdw (p / 30) (p % 30))
/-- only a line and the suspects have changed -/
def fw (i : Nat) (h h' : aH) : Prop := h'.length = h.length ∧ ∀ p, p < i ∨ i + 4 < p → p < 69 ∨ 73 < p → h'[p]? = h[p]?
def wki (ss sr P : List Nat) (n i : Nat) (h0 h1 : aH) (q : Nat) : Prop := ∃ R1, uat h1 ss sr R1 0 P n ∧ R1.length = 750 ∧ (∀ p, p < q → R1.getD p 0 = rdw (p / 30) (p % 30)) ∧ fw i h0 h1
section SW
variable {h : aH} {ss sr R P K : List Nat} {i c t j hr n d : Nat} {Q : Option Value → aH → Prop}
theorem i2b_n : ∀ v : Fin 32, (nI v.val).toInt8.toInt32 = nI v.val ∧ vp_nar .byte (nI v.val) = nI v.val := by decide +kernel
theorem fw_fr {h1 h2 : aH} (x : fw i h h1) (y : fr i (i + 4) h1 h2) : fw i h h2 := ⟨y.1.trans x.1, fun p a b => (y.2 p a).trans (x.2 p a b)⟩
theorem uat_fr {h1 : aH} {a b : Nat} (hm : uat h ss sr R hr P n) (hf : fr a b h h1) (hb : b < 69 ∨ 73 < a) : uat h1 ss sr R hr P n :=
  ⟨by rw [hf.2 _ (by omega)]; exact hm.1, by rw [hf.2 _ (by omega)]; exact hm.2.1, by rw [hf.2 _ (by omega)]; exact hm.2.2.1, by rw [hf.2 _ (by omega)]; exact hm.2.2.2.1, by rw [hf.2 _ (by omega)]; exact hm.2.2.2.2⟩
theorem wki_fr {h1 h2 : aH} {q : Nat} (x : wki ss sr P n i h h1 q) (y : fr i (i + 4) h1 h2) (hi : i + 4 < 69) : wki ss sr P n i h h2 q := by
  obtain ⟨R1, a, b, c, e⟩ := x
  exact ⟨R1, uat_fr a y (by omega), b, c, fw_fr e y⟩
theorem rdw_lt {k s : Nat} (hk : k < 25) (hs : s < 31) : rdw k s < 32 := by
  obtain ⟨o1, o2, o3, o4⟩ := wr_ok ⟨k, hk⟩
  have ok : lok (wrK k) z5 z5 (wrC k) (wrT k) (wrJ k) := ⟨o1, ⟨rfl, by decide⟩, ⟨rfl, by decide⟩, o2, o3, o4⟩
  exact rdS_lt (sd_ok (x := z55) (n := 1) ok hs).2.1.1
theorem lp_rd {h0 : aH} (hi : i + 4 < 69) (h0l : h0.length ≤ 100000) {k : Nat} (hk : k < 25) (KK : ∀ h2, wki ss sr P n i h0 h2 ((k + 1) * 30) → lnw h2 i (wrK k) (wrC k) (wrT k) (wrJ k) → Ev (d + 4) m_X7_workOutReadings 57 [some (.ref 69), some (.ref i), some (.int (nI k)), some (.int (nI 30))] [] h2 Q) : ∀ r s h1, s + r = 30 → wki ss sr P n i h0 h1 (k * 30 + s) → lnw h1 i (wrK k) (wrC k) (wrT k) (wrJ k) → Ev (d + 4) m_X7_workOutReadings 27 [some (.ref 69), some (.ref i), some (.int (nI k)), some (.int (nI s))] [] h1 Q := by
  intro r
  induction r with
  | zero =>
    intro s h1 hs hw hx
    have e : s = 30 := by omega
    subst e
    iterate 3 refine ev_nx rfl ?_
    refine ev_ge (fun _ => ?_) (fun h => absurd h (by omega))
    exact KK h1 (by rw [show (k + 1) * 30 = k * 30 + 30 by omega]; exact hw) hx
  | succ r ih =>
    intro s h1 hs hw hx
    obtain ⟨R1, a1, a2, a3, a4⟩ := hw
    have hv := rdw_lt (s := s) hk (by omega)
    have hl1 : h1.length ≤ 100000 := by rw [a4.1]; exact h0l
    iterate 3 refine ev_nx rfl ?_
    refine ev_ge (fun h => absurd h (by omega)) (fun _ => ?_)
    refine ev_nx rfl ?_
    refine ev_gf rfl rfl a1.1 rfl ?_
    iterate 8 refine ev_nx rfl ?_
    refine ev_v rfl rfl rfl rfl rfl rfl (lnw_o hx) rfl (e_sfr hx hl1 (by omega) (by decide)) (fun rv h2 q => ?_)
    obtain ⟨rfl, q1, q2⟩ := q
    have u2 := uat_fr a1 q2 (by omega)
    have hb := i2b_n ⟨rdw k s, hv⟩
    refine ev_nx rfl ?_
    rw [pk_mul, nI_add, show (nI (rdS (btn (wrK k) (cry s (wrC k) (wrT k) (wrJ k)) 1 z5 z5))).toInt8.toInt32 = nI (rdw k s) from hb.1]
    refine ev_bs rfl u2.2.2.2.1 (by rw [List.length_map]; omega) ?_
    rw [show vp_nar .byte (nI (rdw k s)) = nI (rdw k s) from hb.2, ms_]
    have hf : fr 72 72 h2 (h2.set 72 (.inl (2, (R1.set (k * 30 + s) (rdw k s)).map nI))) := ⟨by rw [List.length_set], fun p hp => gset_n (by omega)⟩
    iterate 2 refine ev_nx rfl ?_
    rw [nI_add]
    refine ih (s + 1) _ (by omega) ⟨R1.set (k * 30 + s) (rdw k s), ⟨?_, ?_, ?_, ?_, ?_⟩, by rw [List.length_set]; exact a2, fun p hp => ?_, ?_, fun p h1 h2 => ?_⟩ (lnw_fr q1 hf (by omega))
    · rw [gset_n (by decide)]; exact u2.1
    · rw [gset_n (by decide)]; exact u2.2.1
    · rw [gset_n (by decide)]; exact u2.2.2.1
    · exact gset_s u2.2.2.2.1
    · rw [gset_n (by decide)]; exact u2.2.2.2.2
    · by_cases e : k * 30 + s = p
      · subst e
        rw [gd_s (by omega), show (k * 30 + s) / 30 = k by omega, show (k * 30 + s) % 30 = s by omega]
      · rw [gd_n e]; exact a3 p (by omega)
    · rw [List.length_set, q2.1, a4.1]
    · rw [gset_n (by omega), q2.2 p h1]; exact a4.2 p h1 h2
theorem lp_wk {h0 : aH} (hi : i + 4 < 69) (h0l : h0.length ≤ 100000) (KK : ∀ h2 l3 K c t j, wki ss sr P n i h0 h2 750 → lnw h2 i K c t j → Ev (d + 4) m_X7_workOutReadings 63 [some (.ref 69), some (.ref i), some (.int (nI 25)), l3] [] h2 Q) : ∀ r k h1 l3 K c t j, k + r = 25 → wki ss sr P n i h0 h1 (k * 30) → lnw h1 i K c t j → Ev (d + 4) m_X7_workOutReadings 10 [some (.ref 69), some (.ref i), some (.int (nI k)), l3] [] h1 Q := by
  intro r
  induction r with
  | zero =>
    intro k h1 l3 K c t j hk hw hx
    have e : k = 25 := by omega
    subst e
    iterate 3 refine ev_nx rfl ?_
    refine ev_ge (fun _ => ?_) (fun h => absurd h (by omega))
    exact KK h1 _ K c t j hw hx
  | succ r ih =>
    intro k h1 l3 K c t j hk hw hx
    have hl1 : h1.length ≤ 100000 := by obtain ⟨_, _, _, _, a4⟩ := hw; rw [a4.1]; exact h0l
    iterate 3 refine ev_nx rfl ?_
    refine ev_ge (fun h => absurd h (by omega)) (fun _ => ?_)
    refine ev_nx rfl ?_
    refine ev_v rfl rfl rfl rfl rfl rfl (lnw_o hx) rfl (e_mw hx hl1) (fun rv h2 q => ?_)
    obtain ⟨rfl, q1, q2⟩ := q
    iterate 2 refine ev_nx rfl ?_
    refine ev_call rfl rfl (e_makeWrong q1 (by rw [q2.1]; exact hl1) (k := k) (by omega)) (fun rv h3 q => ?_)
    obtain ⟨rfl, q3, q4⟩ := q
    iterate 2 refine ev_nx rfl ?_
    refine lp_rd hi h0l (k := k) (by omega) (fun h4 w4 x4 => ?_) 30 0 h3 rfl (wki_fr (wki_fr hw q2 hi) q4 hi) q3
    iterate 2 refine ev_nx rfl ?_
    rw [nI_add]
    exact ih (k + 1) h4 _ _ _ _ _ (by omega) w4 x4
theorem e_workOut (hm : uat h ss sr R hr P n) (hR : hr = 0 ∧ R.length = 750 ∨ hr = 1 ∧ R = RT) (hx : lnw h i K c t j) (hi : i + 4 < 69) (hh : h.length ≤ 100000) : Ec (d + 4) m_X7_workOutReadings [.ref 69, .ref i] h (fun r h' => r = none ∧ uat h' ss sr RT 1 P n ∧ (∃ K c t j, lnw h' i K c t j) ∧ fw i h h') := by
  refine ec_in [some (.ref 69), some (.ref i), none, none] rfl rfl ?_
  refine ev_nx rfl ?_
  refine ev_gf rfl rfl hm.1 rfl ?_
  refine ev_nx rfl ?_
  rcases hR with ⟨e, e2⟩ | ⟨e, e2⟩
  · subst e
    refine ev_t (by decide) ?_
    iterate 2 refine ev_nx rfl ?_
    refine lp_wk hi hh (fun h2 l3 K c t j w x => ?_) 25 0 h none K c t j rfl ⟨R, hm, e2, fun p hp => absurd hp (by omega), rfl, fun _ _ _ => rfl⟩ hx
    obtain ⟨R1, a1, a2, a3, a4⟩ := w
    have e : R1 = RT := by
      refine List.ext_getElem? (fun p => ?_)
      by_cases hp : p < 750
      · have := a3 p hp
        rw [RT, List.getElem?_map, List.getElem?_range hp, Option.map_some, ← this, List.getD, List.getElem?_eq_getElem (by omega)]
        rfl
      · rw [List.getElem?_eq_none (by omega), List.getElem?_eq_none (by rw [RT, List.length_map, List.length_range]; omega)]
    rw [e] at a1
    iterate 2 refine ev_nx rfl ?_
    refine ev_pf rfl rfl a1.1 (by show 3 < 6; decide) rfl rfl rfl ?_
    refine ev_rt rfl ⟨rfl, ⟨?_, ?_, ?_, ?_, ?_⟩, ⟨K, c, t, j, lnw_fr (a := 69) (b := 69) x ⟨by rw [List.length_set], fun p hp => gset_n (by omega)⟩ (by omega)⟩, ?_, fun p h1 h2 => ?_⟩
    · rw [gset_s a1.1]; rfl
    · rw [gset_n (by decide)]; exact a1.2.1
    · rw [gset_n (by decide)]; exact a1.2.2.1
    · rw [gset_n (by decide)]; exact a1.2.2.2.1
    · rw [gset_n (by decide)]; exact a1.2.2.2.2
    · rw [List.length_set, a4.1]
    · rw [gset_n (by omega)]; exact a4.2 p h1 h2
  · subst e
    rw [e2] at hm
    refine ev_f (by decide) ?_
    exact ev_rt rfl ⟨rfl, hm, ⟨_, _, _, _, hx⟩, rfl, fun _ _ _ => rfl⟩
/-- the wrongs that agree, from a wrong on -/
def psr (ss sr : List Nat) (n : Nat) : Nat → Nat → Nat → Nat
  | 0, _, w => w
  | r + 1, k, w => psr ss sr n r (k + 1) (if agr ss sr RT k n 0 then w ||| 1 * 2 ^ k else w)
theorem lp_ps (hm : uat h ss sr RT hr P n) (ok : uok ss sr RT P n) : ∀ r k w, k + r = 25 → Ev (d + 1) m_X7_possible 9 [some (.ref 69), some (.ref i), some (.int (nI w)), some (.int (nI k))] [] h (rt (.int (nI (psr ss sr n r k w))) h) := by
  intro r
  induction r with
  | zero =>
    intro k w hk
    iterate 3 refine ev_nx rfl ?_
    refine ev_ge (fun _ => ?_) (fun h => absurd h (by omega))
    refine ev_nx rfl ?_
    exact ev_ri rfl rfl rfl ⟨rfl, rfl⟩
  | succ r ih =>
    intro k w hk
    have hp : 1 * 2 ^ k < 4294967296 := by
      have := Nat.pow_lt_pow_right (a := 2) (by decide) (show k < 25 by omega); omega
    rw [psr]
    iterate 3 refine ev_nx rfl ?_
    refine ev_ge (fun h => absurd h (by omega)) (fun _ => ?_)
    iterate 2 refine ev_nx rfl ?_
    refine ev_vi rfl rfl rfl rfl rfl rfl hm.1 rfl (e_agrees hm ok (by omega)) ?_
    cases hA : agr ss sr RT k n 0 with
    | false =>
      refine ev_nx rfl ?_
      refine ev_t (by decide) ?_
      iterate 2 refine ev_nx rfl ?_
      rw [nI_add, if_neg (by decide)]
      exact ih (k + 1) w (by omega)
    | true =>
      refine ev_nx rfl ?_
      refine ev_f (by decide) ?_
      iterate 4 refine ev_nx rfl ?_
      rw [n_shl (by omega) hp]
      iterate 2 refine ev_nx rfl ?_
      rw [n_or]
      iterate 2 refine ev_nx rfl ?_
      rw [nI_add, if_pos rfl]
      exact ih (k + 1) _ (by omega)
theorem RT_len : RT.length = 750 := by rw [RT, List.length_map, List.length_range]
theorem RT_lt : ∀ s ∈ RT, s < 32 := by
  intro s hs
  rw [RT, List.mem_map] at hs
  obtain ⟨p, hp, e⟩ := hs
  rw [List.mem_range] at hp
  rw [← e]
  exact rdw_lt (by omega) (by omega)
theorem e_possible (hm : uat h ss sr R hr P n) (ok : uok ss sr R P n) (hR : hr = 0 ∨ hr = 1 ∧ R = RT) (hx : lnw h i K c t j) (hi : i + 4 < 69) (hh : h.length ≤ 100000) : Ec (d + 5) m_X7_possible [.ref 69, .ref i] h (fun r h' => r = some (.int (nI (psr ss sr n 25 0 0))) ∧ uat h' ss sr RT 1 P n ∧ (∃ K c t j, lnw h' i K c t j) ∧ fw i h h') := by
  refine ec_in [some (.ref 69), some (.ref i), none, none] rfl rfl ?_
  iterate 2 refine ev_nx rfl ?_
  refine ev_v rfl rfl rfl rfl rfl rfl hm.1 rfl (e_workOut hm (hR.imp (fun e => ⟨e, ok.2.2.1.1⟩) id) hx hi hh) (fun rv h2 q => ?_)
  obtain ⟨rfl, q1, q2, q3⟩ := q
  iterate 4 refine ev_nx rfl ?_
  refine ev_mono (ev_le (d := d + 1) (by omega) (lp_ps q1 ⟨ok.1, ok.2.1, ⟨RT_len, RT_lt⟩, ok.2.2.2⟩ 25 0 0 rfl)) (fun r h' q => ?_)
  obtain ⟨rfl, rfl⟩ := q
  exact ⟨rfl, q1, q2, q3⟩
end SW
