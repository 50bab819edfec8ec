/-! the suspects: the readings of every wrong -/
/-- a line whose moving part is unknown -/
def lnw (h : aH) (i : Nat) (K : List Nat) (c t j : Nat) : Prop := ∃ S G, ltx h i (K, S, G, c, t, j) ∧ lok K S G c t j
def wrK (k : Nat) : List Nat := if k < 14 then z5 else if k < 19 then z5.set (k - 14) 1 else if k < 24 then z5.set (k - 19) 3 else z5
def wrC (k : Nat) : Nat := if k < 5 then 1 * 2 ^ k else 0
def wrT (k : Nat) : Nat := if 5 ≤ k ∧ k < 10 then 1 * 2 ^ (k - 5) else 0
def wrJ (k : Nat) : Nat := if 10 ≤ k ∧ k < 14 then 1 * 2 ^ (k - 10) else 0
/-- what a whole line with one wrong lets be read -/
def rdw (k s : Nat) : Nat := rdS (btn (wrK k) (cry s (wrC k) (wrT k) (wrJ k)) 1 z5 z5)
section SV
variable {h : aH} {ss sr R P K : List Nat} {i c t j hr n d : Nat} {Q : Option Value → aH → Prop}
theorem lnw_o (hx : lnw h i K c t j) : h[i]? = some (lo i c t j) := by
  obtain ⟨S, G, ⟨C, hC, a⟩, ok⟩ := hx
  exact a.1
theorem lnw_fr {h' : aH} {a b : Nat} (hx : lnw h i K c t j) (hf : fr a b h h') (hd : i + 4 < a ∨ b < i) : lnw h' i K c t j := by
  obtain ⟨S, G, hl, ok⟩ := hx
  exact ⟨S, G, ltx_fr hl (fun q h1 h2 => hf.2 q (by omega)), ok⟩
theorem e_sfr (hx : lnw h i K c t j) (hh : h.length ≤ 100000) {s m : Nat} (hs : s < 31) (hm : m < 1000) : Ec (d + 3) m_X3_sendFromRest [.ref i, .int (nI s), .int (nI m)] h (fun r h' => r = some (.int (nI (rdS (btn K (cry s c t j) m z5 z5)))) ∧ lnw h' i K c t j ∧ fr i (i + 4) h h') := by
  obtain ⟨S, G, ⟨C, hC, a⟩, ok⟩ := hx
  have hl := lat_lt a
  have H := e_sendFromRest (d := d) (h := h) (i := i) (C := C) ⟨hl, hh⟩ ok hC hs hm
  rw [lat_self a] at H
  refine ec_mono H (fun r h' q => ?_)
  obtain ⟨rfl, rfl⟩ := q
  exact ⟨rfl, ⟨_, _, ⟨_, cry_len, lat_of hl⟩, sd_ok (x := z55) (n := m) (lok_rest ok) hs⟩, lh_len, fun q hq => lh_o (by omega)⟩
theorem e_mw (hx : lnw h i K c t j) (hh : h.length ≤ 100000) : Ec d m_X3_makeWhole [.ref i] h (fun r h' => r = none ∧ lnw h' i z5 0 0 0 ∧ fr i (i + 4) h h') := by
  obtain ⟨S, G, ⟨C, hC, a⟩, ok⟩ := hx
  have hl := lat_lt a
  have H := e_makeWhole (S := S) (G := G) (C := C) (c := c) (t := t) (j := j) (d := d) (h := h) (i := i) ⟨hl, hh⟩ ok.1.1
  rw [lat_self a] at H
  refine ec_mono H (fun r h' q => ?_)
  obtain ⟨rfl, rfl⟩ := q
  exact ⟨rfl, ⟨S, G, ⟨C, hC, lat_of hl⟩, ⟨rfl, by decide⟩, ok.2.1, ok.2.2.1, by decide, by decide, by decide⟩, lh_len, fun q hq => lh_o (by omega)⟩
theorem wr_ok : ∀ k : Fin 25, ((wrK k.val).length = 5 ∧ ∀ s ∈ wrK k.val, s < 6) ∧ wrC k.val < 32 ∧ wrT k.val < 32 ∧ wrJ k.val < 16 := by decide
theorem p2_lt {p : Nat} (hp : p < 5) : 1 * 2 ^ p < 4294967296 := by
  have := Nat.pow_lt_pow_right (a := 2) (by decide) hp; omega
theorem e_makeWrong (hx : lnw h i z5 0 0 0) (hh : h.length ≤ 100000) {k : Nat} (hk : k < 25) : Ec d m_X7_makeWrong [.ref i, .int (nI k)] h (fun r h' => r = none ∧ lnw h' i (wrK k) (wrC k) (wrT k) (wrJ k) ∧ fr i (i + 4) h h') := by
  obtain ⟨S, G, ⟨C, hC, a⟩, ok⟩ := hx
  have hl := lat_lt a
  have hI : lI h i := ⟨hl, hh⟩
  have hself := lat_self a
  obtain ⟨o1, o2, o3, o4⟩ := wr_ok ⟨k, hk⟩
  have put : lnw (lh h i (wrK k) S G C (wrC k) (wrT k) (wrJ k)) i (wrK k) (wrC k) (wrT k) (wrJ k) ∧ fr i (i + 4) h (lh h i (wrK k) S G C (wrC k) (wrT k) (wrJ k)) := ⟨⟨S, G, ⟨C, hC, lat_of hl⟩, o1, ok.2.1, ok.2.2.1, o2, o3, o4⟩, lh_len, fun q hq => lh_o (by omega)⟩
  simp only at hself
  refine ec_in [some (.ref i), some (.int (nI k))] rfl rfl ?_
  rw [← hself]
  unfold wrK wrC wrT wrJ at put ⊢
  iterate 3 refine ev_nx rfl ?_
  refine ev_ge (fun k5 => ?_) (fun k5 => ?_)
  · rw [if_neg (show ¬ k < 5 by omega)] at put ⊢
    iterate 3 refine ev_nx rfl ?_
    refine ev_ge (fun k10 => ?_) (fun k10 => ?_)
    · rw [if_neg (show ¬ (5 ≤ k ∧ k < 10) by omega)] at put ⊢
      iterate 3 refine ev_nx rfl ?_
      refine ev_ge (fun k14 => ?_) (fun k14 => ?_)
      · rw [if_neg (show ¬ (10 ≤ k ∧ k < 14) by omega), if_neg (show ¬ k < 14 by omega)] at put ⊢
        iterate 3 refine ev_nx rfl ?_
        refine ev_ge (fun k19 => ?_) (fun k19 => ?_)
        · rw [if_neg (show ¬ k < 19 by omega)] at put ⊢
          iterate 3 refine ev_nx rfl ?_
          refine ev_ge (fun k24 => ?_) (fun k24 => ?_)
          · rw [if_neg (show ¬ k < 24 by omega)] at put ⊢
            rw [hself]
            rw [hself] at put
            exact ev_rt rfl ⟨rfl, put⟩
          · rw [if_pos (show k < 24 by omega)] at put ⊢
            refine ev_nx rfl ?_
            refine ev_lf hI rfl rfl rfl rfl ?_
            iterate 4 refine ev_nx rfl ?_
            rw [pk_sub (by omega)]
            refine ev_sK hI rfl (by show k - 19 < 5 ∧ _; omega) ?_
            rw [hself]
            exact ev_rt rfl ⟨rfl, put⟩
        · rw [if_pos (show k < 19 by omega)] at put ⊢
          refine ev_nx rfl ?_
          refine ev_lf hI rfl rfl rfl rfl ?_
          iterate 4 refine ev_nx rfl ?_
          rw [pk_sub (by omega)]
          refine ev_sK hI rfl (by show k - 14 < 5 ∧ _; omega) ?_
          refine ev_nx rfl ?_
          rw [hself]
          exact ev_rt rfl ⟨rfl, put⟩
      · rw [if_pos (show (10 ≤ k ∧ k < 14) by omega), if_pos (show k < 14 by omega)] at put ⊢
        iterate 5 refine ev_nx rfl ?_
        rw [pk_sub (by omega)]
        refine ev_nx rfl ?_
        rw [n_shl (by omega) (p2_lt (by omega))]
        refine ev_lp (c' := 0) (t' := 0) (j' := 1 * 2 ^ (k - 10)) hI rfl rfl (by decide) (by decide) rfl ?_
        refine ev_nx rfl ?_
        rw [hself]
        exact ev_rt rfl ⟨rfl, put⟩
    · rw [if_pos (show (5 ≤ k ∧ k < 10) by omega), if_neg (show ¬ (10 ≤ k ∧ k < 14) by omega), if_pos (show k < 14 by omega)] at put ⊢
      iterate 5 refine ev_nx rfl ?_
      rw [pk_sub (by omega)]
      refine ev_nx rfl ?_
      rw [n_shl (by omega) (p2_lt (by omega))]
      refine ev_lp (c' := 0) (t' := 1 * 2 ^ (k - 5)) (j' := 0) hI rfl rfl (by decide) (by decide) rfl ?_
      refine ev_nx rfl ?_
      rw [hself]
      exact ev_rt rfl ⟨rfl, put⟩
  · rw [if_pos (show k < 5 by omega), if_neg (show ¬ (5 ≤ k ∧ k < 10) by omega), if_neg (show ¬ (10 ≤ k ∧ k < 14) by omega), if_pos (show k < 14 by omega)] at put ⊢
    iterate 4 refine ev_nx rfl ?_
    rw [n_shl (by omega) (p2_lt (by omega))]
    refine ev_lp (c' := 1 * 2 ^ k) (t' := 0) (j' := 0) hI rfl rfl (by decide) (by decide) rfl ?_
    refine ev_nx rfl ?_
    rw [hself]
    exact ev_rt rfl ⟨rfl, put⟩
end SV
