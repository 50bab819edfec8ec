/-! the class itself: back, fits -/
section PV
variable {h : aH} {l sg ln : List Nat} {n mn d nx dd kp : Nat} {x : aN} {L : List aN} {Q : Option Value → aH → Prop}
theorem e_back (ho : h[0]? = some ob) (hp : pat h nx dd kp L) (hk : kp ≤ 2) (hx : ltx h 6 x) (okx : nok x) (hh : h.length ≤ 100000) : Ec (d + 2) m_X8_back [.ref 0] h (fun r h' => r = some (.int (if kp = 0 then -(nI 2) else nI (kp - 1))) ∧ pat h' nx (if 0 < kp then 0 else dd) (kp - 1) L ∧ ltx h' 6 (if 0 < kp then L.getD (8 + (kp - 1)) zN else x) ∧ h'.length = h.length ∧ ∀ q, q < 6 ∨ 6 + 4 < q → ¬ q = 16 → h'[q]? = h[q]?) := by
  refine ec_in [some (.ref 0)] rfl rfl ?_
  refine ev_nx rfl ?_
  refine ev_gf rfl rfl ho rfl ?_
  refine ev_gf rfl rfl hp.1 rfl ?_
  refine ev_nx rfl ?_
  refine ev_ne0 (fun hc => ?_) (fun hc => ?_)
  · rw [if_neg hc]
    refine ev_nx rfl ?_
    refine ev_gf rfl rfl ho rfl ?_
    refine ev_nx rfl ?_
    refine ev_gf rfl rfl ho rfl ?_
    refine ev_v rfl rfl rfl rfl rfl rfl hp.1 rfl (e_backOn hp hk hx okx (by decide) hh) (fun rv h2 q => ?_)
    obtain ⟨rfl, q1, q2, q3, q4⟩ := q
    refine ev_nx rfl ?_
    refine ev_gf rfl rfl (show h2[0]? = some ob by rw [q4 0 (by decide) (by decide)]; exact ho) rfl ?_
    refine ev_gf rfl rfl q1.1 rfl ?_
    exact ev_ri rfl rfl rfl ⟨rfl, q1, q2, q3, q4⟩
  · subst hc
    refine ev_nx rfl ?_
    exact ev_ri rfl rfl rfl ⟨rfl, hp, hx, rfl, fun _ _ _ => rfl⟩
/-- the messages that what was heard is like, from one on -/
def fts (hd sg ln : List Nat) : Nat → Nat → Nat → Nat
  | 0, _, w => w
  | r + 1, k, w => fts hd sg ln r (k + 1) (if lik hd (msg sg ln k) then w ||| 1 * 2 ^ k else w)
theorem lp_fits (ho : h[0]? = some ob) (hm : hat h l n) (hl : l.length = 8) (hn : n ≤ 8) (hl32 : ∀ s ∈ l, s < 32) (hM : mat h sg ln mn) (mo : mok sg ln mn) : ∀ r k w, k + r = mn → Ev (d + 2) m_X8_fits 4 [some (.ref 0), some (.int (nI w)), some (.int (nI k))] [] h (rt (.int (nI (fts (l.take n) sg ln r k w))) h) := by
  have h6 := mo.2.2.2.2
  intro r
  induction r with
  | zero =>
    intro k w hk
    iterate 2 refine ev_nx rfl ?_
    refine ev_gf rfl rfl ho rfl ?_
    refine ev_gf rfl rfl hM.1 rfl ?_
    refine ev_nx rfl ?_
    refine ev_ge (fun _ => ?_) (fun h => absurd h (by omega))
    refine ev_nx rfl ?_
    exact ev_ri rfl rfl rfl ⟨rfl, rfl⟩
  | succ r ih =>
    intro k w hk
    have hp : 1 * 2 ^ k < 4294967296 := by
      have := Nat.pow_lt_pow_right (a := 2) (by decide) (show k < 6 by omega); omega
    have h8 : ln.getD k 0 ≤ 8 := by
      have := mo.2.2.1
      rw [List.getD, List.getElem?_eq_getElem (by omega)]; exact mo.2.2.2.1 _ (List.getElem_mem _)
    rw [fts]
    iterate 2 refine ev_nx rfl ?_
    refine ev_gf rfl rfl ho rfl ?_
    refine ev_gf rfl rfl hM.1 rfl ?_
    refine ev_nx rfl ?_
    refine ev_ge (fun h => absurd h (by omega)) (fun _ => ?_)
    refine ev_nx rfl ?_
    refine ev_gf rfl rfl ho rfl ?_
    refine ev_nx rfl ?_
    refine ev_gf rfl rfl ho rfl ?_
    refine ev_nx rfl ?_
    refine ev_vi rfl rfl rfl rfl rfl rfl hm.1 rfl (e_isLike hm hl hn hl32 hM mo.1 mo.2.2.1 mo.2.1 (by omega) h8) ?_
    cases hA : lik (l.take n) (msg sg ln k) with
    | false =>
      refine ev_nx rfl ?_
      refine ev_t (by decide) ?_
      iterate 2 refine ev_nx rfl ?_
      rw [nI_add, if_neg (by decide)]
      exact ih (k + 1) w (by omega)
    | true =>
      refine ev_nx rfl ?_
      refine ev_f (by decide) ?_
      iterate 4 refine ev_nx rfl ?_
      rw [n_shl (by omega) hp]
      iterate 2 refine ev_nx rfl ?_
      rw [n_or]
      iterate 2 refine ev_nx rfl ?_
      rw [nI_add, if_pos rfl]
      exact ih (k + 1) _ (by omega)
theorem e_fits (ho : h[0]? = some ob) (hm : hat h l n) (hl : l.length = 8) (hn : n ≤ 8) (hl32 : ∀ s ∈ l, s < 32) (hM : mat h sg ln mn) (mo : mok sg ln mn) : Ec (d + 2) m_X8_fits [.ref 0] h (rt (.int (nI (fts (l.take n) sg ln mn 0 0))) h) := by
  refine ec_in [some (.ref 0), none, none] rfl rfl ?_
  iterate 4 refine ev_nx rfl ?_
  exact lp_fits ho hm hl hn hl32 hM mo mn 0 0 (by omega)
end PV
