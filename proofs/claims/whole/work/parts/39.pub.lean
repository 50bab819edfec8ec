/-! the class itself: wipe, fault, undo, keep -/
def ob : aC := .inr (.inr (8, [.ref 1, .ref 3, .ref 6, .ref 11, .ref 16, .ref 69, .ref 74, .ref 76, .ref 88]))
section PU
variable {h : aH} {l : List Nat} {n d nx dd kp : Nat} {x : aN} {L : List aN} {Q : Option Value → aH → Prop}
theorem e_wipe (ho : h[0]? = some ob) (hm : sat h l n) : Ec (d + 1) m_X8_wipe [.ref 0] h (fun r h' => r = some (.int (nI n)) ∧ sat h' l 0 ∧ fr 1 2 h h') := by
  refine ec_in [some (.ref 0)] rfl rfl ?_
  refine ev_nx rfl ?_
  refine ev_gf rfl rfl ho rfl ?_
  refine ev_v rfl rfl rfl rfl rfl rfl hm.1 rfl (e_sempty hm) (fun rv h2 q => ?_)
  obtain ⟨rfl, q1, q2⟩ := q
  exact ev_ri rfl rfl rfl ⟨rfl, q1, q2⟩
theorem e_fault (ho : h[0]? = some ob) (hm : sat h l n) (ok : sok l n) : Ec (d + 5) m_X8_fault [.ref 0] h (rt (.int (eo (ffr l n 200 0 0))) h) := by
  refine ec_in [some (.ref 0)] rfl rfl ?_
  refine ev_nx rfl ?_
  refine ev_gf rfl rfl ho rfl ?_
  refine ev_vi rfl rfl rfl rfl rfl rfl hm.1 rfl (e_firstFault hm ok) ?_
  exact ev_ri rfl rfl rfl ⟨rfl, rfl⟩
theorem e_undo (ho : h[0]? = some ob) (hp : pat h nx dd kp L) (hn : nx < 8) (hdd : dd ≤ 8) (hx : ltx h 6 x) (okx : nok x) (hh : h.length ≤ 100000) : Ec (d + 2) m_X8_undo [.ref 0] h (fun r h' => r = some (.int (if dd = 0 then -(nI 2) else nI (dd - 1))) ∧ pat h' (if 0 < dd then (nx + 7) % 8 else nx) (dd - 1) kp L ∧ ltx h' 6 (if 0 < dd then L.getD ((nx + 7) % 8) zN else x) ∧ h'.length = h.length ∧ ∀ q, q < 6 ∨ 6 + 4 < q → ¬ q = 16 → h'[q]? = h[q]?) := by
  refine ec_in [some (.ref 0)] rfl rfl ?_
  refine ev_nx rfl ?_
  refine ev_gf rfl rfl ho rfl ?_
  refine ev_gf rfl rfl hp.1 rfl ?_
  refine ev_nx rfl ?_
  refine ev_ne0 (fun hc => ?_) (fun hc => ?_)
  · rw [if_neg hc]
    refine ev_nx rfl ?_
    refine ev_gf rfl rfl ho rfl ?_
    refine ev_nx rfl ?_
    refine ev_gf rfl rfl ho rfl ?_
    refine ev_v rfl rfl rfl rfl rfl rfl hp.1 rfl (e_undoOn hp hn hdd hx okx (by decide) hh) (fun rv h2 q => ?_)
    obtain ⟨rfl, q1, q2, q3, q4⟩ := q
    refine ev_nx rfl ?_
    refine ev_gf rfl rfl (show h2[0]? = some ob by rw [q4 0 (by decide) (by decide)]; exact ho) rfl ?_
    refine ev_gf rfl rfl q1.1 rfl ?_
    exact ev_ri rfl rfl rfl ⟨rfl, q1, q2, q3, q4⟩
  · subst hc
    refine ev_nx rfl ?_
    exact ev_ri rfl rfl rfl ⟨rfl, hp, hx, rfl, fun _ _ _ => rfl⟩
theorem e_keep (ho : h[0]? = some ob) (hp : pat h nx dd kp L) (hk : kp ≤ 2) (hx : ltx h 6 x) (okx : nok x) (hh : h.length ≤ 100000) : Ec (d + 2) m_X8_keep [.ref 0] h (fun r h' => r = some (.int (if kp < 2 then nI (kp + 1) else -(nI 3))) ∧ pat h' nx dd (if kp < 2 then kp + 1 else kp) (if kp < 2 then L.set (8 + kp) x else L) ∧ fr 16 68 h h') := by
  refine ec_in [some (.ref 0)] rfl rfl ?_
  refine ev_nx rfl ?_
  refine ev_gf rfl rfl ho rfl ?_
  refine ev_gf rfl rfl hp.1 rfl ?_
  iterate 2 refine ev_nx rfl ?_
  refine ev_lt (fun hc => ?_) (fun hc => ?_)
  · have H := e_keepLine (d := d) hp hk hx okx (by decide) hh
    simp only [if_pos hc] at H ⊢
    refine ev_nx rfl ?_
    refine ev_gf rfl rfl ho rfl ?_
    refine ev_nx rfl ?_
    refine ev_gf rfl rfl ho rfl ?_
    refine ev_v rfl rfl rfl rfl rfl rfl hp.1 rfl H (fun rv h2 q => ?_)
    obtain ⟨rfl, q1, q2⟩ := q
    refine ev_nx rfl ?_
    refine ev_gf rfl rfl (show h2[0]? = some ob by rw [q2.2 0 (by decide)]; exact ho) rfl ?_
    refine ev_gf rfl rfl q1.1 rfl ?_
    exact ev_ri rfl rfl rfl ⟨rfl, q1, q2⟩
  · simp only [if_neg (show ¬ kp < 2 by omega)]
    refine ev_nx rfl ?_
    exact ev_ri rfl rfl rfl ⟨rfl, hp, rfl, fun _ _ => rfl⟩
end PU
