/-! small methods -/
def oth (w : Nat) : Nat := if w = 0 then 0 else 3 - w
theorem e_otherWay (w : Nat) (hw : w ≤ 3) (h : aH) : Ec 0 m_X3_otherWay [.int (nI w)] h (rt (.int (nI (oth w))) h) := by
  refine ec_in [some (.int (nI w))] rfl rfl ?_
  iterate 2 refine ev_nx rfl ?_
  refine ev_ne0 (fun hc => ?_) (fun hc => ?_)
  · iterate 3 refine ev_nx rfl ?_
    rw [pk_sub (by omega)]
    exact ev_ri rfl rfl rfl ⟨by rw [oth, if_neg hc], rfl⟩
  · iterate 2 refine ev_nx rfl ?_
    exact ev_ri rfl rfl rfl ⟨by rw [oth, if_pos hc], rfl⟩
