/-! the class itself: hear -/
section PW
variable {h : aH} {l : List Nat} {n d : Nat} {Q : Option Value → aH → Prop}
/-- a sign that may be heard, taken -/
theorem hear_in (ho : h[0]? = some ob) (hm : hat h l n) (hl : l.length = 8) (hn : n ≤ 8) (s : Nat) : Ev (d + 1) m_X8_hear 18 [some (.ref 0), some (.int (nI s))] [] h (fun r h' => r = some (.int (if n < 8 then nI (n + 1) else -(nI 3))) ∧ hat h' (if n < 8 then l.set n s else l) (if n < 8 then n + 1 else n) ∧ fr 74 75 h h') := by
  refine ev_nx rfl ?_
  refine ev_gf rfl rfl ho rfl ?_
  refine ev_gf rfl rfl hm.1 rfl ?_
  iterate 2 refine ev_nx rfl ?_
  refine ev_lt (fun hc => ?_) (fun hc => ?_)
  · have H := e_hadd (d := d) (s := s) hm hl hn
    simp only [if_pos hc] at H ⊢
    refine ev_nx rfl ?_
    refine ev_gf rfl rfl ho rfl ?_
    refine ev_nx rfl ?_
    refine ev_v rfl rfl rfl rfl rfl rfl hm.1 rfl H (fun rv h2 q => ?_)
    obtain ⟨rfl, q1, q2⟩ := q
    refine ev_nx rfl ?_
    refine ev_gf rfl rfl (show h2[0]? = some ob by rw [q2.2 0 (by decide)]; exact ho) rfl ?_
    refine ev_gf rfl rfl q1.1 rfl ?_
    exact ev_ri rfl rfl rfl ⟨rfl, q1, q2⟩
  · simp only [if_neg (show ¬ n < 8 by omega)]
    refine ev_nx rfl ?_
    exact ev_ri rfl rfl rfl ⟨rfl, hm, rfl, fun _ _ => rfl⟩
end PW
