/-! arguments that are none: both answer BAD -/
section BA
variable {d : Nat} {h : aH} {z : aZ} {y : aY} {st : List Nat} {V : aV}
theorem b9_write {a : Int32} (hJ : Mq z y st h) (hme : 0 < z.1.2.1) (hb : ¬ (wi a (nI 32) (nI 126) = 1)) : Ec (d + 4) m_X9_write [.ref 0, .int a] h (rt (.int (-(nI 1))) h) := by
  have hw0 := wi_lt a (nI 32) (nI 126)
  refine ec_in [some (.ref 0), some (.int a)] rfl rfl ?_
  iterate 3 refine ev_nx rfl ?_
  refine ev_si rfl rfl (by decide) rfl rfl rfl rfl (f_in _ _ _ _) ?_
  refine ev_nx rfl ?_
  refine ev_ne0 (fun b8 => ?_) (fun b8 => ?_)
  · exfalso; omega
  · refine ev_nx rfl ?_
    exact ev_ri rfl rfl rfl ⟨rfl, rfl⟩
theorem b8_write {a : Int32} (X : XH V h) (hb : ¬ (wi a (nI 32) (nI 126) = 1)) : Ec (d + 4) m_X8_write [.ref 0, .int a] h (rt (.int (-(nI 1))) h) := by
  have hw0 := wi_lt a (nI 32) (nI 126)
  refine ec_in [some (.ref 0), some (.int a)] rfl rfl ?_
  iterate 3 refine ev_nx rfl ?_
  refine ev_si rfl rfl (by decide) rfl rfl rfl rfl (ec_le (by omega) (e_within _ _ _ _)) ?_
  refine ev_nx rfl ?_
  refine ev_ne0 (fun b8 => ?_) (fun b8 => ?_)
  · exfalso; omega
  · refine ev_nx rfl ?_
    exact ev_ri rfl rfl rfl ⟨rfl, rfl⟩
theorem b9_needle {a b : Int32} (hJ : Mq z y st h) (hme : 0 < z.1.2.1) (hb : ¬ (wi a (nI 0) (nI 4) = 1 ∧ wi b (nI 0) (nI 2) = 1)) : Ec (d + 4) m_X9_needle [.ref 0, .int a, .int b] h (rt (.int (-(nI 1))) h) := by
  have hw0 := wi_lt a (nI 0) (nI 4)
  have hw1 := wi_lt b (nI 0) (nI 2)
  refine ec_in [some (.ref 0), some (.int a), some (.int b)] rfl rfl ?_
  refine ev_nx rfl ?_
  refine ev_si rfl rfl (by decide) rfl rfl rfl rfl (f_isPlace _ _) ?_
  refine ev_nx rfl ?_
  refine ev_eq0 (fun b4 => ?_) (fun b4 => ?_)
  · refine ev_nx rfl ?_
    exact ev_ri rfl rfl rfl ⟨rfl, rfl⟩
  · iterate 3 refine ev_nx rfl ?_
    refine ev_si rfl rfl (by decide) rfl rfl rfl rfl (f_in _ _ _ _) ?_
    refine ev_nx rfl ?_
    refine ev_ne0 (fun b13 => ?_) (fun b13 => ?_)
    · exfalso; omega
    · refine ev_nx rfl ?_
      exact ev_ri rfl rfl rfl ⟨rfl, rfl⟩
theorem b8_needle {a b : Int32} (X : XH V h) (hb : ¬ (wi a (nI 0) (nI 4) = 1 ∧ wi b (nI 0) (nI 2) = 1)) : Ec (d + 4) m_X8_needle [.ref 0, .int a, .int b] h (rt (.int (-(nI 1))) h) := by
  have hw0 := wi_lt a (nI 0) (nI 4)
  have hw1 := wi_lt b (nI 0) (nI 2)
  refine ec_in [some (.ref 0), some (.int a), some (.int b)] rfl rfl ?_
  refine ev_nx rfl ?_
  refine ev_si rfl rfl (by decide) rfl rfl rfl rfl (ec_le (by omega) (e_isPlace _ _)) ?_
  refine ev_nx rfl ?_
  refine ev_eq0 (fun b4 => ?_) (fun b4 => ?_)
  · refine ev_nx rfl ?_
    exact ev_ri rfl rfl rfl ⟨rfl, rfl⟩
  · iterate 3 refine ev_nx rfl ?_
    refine ev_si rfl rfl (by decide) rfl rfl rfl rfl (ec_le (by omega) (e_within _ _ _ _)) ?_
    refine ev_nx rfl ?_
    refine ev_ne0 (fun b13 => ?_) (fun b13 => ?_)
    · exfalso; omega
    · refine ev_nx rfl ?_
      exact ev_ri rfl rfl rfl ⟨rfl, rfl⟩
theorem b9_wire {a b : Int32} (hJ : Mq z y st h) (hme : 0 < z.1.2.1) (hb : ¬ (wi a (nI 0) (nI 4) = 1 ∧ wi b (nI 0) (nI 2) = 1)) : Ec (d + 4) m_X9_wire [.ref 0, .int a, .int b] h (rt (.int (-(nI 1))) h) := by
  have hw0 := wi_lt a (nI 0) (nI 4)
  have hw1 := wi_lt b (nI 0) (nI 2)
  refine ec_in [some (.ref 0), some (.int a), some (.int b)] rfl rfl ?_
  refine ev_nx rfl ?_
  refine ev_si rfl rfl (by decide) rfl rfl rfl rfl (f_isPlace _ _) ?_
  refine ev_nx rfl ?_
  refine ev_eq0 (fun b4 => ?_) (fun b4 => ?_)
  · refine ev_nx rfl ?_
    exact ev_ri rfl rfl rfl ⟨rfl, rfl⟩
  · iterate 3 refine ev_nx rfl ?_
    refine ev_si rfl rfl (by decide) rfl rfl rfl rfl (f_in _ _ _ _) ?_
    refine ev_nx rfl ?_
    refine ev_ne0 (fun b13 => ?_) (fun b13 => ?_)
    · exfalso; omega
    · refine ev_nx rfl ?_
      exact ev_ri rfl rfl rfl ⟨rfl, rfl⟩
theorem b8_wire {a b : Int32} (X : XH V h) (hb : ¬ (wi a (nI 0) (nI 4) = 1 ∧ wi b (nI 0) (nI 2) = 1)) : Ec (d + 4) m_X8_wire [.ref 0, .int a, .int b] h (rt (.int (-(nI 1))) h) := by
  have hw0 := wi_lt a (nI 0) (nI 4)
  have hw1 := wi_lt b (nI 0) (nI 2)
  refine ec_in [some (.ref 0), some (.int a), some (.int b)] rfl rfl ?_
  refine ev_nx rfl ?_
  refine ev_si rfl rfl (by decide) rfl rfl rfl rfl (ec_le (by omega) (e_isPlace _ _)) ?_
  refine ev_nx rfl ?_
  refine ev_eq0 (fun b4 => ?_) (fun b4 => ?_)
  · refine ev_nx rfl ?_
    exact ev_ri rfl rfl rfl ⟨rfl, rfl⟩
  · iterate 3 refine ev_nx rfl ?_
    refine ev_si rfl rfl (by decide) rfl rfl rfl rfl (ec_le (by omega) (e_within _ _ _ _)) ?_
    refine ev_nx rfl ?_
    refine ev_ne0 (fun b13 => ?_) (fun b13 => ?_)
    · exfalso; omega
    · refine ev_nx rfl ?_
      exact ev_ri rfl rfl rfl ⟨rfl, rfl⟩
theorem b9_spelt {a b : Int32} (hJ : Mq z y st h) (hme : 0 < z.1.2.1) (hb : ¬ (wi a (nI 0) (nI (z.1.2.1 - 1)) = 1 ∧ wi b (-(nI 1)) (nI 7) = 1)) : Ec (d + 4) m_X9_spelt [.ref 0, .int a, .int b] h (rt (.int (-(nI 1))) h) := by
  have hw0 := wi_lt a (nI 0) (nI (z.1.2.1 - 1))
  have hw1 := wi_lt b (-(nI 1)) (nI 7)
  refine ec_in [some (.ref 0), some (.int a), some (.int b)] rfl rfl ?_
  iterate 2 refine ev_nx rfl ?_
  refine ev_vi rfl rfl rfl rfl rfl rfl (Mq_0 hJ) rfl (f_isMessage hJ hme) ?_
  refine ev_nx rfl ?_
  refine ev_eq0 (fun b5 => ?_) (fun b5 => ?_)
  · refine ev_nx rfl ?_
    exact ev_ri rfl rfl rfl ⟨rfl, rfl⟩
  · iterate 3 refine ev_nx rfl ?_
    refine ev_si rfl rfl (by decide) rfl rfl rfl rfl (f_in _ _ _ _) ?_
    refine ev_nx rfl ?_
    refine ev_ne0 (fun b15 => ?_) (fun b15 => ?_)
    · exfalso; omega
    · refine ev_nx rfl ?_
      exact ev_ri rfl rfl rfl ⟨rfl, rfl⟩
theorem b8_spelt {a b : Int32} (X : XH V h) (hb : ¬ (wi a (nI 0) (nI (V.2.1.2.2 - 1)) = 1 ∧ wi b (-(nI 1)) (nI 7) = 1)) : Ec (d + 4) m_X8_spelt [.ref 0, .int a, .int b] h (rt (.int (-(nI 1))) h) := by
  have hw0 := wi_lt a (nI 0) (nI (V.2.1.2.2 - 1))
  have hw1 := wi_lt b (-(nI 1)) (nI 7)
  refine ec_in [some (.ref 0), some (.int a), some (.int b)] rfl rfl ?_
  iterate 2 refine ev_nx rfl ?_
  refine ev_vi rfl rfl rfl rfl rfl rfl X.1.2 rfl (c_isMessage X) ?_
  refine ev_nx rfl ?_
  refine ev_eq0 (fun b5 => ?_) (fun b5 => ?_)
  · refine ev_nx rfl ?_
    exact ev_ri rfl rfl rfl ⟨rfl, rfl⟩
  · iterate 3 refine ev_nx rfl ?_
    refine ev_si rfl rfl (by decide) rfl rfl rfl rfl (ec_le (by omega) (e_within _ _ _ _)) ?_
    refine ev_nx rfl ?_
    refine ev_ne0 (fun b15 => ?_) (fun b15 => ?_)
    · exfalso; omega
    · refine ev_nx rfl ?_
      exact ev_ri rfl rfl rfl ⟨rfl, rfl⟩
theorem b9_send {a : Int32} (hJ : Mq z y st h) (hme : 0 < z.1.2.1) (hb : ¬ (wi a (nI 0) (nI 30) = 1)) : Ec (d + 4) m_X9_send [.ref 0, .int a] h (rt (.int (-(nI 1))) h) := by
  have hw0 := wi_lt a (nI 0) (nI 30)
  refine ec_in [some (.ref 0), some (.int a)] rfl rfl ?_
  iterate 3 refine ev_nx rfl ?_
  refine ev_si rfl rfl (by decide) rfl rfl rfl rfl (f_in _ _ _ _) ?_
  refine ev_nx rfl ?_
  refine ev_ne0 (fun b7 => ?_) (fun b7 => ?_)
  · exfalso; omega
  · refine ev_nx rfl ?_
    exact ev_ri rfl rfl rfl ⟨rfl, rfl⟩
theorem b8_send {a : Int32} (X : XH V h) (hb : ¬ (wi a (nI 0) (nI 30) = 1)) : Ec (d + 4) m_X8_send [.ref 0, .int a] h (rt (.int (-(nI 1))) h) := by
  have hw0 := wi_lt a (nI 0) (nI 30)
  refine ec_in [some (.ref 0), some (.int a)] rfl rfl ?_
  iterate 3 refine ev_nx rfl ?_
  refine ev_si rfl rfl (by decide) rfl rfl rfl rfl (ec_le (by omega) (e_within _ _ _ _)) ?_
  refine ev_nx rfl ?_
  refine ev_ne0 (fun b7 => ?_) (fun b7 => ?_)
  · exfalso; omega
  · refine ev_nx rfl ?_
    exact ev_ri rfl rfl rfl ⟨rfl, rfl⟩
theorem b9_cut {a : Int32} (hJ : Mq z y st h) (hme : 0 < z.1.2.1) (hb : ¬ (wi a (nI 0) (nI 4) = 1)) : Ec (d + 4) m_X9_cut [.ref 0, .int a] h (rt (.int (-(nI 1))) h) := by
  have hw0 := wi_lt a (nI 0) (nI 4)
  refine ec_in [some (.ref 0), some (.int a)] rfl rfl ?_
  refine ev_nx rfl ?_
  refine ev_si rfl rfl (by decide) rfl rfl rfl rfl (f_isPlace _ _) ?_
  refine ev_nx rfl ?_
  refine ev_ne0 (fun b4 => ?_) (fun b4 => ?_)
  · exfalso; omega
  · refine ev_nx rfl ?_
    exact ev_ri rfl rfl rfl ⟨rfl, rfl⟩
theorem b8_cut {a : Int32} (X : XH V h) (hb : ¬ (wi a (nI 0) (nI 4) = 1)) : Ec (d + 4) m_X8_cut [.ref 0, .int a] h (rt (.int (-(nI 1))) h) := by
  have hw0 := wi_lt a (nI 0) (nI 4)
  refine ec_in [some (.ref 0), some (.int a)] rfl rfl ?_
  refine ev_nx rfl ?_
  refine ev_si rfl rfl (by decide) rfl rfl rfl rfl (ec_le (by omega) (e_isPlace _ _)) ?_
  refine ev_nx rfl ?_
  refine ev_ne0 (fun b4 => ?_) (fun b4 => ?_)
  · exfalso; omega
  · refine ev_nx rfl ?_
    exact ev_ri rfl rfl rfl ⟨rfl, rfl⟩
theorem b9_turn {a : Int32} (hJ : Mq z y st h) (hme : 0 < z.1.2.1) (hb : ¬ (wi a (nI 0) (nI 4) = 1)) : Ec (d + 4) m_X9_turn [.ref 0, .int a] h (rt (.int (-(nI 1))) h) := by
  have hw0 := wi_lt a (nI 0) (nI 4)
  refine ec_in [some (.ref 0), some (.int a)] rfl rfl ?_
  refine ev_nx rfl ?_
  refine ev_si rfl rfl (by decide) rfl rfl rfl rfl (f_isPlace _ _) ?_
  refine ev_nx rfl ?_
  refine ev_ne0 (fun b4 => ?_) (fun b4 => ?_)
  · exfalso; omega
  · refine ev_nx rfl ?_
    exact ev_ri rfl rfl rfl ⟨rfl, rfl⟩
theorem b8_turn {a : Int32} (X : XH V h) (hb : ¬ (wi a (nI 0) (nI 4) = 1)) : Ec (d + 4) m_X8_turn [.ref 0, .int a] h (rt (.int (-(nI 1))) h) := by
  have hw0 := wi_lt a (nI 0) (nI 4)
  refine ec_in [some (.ref 0), some (.int a)] rfl rfl ?_
  refine ev_nx rfl ?_
  refine ev_si rfl rfl (by decide) rfl rfl rfl rfl (ec_le (by omega) (e_isPlace _ _)) ?_
  refine ev_nx rfl ?_
  refine ev_ne0 (fun b4 => ?_) (fun b4 => ?_)
  · exfalso; omega
  · refine ev_nx rfl ?_
    exact ev_ri rfl rfl rfl ⟨rfl, rfl⟩
theorem b9_touch {a : Int32} (hJ : Mq z y st h) (hme : 0 < z.1.2.1) (hb : ¬ (wi a (nI 0) (nI 3) = 1)) : Ec (d + 4) m_X9_touch [.ref 0, .int a] h (rt (.int (-(nI 1))) h) := by
  have hw0 := wi_lt a (nI 0) (nI 3)
  refine ec_in [some (.ref 0), some (.int a)] rfl rfl ?_
  iterate 3 refine ev_nx rfl ?_
  refine ev_si rfl rfl (by decide) rfl rfl rfl rfl (f_in _ _ _ _) ?_
  refine ev_nx rfl ?_
  refine ev_ne0 (fun b6 => ?_) (fun b6 => ?_)
  · exfalso; omega
  · refine ev_nx rfl ?_
    exact ev_ri rfl rfl rfl ⟨rfl, rfl⟩
theorem b8_touch {a : Int32} (X : XH V h) (hb : ¬ (wi a (nI 0) (nI 3) = 1)) : Ec (d + 4) m_X8_touch [.ref 0, .int a] h (rt (.int (-(nI 1))) h) := by
  have hw0 := wi_lt a (nI 0) (nI 3)
  refine ec_in [some (.ref 0), some (.int a)] rfl rfl ?_
  iterate 3 refine ev_nx rfl ?_
  refine ev_si rfl rfl (by decide) rfl rfl rfl rfl (ec_le (by omega) (e_within _ _ _ _)) ?_
  refine ev_nx rfl ?_
  refine ev_ne0 (fun b6 => ?_) (fun b6 => ?_)
  · exfalso; omega
  · refine ev_nx rfl ?_
    exact ev_ri rfl rfl rfl ⟨rfl, rfl⟩
theorem b9_mend {a : Int32} (hJ : Mq z y st h) (hme : 0 < z.1.2.1) (hb : ¬ (wi a (nI 0) (nI 4) = 1)) : Ec (d + 4) m_X9_mend [.ref 0, .int a] h (rt (.int (-(nI 1))) h) := by
  have hw0 := wi_lt a (nI 0) (nI 4)
  refine ec_in [some (.ref 0), some (.int a), none, none] rfl rfl ?_
  refine ev_nx rfl ?_
  refine ev_si rfl rfl (by decide) rfl rfl rfl rfl (f_isPlace _ _) ?_
  refine ev_nx rfl ?_
  refine ev_ne0 (fun b4 => ?_) (fun b4 => ?_)
  · exfalso; omega
  · refine ev_nx rfl ?_
    exact ev_ri rfl rfl rfl ⟨rfl, rfl⟩
theorem b8_mend {a : Int32} (X : XH V h) (hb : ¬ (wi a (nI 0) (nI 4) = 1)) : Ec (d + 4) m_X8_mend [.ref 0, .int a] h (rt (.int (-(nI 1))) h) := by
  have hw0 := wi_lt a (nI 0) (nI 4)
  refine ec_in [some (.ref 0), some (.int a)] rfl rfl ?_
  refine ev_nx rfl ?_
  refine ev_si rfl rfl (by decide) rfl rfl rfl rfl (ec_le (by omega) (e_isPlace _ _)) ?_
  refine ev_nx rfl ?_
  refine ev_ne0 (fun b4 => ?_) (fun b4 => ?_)
  · exfalso; omega
  · refine ev_nx rfl ?_
    exact ev_ri rfl rfl rfl ⟨rfl, rfl⟩
theorem b9_change {a b : Int32} (hJ : Mq z y st h) (hme : 0 < z.1.2.1) (hb : ¬ (wi a (nI 0) (nI 4) = 1 ∧ wi b (nI 0) (nI 4) = 1 ∧ ¬ a = b)) : Ec (d + 4) m_X9_change [.ref 0, .int a, .int b] h (rt (.int (-(nI 1))) h) := by
  have hw0 := wi_lt a (nI 0) (nI 4)
  have hw1 := wi_lt b (nI 0) (nI 4)
  refine ec_in [some (.ref 0), some (.int a), some (.int b)] rfl rfl ?_
  refine ev_nx rfl ?_
  refine ev_si rfl rfl (by decide) rfl rfl rfl rfl (f_isPlace _ _) ?_
  refine ev_nx rfl ?_
  refine ev_eq0 (fun b4 => ?_) (fun b4 => ?_)
  · refine ev_nx rfl ?_
    exact ev_ri rfl rfl rfl ⟨rfl, rfl⟩
  · refine ev_nx rfl ?_
    refine ev_si rfl rfl (by decide) rfl rfl rfl rfl (f_isPlace _ _) ?_
    refine ev_nx rfl ?_
    refine ev_eq0 (fun b11 => ?_) (fun b11 => ?_)
    · refine ev_nx rfl ?_
      exact ev_ri rfl rfl rfl ⟨rfl, rfl⟩
    · iterate 3 refine ev_nx rfl ?_
      refine ev_c (P := ¬ a = b) (by simp [am_c2]) (fun b16 => ?_) (fun b16 => ?_)
      · exact absurd ⟨by omega, by omega, b16⟩ hb
      · refine ev_nx rfl ?_
        exact ev_ri rfl rfl rfl ⟨rfl, rfl⟩
theorem b8_change {a b : Int32} (X : XH V h) (hb : ¬ (wi a (nI 0) (nI 4) = 1 ∧ wi b (nI 0) (nI 4) = 1 ∧ ¬ a = b)) : Ec (d + 4) m_X8_change [.ref 0, .int a, .int b] h (rt (.int (-(nI 1))) h) := by
  have hw0 := wi_lt a (nI 0) (nI 4)
  have hw1 := wi_lt b (nI 0) (nI 4)
  refine ec_in [some (.ref 0), some (.int a), some (.int b)] rfl rfl ?_
  refine ev_nx rfl ?_
  refine ev_si rfl rfl (by decide) rfl rfl rfl rfl (ec_le (by omega) (e_isPlace _ _)) ?_
  refine ev_nx rfl ?_
  refine ev_eq0 (fun b4 => ?_) (fun b4 => ?_)
  · refine ev_nx rfl ?_
    exact ev_ri rfl rfl rfl ⟨rfl, rfl⟩
  · refine ev_nx rfl ?_
    refine ev_si rfl rfl (by decide) rfl rfl rfl rfl (ec_le (by omega) (e_isPlace _ _)) ?_
    refine ev_nx rfl ?_
    refine ev_eq0 (fun b11 => ?_) (fun b11 => ?_)
    · refine ev_nx rfl ?_
      exact ev_ri rfl rfl rfl ⟨rfl, rfl⟩
    · iterate 3 refine ev_nx rfl ?_
      refine ev_c (P := ¬ a = b) (by simp [am_c2]) (fun b16 => ?_) (fun b16 => ?_)
      · exact absurd ⟨by omega, by omega, b16⟩ hb
      · refine ev_nx rfl ?_
        exact ev_ri rfl rfl rfl ⟨rfl, rfl⟩
theorem b9_said {a b c e : Int32} (hJ : Mq z y st h) (hme : 0 < z.1.2.1) (hb : ¬ (wi a (nI 0) (nI (z.1.2.1 - 1)) = 1 ∧ wi b (nI 1) (nI 3) = 1 ∧ wi c (nI 0) (nI 3) = 1 ∧ wi e (-(nI 1)) (nI 7) = 1)) : Ec (d + 4) m_X9_said [.ref 0, .int a, .int b, .int c, .int e] h (rt (.int (-(nI 1))) h) := by
  have hw0 := wi_lt a (nI 0) (nI (z.1.2.1 - 1))
  have hw1 := wi_lt b (nI 1) (nI 3)
  have hw2 := wi_lt c (nI 0) (nI 3)
  have hw3 := wi_lt e (-(nI 1)) (nI 7)
  have hi0 := isp_lt b c
  have hi : isp b c = 1 ↔ (wi b (nI 1) (nI 3) = 1 ∧ wi c (nI 0) (nI 3) = 1) := by unfold isp; split <;> omega
  refine ec_in [some (.ref 0), some (.int a), some (.int b), some (.int c), some (.int e), none] rfl rfl ?_
  iterate 2 refine ev_nx rfl ?_
  refine ev_vi rfl rfl rfl rfl rfl rfl (Mq_0 hJ) rfl (f_isMessage hJ hme) ?_
  refine ev_nx rfl ?_
  refine ev_eq0 (fun b5 => ?_) (fun b5 => ?_)
  · refine ev_nx rfl ?_
    exact ev_ri rfl rfl rfl ⟨rfl, rfl⟩
  · iterate 2 refine ev_nx rfl ?_
    refine ev_si rfl rfl (by decide) rfl rfl rfl rfl (f_isPace _ _ _) ?_
    refine ev_nx rfl ?_
    refine ev_eq0 (fun b13 => ?_) (fun b13 => ?_)
    · refine ev_nx rfl ?_
      exact ev_ri rfl rfl rfl ⟨rfl, rfl⟩
    · iterate 3 refine ev_nx rfl ?_
      refine ev_si rfl rfl (by decide) rfl rfl rfl rfl (f_in _ _ _ _) ?_
      refine ev_nx rfl ?_
      refine ev_ne0 (fun b24 => ?_) (fun b24 => ?_)
      · exfalso; omega
      · refine ev_nx rfl ?_
        exact ev_ri rfl rfl rfl ⟨rfl, rfl⟩
theorem b8_said {a b c e : Int32} (X : XH V h) (hb : ¬ (wi a (nI 0) (nI (V.2.1.2.2 - 1)) = 1 ∧ wi b (nI 1) (nI 3) = 1 ∧ wi c (nI 0) (nI 3) = 1 ∧ wi e (-(nI 1)) (nI 7) = 1)) : Ec (d + 4) m_X8_said [.ref 0, .int a, .int b, .int c, .int e] h (rt (.int (-(nI 1))) h) := by
  have hw0 := wi_lt a (nI 0) (nI (V.2.1.2.2 - 1))
  have hw1 := wi_lt b (nI 1) (nI 3)
  have hw2 := wi_lt c (nI 0) (nI 3)
  have hw3 := wi_lt e (-(nI 1)) (nI 7)
  have hi0 : isy V a b c < 2 := by unfold isy; split <;> omega
  have hi : isy V a b c = 1 ↔ (wi a (nI 0) (nI (V.2.1.2.2 - 1)) = 1 ∧ wi b (nI 1) (nI 3) = 1 ∧ wi c (nI 0) (nI 3) = 1) := by unfold isy; split <;> omega
  refine ec_in [some (.ref 0), some (.int a), some (.int b), some (.int c), some (.int e)] rfl rfl ?_
  iterate 4 refine ev_nx rfl ?_
  refine ev_vi rfl rfl rfl rfl rfl rfl X.1.2 rfl (c_isSaying X) ?_
  refine ev_nx rfl ?_
  refine ev_eq0 (fun b7 => ?_) (fun b7 => ?_)
  · refine ev_nx rfl ?_
    exact ev_ri rfl rfl rfl ⟨rfl, rfl⟩
  · iterate 3 refine ev_nx rfl ?_
    refine ev_si rfl rfl (by decide) rfl rfl rfl rfl (ec_le (by omega) (e_within _ _ _ _)) ?_
    refine ev_nx rfl ?_
    refine ev_ne0 (fun b18 => ?_) (fun b18 => ?_)
    · exfalso; omega
    · refine ev_nx rfl ?_
      exact ev_ri rfl rfl rfl ⟨rfl, rfl⟩
theorem b9_pace {a b : Int32} (hJ : Mq z y st h) (hme : 0 < z.1.2.1) (hb : ¬ (wi a (nI 0) (nI (z.1.2.1 - 1)) = 1 ∧ wi b (nI 0) (nI 1) = 1)) : Ec (d + 4) m_X9_pace [.ref 0, .int a, .int b] h (rt (.int (-(nI 1))) h) := by
  have hw0 := wi_lt a (nI 0) (nI (z.1.2.1 - 1))
  have hw1 := wi_lt b (nI 0) (nI 1)
  refine ec_in [some (.ref 0), some (.int a), some (.int b), none, none] rfl rfl ?_
  iterate 2 refine ev_nx rfl ?_
  refine ev_vi rfl rfl rfl rfl rfl rfl (Mq_0 hJ) rfl (f_isMessage hJ hme) ?_
  refine ev_nx rfl ?_
  refine ev_eq0 (fun b5 => ?_) (fun b5 => ?_)
  · refine ev_nx rfl ?_
    exact ev_ri rfl rfl rfl ⟨rfl, rfl⟩
  · iterate 3 refine ev_nx rfl ?_
    refine ev_si rfl rfl (by decide) rfl rfl rfl rfl (f_in _ _ _ _) ?_
    refine ev_nx rfl ?_
    refine ev_ne0 (fun b14 => ?_) (fun b14 => ?_)
    · exfalso; omega
    · refine ev_nx rfl ?_
      exact ev_ri rfl rfl rfl ⟨rfl, rfl⟩
theorem b8_pace {a b : Int32} (X : XH V h) (hb : ¬ (wi a (nI 0) (nI (V.2.1.2.2 - 1)) = 1 ∧ wi b (nI 0) (nI 1) = 1)) : Ec (d + 4) m_X8_pace [.ref 0, .int a, .int b] h (rt (.int (-(nI 1))) h) := by
  have hw0 := wi_lt a (nI 0) (nI (V.2.1.2.2 - 1))
  have hw1 := wi_lt b (nI 0) (nI 1)
  refine ec_in [some (.ref 0), some (.int a), some (.int b), none, none, none] rfl rfl ?_
  iterate 2 refine ev_nx rfl ?_
  refine ev_vi rfl rfl rfl rfl rfl rfl X.1.2 rfl (c_isMessage X) ?_
  refine ev_nx rfl ?_
  refine ev_eq0 (fun b5 => ?_) (fun b5 => ?_)
  · refine ev_nx rfl ?_
    exact ev_ri rfl rfl rfl ⟨rfl, rfl⟩
  · iterate 3 refine ev_nx rfl ?_
    refine ev_si rfl rfl (by decide) rfl rfl rfl rfl (ec_le (by omega) (e_within _ _ _ _)) ?_
    refine ev_nx rfl ?_
    refine ev_ne0 (fun b14 => ?_) (fun b14 => ?_)
    · exfalso; omega
    · refine ev_nx rfl ?_
      exact ev_ri rfl rfl rfl ⟨rfl, rfl⟩
theorem b9_clear {a : Int32} (hJ : Mq z y st h) (hme : 0 < z.1.2.1) (hb : ¬ (wi a (nI 1) (nI 3) = 1)) : Ec (d + 4) m_X9_clear [.ref 0, .int a] h (rt (.int (-(nI 1))) h) := by
  have hw0 := wi_lt a (nI 1) (nI 3)
  refine ec_in [some (.ref 0), some (.int a)] rfl rfl ?_
  iterate 3 refine ev_nx rfl ?_
  refine ev_si rfl rfl (by decide) rfl rfl rfl rfl (f_in _ _ _ _) ?_
  refine ev_nx rfl ?_
  refine ev_ne0 (fun b6 => ?_) (fun b6 => ?_)
  · exfalso; omega
  · refine ev_nx rfl ?_
    exact ev_ri rfl rfl rfl ⟨rfl, rfl⟩
theorem b8_clear {a : Int32} (X : XH V h) (hb : ¬ (wi a (nI 1) (nI 3) = 1)) : Ec (d + 4) m_X8_clear [.ref 0, .int a] h (rt (.int (-(nI 1))) h) := by
  have hw0 := wi_lt a (nI 1) (nI 3)
  refine ec_in [some (.ref 0), some (.int a), none, none] rfl rfl ?_
  refine ev_nx rfl ?_
  refine ev_si rfl rfl (by decide) rfl rfl rfl rfl (ec_le (by omega) (e_isBeats _ _)) ?_
  refine ev_nx rfl ?_
  refine ev_ne0 (fun b4 => ?_) (fun b4 => ?_)
  · exfalso; omega
  · refine ev_nx rfl ?_
    exact ev_ri rfl rfl rfl ⟨rfl, rfl⟩
theorem b9_like {a : Int32} (hJ : Mq z y st h) (hme : 0 < z.1.2.1) (hb : ¬ (wi a (nI 0) (nI 30) = 1)) : Ec (d + 4) m_X9_like [.ref 0, .int a] h (rt (.int (-(nI 1))) h) := by
  have hw0 := wi_lt a (nI 0) (nI 30)
  refine ec_in [some (.ref 0), some (.int a), none, none] rfl rfl ?_
  iterate 3 refine ev_nx rfl ?_
  refine ev_si rfl rfl (by decide) rfl rfl rfl rfl (f_in _ _ _ _) ?_
  refine ev_nx rfl ?_
  refine ev_ne0 (fun b7 => ?_) (fun b7 => ?_)
  · exfalso; omega
  · refine ev_nx rfl ?_
    exact ev_ri rfl rfl rfl ⟨rfl, rfl⟩
theorem b8_like {a : Int32} (X : XH V h) (hb : ¬ (wi a (nI 0) (nI 30) = 1)) : Ec (d + 4) m_X8_like [.ref 0, .int a] h (rt (.int (-(nI 1))) h) := by
  have hw0 := wi_lt a (nI 0) (nI 30)
  refine ec_in [some (.ref 0), some (.int a), none, none] rfl rfl ?_
  iterate 3 refine ev_nx rfl ?_
  refine ev_si rfl rfl (by decide) rfl rfl rfl rfl (ec_le (by omega) (e_within _ _ _ _)) ?_
  refine ev_nx rfl ?_
  refine ev_ne0 (fun b7 => ?_) (fun b7 => ?_)
  · exfalso; omega
  · refine ev_nx rfl ?_
    exact ev_ri rfl rfl rfl ⟨rfl, rfl⟩
theorem b9_mending {a b c : Int32} (hJ : Mq z y st h) (hme : 0 < z.1.2.1) (hb : ¬ (wi a (nI 0) (nI (z.1.2.1 - 1)) = 1 ∧ wi b (nI 1) (nI 3) = 1 ∧ wi c (nI 0) (nI 3) = 1)) : Ec (d + 4) m_X9_mending [.ref 0, .int a, .int b, .int c] h (rt (.int (-(nI 1))) h) := by
  have hw0 := wi_lt a (nI 0) (nI (z.1.2.1 - 1))
  have hw1 := wi_lt b (nI 1) (nI 3)
  have hw2 := wi_lt c (nI 0) (nI 3)
  have hi0 := isp_lt b c
  have hi : isp b c = 1 ↔ (wi b (nI 1) (nI 3) = 1 ∧ wi c (nI 0) (nI 3) = 1) := by unfold isp; split <;> omega
  refine ec_in [some (.ref 0), some (.int a), some (.int b), some (.int c), none, none, none] rfl rfl ?_
  iterate 2 refine ev_nx rfl ?_
  refine ev_vi rfl rfl rfl rfl rfl rfl (Mq_0 hJ) rfl (f_isMessage hJ hme) ?_
  refine ev_nx rfl ?_
  refine ev_eq0 (fun b5 => ?_) (fun b5 => ?_)
  · refine ev_nx rfl ?_
    exact ev_ri rfl rfl rfl ⟨rfl, rfl⟩
  · iterate 2 refine ev_nx rfl ?_
    refine ev_si rfl rfl (by decide) rfl rfl rfl rfl (f_isPace _ _ _) ?_
    refine ev_nx rfl ?_
    refine ev_ne0 (fun b13 => ?_) (fun b13 => ?_)
    · exfalso; omega
    · refine ev_nx rfl ?_
      exact ev_ri rfl rfl rfl ⟨rfl, rfl⟩
theorem b8_mending {a b c : Int32} (X : XH V h) (hb : ¬ (wi a (nI 0) (nI (V.2.1.2.2 - 1)) = 1 ∧ wi b (nI 1) (nI 3) = 1 ∧ wi c (nI 0) (nI 3) = 1)) : Ec (d + 4) m_X8_mending [.ref 0, .int a, .int b, .int c] h (rt (.int (-(nI 1))) h) := by
  have hw0 := wi_lt a (nI 0) (nI (V.2.1.2.2 - 1))
  have hw1 := wi_lt b (nI 1) (nI 3)
  have hw2 := wi_lt c (nI 0) (nI 3)
  have hi0 : isy V a b c < 2 := by unfold isy; split <;> omega
  have hi : isy V a b c = 1 ↔ (wi a (nI 0) (nI (V.2.1.2.2 - 1)) = 1 ∧ wi b (nI 1) (nI 3) = 1 ∧ wi c (nI 0) (nI 3) = 1) := by unfold isy; split <;> omega
  refine ec_in [some (.ref 0), some (.int a), some (.int b), some (.int c), none, none] rfl rfl ?_
  iterate 4 refine ev_nx rfl ?_
  refine ev_vi rfl rfl rfl rfl rfl rfl X.1.2 rfl (c_isSaying X) ?_
  refine ev_nx rfl ?_
  refine ev_ne0 (fun b7 => ?_) (fun b7 => ?_)
  · exfalso; omega
  · refine ev_nx rfl ?_
    exact ev_ri rfl rfl rfl ⟨rfl, rfl⟩
theorem b9_changing {a b c e : Int32} (hJ : Mq z y st h) (hme : 0 < z.1.2.1) (hb : ¬ (wi a (nI 0) (nI (z.1.2.1 - 1)) = 1 ∧ wi b (nI 1) (nI 3) = 1 ∧ wi c (nI 0) (nI 3) = 1 ∧ wi e (nI 0) (nI 1) = 1)) : Ec (d + 4) m_X9_changing [.ref 0, .int a, .int b, .int c, .int e] h (rt (.int (-(nI 1))) h) := by
  have hw0 := wi_lt a (nI 0) (nI (z.1.2.1 - 1))
  have hw1 := wi_lt b (nI 1) (nI 3)
  have hw2 := wi_lt c (nI 0) (nI 3)
  have hw3 := wi_lt e (nI 0) (nI 1)
  have hi0 := isp_lt b c
  have hi : isp b c = 1 ↔ (wi b (nI 1) (nI 3) = 1 ∧ wi c (nI 0) (nI 3) = 1) := by unfold isp; split <;> omega
  refine ec_in [some (.ref 0), some (.int a), some (.int b), some (.int c), some (.int e), none, none, none, none, none] rfl rfl ?_
  iterate 2 refine ev_nx rfl ?_
  refine ev_vi rfl rfl rfl rfl rfl rfl (Mq_0 hJ) rfl (f_isMessage hJ hme) ?_
  refine ev_nx rfl ?_
  refine ev_eq0 (fun b5 => ?_) (fun b5 => ?_)
  · refine ev_nx rfl ?_
    exact ev_ri rfl rfl rfl ⟨rfl, rfl⟩
  · iterate 2 refine ev_nx rfl ?_
    refine ev_si rfl rfl (by decide) rfl rfl rfl rfl (f_isPace _ _ _) ?_
    refine ev_nx rfl ?_
    refine ev_eq0 (fun b13 => ?_) (fun b13 => ?_)
    · refine ev_nx rfl ?_
      exact ev_ri rfl rfl rfl ⟨rfl, rfl⟩
    · iterate 3 refine ev_nx rfl ?_
      refine ev_si rfl rfl (by decide) rfl rfl rfl rfl (f_in _ _ _ _) ?_
      refine ev_nx rfl ?_
      refine ev_ne0 (fun b23 => ?_) (fun b23 => ?_)
      · exfalso; omega
      · refine ev_nx rfl ?_
        exact ev_ri rfl rfl rfl ⟨rfl, rfl⟩
theorem b8_changing {a b c e : Int32} (X : XH V h) (hb : ¬ (wi a (nI 0) (nI (V.2.1.2.2 - 1)) = 1 ∧ wi b (nI 1) (nI 3) = 1 ∧ wi c (nI 0) (nI 3) = 1 ∧ wi e (nI 0) (nI 1) = 1)) : Ec (d + 4) m_X8_changing [.ref 0, .int a, .int b, .int c, .int e] h (rt (.int (-(nI 1))) h) := by
  have hw0 := wi_lt a (nI 0) (nI (V.2.1.2.2 - 1))
  have hw1 := wi_lt b (nI 1) (nI 3)
  have hw2 := wi_lt c (nI 0) (nI 3)
  have hw3 := wi_lt e (nI 0) (nI 1)
  have hi0 : isy V a b c < 2 := by unfold isy; split <;> omega
  have hi : isy V a b c = 1 ↔ (wi a (nI 0) (nI (V.2.1.2.2 - 1)) = 1 ∧ wi b (nI 1) (nI 3) = 1 ∧ wi c (nI 0) (nI 3) = 1) := by unfold isy; split <;> omega
  refine ec_in [some (.ref 0), some (.int a), some (.int b), some (.int c), some (.int e), none, none, none, none, none] rfl rfl ?_
  iterate 4 refine ev_nx rfl ?_
  refine ev_vi rfl rfl rfl rfl rfl rfl X.1.2 rfl (c_isSaying X) ?_
  refine ev_nx rfl ?_
  refine ev_eq0 (fun b7 => ?_) (fun b7 => ?_)
  · refine ev_nx rfl ?_
    exact ev_ri rfl rfl rfl ⟨rfl, rfl⟩
  · iterate 3 refine ev_nx rfl ?_
    refine ev_si rfl rfl (by decide) rfl rfl rfl rfl (ec_le (by omega) (e_within _ _ _ _)) ?_
    refine ev_nx rfl ?_
    refine ev_ne0 (fun b17 => ?_) (fun b17 => ?_)
    · exfalso; omega
    · refine ev_nx rfl ?_
      exact ev_ri rfl rfl rfl ⟨rfl, rfl⟩
theorem b9_order {a b : Int32} (hJ : Mq z y st h) (hme : 0 < z.1.2.1) (hb : ¬ (wi a (nI 1) (nI 3) = 1 ∧ wi b (-(nI 1)) (nI 4) = 1)) : Ec (d + 4) m_X9_order [.ref 0, .int a, .int b] h (rt (.int (-(nI 1))) h) := by
  have hw0 := wi_lt a (nI 1) (nI 3)
  have hw1 := wi_lt b (-(nI 1)) (nI 4)
  refine ec_in [some (.ref 0), some (.int a), some (.int b), none, none, none] rfl rfl ?_
  iterate 3 refine ev_nx rfl ?_
  refine ev_si rfl rfl (by decide) rfl rfl rfl rfl (f_in _ _ _ _) ?_
  refine ev_nx rfl ?_
  refine ev_eq0 (fun b6 => ?_) (fun b6 => ?_)
  · refine ev_nx rfl ?_
    exact ev_ri rfl rfl rfl ⟨rfl, rfl⟩
  · iterate 3 refine ev_nx rfl ?_
    refine ev_si rfl rfl (by decide) rfl rfl rfl rfl (f_in _ _ _ _) ?_
    refine ev_nx rfl ?_
    refine ev_ne0 (fun b15 => ?_) (fun b15 => ?_)
    · exfalso; omega
    · refine ev_nx rfl ?_
      exact ev_ri rfl rfl rfl ⟨rfl, rfl⟩
theorem b8_order {a b : Int32} (X : XH V h) (hb : ¬ (wi a (nI 1) (nI 3) = 1 ∧ wi b (-(nI 1)) (nI 4) = 1)) : Ec (d + 4) m_X8_order [.ref 0, .int a, .int b] h (rt (.int (-(nI 1))) h) := by
  have hw0 := wi_lt a (nI 1) (nI 3)
  have hw1 := wi_lt b (-(nI 1)) (nI 4)
  refine ec_in [some (.ref 0), some (.int a), some (.int b)] rfl rfl ?_
  refine ev_nx rfl ?_
  refine ev_si rfl rfl (by decide) rfl rfl rfl rfl (ec_le (by omega) (e_isBeats _ _)) ?_
  refine ev_nx rfl ?_
  refine ev_eq0 (fun b4 => ?_) (fun b4 => ?_)
  · refine ev_nx rfl ?_
    exact ev_ri rfl rfl rfl ⟨rfl, rfl⟩
  · iterate 3 refine ev_nx rfl ?_
    refine ev_si rfl rfl (by decide) rfl rfl rfl rfl (ec_le (by omega) (e_within _ _ _ _)) ?_
    refine ev_nx rfl ?_
    refine ev_ne0 (fun b13 => ?_) (fun b13 => ?_)
    · exfalso; omega
    · refine ev_nx rfl ?_
      exact ev_ri rfl rfl rfl ⟨rfl, rfl⟩
theorem b9_see {a b : Int32} (hJ : Mq z y st h) (hme : 0 < z.1.2.1) (hb : ¬ (wi a (nI 0) (nI 29) = 1 ∧ wi b (nI 0) (nI 31) = 1)) : Ec (d + 4) m_X9_see [.ref 0, .int a, .int b] h (rt (.int (-(nI 1))) h) := by
  have hw0 := wi_lt a (nI 0) (nI 29)
  have hw1 := wi_lt b (nI 0) (nI 31)
  refine ec_in [some (.ref 0), some (.int a), some (.int b)] rfl rfl ?_
  iterate 3 refine ev_nx rfl ?_
  refine ev_si rfl rfl (by decide) rfl rfl rfl rfl (f_in _ _ _ _) ?_
  refine ev_nx rfl ?_
  refine ev_eq0 (fun b7 => ?_) (fun b7 => ?_)
  · refine ev_nx rfl ?_
    exact ev_ri rfl rfl rfl ⟨rfl, rfl⟩
  · iterate 3 refine ev_nx rfl ?_
    refine ev_si rfl rfl (by decide) rfl rfl rfl rfl (f_in _ _ _ _) ?_
    refine ev_nx rfl ?_
    refine ev_ne0 (fun b17 => ?_) (fun b17 => ?_)
    · exfalso; omega
    · refine ev_nx rfl ?_
      exact ev_ri rfl rfl rfl ⟨rfl, rfl⟩
theorem b8_see {a b : Int32} (X : XH V h) (hb : ¬ (wi a (nI 0) (nI 29) = 1 ∧ wi b (nI 0) (nI 31) = 1)) : Ec (d + 4) m_X8_see [.ref 0, .int a, .int b] h (rt (.int (-(nI 1))) h) := by
  have hw0 := wi_lt a (nI 0) (nI 29)
  have hw1 := wi_lt b (nI 0) (nI 31)
  refine ec_in [some (.ref 0), some (.int a), some (.int b)] rfl rfl ?_
  iterate 3 refine ev_nx rfl ?_
  refine ev_si rfl rfl (by decide) rfl rfl rfl rfl (ec_le (by omega) (e_within _ _ _ _)) ?_
  refine ev_nx rfl ?_
  refine ev_eq0 (fun b7 => ?_) (fun b7 => ?_)
  · refine ev_nx rfl ?_
    exact ev_ri rfl rfl rfl ⟨rfl, rfl⟩
  · iterate 3 refine ev_nx rfl ?_
    refine ev_si rfl rfl (by decide) rfl rfl rfl rfl (ec_le (by omega) (e_within _ _ _ _)) ?_
    refine ev_nx rfl ?_
    refine ev_ne0 (fun b17 => ?_) (fun b17 => ?_)
    · exfalso; omega
    · refine ev_nx rfl ?_
      exact ev_ri rfl rfl rfl ⟨rfl, rfl⟩
theorem b9_tries {a : Int32} (hJ : Mq z y st h) (hme : 0 < z.1.2.1) (hb : ¬ (wi a (nI 0) (nI 1) = 1)) : Ec (d + 4) m_X9_tries [.ref 0, .int a] h (rt (.int (-(nI 1))) h) := by
  have hw0 := wi_lt a (nI 0) (nI 1)
  refine ec_in [some (.ref 0), some (.int a), none, none, none, none, none, none] rfl rfl ?_
  iterate 3 refine ev_nx rfl ?_
  refine ev_si rfl rfl (by decide) rfl rfl rfl rfl (f_in _ _ _ _) ?_
  refine ev_nx rfl ?_
  refine ev_ne0 (fun b6 => ?_) (fun b6 => ?_)
  · exfalso; omega
  · refine ev_nx rfl ?_
    exact ev_ri rfl rfl rfl ⟨rfl, rfl⟩
theorem b8_tries {a : Int32} (X : XH V h) (hb : ¬ (wi a (nI 0) (nI 1) = 1)) : Ec (d + 4) m_X8_tries [.ref 0, .int a] h (rt (.int (-(nI 1))) h) := by
  have hw0 := wi_lt a (nI 0) (nI 1)
  refine ec_in [some (.ref 0), some (.int a), none, none] rfl rfl ?_
  iterate 3 refine ev_nx rfl ?_
  refine ev_si rfl rfl (by decide) rfl rfl rfl rfl (ec_le (by omega) (e_within _ _ _ _)) ?_
  refine ev_nx rfl ?_
  refine ev_ne0 (fun b6 => ?_) (fun b6 => ?_)
  · exfalso; omega
  · refine ev_nx rfl ?_
    exact ev_ri rfl rfl rfl ⟨rfl, rfl⟩
theorem b9_hear {a : Int32} (hJ : Mq z y st h) (hme : 0 < z.1.2.1) (hb : ¬ ((wi a (nI 0) (nI 19) = 1 ∨ a = nI 31))) : Ec (d + 4) m_X9_hear [.ref 0, .int a] h (rt (.int (-(nI 1))) h) := by
  have hw0 := wi_lt a (nI 0) (nI 19)
  refine ec_in [some (.ref 0), some (.int a)] rfl rfl ?_
  iterate 3 refine ev_nx rfl ?_
  refine ev_si rfl rfl (by decide) rfl rfl rfl rfl (f_in _ _ _ _) ?_
  refine ev_nx rfl ?_
  refine ev_ne0 (fun b7 => ?_) (fun b7 => ?_)
  · first | exact (hb (.inr b13)).elim | exact (hb (.inl (by omega))).elim
  · iterate 3 refine ev_nx rfl ?_
    refine ev_c (P := a = nI 31) (by simp [am_c2]) (fun b13 => ?_) (fun b13 => ?_)
    · first | exact (hb (.inr b13)).elim | exact (hb (.inl (by omega))).elim
    · refine ev_nx rfl ?_
      exact ev_ri rfl rfl rfl ⟨rfl, rfl⟩
theorem b8_hear {a : Int32} (X : XH V h) (hb : ¬ ((wi a (nI 0) (nI 19) = 1 ∨ a = nI 31))) : Ec (d + 4) m_X8_hear [.ref 0, .int a] h (rt (.int (-(nI 1))) h) := by
  have hw0 := wi_lt a (nI 0) (nI 19)
  refine ec_in [some (.ref 0), some (.int a)] rfl rfl ?_
  iterate 3 refine ev_nx rfl ?_
  refine ev_si rfl rfl (by decide) rfl rfl rfl rfl (ec_le (by omega) (e_within _ _ _ _)) ?_
  refine ev_nx rfl ?_
  refine ev_ne0 (fun b7 => ?_) (fun b7 => ?_)
  · first | exact (hb (.inr b13)).elim | exact (hb (.inl (by omega))).elim
  · iterate 3 refine ev_nx rfl ?_
    refine ev_c (P := a = nI 31) (by simp [am_c2]) (fun b13 => ?_) (fun b13 => ?_)
    · first | exact (hb (.inr b13)).elim | exact (hb (.inl (by omega))).elim
    · refine ev_nx rfl ?_
      exact ev_ri rfl rfl rfl ⟨rfl, rfl⟩
theorem b9_forget {a : Int32} (hJ : Mq z y st h) (hme : 0 < z.1.2.1) (hb : ¬ (wi a (nI 0) (nI 1) = 1)) : Ec (d + 4) m_X9_forget [.ref 0, .int a] h (rt (.int (-(nI 1))) h) := by
  have hw0 := wi_lt a (nI 0) (nI 1)
  refine ec_in [some (.ref 0), some (.int a), none] rfl rfl ?_
  iterate 3 refine ev_nx rfl ?_
  refine ev_si rfl rfl (by decide) rfl rfl rfl rfl (f_in _ _ _ _) ?_
  refine ev_nx rfl ?_
  refine ev_ne0 (fun b6 => ?_) (fun b6 => ?_)
  · exfalso; omega
  · refine ev_nx rfl ?_
    exact ev_ri rfl rfl rfl ⟨rfl, rfl⟩
theorem b8_forget {a : Int32} (X : XH V h) (hb : ¬ (wi a (nI 0) (nI 1) = 1)) : Ec (d + 4) m_X8_forget [.ref 0, .int a] h (rt (.int (-(nI 1))) h) := by
  have hw0 := wi_lt a (nI 0) (nI 1)
  refine ec_in [some (.ref 0), some (.int a)] rfl rfl ?_
  iterate 3 refine ev_nx rfl ?_
  refine ev_si rfl rfl (by decide) rfl rfl rfl rfl (ec_le (by omega) (e_within _ _ _ _)) ?_
  refine ev_nx rfl ?_
  refine ev_ne0 (fun b6 => ?_) (fun b6 => ?_)
  · exfalso; omega
  · refine ev_nx rfl ?_
    exact ev_ri rfl rfl rfl ⟨rfl, rfl⟩
theorem b9_duel {a b : Int32} (hJ : Mq z y st h) (hme : 0 < z.1.2.1) (hb : ¬ (wi a (nI 0) (nI (z.1.2.1 - 1)) = 1 ∧ wi b (nI 0) (nI 4) = 1)) : Ec (d + 4) m_X9_duel [.ref 0, .int a, .int b] h (rt (.int (-(nI 1))) h) := by
  have hw0 := wi_lt a (nI 0) (nI (z.1.2.1 - 1))
  have hw1 := wi_lt b (nI 0) (nI 4)
  refine ec_in [some (.ref 0), some (.int a), some (.int b), none, none, none] rfl rfl ?_
  iterate 2 refine ev_nx rfl ?_
  refine ev_vi rfl rfl rfl rfl rfl rfl (Mq_0 hJ) rfl (f_isMessage hJ hme) ?_
  refine ev_nx rfl ?_
  refine ev_eq0 (fun b5 => ?_) (fun b5 => ?_)
  · refine ev_nx rfl ?_
    exact ev_ri rfl rfl rfl ⟨rfl, rfl⟩
  · iterate 3 refine ev_nx rfl ?_
    refine ev_si rfl rfl (by decide) rfl rfl rfl rfl (f_in _ _ _ _) ?_
    refine ev_nx rfl ?_
    refine ev_ne0 (fun b14 => ?_) (fun b14 => ?_)
    · exfalso; omega
    · refine ev_nx rfl ?_
      exact ev_ri rfl rfl rfl ⟨rfl, rfl⟩
theorem b8_duel {a b : Int32} (X : XH V h) (hb : ¬ (wi a (nI 0) (nI (V.2.1.2.2 - 1)) = 1 ∧ wi b (nI 0) (nI 4) = 1)) : Ec (d + 4) m_X8_duel [.ref 0, .int a, .int b] h (rt (.int (-(nI 1))) h) := by
  have hw0 := wi_lt a (nI 0) (nI (V.2.1.2.2 - 1))
  have hw1 := wi_lt b (nI 0) (nI 4)
  refine ec_in [some (.ref 0), some (.int a), some (.int b)] rfl rfl ?_
  iterate 2 refine ev_nx rfl ?_
  refine ev_vi rfl rfl rfl rfl rfl rfl X.1.2 rfl (c_isMessage X) ?_
  refine ev_nx rfl ?_
  refine ev_eq0 (fun b5 => ?_) (fun b5 => ?_)
  · refine ev_nx rfl ?_
    exact ev_ri rfl rfl rfl ⟨rfl, rfl⟩
  · iterate 3 refine ev_nx rfl ?_
    refine ev_si rfl rfl (by decide) rfl rfl rfl rfl (ec_le (by omega) (e_within _ _ _ _)) ?_
    refine ev_nx rfl ?_
    refine ev_ne0 (fun b14 => ?_) (fun b14 => ?_)
    · exfalso; omega
    · refine ev_nx rfl ?_
      exact ev_ri rfl rfl rfl ⟨rfl, rfl⟩
theorem b9_odds {a b c : Int32} (hJ : Mq z y st h) (hme : 0 < z.1.2.1) (hb : ¬ (wi a (nI 0) (nI 29) = 1 ∧ wi b (nI 0) (nI 10) = 1 ∧ wi c (nI 0) (nI 1) = 1)) : Ec (d + 4) m_X9_odds [.ref 0, .int a, .int b, .int c] h (rt (.int (-(nI 1))) h) := by
  have hw0 := wi_lt a (nI 0) (nI 29)
  have hw1 := wi_lt b (nI 0) (nI 10)
  have hw2 := wi_lt c (nI 0) (nI 1)
  refine ec_in [some (.ref 0), some (.int a), some (.int b), some (.int c)] rfl rfl ?_
  iterate 3 refine ev_nx rfl ?_
  refine ev_si rfl rfl (by decide) rfl rfl rfl rfl (f_in _ _ _ _) ?_
  refine ev_nx rfl ?_
  refine ev_eq0 (fun b7 => ?_) (fun b7 => ?_)
  · refine ev_nx rfl ?_
    exact ev_ri rfl rfl rfl ⟨rfl, rfl⟩
  · iterate 3 refine ev_nx rfl ?_
    refine ev_si rfl rfl (by decide) rfl rfl rfl rfl (f_in _ _ _ _) ?_
    refine ev_nx rfl ?_
    refine ev_eq0 (fun b17 => ?_) (fun b17 => ?_)
    · refine ev_nx rfl ?_
      exact ev_ri rfl rfl rfl ⟨rfl, rfl⟩
    · iterate 3 refine ev_nx rfl ?_
      refine ev_si rfl rfl (by decide) rfl rfl rfl rfl (f_in _ _ _ _) ?_
      refine ev_nx rfl ?_
      refine ev_ne0 (fun b26 => ?_) (fun b26 => ?_)
      · exfalso; omega
      · refine ev_nx rfl ?_
        exact ev_ri rfl rfl rfl ⟨rfl, rfl⟩
theorem b8_odds {a b c : Int32} (X : XH V h) (hb : ¬ (wi a (nI 0) (nI 29) = 1 ∧ wi b (nI 0) (nI 10) = 1 ∧ wi c (nI 0) (nI 1) = 1)) : Ec (d + 4) m_X8_odds [.ref 0, .int a, .int b, .int c] h (rt (.int (-(nI 1))) h) := by
  have hw0 := wi_lt a (nI 0) (nI 29)
  have hw1 := wi_lt b (nI 0) (nI 10)
  have hw2 := wi_lt c (nI 0) (nI 1)
  refine ec_in [some (.ref 0), some (.int a), some (.int b), some (.int c)] rfl rfl ?_
  iterate 3 refine ev_nx rfl ?_
  refine ev_si rfl rfl (by decide) rfl rfl rfl rfl (ec_le (by omega) (e_within _ _ _ _)) ?_
  refine ev_nx rfl ?_
  refine ev_eq0 (fun b7 => ?_) (fun b7 => ?_)
  · refine ev_nx rfl ?_
    exact ev_ri rfl rfl rfl ⟨rfl, rfl⟩
  · iterate 3 refine ev_nx rfl ?_
    refine ev_si rfl rfl (by decide) rfl rfl rfl rfl (ec_le (by omega) (e_within _ _ _ _)) ?_
    refine ev_nx rfl ?_
    refine ev_eq0 (fun b17 => ?_) (fun b17 => ?_)
    · refine ev_nx rfl ?_
      exact ev_ri rfl rfl rfl ⟨rfl, rfl⟩
    · iterate 3 refine ev_nx rfl ?_
      refine ev_si rfl rfl (by decide) rfl rfl rfl rfl (ec_le (by omega) (e_within _ _ _ _)) ?_
      refine ev_nx rfl ?_
      refine ev_ne0 (fun b26 => ?_) (fun b26 => ?_)
      · exfalso; omega
      · refine ev_nx rfl ?_
        exact ev_ri rfl rfl rfl ⟨rfl, rfl⟩
theorem b9_mean {a b c : Int32} (hJ : Mq z y st h) (hme : 0 < z.1.2.1) (hb : ¬ (wi a (nI 0) (nI (z.1.2.1 - 1)) = 1 ∧ wi b (nI 0) (nI 10) = 1 ∧ wi c (nI 0) (nI 1) = 1)) : Ec (d + 4) m_X9_mean [.ref 0, .int a, .int b, .int c] h (rt (.int (-(nI 1))) h) := by
  have hw0 := wi_lt a (nI 0) (nI (z.1.2.1 - 1))
  have hw1 := wi_lt b (nI 0) (nI 10)
  have hw2 := wi_lt c (nI 0) (nI 1)
  refine ec_in [some (.ref 0), some (.int a), some (.int b), some (.int c), none, none] rfl rfl ?_
  iterate 2 refine ev_nx rfl ?_
  refine ev_vi rfl rfl rfl rfl rfl rfl (Mq_0 hJ) rfl (f_isMessage hJ hme) ?_
  refine ev_nx rfl ?_
  refine ev_eq0 (fun b5 => ?_) (fun b5 => ?_)
  · refine ev_nx rfl ?_
    exact ev_ri rfl rfl rfl ⟨rfl, rfl⟩
  · iterate 3 refine ev_nx rfl ?_
    refine ev_si rfl rfl (by decide) rfl rfl rfl rfl (f_in _ _ _ _) ?_
    refine ev_nx rfl ?_
    refine ev_eq0 (fun b15 => ?_) (fun b15 => ?_)
    · refine ev_nx rfl ?_
      exact ev_ri rfl rfl rfl ⟨rfl, rfl⟩
    · iterate 3 refine ev_nx rfl ?_
      refine ev_si rfl rfl (by decide) rfl rfl rfl rfl (f_in _ _ _ _) ?_
      refine ev_nx rfl ?_
      refine ev_ne0 (fun b24 => ?_) (fun b24 => ?_)
      · exfalso; omega
      · refine ev_nx rfl ?_
        exact ev_ri rfl rfl rfl ⟨rfl, rfl⟩
theorem b8_mean {a b c : Int32} (X : XH V h) (hb : ¬ (wi a (nI 0) (nI (V.2.1.2.2 - 1)) = 1 ∧ wi b (nI 0) (nI 10) = 1 ∧ wi c (nI 0) (nI 1) = 1)) : Ec (d + 4) m_X8_mean [.ref 0, .int a, .int b, .int c] h (rt (.int (-(nI 1))) h) := by
  have hw0 := wi_lt a (nI 0) (nI (V.2.1.2.2 - 1))
  have hw1 := wi_lt b (nI 0) (nI 10)
  have hw2 := wi_lt c (nI 0) (nI 1)
  refine ec_in [some (.ref 0), some (.int a), some (.int b), some (.int c), none, none] rfl rfl ?_
  iterate 2 refine ev_nx rfl ?_
  refine ev_vi rfl rfl rfl rfl rfl rfl X.1.2 rfl (c_isMessage X) ?_
  refine ev_nx rfl ?_
  refine ev_eq0 (fun b5 => ?_) (fun b5 => ?_)
  · refine ev_nx rfl ?_
    exact ev_ri rfl rfl rfl ⟨rfl, rfl⟩
  · iterate 3 refine ev_nx rfl ?_
    refine ev_si rfl rfl (by decide) rfl rfl rfl rfl (ec_le (by omega) (e_within _ _ _ _)) ?_
    refine ev_nx rfl ?_
    refine ev_eq0 (fun b15 => ?_) (fun b15 => ?_)
    · refine ev_nx rfl ?_
      exact ev_ri rfl rfl rfl ⟨rfl, rfl⟩
    · iterate 3 refine ev_nx rfl ?_
      refine ev_si rfl rfl (by decide) rfl rfl rfl rfl (ec_le (by omega) (e_within _ _ _ _)) ?_
      refine ev_nx rfl ?_
      refine ev_ne0 (fun b24 => ?_) (fun b24 => ?_)
      · exfalso; omega
      · refine ev_nx rfl ?_
        exact ev_ri rfl rfl rfl ⟨rfl, rfl⟩
theorem b9_day {a b c : Int32} (hJ : Mq z y st h) (hme : 0 < z.1.2.1) (hb : ¬ (wi a (nI 0) (nI 9999) = 1 ∧ wi b (nI 1) (nI 60) = 1 ∧ wi c (nI 0) (nI 2) = 1)) : Ec (d + 4) m_X9_day [.ref 0, .int a, .int b, .int c] h (rt (.int (-(nI 1))) h) := by
  have hw0 := wi_lt a (nI 0) (nI 9999)
  have hw1 := wi_lt b (nI 1) (nI 60)
  have hw2 := wi_lt c (nI 0) (nI 2)
  refine ec_in [some (.ref 0), some (.int a), some (.int b), some (.int c), none, none, none, none, none, none, none] rfl rfl ?_
  iterate 3 refine ev_nx rfl ?_
  refine ev_si rfl rfl (by decide) rfl rfl rfl rfl (f_in _ _ _ _) ?_
  refine ev_nx rfl ?_
  refine ev_eq0 (fun b8 => ?_) (fun b8 => ?_)
  · refine ev_nx rfl ?_
    exact ev_ri rfl rfl rfl ⟨rfl, rfl⟩
  · iterate 3 refine ev_nx rfl ?_
    refine ev_si rfl rfl (by decide) rfl rfl rfl rfl (f_in _ _ _ _) ?_
    refine ev_nx rfl ?_
    refine ev_eq0 (fun b18 => ?_) (fun b18 => ?_)
    · refine ev_nx rfl ?_
      exact ev_ri rfl rfl rfl ⟨rfl, rfl⟩
    · iterate 3 refine ev_nx rfl ?_
      refine ev_si rfl rfl (by decide) rfl rfl rfl rfl (f_in _ _ _ _) ?_
      refine ev_nx rfl ?_
      refine ev_ne0 (fun b27 => ?_) (fun b27 => ?_)
      · exfalso; omega
      · refine ev_nx rfl ?_
        exact ev_ri rfl rfl rfl ⟨rfl, rfl⟩
theorem b8_day {a b c : Int32} (X : XH V h) (hb : ¬ (wi a (nI 0) (nI 9999) = 1 ∧ wi b (nI 1) (nI 60) = 1 ∧ wi c (nI 0) (nI 2) = 1)) : Ec (d + 4) m_X8_day [.ref 0, .int a, .int b, .int c] h (rt (.int (-(nI 1))) h) := by
  have hw0 := wi_lt a (nI 0) (nI 9999)
  have hw1 := wi_lt b (nI 1) (nI 60)
  have hw2 := wi_lt c (nI 0) (nI 2)
  refine ec_in [some (.ref 0), some (.int a), some (.int b), some (.int c), none, none, none, none, none, none] rfl rfl ?_
  iterate 3 refine ev_nx rfl ?_
  refine ev_si rfl rfl (by decide) rfl rfl rfl rfl (ec_le (by omega) (e_within _ _ _ _)) ?_
  refine ev_nx rfl ?_
  refine ev_eq0 (fun b8 => ?_) (fun b8 => ?_)
  · refine ev_nx rfl ?_
    exact ev_ri rfl rfl rfl ⟨rfl, rfl⟩
  · iterate 3 refine ev_nx rfl ?_
    refine ev_si rfl rfl (by decide) rfl rfl rfl rfl (ec_le (by omega) (e_within _ _ _ _)) ?_
    refine ev_nx rfl ?_
    refine ev_eq0 (fun b18 => ?_) (fun b18 => ?_)
    · refine ev_nx rfl ?_
      exact ev_ri rfl rfl rfl ⟨rfl, rfl⟩
    · iterate 3 refine ev_nx rfl ?_
      refine ev_si rfl rfl (by decide) rfl rfl rfl rfl (ec_le (by omega) (e_within _ _ _ _)) ?_
      refine ev_nx rfl ?_
      refine ev_ne0 (fun b27 => ?_) (fun b27 => ?_)
      · exfalso; omega
      · refine ev_nx rfl ?_
        exact ev_ri rfl rfl rfl ⟨rfl, rfl⟩
theorem ev_td {m : aM} {pc np r p : Nat} {L : aL} {S : List Value} {QQ : Option Value → aH → Prop} {dd lo hi : Int} {offs : Array Int} {x : Int32} (hc : am_cd m pc = some (.tableswitch dd lo hi offs, np, r)) (hx : x.toInt < lo ∨ hi < x.toInt) (hp : 0 ≤ (pc : Int) + dd ∧ am_jmp pc dd = p) (k : Ev d m p L S h QQ) : Ev d m pc L (.int x :: S) h QQ := by
  refine ev_nx (pc' := p) (L' := L) (S' := S) (h' := h) ?_ k
  simp only [am_go, hc, am_op, am_tsw, if_pos hx, if_pos hp.1, hp.2, am_nx]
theorem wi_out {x : Int32} {n : Nat} (hn : n < 1000) (hw : ¬ wi x (nI 0) (nI n) = 1) : x.toInt < 0 ∨ (n : Int) < x.toInt := by
  unfold wi at hw
  by_cases h : nI 0 ≤ x ∧ x ≤ nI n
  · rw [if_pos h] at hw; exact absurd rfl hw
  · have e0 : (nI 0).toInt = 0 := nI_toInt (by decide)
    have en : (nI n).toInt = n := nI_toInt (by omega)
    rcases Int.lt_or_le x.toInt 0 with q | q
    · exact .inl q
    · right
      rcases Int.lt_or_le (n : Int) x.toInt with r | r
      · exact r
      · exact absurd ⟨Int32.le_iff_toInt_le.mpr (by omega), Int32.le_iff_toInt_le.mpr (by omega)⟩ h
theorem b9_count {a : Int32} (hb : ¬ wi a (nI 0) (nI 9) = 1) : Ec (d + 4) m_X9_count [.ref 0, .int a] h (rt (.int (-(nI 1))) h) := by
  refine ec_in [some (.ref 0), some (.int a)] rfl rfl ?_
  refine ev_nx rfl ?_
  refine ev_td (p := 122) rfl (wi_out (by decide) hb) (by decide) ?_
  refine ev_nx rfl ?_
  exact ev_ri rfl rfl rfl ⟨rfl, rfl⟩
theorem b8_count {a : Int32} (hb : ¬ wi a (nI 0) (nI 9) = 1) : Ec (d + 4) m_X8_count [.ref 0, .int a] h (rt (.int (-(nI 1))) h) := by
  refine ec_in [some (.ref 0), some (.int a)] rfl rfl ?_
  refine ev_nx rfl ?_
  refine ev_td (p := 145) rfl (wi_out (by decide) hb) (by decide) ?_
  refine ev_nx rfl ?_
  exact ev_ri rfl rfl rfl ⟨rfl, rfl⟩
end BA
