/-! numbers -/
theorem sh31 : ∀ p : Fin 32, ((nI p.val &&& 31).toBitVec.smod 32).toNat = p.val := by decide +kernel
theorem n_shr {c p : Nat} (hc : c < 2147483648) (hp : p < 32) : nI c >>> (nI p &&& 31) = nI (c / 2 ^ p) := pk_shrN hc _ p (sh31 ⟨p, hp⟩)
theorem n_shl {c p : Nat} (hp : p < 32) (hc : c * 2 ^ p < 4294967296) : nI c <<< (nI p &&& 31) = nI (c * 2 ^ p) := pk_shlN _ p (sh31 ⟨p, hp⟩) hc
theorem n_and1 {c : Nat} (hc : c < 4294967296) : nI c &&& nI 1 = nI (c % 2) := pk_andN hc 1 rfl
theorem n_and (a b : Nat) : nI a &&& nI b = nI (a &&& b) := by
  apply Int32.toBitVec_inj.mp
  show BitVec.ofNat 32 a &&& BitVec.ofNat 32 b = BitVec.ofNat 32 (a &&& b)
  exact (BitVec.ofNat_and).symm
theorem n_or (a b : Nat) : nI a ||| nI b = nI (a ||| b) := by
  apply Int32.toBitVec_inj.mp
  show BitVec.ofNat 32 a ||| BitVec.ofNat 32 b = BitVec.ofNat 32 (a ||| b)
  exact (BitVec.ofNat_or).symm
theorem n_xor (a b : Nat) : nI a ^^^ nI b = nI (a ^^^ b) := by
  apply Int32.toBitVec_inj.mp
  show BitVec.ofNat 32 a ^^^ BitVec.ofNat 32 b = BitVec.ofNat 32 (a ^^^ b)
  exact (BitVec.ofNat_xor).symm
def bt (c p : Nat) : Nat := c / 2 ^ p % 2
theorem bt_lt (c p : Nat) : bt c p < 2 := Nat.mod_lt _ (by decide)
def oth (w : Nat) : Nat := if w = 0 then 0 else 3 - w
theorem e_otherWay (w : Nat) (hw : w ≤ 3) (h : aH) : Ec 0 m_X3_otherWay [.int (nI w)] h (rt (.int (nI (oth w))) h) := by
  refine ec_in [some (.int (nI w))] rfl rfl ?_
  iterate 2 refine ev_nx rfl ?_
  refine ev_ne0 (fun hc => ?_) (fun hc => ?_)
  · iterate 3 refine ev_nx rfl ?_
    rw [pk_sub (by omega)]
    exact ev_ri rfl rfl rfl ⟨by rw [oth, if_neg hc], rfl⟩
  · iterate 2 refine ev_nx rfl ?_
    exact ev_ri rfl rfl rfl ⟨by rw [oth, if_pos hc], rfl⟩
theorem e_bitAt (c p : Nat) (hc : c < 2147483648) (hp : p < 32) (h : aH) : Ec 0 m_X8_bitAt [.int (nI c), .int (nI p)] h (rt (.int (nI (bt c p))) h) := by
  refine ec_in [some (.int (nI c)), some (.int (nI p))] rfl rfl ?_
  iterate 5 refine ev_nx rfl ?_
  rw [n_shr hc hp, n_and1 (Nat.lt_of_le_of_lt (Nat.div_le_self _ _) (by omega))]
  exact ev_ri rfl rfl rfl ⟨rfl, rfl⟩
/-- 1 if it is within -/
def wi (x a b : Int32) : Nat := if a ≤ x ∧ x ≤ b then 1 else 0
theorem e_within (x a b : Int32) (h : aH) : Ec 0 m_X8_within [.int x, .int a, .int b] h (rt (.int (nI (wi x a b))) h) := by
  refine ec_in [some (.int x), some (.int a), some (.int b)] rfl rfl ?_
  iterate 3 refine ev_nx rfl ?_
  refine ev_c (P := x < a) (by simp [am_c2]) (fun hc => ?_) (fun hc => ?_)
  · refine ev_nx rfl ?_
    exact ev_ri rfl rfl rfl ⟨by rw [wi, if_neg (fun q => Int32.not_le.mpr hc q.1)], rfl⟩
  · iterate 3 refine ev_nx rfl ?_
    refine ev_c (P := b < x) (by simp [am_c2]) (fun hd => ?_) (fun hd => ?_)
    · refine ev_nx rfl ?_
      exact ev_ri rfl rfl rfl ⟨by rw [wi, if_neg (fun q => Int32.not_le.mpr hd q.2)], rfl⟩
    · iterate 2 refine ev_nx rfl ?_
      exact ev_ri rfl rfl rfl ⟨by rw [wi, if_pos ⟨Int32.not_lt.mp hc, Int32.not_lt.mp hd⟩], rfl⟩
theorem wi_lt (x a b : Int32) : wi x a b < 2 := by unfold wi; split <;> omega
/-- within 0 and n -/
theorem wi_0 {x : Int32} {n : Nat} (hn : n < 2147483648) : (wi x (nI 0) (nI n) = 1 ∧ ∃ j, j ≤ n ∧ x = nI j) ∨ (wi x (nI 0) (nI n) = 0 ∧ ∀ j, j ≤ n → x ≠ nI j) := by
  unfold wi
  by_cases h : nI 0 ≤ x ∧ x ≤ nI n
  · rw [if_pos h]
    left
    refine ⟨rfl, ?_⟩
    obtain ⟨j, h1, h2⟩ := nI_of2 (x := x) (M := nI n) (n := n) (nI_toInt hn) (Int32.not_lt.mpr h.1) h.2
    exact ⟨j, h1, h2⟩
  · rw [if_neg h]
    right
    refine ⟨rfl, fun j hj e => h ?_⟩
    subst e
    exact ⟨nI_le (Nat.zero_le _) (by omega), nI_le hj hn⟩
theorem e_isPlace (x : Int32) (h : aH) : Ec 1 m_X8_isPlace [.int x] h (rt (.int (nI (wi x (nI 0) (nI 4)))) h) := by
  refine ec_in [some (.int x)] rfl rfl ?_
  iterate 3 refine ev_nx rfl ?_
  refine ev_ci rfl rfl (e_within x (nI 0) (nI 4) h) ?_
  refine ev_ri rfl rfl ?_ ⟨rfl, rfl⟩
  rcases (show wi x (nI 0) (nI 4) = 0 ∨ wi x (nI 0) (nI 4) = 1 by have := wi_lt x (nI 0) (nI 4); omega) with e | e <;> rw [e] <;> rfl
theorem e_isBeats (x : Int32) (h : aH) : Ec 1 m_X8_isBeats [.int x] h (rt (.int (nI (wi x (nI 1) (nI 3)))) h) := by
  refine ec_in [some (.int x)] rfl rfl ?_
  iterate 3 refine ev_nx rfl ?_
  refine ev_ci rfl rfl (e_within x (nI 1) (nI 3) h) ?_
  refine ev_ri rfl rfl ?_ ⟨rfl, rfl⟩
  rcases (show wi x (nI 1) (nI 3) = 0 ∨ wi x (nI 1) (nI 3) = 1 by have := wi_lt x (nI 1) (nI 3); omega) with e | e <;> rw [e] <;> rfl
/-! a needle's standing -/
def stf (g o : Nat) : Nat := if g = o then g else 0
def stn (k g a o s : Nat) : Nat := match k with
  | 1 => stf g o
  | 2 => if g = 0 then o else g
  | 3 => if g = 0 then a else g
  | 4 => oth (stf g o)
  | 5 => if g = 0 then s else g
  | _ => g
theorem e_standing (k g a o s : Nat) (hk : k < 6) (hg : g < 3) (ha : a < 3) (ho : o < 3) (hs : s < 3) (h : aH) : Ec 1 m_X3_standing [.int (nI k), .int (nI g), .int (nI a), .int (nI o), .int (nI s)] h (rt (.int (nI (stn k g a o s))) h) := by
  refine ec_in [some (.int (nI k)), some (.int (nI g)), some (.int (nI a)), some (.int (nI o)), some (.int (nI s)), none] rfl rfl ?_
  have H : Ev 1 m_X3_standing 12 [some (.int (nI k)), some (.int (nI g)), some (.int (nI a)), some (.int (nI o)), some (.int (nI s)), some (.int (nI (stf g o)))] [] h (rt (.int (nI (stn k g a o s))) h) := by
    refine ev_nx rfl ?_
    rcases (show k = 0 ∨ k = 1 ∨ k = 2 ∨ k = 3 ∨ k = 4 ∨ k = 5 by omega) with rfl | rfl | rfl | rfl | rfl | rfl
    · refine ev_nx (pc' := 88) rfl ?_
      refine ev_nx rfl ?_
      exact ev_ri rfl rfl rfl ⟨rfl, rfl⟩
    · refine ev_nx (pc' := 48) rfl ?_
      refine ev_nx rfl ?_
      exact ev_ri rfl rfl rfl ⟨rfl, rfl⟩
    · refine ev_nx (pc' := 51) rfl ?_
      iterate 2 refine ev_nx rfl ?_
      refine ev_ne0 (fun hc => ?_) (fun hc => ?_)
      · refine ev_nx rfl ?_
        exact ev_ri rfl rfl rfl ⟨by simp [stn, hc], rfl⟩
      · iterate 2 refine ev_nx rfl ?_
        exact ev_ri rfl rfl rfl ⟨by simp [stn, hc], rfl⟩
    · refine ev_nx (pc' := 61) rfl ?_
      iterate 2 refine ev_nx rfl ?_
      refine ev_ne0 (fun hc => ?_) (fun hc => ?_)
      · refine ev_nx rfl ?_
        exact ev_ri rfl rfl rfl ⟨by simp [stn, hc], rfl⟩
      · iterate 2 refine ev_nx rfl ?_
        exact ev_ri rfl rfl rfl ⟨by simp [stn, hc], rfl⟩
    · refine ev_nx (pc' := 71) rfl ?_
      refine ev_nx rfl ?_
      refine ev_ci rfl rfl (e_otherWay (stf g o) (by unfold stf; split <;> omega) h) ?_
      exact ev_ri rfl rfl rfl ⟨rfl, rfl⟩
    · refine ev_nx (pc' := 77) rfl ?_
      iterate 2 refine ev_nx rfl ?_
      refine ev_ne0 (fun hc => ?_) (fun hc => ?_)
      · refine ev_nx rfl ?_
        exact ev_ri rfl rfl rfl ⟨by simp [stn, hc], rfl⟩
      · iterate 2 refine ev_nx rfl ?_
        exact ev_ri rfl rfl rfl ⟨by simp [stn, hc], rfl⟩
  iterate 3 refine ev_nx rfl ?_
  refine ev_ne (fun hc => ?_) (fun hc => ?_)
  · iterate 2 refine ev_nx rfl ?_
    rw [stf, if_neg hc] at H
    exact H
  · iterate 3 refine ev_nx rfl ?_
    rw [stf, if_pos hc] at H
    exact H
theorem oth_lt {w : Nat} (h : w < 3) : oth w < 3 := by unfold oth; split <;> omega
theorem stf_lt {g o : Nat} (h : g < 3) : stf g o < 3 := by unfold stf; split <;> omega
theorem stn_lt {k g a o s : Nat} (hg : g < 3) (ha : a < 3) (ho : o < 3) (hs : s < 3) : stn k g a o s < 3 := by
  unfold stn
  split <;> first | exact stf_lt hg | exact oth_lt (stf_lt hg) | (split <;> assumption) | assumption
