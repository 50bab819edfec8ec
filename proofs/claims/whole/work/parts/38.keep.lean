/-! the arrangement: keepIfBetter -/
def aat (h : aH) (sh ch be : List Nat) (mo : Option Nat) : Prop := h[88]? = some (ao (eo1 mo)) ∧ h[89]? = some (ar sh) ∧ h[90]? = some (ar ch) ∧ h[91]? = some (ar be)
def btr (b : Nat) : Option Nat → Bool
  | none => true
  | some x => decide (x < b)
section AK
variable {h : aH} {sh ch be : List Nat} {mo : Option Nat} {d : Nat} {Q : Option Value → aH → Prop}
theorem it_kb {b p : Nat} (h78 : h[88]? = some (ao (nI b))) (h80 : h[90]? = some (ar ch)) (h81 : 91 < h.length) (hc : ch.length = 5) (hb : be.length = 5) (hp : p < 5) (k : Ev d m_X0_keepIfBetter 15 [some (.ref 88), some (.int (nI b)), some (.int (nI (p + 1)))] [] (h.set 91 (ar (be.set p (ch.getD p 0)))) Q) : Ev d m_X0_keepIfBetter 15 [some (.ref 88), some (.int (nI b)), some (.int (nI p))] [] (h.set 91 (ar be)) Q := by
  have g78 : (h.set 91 (ar be))[88]? = some (ao (nI b)) := by rw [gset_n (by decide)]; exact h78
  have g80 : (h.set 91 (ar be))[90]? = some (ar ch) := by rw [gset_n (by decide)]; exact h80
  iterate 3 refine ev_nx rfl ?_
  refine ev_ge (fun h => absurd h (by omega)) (fun _ => ?_)
  refine ev_nx rfl ?_
  refine ev_gf rfl rfl g78 rfl ?_
  iterate 2 refine ev_nx rfl ?_
  refine ev_gf rfl rfl g78 rfl ?_
  refine ev_nx rfl ?_
  refine ev_ia rfl (am_arr_h (by decide) g80) (mg (by omega)) ?_
  refine ev_is rfl (List.getElem?_set_self h81) (by rw [List.length_map]; omega) ?_
  rw [set_set, ms_]
  iterate 2 refine ev_nx rfl ?_
  rw [nI_add]
  exact k
theorem e_keepIfBetter (hm : aat h sh ch be mo) (hc : ch.length = 5) (hb : be.length = 5) {b : Nat} (hb1 : b < 1000) (hmo : ∀ x, mo = some x → x < 1000) : Ec d m_X0_keepIfBetter [.ref 88, .int (nI b)] h (fun r h' => r = none ∧ aat h' sh ch (if btr b mo then ch else be) (if btr b mo then some b else mo) ∧ fr 88 91 h h') := by
  refine ec_in [some (.ref 88), some (.int (nI b)), none] rfl rfl ?_
  iterate 2 refine ev_nx rfl ?_
  refine ev_gf rfl rfl hm.1 rfl ?_
  have go : btr b mo = true → Ev d m_X0_keepIfBetter 8 [some (.ref 88), some (.int (nI b)), none] [] h (fun r h' => r = none ∧ aat h' sh ch (if btr b mo then ch else be) (if btr b mo then some b else mo) ∧ fr 88 91 h h') := by
    intro e
    rw [e]
    iterate 2 refine ev_nx rfl ?_
    refine ev_pf rfl rfl hm.1 (by show 3 < 4; decide) rfl rfl rfl ?_
    have k78 : (h.set 88 (ao (nI b)))[88]? = some (ao (nI b)) := gset_s hm.1
    have k80 : (h.set 88 (ao (nI b)))[90]? = some (ar ch) := by rw [gset_n (by decide)]; exact hm.2.2.1
    have k81 : (h.set 88 (ao (nI b)))[91]? = some (ar be) := by rw [gset_n (by decide)]; exact hm.2.2.2
    have l81 := (List.getElem?_eq_some_iff.mp k81).1
    show Ev d _ _ _ _ (h.set 88 (ao (nI b))) _
    rw [← set_id k81]
    obtain ⟨c0, c1, c2, c3, c4, rfl⟩ := l5 hc
    obtain ⟨b0, b1, b2, b3, b4, rfl⟩ := l5 hb
    iterate 2 refine ev_nx rfl ?_
    refine it_kb (p := 0) k78 k80 l81 rfl rfl (by decide) ?_
    refine it_kb (p := 1) k78 k80 l81 rfl rfl (by decide) ?_
    refine it_kb (p := 2) k78 k80 l81 rfl rfl (by decide) ?_
    refine it_kb (p := 3) k78 k80 l81 rfl rfl (by decide) ?_
    refine it_kb (p := 4) k78 k80 l81 rfl rfl (by decide) ?_
    iterate 3 refine ev_nx rfl ?_
    refine ev_ge (fun _ => ?_) (fun h => absurd h (by decide))
    refine ev_rt rfl ⟨rfl, ⟨?_, ?_, ?_, ?_⟩, by rw [List.length_set, List.length_set], fun q hq => ?_⟩
    · rw [gset_n (by decide)]; exact k78
    · rw [gset_n (by decide), gset_n (by decide)]; exact hm.2.1
    · rw [gset_n (by decide)]; exact k80
    · exact List.getElem?_set_self l81
    · rw [gset_n (by omega), gset_n (by omega)]
  cases hE : mo with
  | none =>
    subst hE
    refine ev_nx rfl ?_
    refine ev_f ?_ (go rfl)
    show decide (nI b ≤ -(nI 1)) = false
    rw [decide_eq_false_iff_not]
    intro q
    have := Int32.le_iff_toInt_le.mp q
    rw [nI_toInt (by omega)] at this
    have h2 : (-(nI 1)).toInt = -1 := by decide
    omega
  | some x =>
    subst hE
    have hx := hmo x rfl
    refine ev_nx rfl ?_
    refine ev_leq (b := x) (fun hc => ?_) (fun hc => ?_)
    · have e : btr b (some x) = false := by show decide (x < b) = false; rw [decide_eq_false_iff_not]; omega
      rw [e]
      exact ev_rt rfl ⟨rfl, hm, rfl, fun _ _ => rfl⟩
    · exact go (by show decide (x < b) = true; rw [decide_eq_true_eq]; exact hc)
end AK
