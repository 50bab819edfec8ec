/-! the reference: bring, carries -/
section XB
variable {d : Nat} {h : aH} {Q : Option Value → aH → Prop} {z : aZ} {y : aY} {st nw be ge re rk br pt_ : List Nat} {wo : List Int32} {K S G : List Nat} {c t j : Nat}
theorem f_bring {A B : List Nat} {a b i k n : Nat} (hA : h[a]? = some (ar A)) (hB : h[b]? = some (ar B)) (hab : a ≠ b) (ha : a < 100000 ∧ b < 100000) (h1 : i + n ≤ A.length ∧ A.length < 10000) (h2 : k + n ≤ B.length ∧ B.length < 10000) : Ec d m_X9_bring [.ref a, .int (nI i), .ref b, .int (nI k), .int (nI n)] h (rtv (h.set b (ar (brg A B i k n 0)))) := by
  refine ec_in [some (.ref a), some (.int (nI i)), some (.ref b), some (.int (nI k)), some (.int (nI n)), none] rfl rfl ?_
  have hbl : b < h.length := (List.getElem?_eq_some_iff.mp hB).1
  have H : ∀ r q B1, q + r = n → B1.length = B.length → Ev d m_X9_bring 3 [some (.ref a), some (.int (nI i)), some (.ref b), some (.int (nI k)), some (.int (nI n)), some (.int (nI q))] [] (h.set b (ar B1)) (rtv (h.set b (ar (brg A B1 i k r q)))) := by
    intro r
    induction r with
    | zero =>
      intro q B1 hq hl
      iterate 3 refine ev_nx rfl ?_
      refine ev_ge (fun b7 => ?_) (fun b7 => absurd b7 (by omega))
      exact ev_rt rfl ⟨rfl, rfl⟩
    | succ r ih =>
      intro q B1 hq hl
      iterate 3 refine ev_nx rfl ?_
      refine ev_ge (fun b7 => absurd b7 (by omega)) (fun b7 => ?_)
      iterate 3 refine ev_nx rfl ?_
      refine ev_add rfl ?_
      iterate 3 refine ev_nx rfl ?_
      refine ev_add rfl ?_
      refine ev_lN rfl (by rw [gset_n hab.symm]; exact hA) (by omega) ?_
      refine ev_sN rfl (List.getElem?_set_self hbl) (by omega) ?_
      rw [set_set]
      refine ev_inc rfl ⟨rfl, by decide⟩ rfl rfl ?_
      refine ev_nx rfl ?_
      exact ih (q + 1) _ (by omega) (by rw [List.length_set, hl])
  iterate 2 refine ev_nx rfl ?_
  have := H n 0 B (by omega) rfl
  rw [set_id hB] at this
  exact this
/-- within one row -/
def bsg (i j : Nat) : Nat → Nat → List Nat → List Nat
  | 0, _, B => B
  | n + 1, k, B => bsg i j n (k + 1) (B.set (j + k) (B.getD (i + k) 0))
theorem f_bringS {B : List Nat} {b i k n : Nat} (hB : h[b]? = some (ar B)) (hb : b < 100000) (h1 : i + n ≤ B.length ∧ B.length < 10000) (h2 : k + n ≤ B.length) : Ec d m_X9_bring [.ref b, .int (nI i), .ref b, .int (nI k), .int (nI n)] h (rtv (h.set b (ar (bsg i k n 0 B)))) := by
  refine ec_in [some (.ref b), some (.int (nI i)), some (.ref b), some (.int (nI k)), some (.int (nI n)), none] rfl rfl ?_
  have hbl : b < h.length := (List.getElem?_eq_some_iff.mp hB).1
  have H : ∀ r q B1, q + r = n → B1.length = B.length → Ev d m_X9_bring 3 [some (.ref b), some (.int (nI i)), some (.ref b), some (.int (nI k)), some (.int (nI n)), some (.int (nI q))] [] (h.set b (ar B1)) (rtv (h.set b (ar (bsg i k r q B1)))) := by
    intro r
    induction r with
    | zero =>
      intro q B1 hq hl
      iterate 3 refine ev_nx rfl ?_
      refine ev_ge (fun b7 => ?_) (fun b7 => absurd b7 (by omega))
      exact ev_rt rfl ⟨rfl, rfl⟩
    | succ r ih =>
      intro q B1 hq hl
      iterate 3 refine ev_nx rfl ?_
      refine ev_ge (fun b7 => absurd b7 (by omega)) (fun b7 => ?_)
      iterate 3 refine ev_nx rfl ?_
      refine ev_add rfl ?_
      iterate 3 refine ev_nx rfl ?_
      refine ev_add rfl ?_
      refine ev_lN rfl (List.getElem?_set_self hbl) (by omega) ?_
      refine ev_sN rfl (List.getElem?_set_self hbl) (by omega) ?_
      rw [set_set]
      refine ev_inc rfl ⟨rfl, by decide⟩ rfl rfl ?_
      refine ev_nx rfl ?_
      exact ih (q + 1) _ (by omega) (by rw [List.length_set, hl])
  iterate 2 refine ev_nx rfl ?_
  have := H n 0 B (by omega) rfl
  rw [set_id hB] at this
  exact this
/-! what the wires carry -/
theorem n_p1 (a b : Nat) : nI a - nI b + nI 1 = nI (a + 1) - nI b := by
  rw [← nI_add]; apply Int32.toBitVec_inj.mp; show BitVec.ofNat 32 a - BitVec.ofNat 32 b + BitVec.ofNat 32 1 = BitVec.ofNat 32 a + BitVec.ofNat 32 1 - BitVec.ofNat 32 b; grind
theorem n_m1 (a b : Nat) : nI a - nI b + -(nI 1) = nI a - nI (b + 1) := by
  rw [← nI_add]; apply Int32.toBitVec_inj.mp; show BitVec.ofNat 32 a - BitVec.ofNat 32 b + -(BitVec.ofNat 32 1) = BitVec.ofNat 32 a - (BitVec.ofNat 32 b + BitVec.ofNat 32 1); grind
theorem n_p0 (a b : Nat) : nI a - nI b + nI 0 = nI a - nI b := by
  apply Int32.toBitVec_inj.mp; show BitVec.ofNat 32 a - BitVec.ofNat 32 b + BitVec.ofNat 32 0 = BitVec.ofNat 32 a - BitVec.ofNat 32 b; grind
theorem n_eq0 {a b : Nat} (ha : a < 100) (hb : b < 100) : am_c2 .ne (nI a - nI b) 0 = true ↔ ¬ a = b := by
  have h1 := n_le0 ha hb
  have h2 : nI a - nI b = 0 ↔ a = b := by
    constructor
    · intro e
      rw [e] at h1
      have q1 := h1.1.mp (by decide)
      have q2 := h1.2.mp (by decide)
      omega
    · rintro rfl
      rw [pk_sub (Nat.le_refl _), Nat.sub_self]; rfl
  simp [am_c2, h2]
/-- the reference's groups of wires, one behind the other -/
def mgr (c j : Nat) (B : List Nat) : Nat → Nat → List Nat → List Nat
  | 0, _, G => G
  | n + 1, f, G => if f < 5 then mgr c j B n (gE j f (4 - f) + 1) (shs c (maj (sgc B 1 f (gE j f (4 - f) + 1 - f)) (sgc B 2 f (gE j f (4 - f) + 1 - f))) f (gE j f (4 - f) + 1 - f) G) else G
theorem it_crA5 (ok : lok K S G c t j) {s p : Nat} (hs : s < 31) (hp : p < 5) (hbe : be.length = 5) {l4 : Option Value} (k : ∀ v, v = bcu c t (pt s p) p → Ev (d + 1) m_X9_carries 2 [some (.ref 0), some (.ref 5), some (.int (nI s)), some (.int (nI (p + 1))), some (.int (nI (pt s p))), none, none] [] (XM z y (ll K S G c t j) nw (be.set p v) ge re rk br pt_ wo) Q) : Ev (d + 1) m_X9_carries 2 [some (.ref 0), some (.ref 5), some (.int (nI s)), some (.int (nI p)), l4, none, none] [] (XM z y (ll K S G c t j) nw be ge re rk br pt_ wo) Q := by
  have hl := ll_len ok
  have hb1 := bt_lt c p
  have hb2 := bt_lt t p
  have hpt := pt_lt hs hp
  iterate 3 refine ev_nx rfl ?_
  refine ev_ge (fun b4 => absurd b4 (by omega)) (fun b4 => ?_)
  iterate 4 refine ev_nx rfl ?_
  refine ev_mul rfl ?_
  refine ev_nx rfl ?_
  refine ev_add rfl ?_
  rw [show 5 * s + p = s * 5 + p by omega]
  refine ev_lN rfl rfl ⟨show s * 5 + p < 155 by omega, by omega, by decide⟩ ?_
  show Ev _ _ _ _ (.int (nI (pt s p)) :: _) _ _
  iterate 7 refine ev_nx rfl ?_
  refine ev_add rfl ?_
  refine ev_lN rfl rfl (by omega) ?_
  rw [ll_c p hp]
  iterate 2 refine ev_nx rfl ?_
  refine ev_ne (fun b30 => ?_) (fun b30 => ?_)
  · iterate 3 refine ev_nx rfl ?_
    refine ev_add rfl ?_
    refine ev_lN rfl rfl (by omega) ?_
    rw [ll_t p hp]
    iterate 2 refine ev_nx rfl ?_
    refine ev_ne (fun b43 => ?_) (fun b43 => ?_)
    · refine ev_nx rfl ?_
      refine ev_sN rfl rfl (by omega) ?_
      refine ev_inc rfl ⟨rfl, by decide⟩ rfl rfl ?_
      refine ev_nx rfl ?_
      exact k _ (by unfold bcu brn; (repeat' split) <;> omega)
    · refine ev_nx rfl ?_
      refine ev_ci rfl rfl (f_other (pt s p) (by omega) _) ?_
      refine ev_nx rfl ?_
      refine ev_sN rfl rfl (by omega) ?_
      refine ev_inc rfl ⟨rfl, by decide⟩ rfl rfl ?_
      refine ev_nx rfl ?_
      exact k _ (by unfold bcu brn; (repeat' split) <;> omega)
  · iterate 2 refine ev_nx rfl ?_
    refine ev_sN rfl rfl (by omega) ?_
    refine ev_inc rfl ⟨rfl, by decide⟩ rfl rfl ?_
    refine ev_nx rfl ?_
    exact k _ (by unfold bcu brn; (repeat' split) <;> omega)
theorem lp_crT5 (ok : lok K S G c t j) {s f : Nat} {l5 l6 : Option Value} {T : Nat} (k : Ev (d + 1) m_X9_carries 96 [some (.ref 0), some (.ref 5), some (.int (nI s)), some (.int (nI f)), some (.int (nI T)), l5, l6] [] (XM z y (ll K S G c t j) nw be ge re rk br pt_ wo) Q) : ∀ (n q : Nat), q + n = 4 → T = gE j q n → Ev (d + 1) m_X9_carries 73 [some (.ref 0), some (.ref 5), some (.int (nI s)), some (.int (nI f)), some (.int (nI q)), l5, l6] [] (XM z y (ll K S G c t j) nw be ge re rk br pt_ wo) Q := by
  have hl := ll_len ok
  intro n
  induction n with
  | zero =>
    intro q hq hT
    rw [gE] at hT
    subst hT
    iterate 3 refine ev_nx rfl ?_
    refine ev_ge (fun b76 => ?_) (fun b76 => absurd b76 (by omega))
    exact k
  | succ n ih =>
    intro q hq hT
    rw [gE] at hT
    have hb := bt_lt j q
    iterate 3 refine ev_nx rfl ?_
    refine ev_ge (fun b76 => absurd b76 (by omega)) (fun b76 => ?_)
    iterate 3 refine ev_nx rfl ?_
    refine ev_add rfl ?_
    refine ev_lN rfl rfl (by omega) ?_
    rw [ll_j q (by omega)]
    iterate 2 refine ev_nx rfl ?_
    refine ev_ne (fun b87 => ?_) (fun b87 => ?_)
    · rw [if_neg (by omega)] at hT
      subst hT
      exact k
    · refine ev_inc rfl ⟨rfl, by decide⟩ rfl rfl ?_
      refine ev_nx rfl ?_
      exact ih (q + 1) (by omega) (by rw [hT, if_pos (by omega)])
theorem lp_crM5 (hbe : be.length = 5) (hb3 : ∀ s ∈ be, s < 3) {s f q : Nat} (hq : q < 5) : ∀ (n p a b : Nat), p + n = q + 1 → a + n ≤ 10 → b + n ≤ 10 → (Ev (d + 1) m_X9_carries 151 [some (.ref 0), some (.ref 5), some (.int (nI s)), some (.int (nI f)), some (.int (nI q)), some (.int (nI (a + sgc be 1 p n) - nI (b + sgc be 2 p n))), some (.int (nI (q + 1)))] [] (XM z y st nw be ge re rk br pt_ wo) Q) → Ev (d + 1) m_X9_carries 102 [some (.ref 0), some (.ref 5), some (.int (nI s)), some (.int (nI f)), some (.int (nI q)), some (.int (nI a - nI b)), some (.int (nI p))] [] (XM z y st nw be ge re rk br pt_ wo) Q := by
  intro n
  induction n with
  | zero =>
    intro p a b hp ha hb k
    obtain rfl : p = q + 1 := by omega
    iterate 3 refine ev_nx rfl ?_
    refine ev_gt (fun b106 => ?_) (fun b106 => absurd b106 (by omega))
    exact k
  | succ n ih =>
    intro p a b hp ha hb k
    have hg : be.getD p 0 < 3 := gd3 hb3 (by omega)
    rw [sgc, sgc] at k
    iterate 3 refine ev_nx rfl ?_
    refine ev_gt (fun b106 => absurd b106 (by omega)) (fun b106 => ?_)
    iterate 4 refine ev_nx rfl ?_
    refine ev_lN rfl rfl (by omega) ?_
    iterate 2 refine ev_nx rfl ?_
    refine ev_ne (fun b119 => ?_) (fun b119 => ?_)
    · iterate 3 refine ev_nx rfl ?_
      refine ev_lN rfl rfl (by omega) ?_
      iterate 2 refine ev_nx rfl ?_
      refine ev_ne (fun b134 => ?_) (fun b134 => ?_)
      · refine ev_nx rfl ?_
        refine ev_nx rfl ?_
        first | rw [n_p1] | rw [n_m1] | rw [n_p0]
        refine ev_nx rfl ?_
        refine ev_inc rfl ⟨rfl, by decide⟩ rfl rfl ?_
        refine ev_nx rfl ?_
        refine ih (p + 1) _ _ (by omega) (by omega) (by omega) ?_
        first | (rw [if_pos b119, if_neg (by omega), ← Nat.add_assoc, ← Nat.add_assoc] at k; exact k) | (rw [if_neg b119, if_pos b134, ← Nat.add_assoc, ← Nat.add_assoc] at k; exact k) | (rw [if_neg b119, if_neg b134, ← Nat.add_assoc, ← Nat.add_assoc] at k; exact k)
      · iterate 2 refine ev_nx rfl ?_
        refine ev_nx rfl ?_
        first | rw [n_p1] | rw [n_m1] | rw [n_p0]
        refine ev_nx rfl ?_
        refine ev_inc rfl ⟨rfl, by decide⟩ rfl rfl ?_
        refine ev_nx rfl ?_
        refine ih (p + 1) _ _ (by omega) (by omega) (by omega) ?_
        first | (rw [if_pos b119, if_neg (by omega), ← Nat.add_assoc, ← Nat.add_assoc] at k; exact k) | (rw [if_neg b119, if_pos b134, ← Nat.add_assoc, ← Nat.add_assoc] at k; exact k) | (rw [if_neg b119, if_neg b134, ← Nat.add_assoc, ← Nat.add_assoc] at k; exact k)
    · iterate 2 refine ev_nx rfl ?_
      refine ev_nx rfl ?_
      first | rw [n_p1] | rw [n_m1] | rw [n_p0]
      refine ev_nx rfl ?_
      refine ev_inc rfl ⟨rfl, by decide⟩ rfl rfl ?_
      refine ev_nx rfl ?_
      refine ih (p + 1) _ _ (by omega) (by omega) (by omega) ?_
      first | (rw [if_pos b119, if_neg (by omega), ← Nat.add_assoc, ← Nat.add_assoc] at k; exact k) | (rw [if_neg b119, if_pos b134, ← Nat.add_assoc, ← Nat.add_assoc] at k; exact k) | (rw [if_neg b119, if_neg b134, ← Nat.add_assoc, ← Nat.add_assoc] at k; exact k)
theorem lp_crS5 (ok : lok K S G c t j) {s f q a b : Nat} (hq : q < 5) (ha : a < 100) (hb : b < 100) : ∀ (n p : Nat) (ge : List Nat), ge.length = 5 → p + n = q + 1 → (Ev (d + 1) m_X9_carries 203 [some (.ref 0), some (.ref 5), some (.int (nI s)), some (.int (nI f)), some (.int (nI q)), some (.int (nI a - nI b)), some (.int (nI (q + 1)))] [] (XM z y (ll K S G c t j) nw be (shs c (maj a b) p n ge) re rk br pt_ wo) Q) → Ev (d + 1) m_X9_carries 154 [some (.ref 0), some (.ref 5), some (.int (nI s)), some (.int (nI f)), some (.int (nI q)), some (.int (nI a - nI b)), some (.int (nI p))] [] (XM z y (ll K S G c t j) nw be ge re rk br pt_ wo) Q := by
  have hl := ll_len ok
  intro n
  induction n with
  | zero =>
    intro p ge hg hp k
    obtain rfl : p = q + 1 := by omega
    iterate 3 refine ev_nx rfl ?_
    refine ev_gt (fun b158 => ?_) (fun b158 => absurd b158 (by omega))
    exact k
  | succ n ih =>
    intro p ge hg hp k
    have hb1 := bt_lt c p
    rw [shs] at k
    have fin : ∀ v, v = (if bt c p = 0 then maj a b else 0) → Ev (d + 1) m_X9_carries 154 [some (.ref 0), some (.ref 5), some (.int (nI s)), some (.int (nI f)), some (.int (nI q)), some (.int (nI a - nI b)), some (.int (nI (p + 1)))] [] (XM z y (ll K S G c t j) nw be (ge.set p v) re rk br pt_ wo) Q := fun v hv => ih (p + 1) _ (by rw [List.length_set, hg]) (by omega) (by rw [hv]; exact k)
    iterate 3 refine ev_nx rfl ?_
    refine ev_gt (fun b158 => absurd b158 (by omega)) (fun b158 => ?_)
    iterate 6 refine ev_nx rfl ?_
    refine ev_add rfl ?_
    refine ev_lN rfl rfl (by omega) ?_
    rw [ll_c p (by omega)]
    iterate 2 refine ev_nx rfl ?_
    refine ev_eq (fun b174 => ?_) (fun b174 => ?_)
    · iterate 2 refine ev_nx rfl ?_
      refine ev_sN rfl rfl (by omega) ?_
      refine ev_inc rfl ⟨rfl, by decide⟩ rfl rfl ?_
      refine ev_nx rfl ?_
      exact fin _ (by unfold maj; (repeat' split) <;> omega)
    · iterate 2 refine ev_nx rfl ?_
      refine ev_c (n_eq0 ha hb) (fun b179 => ?_) (fun b179 => ?_)
      · iterate 2 refine ev_nx rfl ?_
        refine ev_c (n_le0 ha hb).1 (fun b188 => ?_) (fun b188 => ?_)
        · refine ev_nx rfl ?_
          refine ev_sN rfl rfl (by omega) ?_
          refine ev_inc rfl ⟨rfl, by decide⟩ rfl rfl ?_
          refine ev_nx rfl ?_
          exact fin _ (by unfold maj; (repeat' split) <;> omega)
        · iterate 2 refine ev_nx rfl ?_
          refine ev_sN rfl rfl (by omega) ?_
          refine ev_inc rfl ⟨rfl, by decide⟩ rfl rfl ?_
          refine ev_nx rfl ?_
          exact fin _ (by unfold maj; (repeat' split) <;> omega)
      · iterate 2 refine ev_nx rfl ?_
        refine ev_sN rfl rfl (by omega) ?_
        refine ev_inc rfl ⟨rfl, by decide⟩ rfl rfl ?_
        refine ev_nx rfl ?_
        exact fin _ (by unfold maj; (repeat' split) <;> omega)
theorem lp_cr5 (ok : lok K S G c t j) (hbe : be.length = 5) (hb3 : ∀ s ∈ be, s < 3) {s : Nat} : ∀ (n f : Nat) (ge : List Nat) (l4 l5 l6 : Option Value), 5 ≤ f + n → f ≤ 5 → ge.length = 5 → Ev (d + 1) m_X9_carries 65 [some (.ref 0), some (.ref 5), some (.int (nI s)), some (.int (nI f)), l4, l5, l6] [] (XM z y (ll K S G c t j) nw be ge re rk br pt_ wo) (rtv (XM z y (ll K S G c t j) nw be (mgr c j be n f ge) re rk br pt_ wo)) := by
  intro n
  induction n with
  | zero =>
    intro f ge l4 l5 l6 hf hf5 hg
    iterate 3 refine ev_nx rfl ?_
    refine ev_ge (fun b67 => ?_) (fun b67 => absurd b67 (by omega))
    exact ev_rt rfl ⟨rfl, rfl⟩
  | succ n ih =>
    intro f ge l4 l5 l6 hf hf5 hg
    rw [mgr]
    by_cases h5 : f < 5
    · rw [if_pos h5]
      have hE := gE_le j (4 - f) f (by omega)
      have s1 := sgc_le be 1 (gE j f (4 - f) + 1 - f) f
      have s2 := sgc_le be 2 (gE j f (4 - f) + 1 - f) f
      iterate 3 refine ev_nx rfl ?_
      refine ev_ge (fun b67 => absurd b67 (by omega)) (fun b67 => ?_)
      iterate 2 refine ev_nx rfl ?_
      refine lp_crT5 ok ?_ (4 - f) f (by omega) rfl
      iterate 4 refine ev_nx rfl ?_
      show Ev (d + 1) m_X9_carries 102 [some (.ref 0), some (.ref 5), some (.int (nI s)), some (.int (nI f)), some (.int (nI (gE j f (4 - f)))), some (.int (nI 0 - nI 0)), some (.int (nI f))] [] _ _
      refine lp_crM5 hbe hb3 (by omega) (gE j f (4 - f) + 1 - f) f 0 0 (by omega) (by omega) (by omega) ?_
      rw [Nat.zero_add, Nat.zero_add]
      iterate 2 refine ev_nx rfl ?_
      refine lp_crS5 ok (by omega) (by omega) (by omega) (gE j f (4 - f) + 1 - f) f ge hg (by omega) ?_
      iterate 2 refine ev_nx rfl ?_
      refine ev_add rfl ?_
      iterate 2 refine ev_nx rfl ?_
      exact ih (gE j f (4 - f) + 1) _ _ _ _ (by omega) (by omega) (by rw [shs_len, hg])
    · rw [if_neg h5]
      iterate 3 refine ev_nx rfl ?_
      refine ev_ge (fun b67 => ?_) (fun b67 => absurd b67 (by omega))
      exact ev_rt rfl ⟨rfl, rfl⟩
theorem f_carriesR5 (ok : lok K S G c t j) (hbe : be.length = 5) (hge : ge.length = 5) {s : Nat} (hs : s < 31) : Ec (d + 1) m_X9_carries [.ref 0, .ref 5, .int (nI s)] (XM z y (ll K S G c t j) nw be ge re rk br pt_ wo) (rtv (XM z y (ll K S G c t j) nw (crb s c t) (mgr c j (crb s c t) 5 0 ge) re rk br pt_ wo)) := by
  refine ec_in [some (.ref 0), some (.ref 5), some (.int (nI s)), none, none, none, none] rfl rfl ?_
  obtain ⟨b0, b1, b2, b3, b4, rfl⟩ := l5 hbe
  iterate 2 refine ev_nx rfl ?_
  refine it_crA5 (p := 0) ok hs (by omega) rfl ?_
  rintro _ rfl
  refine it_crA5 (p := 1) ok hs (by omega) rfl ?_
  rintro _ rfl
  refine it_crA5 (p := 2) ok hs (by omega) rfl ?_
  rintro _ rfl
  refine it_crA5 (p := 3) ok hs (by omega) rfl ?_
  rintro _ rfl
  refine it_crA5 (p := 4) ok hs (by omega) rfl ?_
  rintro _ rfl
  iterate 3 refine ev_nx rfl ?_
  refine ev_ge (fun b4 => ?_) (fun b4 => absurd b4 (by omega))
  iterate 2 refine ev_nx rfl ?_
  exact lp_cr5 (be := crb s c t) ok rfl (crb_lt hs) 5 0 ge _ _ _ (by omega) (by omega) hge
theorem it_crA6 (ok : lok K S G c t j) {s p : Nat} (hs : s < 31) (hp : p < 5) (hbe : be.length = 5) {l4 : Option Value} (k : ∀ v, v = bcu c t (pt s p) p → Ev (d + 1) m_X9_carries 2 [some (.ref 0), some (.ref 6), some (.int (nI s)), some (.int (nI (p + 1))), some (.int (nI (pt s p))), none, none] [] (XM z y st (ll K S G c t j) (be.set p v) ge re rk br pt_ wo) Q) : Ev (d + 1) m_X9_carries 2 [some (.ref 0), some (.ref 6), some (.int (nI s)), some (.int (nI p)), l4, none, none] [] (XM z y st (ll K S G c t j) be ge re rk br pt_ wo) Q := by
  have hl := ll_len ok
  have hb1 := bt_lt c p
  have hb2 := bt_lt t p
  have hpt := pt_lt hs hp
  iterate 3 refine ev_nx rfl ?_
  refine ev_ge (fun b4 => absurd b4 (by omega)) (fun b4 => ?_)
  iterate 4 refine ev_nx rfl ?_
  refine ev_mul rfl ?_
  refine ev_nx rfl ?_
  refine ev_add rfl ?_
  rw [show 5 * s + p = s * 5 + p by omega]
  refine ev_lN rfl rfl ⟨show s * 5 + p < 155 by omega, by omega, by decide⟩ ?_
  show Ev _ _ _ _ (.int (nI (pt s p)) :: _) _ _
  iterate 7 refine ev_nx rfl ?_
  refine ev_add rfl ?_
  refine ev_lN rfl rfl (by omega) ?_
  rw [ll_c p hp]
  iterate 2 refine ev_nx rfl ?_
  refine ev_ne (fun b30 => ?_) (fun b30 => ?_)
  · iterate 3 refine ev_nx rfl ?_
    refine ev_add rfl ?_
    refine ev_lN rfl rfl (by omega) ?_
    rw [ll_t p hp]
    iterate 2 refine ev_nx rfl ?_
    refine ev_ne (fun b43 => ?_) (fun b43 => ?_)
    · refine ev_nx rfl ?_
      refine ev_sN rfl rfl (by omega) ?_
      refine ev_inc rfl ⟨rfl, by decide⟩ rfl rfl ?_
      refine ev_nx rfl ?_
      exact k _ (by unfold bcu brn; (repeat' split) <;> omega)
    · refine ev_nx rfl ?_
      refine ev_ci rfl rfl (f_other (pt s p) (by omega) _) ?_
      refine ev_nx rfl ?_
      refine ev_sN rfl rfl (by omega) ?_
      refine ev_inc rfl ⟨rfl, by decide⟩ rfl rfl ?_
      refine ev_nx rfl ?_
      exact k _ (by unfold bcu brn; (repeat' split) <;> omega)
  · iterate 2 refine ev_nx rfl ?_
    refine ev_sN rfl rfl (by omega) ?_
    refine ev_inc rfl ⟨rfl, by decide⟩ rfl rfl ?_
    refine ev_nx rfl ?_
    exact k _ (by unfold bcu brn; (repeat' split) <;> omega)
theorem lp_crT6 (ok : lok K S G c t j) {s f : Nat} {l5 l6 : Option Value} {T : Nat} (k : Ev (d + 1) m_X9_carries 96 [some (.ref 0), some (.ref 6), some (.int (nI s)), some (.int (nI f)), some (.int (nI T)), l5, l6] [] (XM z y st (ll K S G c t j) be ge re rk br pt_ wo) Q) : ∀ (n q : Nat), q + n = 4 → T = gE j q n → Ev (d + 1) m_X9_carries 73 [some (.ref 0), some (.ref 6), some (.int (nI s)), some (.int (nI f)), some (.int (nI q)), l5, l6] [] (XM z y st (ll K S G c t j) be ge re rk br pt_ wo) Q := by
  have hl := ll_len ok
  intro n
  induction n with
  | zero =>
    intro q hq hT
    rw [gE] at hT
    subst hT
    iterate 3 refine ev_nx rfl ?_
    refine ev_ge (fun b76 => ?_) (fun b76 => absurd b76 (by omega))
    exact k
  | succ n ih =>
    intro q hq hT
    rw [gE] at hT
    have hb := bt_lt j q
    iterate 3 refine ev_nx rfl ?_
    refine ev_ge (fun b76 => absurd b76 (by omega)) (fun b76 => ?_)
    iterate 3 refine ev_nx rfl ?_
    refine ev_add rfl ?_
    refine ev_lN rfl rfl (by omega) ?_
    rw [ll_j q (by omega)]
    iterate 2 refine ev_nx rfl ?_
    refine ev_ne (fun b87 => ?_) (fun b87 => ?_)
    · rw [if_neg (by omega)] at hT
      subst hT
      exact k
    · refine ev_inc rfl ⟨rfl, by decide⟩ rfl rfl ?_
      refine ev_nx rfl ?_
      exact ih (q + 1) (by omega) (by rw [hT, if_pos (by omega)])
theorem lp_crM6 (hbe : be.length = 5) (hb3 : ∀ s ∈ be, s < 3) {s f q : Nat} (hq : q < 5) : ∀ (n p a b : Nat), p + n = q + 1 → a + n ≤ 10 → b + n ≤ 10 → (Ev (d + 1) m_X9_carries 151 [some (.ref 0), some (.ref 6), some (.int (nI s)), some (.int (nI f)), some (.int (nI q)), some (.int (nI (a + sgc be 1 p n) - nI (b + sgc be 2 p n))), some (.int (nI (q + 1)))] [] (XM z y st nw be ge re rk br pt_ wo) Q) → Ev (d + 1) m_X9_carries 102 [some (.ref 0), some (.ref 6), some (.int (nI s)), some (.int (nI f)), some (.int (nI q)), some (.int (nI a - nI b)), some (.int (nI p))] [] (XM z y st nw be ge re rk br pt_ wo) Q := by
  intro n
  induction n with
  | zero =>
    intro p a b hp ha hb k
    obtain rfl : p = q + 1 := by omega
    iterate 3 refine ev_nx rfl ?_
    refine ev_gt (fun b106 => ?_) (fun b106 => absurd b106 (by omega))
    exact k
  | succ n ih =>
    intro p a b hp ha hb k
    have hg : be.getD p 0 < 3 := gd3 hb3 (by omega)
    rw [sgc, sgc] at k
    iterate 3 refine ev_nx rfl ?_
    refine ev_gt (fun b106 => absurd b106 (by omega)) (fun b106 => ?_)
    iterate 4 refine ev_nx rfl ?_
    refine ev_lN rfl rfl (by omega) ?_
    iterate 2 refine ev_nx rfl ?_
    refine ev_ne (fun b119 => ?_) (fun b119 => ?_)
    · iterate 3 refine ev_nx rfl ?_
      refine ev_lN rfl rfl (by omega) ?_
      iterate 2 refine ev_nx rfl ?_
      refine ev_ne (fun b134 => ?_) (fun b134 => ?_)
      · refine ev_nx rfl ?_
        refine ev_nx rfl ?_
        first | rw [n_p1] | rw [n_m1] | rw [n_p0]
        refine ev_nx rfl ?_
        refine ev_inc rfl ⟨rfl, by decide⟩ rfl rfl ?_
        refine ev_nx rfl ?_
        refine ih (p + 1) _ _ (by omega) (by omega) (by omega) ?_
        first | (rw [if_pos b119, if_neg (by omega), ← Nat.add_assoc, ← Nat.add_assoc] at k; exact k) | (rw [if_neg b119, if_pos b134, ← Nat.add_assoc, ← Nat.add_assoc] at k; exact k) | (rw [if_neg b119, if_neg b134, ← Nat.add_assoc, ← Nat.add_assoc] at k; exact k)
      · iterate 2 refine ev_nx rfl ?_
        refine ev_nx rfl ?_
        first | rw [n_p1] | rw [n_m1] | rw [n_p0]
        refine ev_nx rfl ?_
        refine ev_inc rfl ⟨rfl, by decide⟩ rfl rfl ?_
        refine ev_nx rfl ?_
        refine ih (p + 1) _ _ (by omega) (by omega) (by omega) ?_
        first | (rw [if_pos b119, if_neg (by omega), ← Nat.add_assoc, ← Nat.add_assoc] at k; exact k) | (rw [if_neg b119, if_pos b134, ← Nat.add_assoc, ← Nat.add_assoc] at k; exact k) | (rw [if_neg b119, if_neg b134, ← Nat.add_assoc, ← Nat.add_assoc] at k; exact k)
    · iterate 2 refine ev_nx rfl ?_
      refine ev_nx rfl ?_
      first | rw [n_p1] | rw [n_m1] | rw [n_p0]
      refine ev_nx rfl ?_
      refine ev_inc rfl ⟨rfl, by decide⟩ rfl rfl ?_
      refine ev_nx rfl ?_
      refine ih (p + 1) _ _ (by omega) (by omega) (by omega) ?_
      first | (rw [if_pos b119, if_neg (by omega), ← Nat.add_assoc, ← Nat.add_assoc] at k; exact k) | (rw [if_neg b119, if_pos b134, ← Nat.add_assoc, ← Nat.add_assoc] at k; exact k) | (rw [if_neg b119, if_neg b134, ← Nat.add_assoc, ← Nat.add_assoc] at k; exact k)
theorem lp_crS6 (ok : lok K S G c t j) {s f q a b : Nat} (hq : q < 5) (ha : a < 100) (hb : b < 100) : ∀ (n p : Nat) (ge : List Nat), ge.length = 5 → p + n = q + 1 → (Ev (d + 1) m_X9_carries 203 [some (.ref 0), some (.ref 6), some (.int (nI s)), some (.int (nI f)), some (.int (nI q)), some (.int (nI a - nI b)), some (.int (nI (q + 1)))] [] (XM z y st (ll K S G c t j) be (shs c (maj a b) p n ge) re rk br pt_ wo) Q) → Ev (d + 1) m_X9_carries 154 [some (.ref 0), some (.ref 6), some (.int (nI s)), some (.int (nI f)), some (.int (nI q)), some (.int (nI a - nI b)), some (.int (nI p))] [] (XM z y st (ll K S G c t j) be ge re rk br pt_ wo) Q := by
  have hl := ll_len ok
  intro n
  induction n with
  | zero =>
    intro p ge hg hp k
    obtain rfl : p = q + 1 := by omega
    iterate 3 refine ev_nx rfl ?_
    refine ev_gt (fun b158 => ?_) (fun b158 => absurd b158 (by omega))
    exact k
  | succ n ih =>
    intro p ge hg hp k
    have hb1 := bt_lt c p
    rw [shs] at k
    have fin : ∀ v, v = (if bt c p = 0 then maj a b else 0) → Ev (d + 1) m_X9_carries 154 [some (.ref 0), some (.ref 6), some (.int (nI s)), some (.int (nI f)), some (.int (nI q)), some (.int (nI a - nI b)), some (.int (nI (p + 1)))] [] (XM z y st (ll K S G c t j) be (ge.set p v) re rk br pt_ wo) Q := fun v hv => ih (p + 1) _ (by rw [List.length_set, hg]) (by omega) (by rw [hv]; exact k)
    iterate 3 refine ev_nx rfl ?_
    refine ev_gt (fun b158 => absurd b158 (by omega)) (fun b158 => ?_)
    iterate 6 refine ev_nx rfl ?_
    refine ev_add rfl ?_
    refine ev_lN rfl rfl (by omega) ?_
    rw [ll_c p (by omega)]
    iterate 2 refine ev_nx rfl ?_
    refine ev_eq (fun b174 => ?_) (fun b174 => ?_)
    · iterate 2 refine ev_nx rfl ?_
      refine ev_sN rfl rfl (by omega) ?_
      refine ev_inc rfl ⟨rfl, by decide⟩ rfl rfl ?_
      refine ev_nx rfl ?_
      exact fin _ (by unfold maj; (repeat' split) <;> omega)
    · iterate 2 refine ev_nx rfl ?_
      refine ev_c (n_eq0 ha hb) (fun b179 => ?_) (fun b179 => ?_)
      · iterate 2 refine ev_nx rfl ?_
        refine ev_c (n_le0 ha hb).1 (fun b188 => ?_) (fun b188 => ?_)
        · refine ev_nx rfl ?_
          refine ev_sN rfl rfl (by omega) ?_
          refine ev_inc rfl ⟨rfl, by decide⟩ rfl rfl ?_
          refine ev_nx rfl ?_
          exact fin _ (by unfold maj; (repeat' split) <;> omega)
        · iterate 2 refine ev_nx rfl ?_
          refine ev_sN rfl rfl (by omega) ?_
          refine ev_inc rfl ⟨rfl, by decide⟩ rfl rfl ?_
          refine ev_nx rfl ?_
          exact fin _ (by unfold maj; (repeat' split) <;> omega)
      · iterate 2 refine ev_nx rfl ?_
        refine ev_sN rfl rfl (by omega) ?_
        refine ev_inc rfl ⟨rfl, by decide⟩ rfl rfl ?_
        refine ev_nx rfl ?_
        exact fin _ (by unfold maj; (repeat' split) <;> omega)
theorem lp_cr6 (ok : lok K S G c t j) (hbe : be.length = 5) (hb3 : ∀ s ∈ be, s < 3) {s : Nat} : ∀ (n f : Nat) (ge : List Nat) (l4 l5 l6 : Option Value), 5 ≤ f + n → f ≤ 5 → ge.length = 5 → Ev (d + 1) m_X9_carries 65 [some (.ref 0), some (.ref 6), some (.int (nI s)), some (.int (nI f)), l4, l5, l6] [] (XM z y st (ll K S G c t j) be ge re rk br pt_ wo) (rtv (XM z y st (ll K S G c t j) be (mgr c j be n f ge) re rk br pt_ wo)) := by
  intro n
  induction n with
  | zero =>
    intro f ge l4 l5 l6 hf hf5 hg
    iterate 3 refine ev_nx rfl ?_
    refine ev_ge (fun b67 => ?_) (fun b67 => absurd b67 (by omega))
    exact ev_rt rfl ⟨rfl, rfl⟩
  | succ n ih =>
    intro f ge l4 l5 l6 hf hf5 hg
    rw [mgr]
    by_cases h5 : f < 5
    · rw [if_pos h5]
      have hE := gE_le j (4 - f) f (by omega)
      have s1 := sgc_le be 1 (gE j f (4 - f) + 1 - f) f
      have s2 := sgc_le be 2 (gE j f (4 - f) + 1 - f) f
      iterate 3 refine ev_nx rfl ?_
      refine ev_ge (fun b67 => absurd b67 (by omega)) (fun b67 => ?_)
      iterate 2 refine ev_nx rfl ?_
      refine lp_crT6 ok ?_ (4 - f) f (by omega) rfl
      iterate 4 refine ev_nx rfl ?_
      show Ev (d + 1) m_X9_carries 102 [some (.ref 0), some (.ref 6), some (.int (nI s)), some (.int (nI f)), some (.int (nI (gE j f (4 - f)))), some (.int (nI 0 - nI 0)), some (.int (nI f))] [] _ _
      refine lp_crM6 hbe hb3 (by omega) (gE j f (4 - f) + 1 - f) f 0 0 (by omega) (by omega) (by omega) ?_
      rw [Nat.zero_add, Nat.zero_add]
      iterate 2 refine ev_nx rfl ?_
      refine lp_crS6 ok (by omega) (by omega) (by omega) (gE j f (4 - f) + 1 - f) f ge hg (by omega) ?_
      iterate 2 refine ev_nx rfl ?_
      refine ev_add rfl ?_
      iterate 2 refine ev_nx rfl ?_
      exact ih (gE j f (4 - f) + 1) _ _ _ _ (by omega) (by omega) (by rw [shs_len, hg])
    · rw [if_neg h5]
      iterate 3 refine ev_nx rfl ?_
      refine ev_ge (fun b67 => ?_) (fun b67 => absurd b67 (by omega))
      exact ev_rt rfl ⟨rfl, rfl⟩
theorem f_carriesR6 (ok : lok K S G c t j) (hbe : be.length = 5) (hge : ge.length = 5) {s : Nat} (hs : s < 31) : Ec (d + 1) m_X9_carries [.ref 0, .ref 6, .int (nI s)] (XM z y st (ll K S G c t j) be ge re rk br pt_ wo) (rtv (XM z y st (ll K S G c t j) (crb s c t) (mgr c j (crb s c t) 5 0 ge) re rk br pt_ wo)) := by
  refine ec_in [some (.ref 0), some (.ref 6), some (.int (nI s)), none, none, none, none] rfl rfl ?_
  obtain ⟨b0, b1, b2, b3, b4, rfl⟩ := l5 hbe
  iterate 2 refine ev_nx rfl ?_
  refine it_crA6 (p := 0) ok hs (by omega) rfl ?_
  rintro _ rfl
  refine it_crA6 (p := 1) ok hs (by omega) rfl ?_
  rintro _ rfl
  refine it_crA6 (p := 2) ok hs (by omega) rfl ?_
  rintro _ rfl
  refine it_crA6 (p := 3) ok hs (by omega) rfl ?_
  rintro _ rfl
  refine it_crA6 (p := 4) ok hs (by omega) rfl ?_
  rintro _ rfl
  iterate 3 refine ev_nx rfl ?_
  refine ev_ge (fun b4 => ?_) (fun b4 => absurd b4 (by omega))
  iterate 2 refine ev_nx rfl ?_
  exact lp_cr6 (be := crb s c t) ok rfl (crb_lt hs) 5 0 ge _ _ _ (by omega) (by omega) hge
end XB
