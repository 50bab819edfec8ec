/-! the reference: says -/
section XE
variable {d : Nat} {h : aH} {Q : Option Value → aH → Prop} {z : aZ} {y : aY} {st nw be ge re rl br pt_ : List Nat} {wo : List Int32} {K S G C : List Nat} {c t j : Nat}
theorem lp_sy1 {m r g a k s : Nat} (hs : s < 31) (hr : r < 1000) : ∀ n b S G be ge, b + n = r → lok K S G c t j → be.length = 5 → ge.length = 5 → (∀ be ge, be.length = 5 → ge.length = 5 → Ev (d + 3) m_X9_says 60 [some (.ref 0), some (.int (nI m)), some (.int (nI r)), some (.int (nI g)), some (.int (nI a)), some (.int (nI k)), some (.int (nI s)), some (.int (nI r))] [] (XM z y st (ll K (btn K (cry s c t j) n S G) (gtn (cry s c t j) n G) c t j) be ge re rl br pt_ wo) Q) → Ev (d + 3) m_X9_says 38 [some (.ref 0), some (.int (nI m)), some (.int (nI r)), some (.int (nI g)), some (.int (nI a)), some (.int (nI k)), some (.int (nI s)), some (.int (nI b))] [] (XM z y st (ll K S G c t j) be ge re rl br pt_ wo) Q := by
  intro n
  induction n with
  | zero =>
    intro b S G be ge hb ok hbe hge kk
    obtain rfl : b = r := by omega
    iterate 3 refine ev_nx rfl ?_
    refine ev_ge (fun b41 => ?_) (fun b41 => absurd b41 (by omega))
    exact kk be ge hbe hge
  | succ n ih =>
    intro b S G be ge hb ok hbe hge kk
    iterate 3 refine ev_nx rfl ?_
    refine ev_ge (fun b41 => absurd b41 (by omega)) (fun b41 => ?_)
    iterate 4 refine ev_nx rfl ?_
    refine ev_vv rfl rfl rfl rfl rfl rfl rfl rfl (f_beat6 ok hbe hge hs) ?_
    refine ev_inc rfl ⟨rfl, by decide⟩ rfl rfl ?_
    refine ev_nx rfl ?_
    refine ih (b + 1) _ _ _ _ (by omega) (bst_ok ok hs) rfl cry_len (fun be ge h1 h2 => ?_)
    rw [gtn_s]
    exact kk be ge h1 h2
theorem lp_sy2 {m r g a k s : Nat} (hg : g < 1000) : ∀ n b S G be ge, b + n = g → lok K S G c t j → be.length = 5 → ge.length = 5 → (∀ be ge, be.length = 5 → ge.length = 5 → Ev (d + 3) m_X9_says 122 [some (.ref 0), some (.int (nI m)), some (.int (nI r)), some (.int (nI g)), some (.int (nI a)), some (.int (nI k)), some (.int (nI s)), some (.int (nI g))] [] (XM z y st (ll K (btn K (cry 30 c t j) n S G) (gtn (cry 30 c t j) n G) c t j) be ge re rl br pt_ wo) Q) → Ev (d + 3) m_X9_says 100 [some (.ref 0), some (.int (nI m)), some (.int (nI r)), some (.int (nI g)), some (.int (nI a)), some (.int (nI k)), some (.int (nI s)), some (.int (nI b))] [] (XM z y st (ll K S G c t j) be ge re rl br pt_ wo) Q := by
  intro n
  induction n with
  | zero =>
    intro b S G be ge hb ok hbe hge kk
    obtain rfl : b = g := by omega
    iterate 3 refine ev_nx rfl ?_
    refine ev_ge (fun b103 => ?_) (fun b103 => absurd b103 (by omega))
    exact kk be ge hbe hge
  | succ n ih =>
    intro b S G be ge hb ok hbe hge kk
    iterate 3 refine ev_nx rfl ?_
    refine ev_ge (fun b103 => absurd b103 (by omega)) (fun b103 => ?_)
    iterate 4 refine ev_nx rfl ?_
    refine ev_vv rfl rfl rfl rfl rfl rfl rfl rfl (f_beat6 ok hbe hge (by decide)) ?_
    refine ev_inc rfl ⟨rfl, by decide⟩ rfl rfl ?_
    refine ev_nx rfl ?_
    refine ih (b + 1) _ _ _ _ (by omega) (bst_ok ok (by decide)) rfl cry_len (fun be ge h1 h2 => ?_)
    rw [gtn_s]
    exact kk be ge h1 h2
/-- what is read for each sign, from one on -/
def rdO (K : List Nat) (c t j r g : Nat) (l : List Nat) (x : List Nat × List Nat) (re re' : List Nat) (k : Nat) : Prop := re'.length = 8 ∧ (∀ q, q < k → re'.getD q 0 = re.getD q 0) ∧ ∀ q, q < l.length → re'.getD (k + q) 0 = rdk K c t j r g l q x
theorem lp_says {m r g : Nat} (mo : mok z.2.2.2.1 z.2.2.1 z.1.2.1) (hm : m < 6) (hr : r < 1000) (hg : g < 1000) : ∀ n k a x re be ge l6 l7, k + n = z.2.2.1.getD m 0 → a ≤ k → lok K x.1 x.2 c t j → be.length = 5 → ge.length = 5 → re.length = 8 → am_nl [some (.ref 0), some (.int (nI m)), some (.int (nI r)), some (.int (nI g)), some (.int (nI a)), some (.int (nI k)), l6] 7 = true → Ev (d + 3) m_X9_says 10 [some (.ref 0), some (.int (nI m)), some (.int (nI r)), some (.int (nI g)), some (.int (nI a)), some (.int (nI k)), l6, l7] [] (XM z y st (ll K x.1 x.2 c t j) be ge re rl br pt_ wo) (fun v h' => v = some (.int (nI (a + rgt K c t j r g ((msg z.2.2.2.1 z.2.2.1 m).drop k) x))) ∧ ∃ re', rdO K c t j r g ((msg z.2.2.2.1 z.2.2.1 m).drop k) x re re' k ∧ JL z y st K c t j re' rl br pt_ wo h') := by
  have h8 : z.2.2.1.getD m 0 ≤ 8 := by
    have := mo.2.2.1
    rw [List.getD, List.getElem?_eq_getElem (by omega)]; exact mo.2.2.2.1 _ (List.getElem_mem _)
  have hsl := mo.1
  have hzl := mo.2.2.1
  intro n
  induction n with
  | zero =>
    intro k a x re be ge l6 l7 hk ha ok hbe hge hre hnl
    have hd : (msg z.2.2.2.1 z.2.2.1 m).drop k = [] := List.drop_eq_nil_of_le (by rw [msg_len mo.1 hm h8]; omega)
    rw [hd]
    iterate 4 refine ev_nx rfl ?_
    refine ev_lN rfl rfl (by first | omega | (simp only [List.length_set, List.length_replicate]; omega)) ?_
    refine ev_nx rfl ?_
    refine ev_ge (fun b18 => ?_) (fun b18 => absurd b18 (by omega))
    refine ev_nx rfl ?_
    exact ev_ri rfl rfl rfl ⟨rfl, re, ⟨hre, fun _ _ => rfl, fun q hq => absurd hq (Nat.not_lt_zero _)⟩, x.1, x.2, ok, be, ge, hbe, hge, rfl⟩
  | succ n ih =>
    intro k a x re be ge l6 l7 hk ha ok hbe hge hre hnl
    have hsk : z.2.2.2.1.getD (m * 8 + k) 0 < 31 := gd3 mo.2.1 (by omega)
    rw [msg_drop mo.1 hm h8 (by omega)]
    generalize hsE : z.2.2.2.1.getD (m * 8 + k) 0 = s at hsk ⊢
    have hrk := rk_lt (r := r) ok hsk
    have hre2 : (re.set k (rk K c t j r s x)).length = 8 := by rw [List.length_set, hre]
    have fin : ∀ y1, y1 = (if rk K c t j r s x = s then 1 else 0) → ∀ be ge, be.length = 5 → ge.length = 5 → Ev (d + 3) m_X9_says 122 [some (.ref 0), some (.int (nI m)), some (.int (nI r)), some (.int (nI g)), some (.int (nI (a + y1))), some (.int (nI k)), some (.int (nI s)), some (.int (nI g))] [] (XM z y st (ll K (sy K c t j r g s x).1 (sy K c t j r g s x).2 c t j) be ge (re.set k (rk K c t j r s x)) rl br pt_ wo) (fun v h' => v = some (.int (nI (a + rgt K c t j r g (s :: (msg z.2.2.2.1 z.2.2.1 m).drop (k + 1)) x))) ∧ ∃ re', rdO K c t j r g (s :: (msg z.2.2.2.1 z.2.2.1 m).drop (k + 1)) x re re' k ∧ JL z y st K c t j re' rl br pt_ wo h') := by
      intro y1 hy be ge hbe hge
      have hy1 : y1 ≤ 1 := by rw [hy]; split <;> omega
      refine ev_inc rfl ⟨rfl, by decide⟩ rfl rfl ?_
      refine ev_nx rfl ?_
      refine ev_mono (ih (k + 1) (a + y1) (sy K c t j r g s x) (re.set k (rk K c t j r s x)) be ge _ _ (by omega) (by omega) (sy_ok ok hsk) hbe hge hre2 rfl) ?_
      rintro v h' ⟨rfl, re', ⟨q1, q2, q3⟩, hJ⟩
      refine ⟨by rw [rgt, ← hy, Nat.add_assoc], re', ⟨q1, fun q hq => ?_, fun q hq => ?_⟩, hJ⟩
      · rw [q2 q (by omega), gd_n (by omega)]
      · cases q with
        | zero => rw [Nat.add_zero, q2 k (by omega), gd_s (by omega)]; rfl
        | succ q =>
          rw [show k + (q + 1) = k + 1 + q by omega, q3 q (by simpa using hq)]
          rfl
    iterate 4 refine ev_nx rfl ?_
    refine ev_lN rfl rfl (by first | omega | (simp only [List.length_set, List.length_replicate]; omega)) ?_
    refine ev_nx rfl ?_
    refine ev_ge (fun b18 => absurd b18 (by omega)) (fun b18 => ?_)
    iterate 4 refine ev_nx rfl ?_
    refine ev_mul rfl ?_
    refine ev_nx rfl ?_
    refine ev_add rfl ?_
    rw [show 8 * m + k = m * 8 + k by omega]
    refine ev_lN rfl rfl (by omega) ?_
    rw [hsE]
    iterate 3 refine ev_nx rfl ?_
    refine lp_sy1 hsk hr r 0 x.1 x.2 be ge (by omega) ok hbe hge (fun be ge hbe hge => ?_)
    have ok2 : lok K (sd K c t j s r x).1 (sd K c t j s r x).2 c t j := sd_ok ok hsk
    show Ev (d + 3) m_X9_says 60 _ [] (XM z y st (ll K (sd K c t j s r x).1 (sd K c t j s r x).2 c t j) be ge re rl br pt_ wo) _
    iterate 6 refine ev_nx rfl ?_
    refine ev_vi rfl rfl rfl rfl rfl rfl rfl rfl (f_readOf6 ok2) ?_
    refine ev_sN rfl rfl (by omega) ?_
    iterate 4 refine ev_nx rfl ?_
    refine ev_lN rfl rfl (by first | omega | (simp only [List.length_set, List.length_replicate]; omega)) ?_
    rw [gd_s (by omega)]
    show Ev _ _ _ _ (.int (nI (rk K c t j r s x)) :: _) _ _
    iterate 2 refine ev_nx rfl ?_
    refine ev_ne (fun b86 => ?_) (fun b86 => ?_)
    · refine ev_nx rfl ?_
      refine ev_add rfl ?_
      iterate 3 refine ev_nx rfl ?_
      first | exact lp_sy2 hg g 0 (sd K c t j s r x).1 (sd K c t j s r x).2 be ge (by omega) ok2 hbe hge (fin 0 (by rw [if_neg b86])) | exact lp_sy2 hg g 0 (sd K c t j s r x).1 (sd K c t j s r x).2 be ge (by omega) ok2 hbe hge (fin 1 (by rw [if_pos b86]))
    · iterate 2 refine ev_nx rfl ?_
      refine ev_add rfl ?_
      iterate 3 refine ev_nx rfl ?_
      first | exact lp_sy2 hg g 0 (sd K c t j s r x).1 (sd K c t j s r x).2 be ge (by omega) ok2 hbe hge (fin 0 (by rw [if_neg b86])) | exact lp_sy2 hg g 0 (sd K c t j s r x).1 (sd K c t j s r x).2 be ge (by omega) ok2 hbe hge (fin 1 (by rw [if_pos b86]))
theorem f_says {m r g : Nat} (mo : mok z.2.2.2.1 z.2.2.1 z.1.2.1) (hm : m < 6) (hr : r < 1000) (hg : g < 1000) (hre : re.length = 8) (hJ : JL z y st K c t j re rl br pt_ wo h) : Ec (d + 3) m_X9_says [.ref 0, .int (nI m), .int (nI r), .int (nI g)] h (fun v h' => v = some (.int (nI (rgt K c t j r g (msg z.2.2.2.1 z.2.2.1 m) z55))) ∧ ∃ re', (re'.length = 8 ∧ ∀ q, q < z.2.2.1.getD m 0 → re'.getD q 0 = rdk K c t j r g (msg z.2.2.2.1 z.2.2.1 m) q z55) ∧ JL z y st K c t j re' rl br pt_ wo h') := by
  obtain ⟨S, G, ok, be, ge, hbe, hge, rfl⟩ := hJ
  refine ec_in [some (.ref 0), some (.int (nI m)), some (.int (nI r)), some (.int (nI g)), none, none, none, none] rfl rfl ?_
  have h8 : z.2.2.1.getD m 0 ≤ 8 := by
    have := mo.2.2.1
    rw [List.getD, List.getElem?_eq_getElem (by omega)]; exact mo.2.2.2.1 _ (List.getElem_mem _)
  have H := lp_says (d := d) (y := y) (st := st) (rl := rl) (br := br) (pt_ := pt_) (wo := wo) (K := K) (c := c) (t := t) (j := j) mo hm hr hg (z.2.2.1.getD m 0) 0 0 z55 re be ge none none (by omega) (by omega) (lok_rest ok) hbe hge hre rfl
  iterate 3 refine ev_nx rfl ?_
  refine ev_vv rfl rfl rfl rfl rfl rfl rfl rfl (f_rests ok) ?_
  iterate 2 refine ev_nx rfl ?_
  refine ev_mono H ?_
  rintro v h' ⟨rfl, re', ⟨q1, _, q3⟩, hJ⟩
  rw [List.drop_zero] at q3 ⊢
  refine ⟨by rw [Nat.zero_add], re', ⟨q1, fun q hq => ?_⟩, hJ⟩
  rw [← q3 q (by rw [msg_len mo.1 hm h8]; exact hq), Nat.zero_add]
end XE
