/-! the reference: readOf, asItIs, rests, sent -/
section XD
variable {d : Nat} {h : aH} {Q : Option Value → aH → Prop} {z : aZ} {y : aY} {st nw be ge re rk br pt_ : List Nat} {wo : List Int32} {K S G C : List Nat} {c t j : Nat}
/-- is it the sign's row, from a place on -/
def isg (S : List Nat) (s : Nat) : Nat → Nat → Nat → Nat
  | 0, _, i => i
  | r + 1, p, i => isg S s r (p + 1) (if i = 0 then 0 else if S.getD p 0 = pt s p then 1 else 0)
/-- the first sign whose row it is -/
def mrd (S : List Nat) : Nat → Nat → Nat
  | 0, _ => 31
  | r + 1, s => if isg S s 5 0 1 = 0 then mrd S r (s + 1) else s
theorem mrd_rd : ∀ a b c d e : Fin 3, mrd [a.val, b.val, c.val, d.val, e.val] 31 0 = rdS [a.val, b.val, c.val, d.val, e.val] := by decide +kernel
theorem mrd_eq (hS : S.length = 5) (hS3 : ∀ s ∈ S, s < 3) : mrd S 31 0 = rdS S := by
  obtain ⟨s0, s1, s2, s3, s4, rfl⟩ := l5 hS
  exact mrd_rd ⟨s0, hS3 _ (by simp)⟩ ⟨s1, hS3 _ (by simp)⟩ ⟨s2, hS3 _ (by simp)⟩ ⟨s3, hS3 _ (by simp)⟩ ⟨s4, hS3 _ (by simp)⟩
theorem isg_lt {s : Nat} : ∀ r p i, i < 2 → isg S s r p i < 2 := by
  intro r
  induction r with
  | zero => intro p i h; exact h
  | succ r ih => intro p i h; rw [isg]; exact ih _ _ (by (repeat' split) <;> omega)
theorem nr2 {i : Nat} (hi : i < 2) : narrow .boolean (.int (nI i)) = .int (nI i) := by
  rcases (show i = 0 ∨ i = 1 by omega) with rfl | rfl <;> rfl
theorem f_isSign5 (ok : lok K S G c t j) {s : Nat} (hs : s < 31) : Ec d m_X9_isSign [.ref 0, .ref 5, .int (nI s)] (XM z y (ll K S G c t j) nw be ge re rk br pt_ wo) (rt (.int (nI (isg S s 5 0 1))) (XM z y (ll K S G c t j) nw be ge re rk br pt_ wo)) := by
  refine ec_in [some (.ref 0), some (.ref 5), some (.int (nI s)), none, none] rfl rfl ?_
  have hl := ll_len ok
  have H : ∀ r p i, p + r = 5 → i < 2 → Ev d m_X9_isSign 5 [some (.ref 0), some (.ref 5), some (.int (nI s)), some (.int (nI i)), some (.int (nI p))] [] (XM z y (ll K S G c t j) nw be ge re rk br pt_ wo) (rt (.int (nI (isg S s r p i))) (XM z y (ll K S G c t j) nw be ge re rk br pt_ wo)) := by
    intro r
    induction r with
    | zero =>
      intro p i hp hi
      iterate 3 refine ev_nx rfl ?_
      refine ev_ge (fun b8 => ?_) (fun b8 => absurd b8 (by omega))
      refine ev_nx rfl ?_
      exact ev_ri rfl rfl (nr2 hi) ⟨rfl, rfl⟩
    | succ r ih =>
      intro p i hp hi
      have h1 : S.getD p 0 < 3 := gd3 ok.2.1.2 (by have := ok.2.1.1; omega)
      have h2 := pt_lt hs (show p < 5 by omega)
      rw [isg]
      iterate 3 refine ev_nx rfl ?_
      refine ev_ge (fun b8 => absurd b8 (by omega)) (fun b8 => ?_)
      iterate 2 refine ev_nx rfl ?_
      refine ev_eq0 (fun b12 => ?_) (fun b12 => ?_)
      · iterate 2 refine ev_nx rfl ?_
        refine ev_inc rfl ⟨rfl, by decide⟩ rfl rfl ?_
        refine ev_nx rfl ?_
        first | rw [if_pos b12] | (rw [if_neg b12]; first | rw [if_pos b33] | rw [if_neg b33])
        exact ih (p + 1) _ (by omega) (by omega)
      · iterate 3 refine ev_nx rfl ?_
        refine ev_add rfl ?_
        refine ev_lN rfl rfl (by omega) ?_
        rw [ll_S ok p (by omega)]
        iterate 4 refine ev_nx rfl ?_
        refine ev_mul rfl ?_
        refine ev_nx rfl ?_
        refine ev_add rfl ?_
        rw [show 5 * s + p = s * 5 + p by omega]
        refine ev_lN rfl rfl ⟨show s * 5 + p < 155 by omega, by omega, by decide⟩ ?_
        show Ev _ _ _ _ (.int (nI (pt s p)) :: _) _ _
        refine ev_nx rfl ?_
        refine ev_ne (fun b33 => ?_) (fun b33 => ?_)
        · iterate 2 refine ev_nx rfl ?_
          refine ev_inc rfl ⟨rfl, by decide⟩ rfl rfl ?_
          refine ev_nx rfl ?_
          first | rw [if_pos b12] | (rw [if_neg b12]; first | rw [if_pos b33] | rw [if_neg b33])
          exact ih (p + 1) _ (by omega) (by omega)
        · iterate 3 refine ev_nx rfl ?_
          refine ev_inc rfl ⟨rfl, by decide⟩ rfl rfl ?_
          refine ev_nx rfl ?_
          first | rw [if_pos b12] | (rw [if_neg b12]; first | rw [if_pos b33] | rw [if_neg b33])
          exact ih (p + 1) _ (by omega) (by omega)
  iterate 4 refine ev_nx rfl ?_
  exact H 5 0 1 rfl (by omega)
theorem f_readOf5 (ok : lok K S G c t j) : Ec (d + 1) m_X9_readOf [.ref 0, .ref 5] (XM z y (ll K S G c t j) nw be ge re rk br pt_ wo) (rt (.int (nI (rdS S))) (XM z y (ll K S G c t j) nw be ge re rk br pt_ wo)) := by
  refine ec_in [some (.ref 0), some (.ref 5), none] rfl rfl ?_
  rw [← mrd_eq ok.2.1.1 ok.2.1.2]
  have H : ∀ r s, s + r = 31 → Ev (d + 1) m_X9_readOf 2 [some (.ref 0), some (.ref 5), some (.int (nI s))] [] (XM z y (ll K S G c t j) nw be ge re rk br pt_ wo) (rt (.int (nI (mrd S r s))) (XM z y (ll K S G c t j) nw be ge re rk br pt_ wo)) := by
    intro r
    induction r with
    | zero =>
      intro s hs
      iterate 3 refine ev_nx rfl ?_
      refine ev_gt (fun b5 => ?_) (fun b5 => absurd b5 (by omega))
      refine ev_nx rfl ?_
      exact ev_ri rfl rfl rfl ⟨rfl, rfl⟩
    | succ r ih =>
      intro s hs
      have hi := isg_lt (S := S) (s := s) 5 0 1 (by omega)
      rw [mrd]
      iterate 3 refine ev_nx rfl ?_
      refine ev_gt (fun b5 => absurd b5 (by omega)) (fun b5 => ?_)
      iterate 3 refine ev_nx rfl ?_
      refine ev_vi rfl rfl rfl rfl rfl rfl rfl rfl (f_isSign5 ok (by omega)) ?_
      refine ev_nx rfl ?_
      refine ev_eq0 (fun b14 => ?_) (fun b14 => ?_)
      · refine ev_inc rfl ⟨rfl, by decide⟩ rfl rfl ?_
        refine ev_nx rfl ?_
        rw [if_pos b14]
        exact ih (s + 1) (by omega)
      · refine ev_nx rfl ?_
        rw [if_neg b14]
        exact ev_ri rfl rfl rfl ⟨rfl, rfl⟩
  iterate 2 refine ev_nx rfl ?_
  exact H 31 0 rfl
theorem f_isSign6 (ok : lok K S G c t j) {s : Nat} (hs : s < 31) : Ec d m_X9_isSign [.ref 0, .ref 6, .int (nI s)] (XM z y st (ll K S G c t j) be ge re rk br pt_ wo) (rt (.int (nI (isg S s 5 0 1))) (XM z y st (ll K S G c t j) be ge re rk br pt_ wo)) := by
  refine ec_in [some (.ref 0), some (.ref 6), some (.int (nI s)), none, none] rfl rfl ?_
  have hl := ll_len ok
  have H : ∀ r p i, p + r = 5 → i < 2 → Ev d m_X9_isSign 5 [some (.ref 0), some (.ref 6), some (.int (nI s)), some (.int (nI i)), some (.int (nI p))] [] (XM z y st (ll K S G c t j) be ge re rk br pt_ wo) (rt (.int (nI (isg S s r p i))) (XM z y st (ll K S G c t j) be ge re rk br pt_ wo)) := by
    intro r
    induction r with
    | zero =>
      intro p i hp hi
      iterate 3 refine ev_nx rfl ?_
      refine ev_ge (fun b8 => ?_) (fun b8 => absurd b8 (by omega))
      refine ev_nx rfl ?_
      exact ev_ri rfl rfl (nr2 hi) ⟨rfl, rfl⟩
    | succ r ih =>
      intro p i hp hi
      have h1 : S.getD p 0 < 3 := gd3 ok.2.1.2 (by have := ok.2.1.1; omega)
      have h2 := pt_lt hs (show p < 5 by omega)
      rw [isg]
      iterate 3 refine ev_nx rfl ?_
      refine ev_ge (fun b8 => absurd b8 (by omega)) (fun b8 => ?_)
      iterate 2 refine ev_nx rfl ?_
      refine ev_eq0 (fun b12 => ?_) (fun b12 => ?_)
      · iterate 2 refine ev_nx rfl ?_
        refine ev_inc rfl ⟨rfl, by decide⟩ rfl rfl ?_
        refine ev_nx rfl ?_
        first | rw [if_pos b12] | (rw [if_neg b12]; first | rw [if_pos b33] | rw [if_neg b33])
        exact ih (p + 1) _ (by omega) (by omega)
      · iterate 3 refine ev_nx rfl ?_
        refine ev_add rfl ?_
        refine ev_lN rfl rfl (by omega) ?_
        rw [ll_S ok p (by omega)]
        iterate 4 refine ev_nx rfl ?_
        refine ev_mul rfl ?_
        refine ev_nx rfl ?_
        refine ev_add rfl ?_
        rw [show 5 * s + p = s * 5 + p by omega]
        refine ev_lN rfl rfl ⟨show s * 5 + p < 155 by omega, by omega, by decide⟩ ?_
        show Ev _ _ _ _ (.int (nI (pt s p)) :: _) _ _
        refine ev_nx rfl ?_
        refine ev_ne (fun b33 => ?_) (fun b33 => ?_)
        · iterate 2 refine ev_nx rfl ?_
          refine ev_inc rfl ⟨rfl, by decide⟩ rfl rfl ?_
          refine ev_nx rfl ?_
          first | rw [if_pos b12] | (rw [if_neg b12]; first | rw [if_pos b33] | rw [if_neg b33])
          exact ih (p + 1) _ (by omega) (by omega)
        · iterate 3 refine ev_nx rfl ?_
          refine ev_inc rfl ⟨rfl, by decide⟩ rfl rfl ?_
          refine ev_nx rfl ?_
          first | rw [if_pos b12] | (rw [if_neg b12]; first | rw [if_pos b33] | rw [if_neg b33])
          exact ih (p + 1) _ (by omega) (by omega)
  iterate 4 refine ev_nx rfl ?_
  exact H 5 0 1 rfl (by omega)
theorem f_readOf6 (ok : lok K S G c t j) : Ec (d + 1) m_X9_readOf [.ref 0, .ref 6] (XM z y st (ll K S G c t j) be ge re rk br pt_ wo) (rt (.int (nI (rdS S))) (XM z y st (ll K S G c t j) be ge re rk br pt_ wo)) := by
  refine ec_in [some (.ref 0), some (.ref 6), none] rfl rfl ?_
  rw [← mrd_eq ok.2.1.1 ok.2.1.2]
  have H : ∀ r s, s + r = 31 → Ev (d + 1) m_X9_readOf 2 [some (.ref 0), some (.ref 6), some (.int (nI s))] [] (XM z y st (ll K S G c t j) be ge re rk br pt_ wo) (rt (.int (nI (mrd S r s))) (XM z y st (ll K S G c t j) be ge re rk br pt_ wo)) := by
    intro r
    induction r with
    | zero =>
      intro s hs
      iterate 3 refine ev_nx rfl ?_
      refine ev_gt (fun b5 => ?_) (fun b5 => absurd b5 (by omega))
      refine ev_nx rfl ?_
      exact ev_ri rfl rfl rfl ⟨rfl, rfl⟩
    | succ r ih =>
      intro s hs
      have hi := isg_lt (S := S) (s := s) 5 0 1 (by omega)
      rw [mrd]
      iterate 3 refine ev_nx rfl ?_
      refine ev_gt (fun b5 => absurd b5 (by omega)) (fun b5 => ?_)
      iterate 3 refine ev_nx rfl ?_
      refine ev_vi rfl rfl rfl rfl rfl rfl rfl rfl (f_isSign6 ok (by omega)) ?_
      refine ev_nx rfl ?_
      refine ev_eq0 (fun b14 => ?_) (fun b14 => ?_)
      · refine ev_inc rfl ⟨rfl, by decide⟩ rfl rfl ?_
        refine ev_nx rfl ?_
        rw [if_pos b14]
        exact ih (s + 1) (by omega)
      · refine ev_nx rfl ?_
        rw [if_neg b14]
        exact ev_ri rfl rfl rfl ⟨rfl, rfl⟩
  iterate 2 refine ev_nx rfl ?_
  exact H 31 0 rfl
theorem brg_all {A : List Nat} : ∀ (n k : Nat) (B : List Nat), k + n = A.length → B.length = A.length → brg A B 0 0 n k = B.take k ++ A.drop k
  | 0, k, B, h1, h2 => by
    rw [brg, List.take_of_length_le (by omega), List.drop_eq_nil_of_le (by omega), List.append_nil]
  | n + 1, k, B, h1, h2 => by
    rw [brg, brg_all n (k + 1) _ (by omega) (by rw [List.length_set]; exact h2), Nat.zero_add, List.drop_eq_getElem_cons (i := k) (by omega), List.take_set, List.take_succ_eq_append_getElem (by omega)]
    rw [List.set_append_right k _ (by rw [List.length_take]; omega)]
    simp [List.length_take, Nat.min_eq_left (show k ≤ B.length by omega), List.getElem?_eq_getElem (show k < A.length by omega)]
theorem brg_id {A B : List Nat} {n : Nat} (h1 : A.length = n) (h2 : B.length = n) : brg A B 0 0 n 0 = A := by
  rw [brg_all n 0 B (by omega) (by omega)]; rfl
theorem f_asItIs (hs : st.length = 29) (hn : nw.length = 29) : Ec (d + 1) m_X9_asItIs [.ref 0] (XM z y st nw be ge re rk br pt_ wo) (rtv (XM z y st st be ge re rk br pt_ wo)) := by
  refine ec_in [some (.ref 0)] rfl rfl ?_
  have H := f_bring (d := d) (h := XM z y st nw be ge re rk br pt_ wo) (A := st) (B := nw) (a := 5) (b := 6) (i := 0) (k := 0) (n := 29) rfl rfl (by decide) (by decide) (by omega) (by omega)
  rw [brg_id hs hn] at H
  iterate 7 refine ev_nx rfl ?_
  refine ev_cv rfl rfl H ?_
  exact ev_rt rfl ⟨rfl, rfl⟩
/-- n numbers of a row from k on are 0 -/
def zfl : Nat → Nat → List Nat → List Nat
  | 0, _, l => l
  | n + 1, k, l => zfl n (k + 1) (l.set k 0)
theorem zfl_ll (ok : lok K S G c t j) : zfl 10 19 (ll K S G c t j) = ll K z5 z5 c t j := by
  obtain ⟨k0, k1, k2, k3, k4, rfl⟩ := l5 ok.1.1
  obtain ⟨s0, s1, s2, s3, s4, rfl⟩ := l5 ok.2.1.1
  obtain ⟨g0, g1, g2, g3, g4, rfl⟩ := l5 ok.2.2.1.1
  rfl
theorem f_rests (ok : lok K S G c t j) : Ec d m_X9_rests [.ref 0] (XM z y st (ll K S G c t j) be ge re rk br pt_ wo) (rtv (XM z y st (ll K z5 z5 c t j) be ge re rk br pt_ wo)) := by
  refine ec_in [some (.ref 0), none] rfl rfl ?_
  have hl := ll_len ok
  rw [← zfl_ll ok]
  generalize ll K S G c t j = nw at hl
  have H : ∀ r k nw, k + r = 29 → nw.length = 29 → Ev d m_X9_rests 3 [some (.ref 0), some (.int (nI k))] [] (XM z y st nw be ge re rk br pt_ wo) (rtv (XM z y st (zfl r k nw) be ge re rk br pt_ wo)) := by
    intro r
    induction r with
    | zero =>
      intro k nw hk hn
      iterate 3 refine ev_nx rfl ?_
      refine ev_ge (fun b6 => ?_) (fun b6 => absurd b6 (by omega))
      exact ev_rt rfl ⟨rfl, rfl⟩
    | succ r ih =>
      intro k nw hk hn
      iterate 3 refine ev_nx rfl ?_
      refine ev_ge (fun b6 => absurd b6 (by omega)) (fun b6 => ?_)
      iterate 4 refine ev_nx rfl ?_
      refine ev_sN rfl rfl (by first | omega | (simp only [List.length_set, List.length_replicate]; omega)) ?_
      refine ev_inc rfl ⟨rfl, by decide⟩ rfl rfl ?_
      refine ev_nx rfl ?_
      exact ih (k + 1) _ (by omega) (by rw [List.length_set, hn])
  iterate 2 refine ev_nx rfl ?_
  exact H 10 19 nw rfl hl
/-- the reference's heap, beside what beats leave -/
def JB (z : aZ) (y : aY) (st nw re rk br pt_ : List Nat) (wo : List Int32) (h : aH) : Prop := ∃ be ge, be.length = 5 ∧ ge.length = 5 ∧ h = XM z y st nw be ge re rk br pt_ wo
/-- as it is tried it is such a line -/
def JL (z : aZ) (y : aY) (st K : List Nat) (c t j : Nat) (re rk br pt_ : List Nat) (wo : List Int32) (h : aH) : Prop := ∃ S G, lok K S G c t j ∧ JB z y st (ll K S G c t j) re rk br pt_ wo h
theorem bst_ok (ok : lok K S G c t j) {s : Nat} (hs : s < 31) : lok K (bst K (cry s c t j) S G) (cry s c t j) c t j :=
  ⟨ok.1, ⟨rfl, bst_lt cry_len (cry_lt hs) ok.2.1.1 ok.2.1.2 ok.2.2.1.1 ok.2.2.1.2⟩, ⟨cry_len, cry_lt hs⟩, ok.2.2.2⟩
theorem gtn_s {n : Nat} : gtn C n C = C := by unfold gtn; split <;> rfl
theorem f_sent {s r : Nat} (hJ : JL z y st K c t j re rk br pt_ wo h) (hs : s < 31) (hr : r < 1000) : Ec (d + 3) m_X9_sent [.ref 0, .int (nI s), .int (nI r)] h (fun v h' => v = some (.int (nI (rdS (btn K (cry s c t j) r z5 z5)))) ∧ JL z y st K c t j re rk br pt_ wo h') := by
  obtain ⟨S, G, ok, be, ge, hbe, hge, rfl⟩ := hJ
  refine ec_in [some (.ref 0), some (.int (nI s)), some (.int (nI r)), none] rfl rfl ?_
  have H : ∀ n b S G be ge, b + n = r → lok K S G c t j → be.length = 5 → ge.length = 5 → Ev (d + 3) m_X9_sent 6 [some (.ref 0), some (.int (nI s)), some (.int (nI r)), some (.int (nI b))] [] (XM z y st (ll K S G c t j) be ge re rk br pt_ wo) (fun v h' => v = some (.int (nI (rdS (btn K (cry s c t j) n S G)))) ∧ JL z y st K c t j re rk br pt_ wo h') := by
    intro n
    induction n with
    | zero =>
      intro b S G be ge hb ok hbe hge
      iterate 3 refine ev_nx rfl ?_
      refine ev_ge (fun b8 => ?_) (fun b8 => absurd b8 (by omega))
      iterate 3 refine ev_nx rfl ?_
      refine ev_vi rfl rfl rfl rfl rfl rfl rfl rfl (f_readOf6 ok) ?_
      exact ev_ri rfl rfl rfl ⟨rfl, S, G, ok, be, ge, hbe, hge, rfl⟩
    | succ n ih =>
      intro b S G be ge hb ok hbe hge
      rw [btn]
      iterate 3 refine ev_nx rfl ?_
      refine ev_ge (fun b8 => absurd b8 (by omega)) (fun b8 => ?_)
      iterate 4 refine ev_nx rfl ?_
      refine ev_vv rfl rfl rfl rfl rfl rfl rfl rfl (f_beat6 ok hbe hge hs) ?_
      refine ev_inc rfl ⟨rfl, by decide⟩ rfl rfl ?_
      refine ev_nx rfl ?_
      exact ih (b + 1) _ _ _ _ (by omega) (bst_ok ok hs) rfl cry_len
  refine ev_nx rfl ?_
  refine ev_vv rfl rfl rfl rfl rfl rfl rfl rfl (f_rests ok) ?_
  iterate 2 refine ev_nx rfl ?_
  exact H r 0 z5 z5 be ge (by omega) (lok_rest ok) hbe hge
end XD
