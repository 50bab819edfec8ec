/-! the reference: what is told of it, seen, heard, forgotten, kept -/
section XK
variable {d : Nat} {h : aH} {z : aZ} {y : aY} {st nw be ge re rl br pt_ : List Nat} {wo : List Int32} {K S G : List Nat} {c t j : Nat}
/-- numbers of a line: kind, standing, got -/
def ndA (K S G : List Nat) (p w : Nat) : Nat := if w = 0 then K.getD p 0 else if w = 1 then S.getD p 0 else G.getD p 0
def wrA (c t j : Nat) (p w : Nat) : Nat := if w = 0 then bt c p else if w = 1 then bt t p else bt j p
theorem g_needle {p w : Nat} (ok : lok K S G c t j) (hJ : Mq z y (ll K S G c t j) h) (hp : p < 5) (hw : w ≤ 2) : Ec (d + 2) m_X9_needle [.ref 0, .int (nI p), .int (nI w)] h (rt (.int (nI (ndA K S G p w))) h) := by
  obtain ⟨nw, be, ge, re, rl, br, pt_, wo, hln, rfl⟩ := hJ
  have hl := ll_len ok
  have w1 : wi (nI p) (nI 0) (nI 4) = 1 := by rw [wi_n (by omega) (by omega) (by omega), if_pos (by omega)]
  have w2 : wi (nI w) (nI 0) (nI 2) = 1 := by rw [wi_n (by omega) (by omega) (by omega), if_pos (by omega)]
  refine ec_in [some (.ref 0), some (.int (nI p)), some (.int (nI w))] rfl rfl ?_
  refine ev_nx rfl ?_
  refine ev_si rfl rfl (by decide) rfl rfl rfl rfl (f_isPlace _ _) ?_
  rw [w1]
  refine ev_nx rfl ?_
  refine ev_f (by decide) ?_
  iterate 3 refine ev_nx rfl ?_
  refine ev_si rfl rfl (by decide) rfl rfl rfl rfl (f_in _ _ _ _) ?_
  rw [w2]
  refine ev_nx rfl ?_
  refine ev_t (by decide) ?_
  iterate 4 refine ev_nx rfl ?_
  refine ev_ne0 (fun b23 => ?_) (fun b23 => ?_)
  · iterate 3 refine ev_nx rfl ?_
    refine ev_ne (fun b35 => ?_) (fun b35 => ?_)
    · iterate 2 refine ev_nx rfl ?_
      refine ev_add rfl ?_
      refine ev_lN rfl rfl (by omega) ?_
      first | rw [ll_K ok p hp] | rw [ll_S ok p hp] | rw [ll_G ok p hp]
      exact ev_ri rfl rfl rfl ⟨vI (by unfold ndA; (repeat' split) <;> first | rfl | omega), rfl⟩
    · iterate 2 refine ev_nx rfl ?_
      refine ev_add rfl ?_
      refine ev_nx rfl ?_
      refine ev_lN rfl rfl (by omega) ?_
      first | rw [ll_K ok p hp] | rw [ll_S ok p hp] | rw [ll_G ok p hp]
      exact ev_ri rfl rfl rfl ⟨vI (by unfold ndA; (repeat' split) <;> first | rfl | omega), rfl⟩
  · iterate 2 refine ev_nx rfl ?_
    refine ev_add rfl ?_
    refine ev_nx rfl ?_
    refine ev_lN rfl rfl (by omega) ?_
    first | rw [ll_K ok p hp] | rw [ll_S ok p hp] | rw [ll_G ok p hp]
    exact ev_ri rfl rfl rfl ⟨vI (by unfold ndA; (repeat' split) <;> first | rfl | omega), rfl⟩
theorem g_wire {p w : Nat} (ok : lok K S G c t j) (hJ : Mq z y (ll K S G c t j) h) (hp : p < 5) (hw : w ≤ 2) : Ec (d + 2) m_X9_wire [.ref 0, .int (nI p), .int (nI w)] h (rt (.int (nI (wrA c t j p w))) h) := by
  obtain ⟨nw, be, ge, re, rl, br, pt_, wo, hln, rfl⟩ := hJ
  have hl := ll_len ok
  have h4 := bt_4 ok.2.2.2.2.2
  have w1 : wi (nI p) (nI 0) (nI 4) = 1 := by rw [wi_n (by omega) (by omega) (by omega), if_pos (by omega)]
  have w2 : wi (nI w) (nI 0) (nI 2) = 1 := by rw [wi_n (by omega) (by omega) (by omega), if_pos (by omega)]
  refine ec_in [some (.ref 0), some (.int (nI p)), some (.int (nI w))] rfl rfl ?_
  refine ev_nx rfl ?_
  refine ev_si rfl rfl (by decide) rfl rfl rfl rfl (f_isPlace _ _) ?_
  rw [w1]
  refine ev_nx rfl ?_
  refine ev_f (by decide) ?_
  iterate 3 refine ev_nx rfl ?_
  refine ev_si rfl rfl (by decide) rfl rfl rfl rfl (f_in _ _ _ _) ?_
  rw [w2]
  refine ev_nx rfl ?_
  refine ev_t (by decide) ?_
  iterate 2 refine ev_nx rfl ?_
  refine ev_ne0 (fun b19 => ?_) (fun b19 => ?_)
  · iterate 3 refine ev_nx rfl ?_
    refine ev_ne (fun b35 => ?_) (fun b35 => ?_)
    · iterate 3 refine ev_nx rfl ?_
      refine ev_ne (fun b51 => ?_) (fun b51 => ?_)
      · iterate 4 refine ev_nx rfl ?_
        refine ev_add rfl ?_
        refine ev_lN rfl rfl (by omega) ?_
        rw [ll_j p (by omega)]
        exact ev_ri rfl rfl rfl ⟨vI (by unfold wrA; (repeat' split) <;> first | rfl | omega | (subst b51; omega)), rfl⟩
      · iterate 2 refine ev_nx rfl ?_
        exact ev_ri rfl rfl rfl ⟨vI (by unfold wrA; (repeat' split) <;> first | rfl | omega | (subst b51; omega)), rfl⟩
    · iterate 4 refine ev_nx rfl ?_
      refine ev_add rfl ?_
      refine ev_lN rfl rfl (by omega) ?_
      rw [ll_t p hp]
      refine ev_nx rfl ?_
      exact ev_ri rfl rfl rfl ⟨vI (by unfold wrA; (repeat' split) <;> first | rfl | omega | (subst b51; omega)), rfl⟩
  · iterate 4 refine ev_nx rfl ?_
    refine ev_add rfl ?_
    refine ev_lN rfl rfl (by omega) ?_
    rw [ll_c p hp]
    refine ev_nx rfl ?_
    exact ev_ri rfl rfl rfl ⟨vI (by unfold wrA; (repeat' split) <;> first | rfl | omega | (subst b51; omega)), rfl⟩
def spA (l : List Nat) : Option Nat → Int32
  | none => nI l.length
  | some k => if k < l.length then nI (l.getD k 0) else -(nI 4)
theorem wi_oI {k : Option Nat} {n : Nat} (hn : n < 65536) (hk : ∀ q, k = some q → q ≤ n) : wi (oI k) (-(nI 1)) (nI n) = 1 := by
  cases k with
  | none =>
    show wi (-(nI 1)) (-(nI 1)) (nI n) = 1
    unfold wi
    rw [if_pos ⟨Int32.le_refl _, Int32.le_of_lt (lt_m1 (by omega))⟩]
  | some k => unfold wi; rw [if_pos ⟨Int32.le_of_lt (lt_m1 (by have := hk k rfl; omega)), nI_le (hk k rfl) (by omega)⟩]
theorem g_spelt {m : Nat} {k : Option Nat} (mo : mok z.2.2.2.1 z.2.2.1 z.1.2.1) (hJ : Mq z y st h) (hm : m < z.1.2.1) (hk : ∀ q, k = some q → q ≤ 7) : Ec (d + 2) m_X9_spelt [.ref 0, .int (nI m), .int (oI k)] h (rt (.int (spA (msg z.2.2.2.1 z.2.2.1 m) k)) h) := by
  have h6 := mo.2.2.2.2
  have h8 := mok8 mo (show m < 6 by omega)
  have hzl := mo.2.2.1
  have hsl := mo.1
  have hml := msg_len mo.1 (show m < 6 by omega) h8
  have w1 : wi (nI m) (nI 0) (nI (z.1.2.1 - 1)) = 1 := by rw [wi_n (by omega) (by omega) (by omega), if_pos (by omega)]
  have w3 := wi_oI (n := 7) (by omega) hk
  refine ec_in [some (.ref 0), some (.int (nI m)), some (.int (oI k))] rfl rfl ?_
  iterate 2 refine ev_nx rfl ?_
  refine ev_vi rfl rfl rfl rfl rfl rfl (Mq_0 hJ) rfl (f_isMessage hJ (by omega)) ?_
  rw [w1]
  refine ev_nx rfl ?_
  refine ev_f (by decide) ?_
  iterate 3 refine ev_nx rfl ?_
  refine ev_si rfl rfl (by decide) rfl rfl rfl rfl (f_in _ _ _ _) ?_
  rw [w3]
  refine ev_nx rfl ?_
  refine ev_t (by decide) ?_
  refine ev_nx rfl ?_
  skip
  cases k with
  | none =>
    refine ev_nx rfl ?_
    refine ev_f (by decide) ?_
    refine ev_nx rfl ?_
    refine ev_gf rfl rfl (Mq_0 hJ) rfl ?_
    refine ev_nx rfl ?_
    refine ev_lN rfl (Mq_3 hJ) (by omega) ?_
    refine ev_nx rfl ?_
    exact ev_ri rfl rfl rfl ⟨by rw [spA, hml], rfl⟩
  | some k =>
    have hk7 := hk k rfl
    refine ev_nx rfl ?_
    refine ev_ge0 ?_
    iterate 2 refine ev_nx rfl ?_
    refine ev_gf rfl rfl (Mq_0 hJ) rfl ?_
    refine ev_nx rfl ?_
    refine ev_lN rfl (Mq_3 hJ) (by omega) ?_
    refine ev_nx rfl ?_
    refine ev_ge (fun b40 => ?_) (fun b40 => ?_)
    · refine ev_nx rfl ?_
      first | exact ev_ri rfl rfl rfl ⟨by rw [spA, if_pos (by omega), msg_at (by omega), Nat.mul_comm], rfl⟩ | exact ev_ri rfl rfl rfl ⟨by rw [spA, if_neg (by omega)], rfl⟩
    · refine ev_nx rfl ?_
      refine ev_gf rfl rfl (Mq_0 hJ) rfl ?_
      iterate 2 refine ev_nx rfl ?_
      refine ev_mul rfl ?_
      refine ev_nx rfl ?_
      refine ev_add rfl ?_
      refine ev_lN rfl (Mq_4 hJ) (by omega) ?_
      refine ev_nx rfl ?_
      first | exact ev_ri rfl rfl rfl ⟨by rw [spA, if_pos (by omega), msg_at (by omega), Nat.mul_comm], rfl⟩ | exact ev_ri rfl rfl rfl ⟨by rw [spA, if_neg (by omega)], rfl⟩
theorem g_reads (ok : lok K S G c t j) (hJ : Mq z y (ll K S G c t j) h) : Ec (d + 2) m_X9_reads [.ref 0] h (rt (.int (nI (rdS S))) h) := by
  obtain ⟨nw, be, ge, re, rl, br, pt_, wo, hln, rfl⟩ := hJ
  refine ec_in [some (.ref 0)] rfl rfl ?_
  iterate 3 refine ev_nx rfl ?_
  refine ev_vi rfl rfl rfl rfl rfl rfl rfl rfl (f_readOf5 ok) ?_
  exact ev_ri rfl rfl rfl ⟨rfl, rfl⟩
/-! sums of bits -/
theorem sm_c (ok : lok K S G c t j) : smr (ll K S G c t j) 0 5 0 = bt c 0 + (bt c 1 + (bt c 2 + (bt c 3 + (bt c 4 + 0)))) := rfl
theorem sm_t (ok : lok K S G c t j) : smr (ll K S G c t j) 5 5 0 = bt t 0 + (bt t 1 + (bt t 2 + (bt t 3 + (bt t 4 + 0)))) := rfl
theorem sm_j (ok : lok K S G c t j) : smr (ll K S G c t j) 10 4 0 = bt j 0 + (bt j 1 + (bt j 2 + (bt j 3 + 0))) := rfl
theorem pcn_5 : ∀ c : Fin 32, bt c.val 0 + (bt c.val 1 + (bt c.val 2 + (bt c.val 3 + (bt c.val 4 + 0)))) = pcn c.val := by decide +kernel
theorem pcn_4 : ∀ c : Fin 16, bt c.val 0 + (bt c.val 1 + (bt c.val 2 + (bt c.val 3 + 0))) = pcn c.val := by decide +kernel
theorem g_sumc {a : Nat} (ok : lok K S G c t j) (hA : h[a]? = some (ar (ll K S G c t j))) (ha : a < 100000) : Ec d m_X9_sum [.ref a, .int (nI 0), .int (nI 5)] h (rt (.int (nI (pcn c))) h) := by
  have hl := ll_len ok
  have := f_sum (d := d) hA ha (i := 0) (n := 5) (by omega) (by omega)
  rw [sm_c ok, pcn_5 ⟨c, ok.2.2.2.1⟩] at this
  exact this
theorem g_sumt {a : Nat} (ok : lok K S G c t j) (hA : h[a]? = some (ar (ll K S G c t j))) (ha : a < 100000) : Ec d m_X9_sum [.ref a, .int (nI 5), .int (nI 5)] h (rt (.int (nI (pcn t))) h) := by
  have hl := ll_len ok
  have := f_sum (d := d) hA ha (i := 5) (n := 5) (by omega) (by omega)
  rw [sm_t ok, pcn_5 ⟨t, ok.2.2.2.2.1⟩] at this
  exact this
theorem g_sumj {a : Nat} (ok : lok K S G c t j) (hA : h[a]? = some (ar (ll K S G c t j))) (ha : a < 100000) : Ec d m_X9_sum [.ref a, .int (nI 10), .int (nI 4)] h (rt (.int (nI (pcn j))) h) := by
  have hl := ll_len ok
  have := f_sum (d := d) hA ha (i := 10) (n := 4) (by omega) (by omega)
  rw [sm_j ok, pcn_4 ⟨j, ok.2.2.2.2.2⟩] at this
  exact this
theorem g_notUpright (ok : lok K S G c t j) (hJ : Mq z y (ll K S G c t j) h) : Ec d m_X9_notUpright [.ref 0] h (rt (.int (nI (nuz S))) h) := by
  obtain ⟨nw, be, ge, re, rl, br, pt_, wo, hln, rfl⟩ := hJ
  have hl := ll_len ok
  refine ec_in [some (.ref 0), none, none] rfl rfl ?_
  have H : ∀ p n (Q1 : Option Value → aH → Prop), p < 5 → Ev d m_X9_notUpright 4 [some (.ref 0), some (.int (nI (n + nu1 (S.getD p 0)))), some (.int (nI (p + 1)))] [] (XM z y (ll K S G c t j) nw be ge re rl br pt_ wo) Q1 → Ev d m_X9_notUpright 4 [some (.ref 0), some (.int (nI n)), some (.int (nI p))] [] (XM z y (ll K S G c t j) nw be ge re rl br pt_ wo) Q1 := by
    intro p n Q1 hp k
    have h3 : S.getD p 0 < 3 := gd3 ok.2.1.2 (by have := ok.2.1.1; omega)
    iterate 3 refine ev_nx rfl ?_
    refine ev_ge (fun b6 => absurd b6 (by omega)) (fun b6 => ?_)
    iterate 5 refine ev_nx rfl ?_
    refine ev_add rfl ?_
    refine ev_lN rfl rfl (by omega) ?_
    rw [ll_S ok p hp]
    refine ev_nx rfl ?_
    refine ev_ne0 (fun b19 => ?_) (fun b19 => ?_)
    · refine ev_nx rfl ?_
      refine ev_add rfl ?_
      refine ev_nx rfl ?_
      refine ev_inc rfl ⟨rfl, by decide⟩ rfl rfl ?_
      refine ev_nx rfl ?_
      first | (rw [nu1, if_neg b19] at k; exact k) | (rw [nu1, if_pos b19] at k; exact k)
    · iterate 2 refine ev_nx rfl ?_
      refine ev_add rfl ?_
      refine ev_nx rfl ?_
      refine ev_inc rfl ⟨rfl, by decide⟩ rfl rfl ?_
      refine ev_nx rfl ?_
      first | (rw [nu1, if_neg b19] at k; exact k) | (rw [nu1, if_pos b19] at k; exact k)
  iterate 4 refine ev_nx rfl ?_
  refine H 0 0 _ (by decide) (H 1 _ _ (by decide) (H 2 _ _ (by decide) (H 3 _ _ (by decide) (H 4 _ _ (by decide) ?_))))
  iterate 3 refine ev_nx rfl ?_
  refine ev_ge (fun b6 => ?_) (fun b6 => absurd b6 (by omega))
  refine ev_nx rfl ?_
  exact ev_ri rfl rfl rfl ⟨vI (by unfold nuz; omega), rfl⟩
def ctA (me c t j : Nat) (S : List Nat) (un ke sm hm le w : Nat) : Int32 := match w with
  | 0 => nI me
  | 1 => nI (pcn c)
  | 2 => nI (pcn t)
  | 3 => nI (pcn j)
  | 4 => nI (nuz S)
  | 5 => nI un
  | 6 => nI ke
  | 7 => nI sm
  | 8 => nI hm
  | _ => nI le
theorem g_count {w : Nat} (ok : lok K S G c t j) (hJ : Mq z y (ll K S G c t j) h) (hw : w ≤ 9) : Ec (d + 1) m_X9_count [.ref 0, .int (nI w)] h (rt (.int (ctA z.1.2.1 c t j S z.1.2.2.1 z.1.2.2.2.1 z.1.2.2.2.2.1 z.1.2.2.2.2.2 z.1.1 w)) h) := by
  have hJ0 := hJ
  obtain ⟨nw, be, ge, re, rl, br, pt_, wo, hln, rfl⟩ := hJ
  refine ec_in [some (.ref 0), some (.int (nI w))] rfl rfl ?_
  refine ev_nx rfl ?_
  rcases (show w = 0 ∨ w = 1 ∨ w = 2 ∨ w = 3 ∨ w = 4 ∨ w = 5 ∨ w = 6 ∨ w = 7 ∨ w = 8 ∨ w = 9 by omega) with rfl | rfl | rfl | rfl | rfl | rfl | rfl | rfl | rfl | rfl
  · refine ev_nx (pc' := 56) rfl ?_
    iterate 2 refine ev_nx rfl ?_
    exact ev_ri rfl rfl rfl ⟨rfl, rfl⟩
  · refine ev_nx (pc' := 61) rfl ?_
    iterate 4 refine ev_nx rfl ?_
    refine ev_si rfl rfl (by decide) rfl rfl rfl rfl (g_sumc ok rfl (by decide)) ?_
    exact ev_ri rfl rfl rfl ⟨rfl, rfl⟩
  · refine ev_nx (pc' := 71) rfl ?_
    iterate 4 refine ev_nx rfl ?_
    refine ev_si rfl rfl (by decide) rfl rfl rfl rfl (g_sumt ok rfl (by decide)) ?_
    exact ev_ri rfl rfl rfl ⟨rfl, rfl⟩
  · refine ev_nx (pc' := 81) rfl ?_
    iterate 4 refine ev_nx rfl ?_
    refine ev_si rfl rfl (by decide) rfl rfl rfl rfl (g_sumj ok rfl (by decide)) ?_
    exact ev_ri rfl rfl rfl ⟨rfl, rfl⟩
  · refine ev_nx (pc' := 92) rfl ?_
    refine ev_nx rfl ?_
    refine ev_vi rfl rfl rfl rfl rfl rfl rfl rfl (g_notUpright ok hJ0) ?_
    exact ev_ri rfl rfl rfl ⟨rfl, rfl⟩
  · refine ev_nx (pc' := 97) rfl ?_
    iterate 2 refine ev_nx rfl ?_
    exact ev_ri rfl rfl rfl ⟨rfl, rfl⟩
  · refine ev_nx (pc' := 102) rfl ?_
    iterate 2 refine ev_nx rfl ?_
    exact ev_ri rfl rfl rfl ⟨rfl, rfl⟩
  · refine ev_nx (pc' := 107) rfl ?_
    iterate 2 refine ev_nx rfl ?_
    exact ev_ri rfl rfl rfl ⟨rfl, rfl⟩
  · refine ev_nx (pc' := 112) rfl ?_
    iterate 2 refine ev_nx rfl ?_
    exact ev_ri rfl rfl rfl ⟨rfl, rfl⟩
  · refine ev_nx (pc' := 117) rfl ?_
    iterate 2 refine ev_nx rfl ?_
    exact ev_ri rfl rfl rfl ⟨rfl, rfl⟩
end XK
