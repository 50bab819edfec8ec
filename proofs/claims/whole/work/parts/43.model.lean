/-! the reference: its heap; a line in one row of numbers -/
/-- length, messages, undos, keeps, seenMany, heardMany; text, sizes, spelt, book, kept, seen, heard -/
abbrev aZ : Type := (Nat × Nat × Nat × Nat × Nat × Nat) × (List Nat × List Nat × List Nat × List Nat × List Nat × List Nat × List Nat)
/-- place, isWrong, readMany; read, readSizes, readSpelt -/
abbrev aY : Type := Nat × Nat × Nat × List Nat × List Nat × List Nat
def xo (le me un ke sm hm pl wr rm : Nat) : aC := .inr (.inr (9, [.ref 1, .int (nI le), .ref 2, .int (nI me), .ref 3, .ref 4, .ref 5, .ref 6, .ref 7, .int (nI un), .ref 8, .int (nI ke), .ref 9, .int (nI sm), .ref 10, .int (nI hm), .int (nI pl), .int (nI wr), .int (nI rm), .ref 11, .ref 12, .ref 13, .ref 14, .ref 15, .ref 16, .ref 17, .ref 18, .ref 19, .ref 20]))
def XM (z : aZ) (y : aY) (st nw be ge re rk br pt : List Nat) (wo : List Int32) : aH :=
  [xo z.1.1 z.1.2.1 z.1.2.2.1 z.1.2.2.2.1 z.1.2.2.2.2.1 z.1.2.2.2.2.2 y.1 y.2.1 y.2.2.1, ar z.2.1, ar ptT, ar z.2.2.1, ar z.2.2.2.1, ar st, ar nw, ar z.2.2.2.2.1, ar z.2.2.2.2.2.1, ar z.2.2.2.2.2.2.1, ar z.2.2.2.2.2.2.2, ar y.2.2.2.1, ar y.2.2.2.2.1, ar y.2.2.2.2.2, ar be, ar ge, ar re, ar rk, ar br, ar pt, .inl (0, wo)]
/-- bits of a mask, in a row -/
def b5 (c : Nat) : List Nat := [bt c 0, bt c 1, bt c 2, bt c 3, bt c 4]
def b4 (c : Nat) : List Nat := [bt c 0, bt c 1, bt c 2, bt c 3]
def ll (K S G : List Nat) (c t j : Nat) : List Nat := b5 c ++ (b5 t ++ (b4 j ++ (K ++ (S ++ G))))
section LL
variable {K S G : List Nat} {c t j : Nat}
theorem c5 {p : Nat} (hp : p < 5) : p = 0 ∨ p = 1 ∨ p = 2 ∨ p = 3 ∨ p = 4 := by omega
theorem c4 {p : Nat} (hp : p < 4) : p = 0 ∨ p = 1 ∨ p = 2 ∨ p = 3 := by omega
theorem ll_len (ok : lok K S G c t j) : (ll K S G c t j).length = 29 := by
  obtain ⟨⟨h1, _⟩, ⟨h2, _⟩, ⟨h3, _⟩, _⟩ := ok
  simp [ll, b5, b4, h1, h2, h3]
theorem ll_c (p : Nat) (hp : p < 5) : (ll K S G c t j).getD (0 + p) 0 = bt c p := by
  rcases c5 hp with rfl | rfl | rfl | rfl | rfl <;> rfl
theorem ll_t (p : Nat) (hp : p < 5) : (ll K S G c t j).getD (5 + p) 0 = bt t p := by
  rcases c5 hp with rfl | rfl | rfl | rfl | rfl <;> rfl
theorem ll_j (p : Nat) (hp : p < 4) : (ll K S G c t j).getD (10 + p) 0 = bt j p := by
  rcases c4 hp with rfl | rfl | rfl | rfl <;> rfl
theorem ll_K (ok : lok K S G c t j) (p : Nat) (hp : p < 5) : (ll K S G c t j).getD (14 + p) 0 = K.getD p 0 := by
  obtain ⟨k0, k1, k2, k3, k4, rfl⟩ := l5 ok.1.1
  rcases c5 hp with rfl | rfl | rfl | rfl | rfl <;> rfl
theorem ll_S (ok : lok K S G c t j) (p : Nat) (hp : p < 5) : (ll K S G c t j).getD (19 + p) 0 = S.getD p 0 := by
  obtain ⟨k0, k1, k2, k3, k4, rfl⟩ := l5 ok.1.1
  obtain ⟨s0, s1, s2, s3, s4, rfl⟩ := l5 ok.2.1.1
  rcases c5 hp with rfl | rfl | rfl | rfl | rfl <;> rfl
theorem ll_G (ok : lok K S G c t j) (p : Nat) (hp : p < 5) : (ll K S G c t j).getD (24 + p) 0 = G.getD p 0 := by
  obtain ⟨k0, k1, k2, k3, k4, rfl⟩ := l5 ok.1.1
  obtain ⟨s0, s1, s2, s3, s4, rfl⟩ := l5 ok.2.1.1
  obtain ⟨g0, g1, g2, g3, g4, rfl⟩ := l5 ok.2.2.1.1
  rcases c5 hp with rfl | rfl | rfl | rfl | rfl <;> rfl
theorem ll_sK (hK : K.length = 5) (p v : Nat) (hp : p < 5) : (ll K S G c t j).set (14 + p) v = ll (K.set p v) S G c t j := by
  obtain ⟨k0, k1, k2, k3, k4, rfl⟩ := l5 hK
  rcases c5 hp with rfl | rfl | rfl | rfl | rfl <;> rfl
theorem ll_sS (hK : K.length = 5) (hS : S.length = 5) (p v : Nat) (hp : p < 5) : (ll K S G c t j).set (19 + p) v = ll K (S.set p v) G c t j := by
  obtain ⟨k0, k1, k2, k3, k4, rfl⟩ := l5 hK
  obtain ⟨s0, s1, s2, s3, s4, rfl⟩ := l5 hS
  rcases c5 hp with rfl | rfl | rfl | rfl | rfl <;> rfl
theorem ll_sG (hK : K.length = 5) (hS : S.length = 5) (hG : G.length = 5) (p v : Nat) (hp : p < 5) : (ll K S G c t j).set (24 + p) v = ll K S (G.set p v) c t j := by
  obtain ⟨k0, k1, k2, k3, k4, rfl⟩ := l5 hK
  obtain ⟨s0, s1, s2, s3, s4, rfl⟩ := l5 hS
  obtain ⟨g0, g1, g2, g3, g4, rfl⟩ := l5 hG
  rcases c5 hp with rfl | rfl | rfl | rfl | rfl <;> rfl
theorem b5_s1 : ∀ c : Fin 32, ∀ p : Fin 5, (b5 c.val).set p.val 1 = b5 (c.val ||| 1 * 2 ^ p.val) := by decide +kernel
theorem b5_s0 : ∀ c : Fin 32, ∀ p : Fin 5, (b5 c.val).set p.val 0 = b5 (clr c.val (1 * 2 ^ p.val)) := by decide +kernel
theorem b5_sx : ∀ c : Fin 32, ∀ p : Fin 5, (b5 c.val).set p.val (1 - bt c.val p.val) = b5 (c.val ^^^ 1 * 2 ^ p.val) := by decide +kernel
theorem b4_s1 : ∀ c : Fin 16, ∀ p : Fin 4, (b4 c.val).set p.val 1 = b4 (c.val ||| 1 * 2 ^ p.val) := by decide +kernel
theorem b4_s0 : ∀ c : Fin 16, ∀ p : Fin 4, (b4 c.val).set p.val 0 = b4 (clr c.val (1 * 2 ^ p.val)) := by decide +kernel
theorem ll_sc (p v : Nat) (hp : p < 5) : (ll K S G c t j).set (0 + p) v = (b5 c).set p v ++ (b5 t ++ (b4 j ++ (K ++ (S ++ G)))) := by
  rcases c5 hp with rfl | rfl | rfl | rfl | rfl <;> rfl
theorem ll_st (p v : Nat) (hp : p < 5) : (ll K S G c t j).set (5 + p) v = b5 c ++ ((b5 t).set p v ++ (b4 j ++ (K ++ (S ++ G)))) := by
  rcases c5 hp with rfl | rfl | rfl | rfl | rfl <;> rfl
theorem ll_sj (p v : Nat) (hp : p < 4) : (ll K S G c t j).set (10 + p) v = b5 c ++ (b5 t ++ ((b4 j).set p v ++ (K ++ (S ++ G)))) := by
  rcases c4 hp with rfl | rfl | rfl | rfl <;> rfl
theorem ll_c1 (p : Nat) (hp : p < 5) (hc : c < 32) : (ll K S G c t j).set (0 + p) 1 = ll K S G (c ||| 1 * 2 ^ p) t j := by rw [ll_sc p 1 hp, b5_s1 ⟨c, hc⟩ ⟨p, hp⟩]; rfl
theorem ll_c0 (p : Nat) (hp : p < 5) (hc : c < 32) : (ll K S G c t j).set (0 + p) 0 = ll K S G (clr c (1 * 2 ^ p)) t j := by rw [ll_sc p 0 hp, b5_s0 ⟨c, hc⟩ ⟨p, hp⟩]; rfl
theorem ll_t0 (p : Nat) (hp : p < 5) (ht : t < 32) : (ll K S G c t j).set (5 + p) 0 = ll K S G c (clr t (1 * 2 ^ p)) j := by rw [ll_st p 0 hp, b5_s0 ⟨t, ht⟩ ⟨p, hp⟩]; rfl
theorem ll_t1 (p : Nat) (hp : p < 5) (ht : t < 32) : (ll K S G c t j).set (5 + p) 1 = ll K S G c (t ||| 1 * 2 ^ p) j := by rw [ll_st p 1 hp, b5_s1 ⟨t, ht⟩ ⟨p, hp⟩]; rfl
theorem ll_tx (p : Nat) (hp : p < 5) (ht : t < 32) : (ll K S G c t j).set (5 + p) (1 - bt t p) = ll K S G c (t ^^^ 1 * 2 ^ p) j := by rw [ll_st p _ hp, b5_sx ⟨t, ht⟩ ⟨p, hp⟩]; rfl
theorem ll_j1 (p : Nat) (hp : p < 4) (hj : j < 16) : (ll K S G c t j).set (10 + p) 1 = ll K S G c t (j ||| 1 * 2 ^ p) := by rw [ll_sj p 1 hp, b4_s1 ⟨j, hj⟩ ⟨p, hp⟩]; rfl
theorem ll_j0 (p : Nat) (hp : p < 4) (hj : j < 16) : (ll K S G c t j).set (10 + p) 0 = ll K S G c t (clr j (1 * 2 ^ p)) := by rw [ll_sj p 0 hp, b4_s0 ⟨j, hj⟩ ⟨p, hp⟩]; rfl
end LL
/-! small methods of the reference -/
section XA
variable {d : Nat} {h : aH} {Q : Option Value → aH → Prop}
theorem f_in (x a b : Int32) (h : aH) : Ec d m_X9_in [.int x, .int a, .int b] h (rt (.int (nI (wi x a b))) h) := by
  refine ec_in [some (.int x), some (.int a), some (.int b)] rfl rfl ?_
  iterate 3 refine ev_nx rfl ?_
  refine ev_c (P := x < a) (by simp [am_c2]) (fun hc => ?_) (fun hc => ?_)
  · refine ev_nx rfl ?_
    exact ev_ri rfl rfl rfl ⟨by rw [wi, if_neg (fun q => Int32.not_le.mpr hc q.1)], rfl⟩
  · iterate 3 refine ev_nx rfl ?_
    refine ev_c (P := b < x) (by simp [am_c2]) (fun hd => ?_) (fun hd => ?_)
    · refine ev_nx rfl ?_
      exact ev_ri rfl rfl rfl ⟨by rw [wi, if_neg (fun q => Int32.not_le.mpr hd q.2)], rfl⟩
    · iterate 2 refine ev_nx rfl ?_
      exact ev_ri rfl rfl rfl ⟨by rw [wi, if_pos ⟨Int32.not_lt.mp hc, Int32.not_lt.mp hd⟩], rfl⟩
theorem wi_nr {x a b : Int32} : narrow .boolean (.int (nI (wi x a b))) = .int (nI (wi x a b)) := by
  rcases (show wi x a b = 0 ∨ wi x a b = 1 by have := wi_lt x a b; omega) with e | e <;> rw [e] <;> rfl
theorem f_isPlace (x : Int32) (h : aH) : Ec (d + 1) m_X9_isPlace [.int x] h (rt (.int (nI (wi x (nI 0) (nI 4)))) h) := by
  refine ec_in [some (.int x)] rfl rfl ?_
  iterate 3 refine ev_nx rfl ?_
  refine ev_ci rfl rfl (f_in x (nI 0) (nI 4) h) ?_
  exact ev_ri rfl rfl wi_nr ⟨rfl, rfl⟩
theorem f_other (w : Nat) (hw : w ≤ 3) (h : aH) : Ec d m_X9_other [.int (nI w)] h (rt (.int (nI (oth w))) h) := by
  refine ec_in [some (.int (nI w))] rfl rfl ?_
  iterate 2 refine ev_nx rfl ?_
  refine ev_ne0 (fun b1 => ?_) (fun b1 => ?_)
  · iterate 2 refine ev_nx rfl ?_
    refine ev_sub rfl (by omega) ?_
    exact ev_ri rfl rfl rfl ⟨by simp [oth, b1], rfl⟩
  · iterate 2 refine ev_nx rfl ?_
    exact ev_ri rfl rfl rfl ⟨by simp [oth, b1], rfl⟩
/-- some numbers of a row are brought into another one -/
def brg (A B : List Nat) (i j : Nat) : Nat → Nat → List Nat
  | 0, _ => B
  | n + 1, k => brg A (B.set (j + k) (A.getD (i + k) 0)) i j n (k + 1)
theorem brg_len {A : List Nat} {i j : Nat} : ∀ (n k : Nat) (B : List Nat), (brg A B i j n k).length = B.length
  | 0, k, B => rfl
  | n + 1, k, B => by rw [brg, brg_len n, List.length_set]
/-- how many bits are set -/
def pc_ (w : Nat) : Nat → Nat → Nat
  | 0, _ => 0
  | n + 1, k => bt w k + pc_ w n (k + 1)
def pcn (w : Nat) : Nat := pc_ w 30 0
theorem f_bits {w : Nat} (hw : w < 2147483648) : Ec d m_X9_bits [.int (nI w)] h (rt (.int (nI (pcn w))) h) := by
  refine ec_in [some (.int (nI w)), none, none] rfl rfl ?_
  have H : ∀ r k a, k + r = 30 → Ev d m_X9_bits 4 [some (.int (nI w)), some (.int (nI a)), some (.int (nI k))] [] h (rt (.int (nI (a + pc_ w r k))) h) := by
    intro r
    induction r with
    | zero =>
      intro k a hk
      iterate 3 refine ev_nx rfl ?_
      refine ev_ge (fun b7 => ?_) (fun b7 => absurd b7 (by omega))
      refine ev_nx rfl ?_
      exact ev_ri rfl rfl rfl ⟨rfl, rfl⟩
    | succ r ih =>
      intro k a hk
      iterate 3 refine ev_nx rfl ?_
      refine ev_ge (fun b7 => absurd b7 (by omega)) (fun b7 => ?_)
      iterate 3 refine ev_nx rfl ?_
      refine ev_shr rfl (by omega) (by omega) ?_
      refine ev_nx rfl ?_
      refine ev_bit rfl hw ?_
      refine ev_add rfl ?_
      refine ev_nx rfl ?_
      refine ev_inc rfl ⟨rfl, by decide⟩ rfl rfl ?_
      refine ev_nx rfl ?_
      rw [pc_, ← Nat.add_assoc]
      exact ih (k + 1) (a + bt w k) (by omega)
  iterate 4 refine ev_nx rfl ?_
  have := H 30 0 0 rfl
  rw [Nat.zero_add] at this
  exact this
/-- the sum of some numbers of a row -/
def smr (A : List Nat) (i : Nat) : Nat → Nat → Nat
  | 0, _ => 0
  | n + 1, k => A.getD (i + k) 0 + smr A i n (k + 1)
theorem f_sum {A : List Nat} {a i n : Nat} (hA : h[a]? = some (ar A)) (ha : a < 100000) (hn : i + n ≤ A.length) (hl : A.length < 10000) : Ec d m_X9_sum [.ref a, .int (nI i), .int (nI n)] h (rt (.int (nI (smr A i n 0))) h) := by
  refine ec_in [some (.ref a), some (.int (nI i)), some (.int (nI n)), none, none] rfl rfl ?_
  have H : ∀ r k s, k + r = n → Ev d m_X9_sum 5 [some (.ref a), some (.int (nI i)), some (.int (nI n)), some (.int (nI s)), some (.int (nI k))] [] h (rt (.int (nI (s + smr A i r k))) h) := by
    intro r
    induction r with
    | zero =>
      intro k s hk
      iterate 3 refine ev_nx rfl ?_
      refine ev_ge (fun b8 => ?_) (fun b8 => absurd b8 (by omega))
      refine ev_nx rfl ?_
      exact ev_ri rfl rfl rfl ⟨rfl, rfl⟩
    | succ r ih =>
      intro k s hk
      iterate 3 refine ev_nx rfl ?_
      refine ev_ge (fun b8 => absurd b8 (by omega)) (fun b8 => ?_)
      iterate 4 refine ev_nx rfl ?_
      refine ev_add rfl ?_
      refine ev_lN rfl hA (by omega) ?_
      refine ev_add rfl ?_
      refine ev_nx rfl ?_
      refine ev_inc rfl ⟨rfl, by decide⟩ rfl rfl ?_
      refine ev_nx rfl ?_
      rw [smr, ← Nat.add_assoc]
      exact ih (k + 1) _ (by omega)
  iterate 4 refine ev_nx rfl ?_
  have := H n 0 0 (by omega)
  rw [Nat.zero_add] at this
  exact this
end XA
