/-! the class's words are the reference's: order -/
def bfl (P : Nat → Bool) : Nat → Nat → Nat → Nat
  | 0, _, w => w
  | n + 1, s, w => bfl P n (s + 1) (if P s = true then w ||| 1 * 2 ^ s else w)
theorem bfl_tb {P : Nat → Bool} : ∀ n s w i, (bfl P n s w).testBit i = (w.testBit i || (decide (s ≤ i ∧ i < s + n) && P i)) := by
  intro n
  induction n with
  | zero =>
    intro s w i
    have d : decide (s ≤ i ∧ i < s + 0) = false := by rw [decide_eq_false_iff_not]; omega
    rw [bfl, d, Bool.false_and, Bool.or_false]
  | succ n ih =>
    intro s w i
    rw [bfl, ih]
    by_cases hi : i = s
    · subst hi
      have d1 : decide (i + 1 ≤ i ∧ i < i + 1 + n) = false := by rw [decide_eq_false_iff_not]; omega
      have d2 : decide (i ≤ i ∧ i < i + (n + 1)) = true := by rw [decide_eq_true_eq]; omega
      rw [d1, d2]
      cases hP : P i with
      | true => rw [if_pos rfl, Nat.testBit_or, Nat.one_mul, Nat.testBit_two_pow_self]; simp
      | false => rw [if_neg (by decide)]; simp
    · have d : decide (s + 1 ≤ i ∧ i < s + 1 + n) = decide (s ≤ i ∧ i < s + (n + 1)) := by
        rw [decide_eq_decide]; omega
      rw [d]
      split
      · rw [Nat.testBit_or, Nat.one_mul, Nat.testBit_two_pow_of_ne (fun e => hi e.symm), Bool.or_false]
      · rfl
theorem bfl_and {P Q : Nat → Bool} (n : Nat) : bfl P n 0 0 &&& bfl Q n 0 0 = bfl (fun s => P s && Q s) n 0 0 := by
  apply Nat.eq_of_testBit_eq
  intro i
  rw [Nat.testBit_and, bfl_tb, bfl_tb, bfl_tb, Nat.zero_testBit, Bool.false_or, Bool.false_or, Bool.false_or]
  cases decide (0 ≤ i ∧ i < 0 + n) <;> cases P i <;> cases Q i <;> rfl
theorem bfl_c {P Q : Nat → Bool} : ∀ n s w, (∀ i, s ≤ i → i < s + n → P i = Q i) → bfl P n s w = bfl Q n s w := by
  intro n
  induction n with
  | zero => intro s w _; rfl
  | succ n ih =>
    intro s w h
    rw [bfl, bfl, h s (Nat.le_refl _) (by omega)]
    exact ih _ _ (fun i a b => h i (by omega) (by omega))
theorem clf_bfl {f : Nat → Nat} : ∀ n s w, clf f n s w = bfl (fun s => decide (f s = s)) n s w := by
  intro n
  induction n with
  | zero => intro s w; rfl
  | succ n ih =>
    intro s w
    rw [clf, bfl, ih]
    congr 1
    simp only [decide_eq_true_eq]
/-- a needle shows its part of a sign at a place -/
def cnd (K : List Nat) (c t j r s q : Nat) : Bool := decide (sbh (K.getD (q / 5) 0) ((cry s c t j).getD (q % 5) 0) (ahd (cry s c t j) (q % 5)) r 0 0 = pt s (q % 5))
section ORD
variable {K : List Nat} {c t j r s : Nat}
theorem shp_at {a : Nat} (ha : a < 5) : ∀ m p sh q, sh.length = 25 → p + m ≤ 5 → (shp K (cry s c t j) s r a m p sh).getD q 0 = if (a * 5 + p ≤ q ∧ q < a * 5 + p + m) ∧ cnd K c t j r s q = true then sh.getD q 0 ||| 1 * 2 ^ s else sh.getD q 0 := by
  intro m
  induction m with
  | zero => intro p sh q _ _; rw [shp, if_neg (by omega)]
  | succ m ih =>
    intro p sh q hl hp
    have e1 : cnd K c t j r s (a * 5 + p) = decide (sbh (K.getD a 0) ((cry s c t j).getD p 0) (ahd (cry s c t j) p) r 0 0 = pt s p) := by
      unfold cnd
      rw [show (a * 5 + p) / 5 = a by omega, show (a * 5 + p) % 5 = p by omega]
    rw [shp, ih (p + 1) _ q (by split <;> simp [hl]) (by omega)]
    by_cases hq : q = a * 5 + p
    · subst hq
      rw [if_neg (by omega)]
      by_cases hc : sbh (K.getD a 0) ((cry s c t j).getD p 0) (ahd (cry s c t j) p) r 0 0 = pt s p
      · rw [if_pos hc, if_pos ⟨by omega, by rw [e1]; exact decide_eq_true hc⟩, gd_s (by omega)]
      · rw [if_neg hc, if_neg (fun h => hc (of_decide_eq_true (e1 ▸ h.2)))]
    · have e2 : ∀ v, (if sbh (K.getD a 0) ((cry s c t j).getD p 0) (ahd (cry s c t j) p) r 0 0 = pt s p then sh.set (a * 5 + p) v else sh).getD q 0 = sh.getD q 0 := by
        intro v
        split
        · exact gd_n (fun e => hq e.symm)
        · rfl
      rw [e2]
      by_cases hr : a * 5 + (p + 1) ≤ q ∧ q < a * 5 + (p + 1) + m
      · by_cases hc : cnd K c t j r s q = true
        · rw [if_pos ⟨hr, hc⟩, if_pos ⟨by omega, hc⟩]
        · rw [if_neg (fun h => hc h.2), if_neg (fun h => hc h.2)]
      · rw [if_neg (fun h => hr h.1), if_neg (fun h => hr ⟨by have := h.1; omega, by have := h.1; omega⟩)]
theorem sha_at : ∀ m a sh q, sh.length = 25 → a + m ≤ 5 → (sha K (cry s c t j) s r m a sh).getD q 0 = if (a * 5 ≤ q ∧ q < (a + m) * 5) ∧ cnd K c t j r s q = true then sh.getD q 0 ||| 1 * 2 ^ s else sh.getD q 0 := by
  intro m
  induction m with
  | zero => intro a sh q _ _; rw [sha, if_neg (by omega)]
  | succ m ih =>
    intro a sh q hl ha
    rw [sha, ih (a + 1) _ q (by rw [shp_len, hl]) (by omega), shp_at (by omega) 5 0 sh q hl (by omega)]
    by_cases hc : cnd K c t j r s q = true
    · by_cases h1 : (a + 1) * 5 ≤ q ∧ q < (a + 1 + m) * 5
      · rw [if_pos ⟨h1, hc⟩, if_neg (show ¬ ((a * 5 + 0 ≤ q ∧ q < a * 5 + 0 + 5) ∧ cnd K c t j r s q = true) from fun h => by have := h.1; omega), if_pos ⟨by omega, hc⟩]
      · rw [if_neg (fun h => h1 h.1)]
        by_cases h2 : a * 5 + 0 ≤ q ∧ q < a * 5 + 0 + 5
        · rw [if_pos ⟨h2, hc⟩, if_pos ⟨by omega, hc⟩]
        · rw [if_neg (fun h => h2 h.1), if_neg (fun h => by have := h.1; omega)]
    · rw [if_neg (fun h => hc h.2), if_neg (fun h => hc h.2), if_neg (fun h => hc h.2)]
theorem shn_at {q : Nat} (hq : q < 25) : ∀ n s sh, sh.length = 25 → (shn K c t j r n s sh).getD q 0 = bfl (fun s => cnd K c t j r s q) n s (sh.getD q 0) := by
  intro n
  induction n with
  | zero => intro s sh _; rfl
  | succ n ih =>
    intro s sh hl
    rw [shn, ih (s + 1) _ (by rw [sha_len, hl]), sha_at 5 0 sh q hl (by omega), bfl]
    congr 1
    by_cases hc : cnd K c t j r s q = true
    · rw [if_pos ⟨by omega, hc⟩, if_pos hc]
    · rw [if_neg (fun h => hc h.2), if_neg hc]
theorem z25_at (q : Nat) : z25.getD q 0 = 0 := by
  unfold z25
  rw [List.getD, List.getElem?_replicate]
  split <;> rfl
theorem btn_sbh {K C : List Nat} {p : Nat} (hp : p < 5) : ∀ n S G, (btn K C n S G).getD p 0 = sbh (K.getD p 0) (C.getD p 0) (ahd C p) n (G.getD p 0) (S.getD p 0) := by
  intro n
  induction n with
  | zero => intro S G; rfl
  | succ n ih =>
    intro S G
    rw [btn, ih, sbh]
    congr 1
    rcases c5 hp with rfl | rfl | rfl | rfl | rfl <;> rfl
theorem rdS_is : ∀ a b c d e : Fin 3, ∀ s : Fin 20, (rdS [a.val, b.val, c.val, d.val, e.val] = s.val ↔ (a.val = pt s.val 0 ∧ b.val = pt s.val 1 ∧ c.val = pt s.val 2 ∧ d.val = pt s.val 3 ∧ e.val = pt s.val 4)) := by decide +kernel
theorem rdS_iff {S : List Nat} (hS : S.length = 5) (hS3 : ∀ x ∈ S, x < 3) (hs : s < 20) : rdS S = s ↔ (S.getD 0 0 = pt s 0 ∧ S.getD 1 0 = pt s 1 ∧ S.getD 2 0 = pt s 2 ∧ S.getD 3 0 = pt s 3 ∧ S.getD 4 0 = pt s 4) := by
  obtain ⟨a, b, c, d, e, rfl⟩ := l5 hS
  exact rdS_is ⟨a, hS3 a (by simp)⟩ ⟨b, hS3 b (by simp)⟩ ⟨c, hS3 c (by simp)⟩ ⟨d, hS3 d (by simp)⟩ ⟨e, hS3 e (by simp)⟩ ⟨s, hs⟩
theorem tr20 : (1048575 : Nat) = bfl (fun _ => true) 20 0 0 := by decide +kernel
theorem ord_eq {S G : List Nat} (ok : lok K S G c t j) {R : List Nat} (hR : R.length = 5) (hR5 : ∀ x ∈ R, x < 5) : vll (shn K c t j r 20 0 z25) 0 1048575 R = clf (fs_ (prm K R) c t j r) 20 0 0 := by
  have okp : lok (prm K R) z5 z5 c t j := prm_ok ok hR hR5 ⟨rfl, by decide⟩ ⟨rfl, by decide⟩
  obtain ⟨x0, x1, x2, x3, x4, rfl⟩ := l5 hR
  have b0 := hR5 x0 (by simp)
  have b1 := hR5 x1 (by simp)
  have b2 := hR5 x2 (by simp)
  have b3 := hR5 x3 (by simp)
  have b4 := hR5 x4 (by simp)
  simp only [vll]
  rw [shn_at (by omega) 20 0 z25 rfl, shn_at (by omega) 20 0 z25 rfl, shn_at (by omega) 20 0 z25 rfl, shn_at (by omega) 20 0 z25 rfl, shn_at (by omega) 20 0 z25 rfl]
  rw [z25_at, z25_at, z25_at, z25_at, z25_at, tr20, bfl_and, bfl_and, bfl_and, bfl_and, bfl_and, clf_bfl]
  refine bfl_c 20 0 0 (fun s _ hs => ?_)
  have hs20 : s < 20 := by omega
  have okS := btn_ok (K := prm K [x0, x1, x2, x3, x4]) (cry_len (s := s) (c := c) (t := t) (j := j)) (cry_lt (by omega)) r z5 z5 rfl (by decide) rfl (by decide)
  have iff := rdS_iff okS.1 okS.2 hs20
  rw [btn_sbh (by decide), btn_sbh (by decide), btn_sbh (by decide), btn_sbh (by decide), btn_sbh (by decide)] at iff
  have e : ∀ x p, x < 5 → p < 5 → cnd K c t j r s (x * 5 + p) = decide (sbh (K.getD x 0) ((cry s c t j).getD p 0) (ahd (cry s c t j) p) r 0 0 = pt s p) := by
    intro x p hx hp
    unfold cnd
    rw [show (x * 5 + p) / 5 = x by omega, show (x * 5 + p) % 5 = p by omega]
  have f0 := e x0 0 b0 (by decide)
  have f1 := e x1 1 b1 (by decide)
  have f2 := e x2 2 b2 (by decide)
  have f3 := e x3 3 b3 (by decide)
  have f4 := e x4 4 b4 (by decide)
  show (((((true && cnd K c t j r s (x0 * 5 + 0)) && cnd K c t j r s (x1 * 5 + 1)) && cnd K c t j r s (x2 * 5 + 2)) && cnd K c t j r s (x3 * 5 + 3)) && cnd K c t j r s (x4 * 5 + 4)) = decide (fs_ (prm K [x0, x1, x2, x3, x4]) c t j r s = s)
  rw [f0, f1, f2, f3, f4, Bool.eq_iff_iff]
  simp only [Bool.and_eq_true, decide_eq_true_eq, true_and]
  constructor
  · rintro ⟨⟨⟨⟨q0, q1⟩, q2⟩, q3⟩, q4⟩
    exact iff.mpr ⟨q0, q1, q2, q3, q4⟩
  · intro q
    obtain ⟨q0, q1, q2, q3, q4⟩ := iff.mp q
    exact ⟨⟨⟨⟨q0, q1⟩, q2⟩, q3⟩, q4⟩
theorem fold_cg {α β : Type} {F H : α → β → α} : ∀ (D : List β) (s : α), (∀ s, ∀ R ∈ D, F s R = H s R) → D.foldl F s = D.foldl H s := by
  intro D
  induction D with
  | nil => intro s _; rw [List.foldl_nil, List.foldl_nil]
  | cons R D ih =>
    intro s hD
    rw [List.foldl_cons, List.foldl_cons, hD s R List.mem_cons_self]
    exact ih _ (fun s R' h' => hD s R' (List.mem_cons_of_mem _ h'))
theorem order_eq {S G : List Nat} (ok : lok K S G c t j) : (dpm 5 0).foldl (osb (shn K c t j r 20 0 z25) 0 1048575 []) (none, z5) = (dpm 5 0).foldl (ost (fun R => pcn (clf (fs_ (prm K R) c t j r) 20 0 0))) (none, z5) := by
  refine fold_cg _ _ (fun s R hR => ?_)
  have q := dpm_ok.2.2 R hR
  unfold osb ost
  rw [ord_eq ok q.1 q.2, List.nil_append]
end ORD
