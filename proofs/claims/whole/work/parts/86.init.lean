/-! the first heaps -/
def am_ve : Value → Value → Bool
  | .int a, .int b => a == b
  | .ref a, .ref b => a == b
  | .null, .null => true
  | _, _ => false
theorem am_ve_eq {a b : Value} (h : am_ve a b = true) : a = b := by
  unfold am_ve at h
  split at h
  · rw [eq_of_beq h]
  · rw [eq_of_beq h]
  · rfl
  · cases h
def am_vs : List Value → List Value → Bool
  | [], [] => true
  | a :: l, b :: s => am_ve a b && am_vs l s
  | _, _ => false
theorem am_vs_eq : ∀ {l s : List Value}, am_vs l s = true → l = s
  | [], [], _ => rfl
  | a :: l, b :: s, h => by
    simp only [am_vs, Bool.and_eq_true] at h
    rw [am_ve_eq h.1, am_vs_eq h.2]
  | [], b :: s, h => by cases h
  | a :: l, [], h => by cases h
def am_ce : aC → aC → Bool
  | .inl (t, l), .inl (u, s) => t == u && l == s
  | .inr (.inl l), .inr (.inl s) => l == s
  | .inr (.inr (t, l)), .inr (.inr (u, s)) => t == u && am_vs l s
  | _, _ => false
theorem am_ce_eq {a b : aC} (h : am_ce a b = true) : a = b := by
  unfold am_ce at h
  split at h
  · simp only [Bool.and_eq_true] at h
    rw [eq_of_beq h.1, eq_of_beq h.2]
  · rw [eq_of_beq h]
  · simp only [Bool.and_eq_true] at h
    rw [eq_of_beq h.1, am_vs_eq h.2]
  · cases h
def am_he : aH → aH → Bool
  | [], [] => true
  | a :: l, b :: s => am_ce a b && am_he l s
  | _, _ => false
theorem am_he_eq : ∀ {l s : aH}, am_he l s = true → l = s
  | [], [], _ => rfl
  | a :: l, b :: s, h => by
    simp only [am_he, Bool.and_eq_true] at h
    rw [am_ce_eq h.1, am_he_eq h.2]
  | [], b :: s, h => by cases h
  | a :: l, [], h => by cases h
/-- a run that ends with no answer and this heap -/
def am_oke (r : Option aR) (h : aH) : Bool := match r with
  | some (none, h') => am_he h' h
  | _ => false
theorem am_oke_eq {r : Option aR} {h : aH} (k : am_oke r h = true) : r = some (none, h) := by
  unfold am_oke at k
  split at k
  · rw [am_he_eq k]
  · cases k
def am_o9 : aC := .inr (.inr (9, [.null, .int 0, .null, .int 0, .null, .null, .null, .null, .null, .int 0, .null, .int 0, .null, .int 0, .null, .int 0, .int 0, .int 0, .int 0, .null, .null, .null, .null, .null, .null, .null, .null, .null, .null]))
