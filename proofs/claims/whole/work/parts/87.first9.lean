/-! the reference's first heap -/
def x0 : aN := ([0, 1, 0, 2, 0], z5, z5, 0, 0, 8)
def tx0 : List Nat := [110, 49, 44, 49, 59, 110, 51, 44, 50, 59, 106, 51, 59, 109, 81, 85, 65, 75, 69, 82, 59, 109, 83, 76, 79, 85, 71, 72, 59, 109, 76, 65, 84, 69, 59] ++ List.replicate 165 0
def sz0 : List Nat := [6, 6, 4, 0, 0, 0]
def sp0 : List Nat := [8, 18, 0, 8, 3, 14, 0, 0, 15, 9, 12, 18, 5, 6, 0, 0, 9, 0, 16, 3, 0, 0, 0, 0] ++ List.replicate 24 0
def zr0 (n : Nat) : List Nat := List.replicate n 0
def z0 : aZ := ((0, 3, 0, 0, 0, 0), (tx0, sz0, sp0, zr0 232, zr0 58, zr0 16, zr0 8))
def y0 : aY := (35, 0, 3, llN x0, sz0, sp0)
def H9 : aH := XM z0 y0 (llN x0) (zr0 29) (zr0 5) (zr0 5) (zr0 8) (zr0 5) (zr0 5) (zr0 32) (List.replicate 1296 0)
theorem r_H9 : am_run true 20000 16 m_X9_init (0, am_ent m_X9_init [.ref 0], [], [am_o9]) = some (none, H9) := am_oke_eq (by decide +kernel)
theorem Mq_H9 : Mq z0 y0 (llN x0) H9 := ⟨zr0 29, zr0 5, zr0 5, zr0 8, zr0 5, zr0 5, zr0 32, List.replicate 1296 0, ⟨by decide +kernel, by decide +kernel, by decide +kernel, by decide +kernel, by decide +kernel, by decide +kernel, by decide +kernel, by decide +kernel⟩, rfl⟩
