/-! the code tables are the bytes of the methods -/
def am_len (i : Instr) : Nat := match i with
  | .bipush _ => 2
  | .ldc _ => 2
  | .iload _ => 2
  | .aload _ => 2
  | .istore _ => 2
  | .newarray _ => 2
  | .sipush _ => 3
  | .ldc_w _ => 3
  | .ldc2_w _ => 3
  | .iinc _ _ => 3
  | .ifCond _ _ => 3
  | .if_icmp _ _ => 3
  | .goto _ => 3
  | .getfield _ => 3
  | .putfield _ => 3
  | .getstatic _ => 3
  | .invokevirtual _ => 3
  | .invokestatic _ => 3
  | .invokespecial _ => 3
  | .new _ => 3
  | .anewarray _ => 3
  | _ => 1
def am_sok (oc : Nat) (i : Instr) (pc r : Nat) : Bool := match i with
  | .getfield x => match am_fs[r]? with
    | some q => decide (q.1 = oc ∧ q.2.1 = x)
    | none => false
  | .putfield x => match am_fs[r]? with
    | some q => decide (q.1 = oc ∧ q.2.1 = x)
    | none => false
  | .goto off => decide ((pc : Int) + off = (r : Int))
  | .ifCond _ off => decide ((pc : Int) + off = (r : Int))
  | .if_icmp _ off => decide ((pc : Int) + off = (r : Int))
  | .invokevirtual x => match am_ms[r]? with
    | some q => decide (q.1 = oc ∧ q.2.1 = x ∧ (q.2.2.2.1 = 0 ∨ q.2.2.2.1 = 7 ∨ q.2.2.2.1 = 8))
    | none => false
  | .invokestatic x => match am_ms[r]? with
    | some q => decide (q.1 = oc ∧ q.2.1 = x ∧ (q.2.2.2.1 = 1 ∨ q.2.2.2.1 = 4 ∨ q.2.2.2.1 = 9 ∨ q.2.2.2.1 = 10))
    | none => false
  | .invokespecial x => match am_ms[r]? with
    | some q => decide (q.1 = oc ∧ q.2.1 = x ∧ (q.2.2.2.1 = 2 ∨ q.2.2.2.1 = 5 ∨ q.2.2.2.1 = 6))
    | none => false
  | .ldc x => if r = 999 then decide (oc = 8 ∧ x = 68) else match am_ks[r]? with
    | some (a, b, .inl _) => decide (a = oc ∧ b = x)
    | _ => false
  | .ldc_w x => if r = 999 then false else match am_ks[r]? with
    | some (a, b, .inl _) => decide (a = oc ∧ b = x)
    | _ => false
  | .ldc2_w x => if r = 999 then false else match am_ks[r]? with
    | some (a, b, .inr _) => decide (a = oc ∧ b = x)
    | _ => false
  | .getstatic x => match am_ss[r]? with
    | some q => decide (q.1 = oc ∧ q.2.1 = x)
    | none => false
  | .new x => match am_cs[r]? with
    | some q => decide (q.1 = oc ∧ q.2.1 = x)
    | none => false
  | .anewarray x => match am_cs[r]? with
    | some q => decide (q.1 = oc ∧ q.2.1 = x)
    | none => false
  | _ => true
def am_sw? (i : Instr) : Bool := match i with
  | .tableswitch .. => true
  | .lookupswitch .. => true
  | _ => false
def am_ok (m : aM) (q : Nat × aI) : Bool := (match decode m.2.2.1 q.1 with
    | .ok (i, n) => decide (i = q.2.1) && (am_sw? i || (n == am_len i && q.1 + n == q.2.2.1))
    | _ => false) && am_sok m.2.1 q.2.1 q.1 q.2.2.2
def am_okm (m : aM) : Bool := m.2.2.2.2.2.all (am_ok m) && (decide (m.2.2.2.1 ≤ 20)) && (plainName m.1.cls && decide (m.1.cls = am_nm m.2.1))
def am_msk (q : Nat × Nat × Nat × Nat × Nat) : Bool := match q.2.2.2.1 with
  | 0 => decide (q.2.2.1 < am_tab.length) && (am_y q.2.2.1).cls != "java/lang/invoke/MethodHandle" && (am_y q.2.2.1).cls != "java/lang/invoke/VarHandle" && decide ((parseMethodDescriptor (am_y q.2.2.1).desc).map (fun d => d.parameters.length) = some q.2.2.2.2)
  | 1 => decide (q.2.2.1 < am_tab.length) && (am_y q.2.2.1).cls != "java/lang/invoke/MethodHandle" && (am_y q.2.2.1).cls != "java/lang/invoke/VarHandle" && decide ((parseMethodDescriptor (am_y q.2.2.1).desc).map (fun d => d.parameters.length) = some q.2.2.2.2)
  | 2 => decide (q.2.2.1 < am_tab.length) && (am_y q.2.2.1).cls != "java/lang/invoke/MethodHandle" && (am_y q.2.2.1).cls != "java/lang/invoke/VarHandle" && decide ((parseMethodDescriptor (am_y q.2.2.1).desc).map (fun d => d.parameters.length) = some q.2.2.2.2) && (am_y q.2.2.1).name == "<init>" && ((am_tab[q.2.2.1]?).map (fun m => m.2.2.2.2.1) == some none)
  | 4 => decide (q.2.2.1 < am_tab.length) && (am_y q.2.2.1).cls != "java/lang/invoke/MethodHandle" && (am_y q.2.2.1).cls != "java/lang/invoke/VarHandle" && decide ((parseMethodDescriptor (am_y q.2.2.1).desc).map (fun d => d.parameters.length) = some q.2.2.2.2)
  | 5 => decide (q.2.2.1 < am_tab.length) && (am_y q.2.2.1).cls != "java/lang/invoke/MethodHandle" && (am_y q.2.2.1).cls != "java/lang/invoke/VarHandle" && decide ((parseMethodDescriptor (am_y q.2.2.1).desc).map (fun d => d.parameters.length) = some q.2.2.2.2) && (am_y q.2.2.1).name == "<init>" && ((am_tab[q.2.2.1]?).map (fun m => m.2.2.2.2.1) == some none)
  | 9 => q.2.2.2.2 == 2
  | 10 => q.2.2.2.2 == 2
  | 6 => q.2.2.2.2 == 0
  | 7 => q.2.2.2.2 == 0 && q.1 == 8 && q.2.1 == 70
  | 8 => q.2.2.2.2 == 1 && q.1 == 8 && q.2.1 == 76
  | _ => false
set_option maxRecDepth 20000 in
theorem am_ms_ok : am_ms.all am_msk = true := by decide +kernel
def am_fsk (q : Nat × Nat × Nat × Nat × FieldType × Bool) : Bool := decide (q.2.2.1 < 10 ∧ q.2.2.2.1 < (am_cl q.2.2.1).2.2 ∧ ((am_cl q.2.2.1).2.1 q.2.2.2.1).1 = (am_cl q.2.2.1).1 ∧ parseFieldDescriptor ((am_cl q.2.2.1).2.1 q.2.2.2.1).2.2.1 = some q.2.2.2.2.1 ∧ ((am_cl q.2.2.1).2.1 q.2.2.2.1).2.2.2 = q.2.2.2.2.2 ∧ am_nm q.2.2.1 = (am_cl q.2.2.1).1)
set_option maxRecDepth 20000 in
theorem am_fs_ok : am_fs.all am_fsk = true := by decide +kernel

set_option maxRecDepth 20000 in
theorem am_tab0_ok : am_tab0.all am_okm = true := by decide +kernel
set_option maxRecDepth 20000 in
theorem am_tab1_ok : am_tab1.all am_okm = true := by decide +kernel
set_option maxRecDepth 20000 in
theorem am_tab2_ok : am_tab2.all am_okm = true := by decide +kernel
set_option maxRecDepth 20000 in
theorem am_tab3_ok : am_tab3.all am_okm = true := by decide +kernel
set_option maxRecDepth 20000 in
theorem am_tab4_ok : am_tab4.all am_okm = true := by decide +kernel
set_option maxRecDepth 20000 in
theorem am_tab5_ok : am_tab5.all am_okm = true := by decide +kernel
set_option maxRecDepth 20000 in
theorem am_tab6_ok : am_tab6.all am_okm = true := by decide +kernel
set_option maxRecDepth 20000 in
theorem am_tab7_ok : am_tab7.all am_okm = true := by decide +kernel
set_option maxRecDepth 20000 in
theorem am_tab8_ok : am_tab8.all am_okm = true := by decide +kernel
set_option maxRecDepth 20000 in
theorem am_tab9_ok : am_tab9.all am_okm = true := by decide +kernel
theorem am_tab_ok : am_tab.all am_okm = true := by
  rw [am_tab_eq]
  simp only [List.all_append, am_tab0_ok, am_tab1_ok, am_tab2_ok, am_tab3_ok, am_tab4_ok, am_tab5_ok, am_tab6_ok, am_tab7_ok, am_tab8_ok, am_tab9_ok, Bool.and_self]
theorem am_mem_ok {m : aM} (h : m ∈ am_tab) : am_okm m = true := List.all_eq_true.mp am_tab_ok m h
