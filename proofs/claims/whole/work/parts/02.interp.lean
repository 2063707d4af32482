/-! AN ABSTRACT MACHINE over worlds of cells, and the machine's own walk by it: once for all methods. -/
abbrev z_C : Type := (Nat × List Value) ⊕ (FieldType × vp_A)
abbrev z_H : Type := Nat → Option z_C
abbrev z_L : Type := List (Option Value)
abbrev z_E : Type := Nat × Nat × (Nat → Int32)
abbrev z_R : Type := Option Value × Nat × Nat × z_H
/-- what an instruction does: a return; the next place; a call (of whom, at which level, with what; place, locals and stack behind it) -/
abbrev z_D : Type := Option (Option Value ⊕ ((Nat × z_L × List Value × Nat × Nat × z_H) ⊕ (Nat × Nat × List Value × Nat × z_L × List Value)))
def z_up (G : z_H) (a : Nat) (c : z_C) : z_H := fun j => if j = a then some c else G j
def z_nx (pc : Nat) (ls : z_L) (st : List Value) (n k : Nat) (G : z_H) : z_D := some (.inr (.inl (pc, ls, st, n, k, G)))
def z_lenOk : Instr → Nat → Bool
  | .bipush _, l => l == 2
  | .ldc _, l => l == 2
  | .iload _, l => l == 2
  | .lload _, l => l == 2
  | .aload _, l => l == 2
  | .istore _, l => l == 2
  | .lstore _, l => l == 2
  | .astore _, l => l == 2
  | .newarray _, l => l == 2
  | .sipush _, l => l == 3
  | .ldc_w _, l => l == 3
  | .ldc2_w _, l => l == 3
  | .iinc _ _, l => l == 3
  | .goto _, l => l == 3
  | .ifCond _ _, l => l == 3
  | .if_icmp _ _, l => l == 3
  | .ifnull _, l => l == 3
  | .ifnonnull _, l => l == 3
  | .getfield _, l => l == 3
  | .putfield _, l => l == 3
  | .new _, l => l == 3
  | .anewarray _, l => l == 3
  | .invokevirtual _, l => l == 3
  | .invokestatic _, l => l == 3
  | .invokespecial _, l => l == 3
  | .tableswitch _ _ _ _, _ => true
  | .lookupswitch _ _, _ => true
  | _, l => l == 1
def z_ins (mid pc : Nat) : Option (Instr × Nat) := match decode (z_by mid) pc with
  | .ok q => if z_lenOk q.1 q.2 = true then some q else none
  | .error _ => none
theorem z_insd {mid pc : Nat} {i : Instr} {len : Nat} (h : z_ins mid pc = some (i, len)) : decode (z_by mid) pc = .ok (i, len) ∧ z_lenOk i len = true := by
  unfold z_ins at h
  split at h
  · next q hq =>
    split at h
    · next hl => cases h; exact ⟨hq, hl⟩
    · cases h
  · cases h
def z_tgt (pc : Nat) (off : Int) : Nat := ((pc : Int) + off).toNat
def z_jp (pc : Nat) (off : Int) (ls : z_L) (st : List Value) (n k : Nat) (G : z_H) : z_D := if 0 ≤ (pc : Int) + off then z_nx (z_tgt pc off) ls st n k G else none
def z_cj (b : Bool) (len pc : Nat) (off : Int) (ls : z_L) (st : List Value) (n k : Nat) (G : z_H) : z_D := if 0 ≤ (pc : Int) + off then (match b with
  | true => z_nx (z_tgt pc off) ls st n k G
  | false => z_nx (pc + len) ls st n k G) else none
/-- a field's value may be put -/
def z_fit : Nat → Value → Bool
  | 0, .int _ => true
  | 1, .int x => x == 0 || x == 1
  | 2, .ref _ => true
  | 2, .null => true
  | 3, .ref _ => true
  | 3, .null => true
  | _, _ => false
def z_gf (G : z_H) (a : Nat) : List Nat → Option Value
  | k :: lo :: hi :: _ :: _ :: _ => match G a with
    | some (.inl (ci, fs)) => if lo ≤ ci ∧ ci ≤ hi then fs[k]? else none
    | _ => none
  | _ => none
def z_pf (G : z_H) (a : Nat) (v : Value) (init : Bool) : List Nat → Option z_H
  | k :: lo :: hi :: ty :: fin :: _ => match G a with
    | some (.inl (ci, fs)) => if lo ≤ ci ∧ ci ≤ hi ∧ k < fs.length ∧ z_fit ty v = true ∧ (fin = 0 ∨ (fin = 1 ∧ init = true)) then some (z_up G a (.inl (ci, fs.set k v))) else none
    | _ => none
  | _ => none
def z_out (i : Int32) (N : Nat) : Bool := decide (i < 0) || decide (N ≤ i.toNatClampNeg)
def z_ai (E : z_E) (G : z_H) (a : Nat) (i : Int32) : Option Int32 := match G a with
  | some (.inr (.int, N, .inl f)) => if z_out i N = true then none else some (f i.toNatClampNeg)
  | some _ => none
  | none => if a = E.1 then (if z_out i E.2.1 = true then none else some (E.2.2 i.toNatClampNeg)) else none
def z_al (G : z_H) (a : Nat) (i : Int32) : Option Int64 := match G a with
  | some (.inr (.long, N, .inr (.inl f))) => if z_out i N = true then none else some (f i.toNatClampNeg)
  | _ => none
def z_aq (G : z_H) (a : Nat) (i : Int32) : Option Value := match G a with
  | some (.inr (.object _, N, .inr (.inr (.inr (.inr f))))) => if z_out i N = true then none else some (va_rf (f i.toNatClampNeg))
  | _ => none
def z_an (E : z_E) (G : z_H) (a : Nat) : Option Int32 := match G a with
  | some (.inr (_, N, _)) => some (nI N)
  | some _ => none
  | none => if a = E.1 then some (nI E.2.1) else none
def z_pi (G : z_H) (a : Nat) (i x : Int32) : Option z_H := match G a with
  | some (.inr (.int, N, .inl f)) => if z_out i N = true then none else some (z_up G a (.inr (.int, N, .inl (upd f i.toNatClampNeg x))))
  | _ => none
def z_pl (G : z_H) (a : Nat) (i : Int32) (x : Int64) : Option z_H := match G a with
  | some (.inr (.long, N, .inr (.inl f))) => if z_out i N = true then none else some (z_up G a (.inr (.long, N, .inr (.inl (vp_updL f i.toNatClampNeg x)))))
  | _ => none
/-- a reference into a row of references: null, or an object whose class (lo .. hi) the row takes -/
def z_pq (G : z_H) (a : Nat) (i : Int32) (v : Value) : Option z_H := match G a with
  | some (.inr (.object C, N, .inr (.inr (.inr (.inr f))))) => if z_out i N = true then none else match v with
    | .null => some (z_up G a (.inr (.object C, N, .inr (.inr (.inr (.inr (va_up f i.toNatClampNeg none)))))))
    | .ref q => match G q with
      | some (.inl (ci, _)) => if z_takes C ci = true then some (z_up G a (.inr (.object C, N, .inr (.inr (.inr (.inr (va_up f i.toNatClampNeg (some q)))))))) else none
      | _ => none
    | _ => none
  | _ => none
def z_cp (G : z_H) (a0 : Nat) (sp : Int32) (a1 : Nat) (dp cn : Int32) : Option z_H := match G a0, G a1 with
  | some (.inr (.int, N0, .inl f)), some (.inr (.int, N1, .inl g)) => if sp < 0 ∨ dp < 0 ∨ cn < 0 ∨ N0 < sp.toNatClampNeg + cn.toNatClampNeg ∨ N1 < dp.toNatClampNeg + cn.toNatClampNeg then none else some (z_up G a1 (.inr (.int, N1, .inl (va_cpy f g sp.toNatClampNeg dp.toNatClampNeg cn.toNatClampNeg))))
  | _, _ => none
def z_clsOf (G : z_H) (a : Nat) : Option Nat := match G a with
  | some (.inl (ci, _)) => some ci
  | _ => none
/-- a store of one word, of two -/
def z_s1 (lg : List Nat) (ls : z_L) (i : Nat) (v : Value) : Option z_L := if i < ls.length ∧ (i = 0 ∨ i - 1 ∉ lg) then some (ls.set i (some v)) else none
def z_s2 (lg : List Nat) (ls : z_L) (i : Nat) (v : Value) : Option z_L := if i + 1 < ls.length ∧ (i = 0 ∨ i - 1 ∉ lg) ∧ i ∈ lg then some ((ls.set i (some v)).set (i + 1) none) else none
/-- the locals at the entry -/
def z_en (vs : List Value) (N : Nat) : z_L := (List.range N).map fun i => ((lv_args 0 vs).find? (fun q => q.1 == i)).map (fun q => q.2)
def z_lgOk (lg : List Nat) (ls : z_L) : Bool := (List.range ls.length).all fun i => match ls[i]? with
  | some (some v) => v.category == 1 || lg.contains i
  | _ => true
def z_ent (mid : Nat) (vs : List Value) : Option z_L := if (lg_sl vs).length ≤ z_ml mid ∧ z_lgOk (z_lg mid) (z_en vs (z_ml mid)) = true then some (z_en vs (z_ml mid)) else none
def z_st (o : Option z_L) (pc : Nat) (st : List Value) (n k : Nat) (G : z_H) : z_D := match o with
  | some ls => z_nx pc ls st n k G
  | none => none
def z_hp (o : Option z_H) (pc : Nat) (ls : z_L) (st : List Value) (n k : Nat) : z_D := match o with
  | some G => z_nx pc ls st n k G
  | none => none
def z_vl (o : Option Value) (pc : Nat) (ls : z_L) (st : List Value) (n k : Nat) (G : z_H) : z_D := match o with
  | some v => z_nx pc ls (v :: st) n k G
  | none => none
def z_lo (ls : z_L) (i : Nat) : Option Value := match ls[i]? with
  | some o => o
  | none => none
/-- take that many from the stack, the deepest first -/
def z_take : Nat → List Value → List Value → Option (List Value × List Value)
  | 0, st, acc => some (acc, st)
  | _ + 1, [], _ => none
  | j + 1, v :: st, acc => z_take j st (v :: acc)
def z_lv0 (mid y lev lv : Nat) : Option Nat := if mid = y then (match lev with
  | 0 => none
  | l + 1 => some l) else some lv
/-- .. and a method that catches has room for a throw -/
def z_lv (mid y lev lv : Nat) : Option Nat := if z_prm y = true ∧ z_rk mid + lev < 8 then none else z_lv0 mid y lev lv
theorem z_lv_prm {mid y lev lv : Nat} (h : 8 ≤ z_rk mid) (hy : mid ≠ y) : z_lv mid y lev lv = some lv := by
  unfold z_lv z_lv0
  rw [if_neg (fun c => Nat.not_lt.mpr (Nat.le_trans h (Nat.le_add_right _ _)) c.2), if_neg hy]
/-- is the receiver as the call wants it -/
def z_rcv (kind : Nat) (G : z_H) (as : List Value) (ci : Nat) : Bool := match kind, as with
  | 0, .ref a :: _ => decide (z_clsOf G a = some ci)
  | 3, .ref a :: _ => decide (z_clsOf G a = some ci)
  | 2, .ref _ :: _ => true
  | 5, .ref _ :: _ => true
  | 1, _ => true
  | 4, _ => true
  | _, _ => false
/-- how deep the stack below a call may be -/
def z_dp (kind y len : Nat) : Bool := decide (len ≤ 4) || (kind == 1 && decide (len ≤ 9) && decide (z_ml y ≤ 11) && !z_prm y)
/-- a call by its entry: kind, whom, how many, level or (of itself) one less -/
def z_call (kinds : List Nat) (mid lev pc : Nat) (ls : z_L) (st : List Value) (G : z_H) : List Nat → z_D
  | kind :: y :: na :: _ :: lv :: ci :: _ => if kinds.contains kind = true then (match z_take na st [], z_lv mid y lev lv with
    | some (as, rest), some lv' => if z_dp kind y rest.length = true then (if z_rcv kind G as ci = true then some (.inr (.inr (y, lv', as, pc, ls, rest))) else none) else none
    | _, _ => none) else none
  | _ => none
def z_sw : List (Int × Int) → Int → Int → Int
  | [], d, _ => d
  | (v, o) :: r, d, x => if x = v then o else z_sw r d x
/-- constants, new objects, calls, by their entries -/
def z_kc (pc : Nat) (ls : z_L) (st : List Value) (n k : Nat) (G : z_H) : List Nat → z_D
  | 0 :: v :: _ => z_nx pc ls (.int (Int32.ofNat v) :: st) n k G
  | _ => none
def z_kl (pc : Nat) (ls : z_L) (st : List Value) (n k : Nat) (G : z_H) : List Nat → z_D
  | 1 :: v :: _ => z_nx pc ls (.long (Int64.ofNat v) :: st) n k G
  | _ => none
def z_knew (pc : Nat) (ls : z_L) (st : List Value) (n k : Nat) (G : z_H) : List Nat → z_D
  | 0 :: ci :: N :: _ => z_nx pc ls (.ref n :: st) (n + 1) (k + N) (z_up G n (.inl (ci, z_blank ci)))
  | _ => none
def z_kan (pc : Nat) (ls : z_L) (st : List Value) (n k : Nat) (G : z_H) : List Nat → z_D
  | 1 :: ci :: _ => (match st with
    | .int c :: r => if c < 0 ∨ 4096 < c.toNatClampNeg then none else z_nx pc ls (.ref n :: r) (n + 1) (k + c.toNatClampNeg) (z_up G n (.inr (.object (z_cnm ci), c.toNatClampNeg, .inr (.inr (.inr (.inr fun _ => none))))))
    | _ => none)
  | _ => none
def z_kis (mid lev pc : Nat) (ls : z_L) (st : List Value) (n k : Nat) (G : z_H) : List Nat → z_D
  | 7 :: _ => (match st with
    | .int y :: .int x :: r => if r.length ≤ 4 then z_nx pc ls (.int (if x < y then y else x) :: r) n k G else none
    | _ => none)
  | 8 :: _ => (match st with
    | .int y :: .int x :: r => if r.length ≤ 4 then z_nx pc ls (.int (if y < x then y else x) :: r) n k G else none
    | _ => none)
  | 9 :: _ => (match st with
    | .int x :: r => if r.length ≤ 4 then z_nx pc ls (.int (if 0 ≤ x then x else 0 - x) :: r) n k G else none
    | _ => none)
  | 10 :: _ => (match st with
    | .int c :: .int dp :: .ref a1 :: .int sp :: .ref a0 :: r => if r.length ≤ 4 then z_hp (z_cp G a0 sp a1 dp c) pc ls r n k else none
    | _ => none)
  | q => z_call [1, 4] mid lev pc ls st G q
def z_ksp (mid lev pc : Nat) (ls : z_L) (st : List Value) (n k : Nat) (G : z_H) : List Nat → z_D
  | 6 :: _ => (match st with
    | .ref _ :: r => if r.length ≤ 4 then z_nx pc ls r n k G else none
    | _ => none)
  | q => z_call [2, 5] mid lev pc ls st G q
def z_step (E : z_E) (mid lev : Nat) (i : Instr) (len pc : Nat) (ls : z_L) (st : List Value) (n k : Nat) (G : z_H) : z_D :=
  match i with
  | .iconst v => z_nx (pc + len) ls (.int (Int32.ofInt v) :: st) n k G
  | .bipush v => z_nx (pc + len) ls (.int (Int8.ofInt v).toInt32 :: st) n k G
  | .sipush v => z_nx (pc + len) ls (.int (Int16.ofInt v).toInt32 :: st) n k G
  | .lconst v => z_nx (pc + len) ls (.long (Int64.ofNat (v : Nat)) :: st) n k G
  | .ldc j => z_kc (pc + len) ls st n k G (z_ce mid j)
  | .ldc_w j => z_kc (pc + len) ls st n k G (z_ce mid j)
  | .ldc2_w j => z_kl (pc + len) ls st n k G (z_ce mid j)
  | .aconst_null => z_nx (pc + len) ls (.null :: st) n k G
  | .iload j => (match z_lo ls j with
    | some (.int x) => z_nx (pc + len) ls (.int x :: st) n k G
    | _ => none)
  | .iload_n j => (match z_lo ls j.val with
    | some (.int x) => z_nx (pc + len) ls (.int x :: st) n k G
    | _ => none)
  | .lload j => (match z_lo ls j with
    | some (.long x) => z_nx (pc + len) ls (.long x :: st) n k G
    | _ => none)
  | .lload_n j => (match z_lo ls j.val with
    | some (.long x) => z_nx (pc + len) ls (.long x :: st) n k G
    | _ => none)
  | .aload j => (match z_lo ls j with
    | some (.ref x) => z_nx (pc + len) ls (.ref x :: st) n k G
    | some .null => z_nx (pc + len) ls (.null :: st) n k G
    | _ => none)
  | .aload_n j => (match z_lo ls j.val with
    | some (.ref x) => z_nx (pc + len) ls (.ref x :: st) n k G
    | some .null => z_nx (pc + len) ls (.null :: st) n k G
    | _ => none)
  | .istore j => (match st with
    | .int x :: r => z_st (z_s1 (z_lg mid) ls j (.int x)) (pc + len) r n k G
    | _ => none)
  | .istore_n j => (match st with
    | .int x :: r => z_st (z_s1 (z_lg mid) ls j.val (.int x)) (pc + len) r n k G
    | _ => none)
  | .lstore j => (match st with
    | .long x :: r => z_st (z_s2 (z_lg mid) ls j (.long x)) (pc + len) r n k G
    | _ => none)
  | .lstore_n j => (match st with
    | .long x :: r => z_st (z_s2 (z_lg mid) ls j.val (.long x)) (pc + len) r n k G
    | _ => none)
  | .astore j => (match st with
    | .ref x :: r => z_st (z_s1 (z_lg mid) ls j (.ref x)) (pc + len) r n k G
    | .null :: r => z_st (z_s1 (z_lg mid) ls j .null) (pc + len) r n k G
    | _ => none)
  | .astore_n j => (match st with
    | .ref x :: r => z_st (z_s1 (z_lg mid) ls j.val (.ref x)) (pc + len) r n k G
    | .null :: r => z_st (z_s1 (z_lg mid) ls j.val .null) (pc + len) r n k G
    | _ => none)
  | .iinc j v => (match z_lo ls j with
    | some (.int x) => z_st (z_s1 (z_lg mid) ls j (.int (x + Int32.ofInt v))) (pc + len) st n k G
    | _ => none)
  | .iadd => (match st with
    | .int y :: .int x :: r => z_nx (pc + len) ls (.int (x + y) :: r) n k G
    | _ => none)
  | .isub => (match st with
    | .int y :: .int x :: r => z_nx (pc + len) ls (.int (x - y) :: r) n k G
    | _ => none)
  | .imul => (match st with
    | .int y :: .int x :: r => z_nx (pc + len) ls (.int (x * y) :: r) n k G
    | _ => none)
  | .iand => (match st with
    | .int y :: .int x :: r => z_nx (pc + len) ls (.int (x &&& y) :: r) n k G
    | _ => none)
  | .ior => (match st with
    | .int y :: .int x :: r => z_nx (pc + len) ls (.int (x ||| y) :: r) n k G
    | _ => none)
  | .ixor => (match st with
    | .int y :: .int x :: r => z_nx (pc + len) ls (.int (x ^^^ y) :: r) n k G
    | _ => none)
  | .idiv => (match st with
    | .int y :: .int x :: r => if y = 0 then none else z_nx (pc + len) ls (.int (x / y) :: r) n k G
    | _ => none)
  | .irem => (match st with
    | .int y :: .int x :: r => if y = 0 then none else z_nx (pc + len) ls (.int (x - x / y * y) :: r) n k G
    | _ => none)
  | .ladd => (match st with
    | .long y :: .long x :: r => z_nx (pc + len) ls (.long (x + y) :: r) n k G
    | _ => none)
  | .lsub => (match st with
    | .long y :: .long x :: r => z_nx (pc + len) ls (.long (x - y) :: r) n k G
    | _ => none)
  | .lmul => (match st with
    | .long y :: .long x :: r => z_nx (pc + len) ls (.long (x * y) :: r) n k G
    | _ => none)
  | .ldiv => (match st with
    | .long y :: .long x :: r => if y = 0 then none else z_nx (pc + len) ls (.long (x / y) :: r) n k G
    | _ => none)
  | .lrem => (match st with
    | .long y :: .long x :: r => if y = 0 then none else z_nx (pc + len) ls (.long (x - x / y * y) :: r) n k G
    | _ => none)
  | .ishl => (match st with
    | .int y :: .int x :: r => z_nx (pc + len) ls (.int (x <<< (y &&& 31)) :: r) n k G
    | _ => none)
  | .ishr => (match st with
    | .int y :: .int x :: r => z_nx (pc + len) ls (.int (x >>> (y &&& 31)) :: r) n k G
    | _ => none)
  | .iushr => (match st with
    | .int y :: .int x :: r => z_nx (pc + len) ls (.int (x.toUInt32 >>> (y.toUInt32 &&& Int32.toUInt32 31)).toInt32 :: r) n k G
    | _ => none)
  | .i2l => (match st with
    | .int x :: r => z_nx (pc + len) ls (.long x.toInt64 :: r) n k G
    | _ => none)
  | .i2b => (match st with
    | .int x :: r => z_nx (pc + len) ls (.int x.toInt8.toInt32 :: r) n k G
    | _ => none)
  | .i2s => (match st with
    | .int x :: r => z_nx (pc + len) ls (.int x.toInt16.toInt32 :: r) n k G
    | _ => none)
  | .lcmp => (match st with
    | .long y :: .long x :: r => z_nx (pc + len) ls (.int (lg_cmp x y) :: r) n k G
    | _ => none)
  | .dup => (match st with
    | .int x :: r => z_nx (pc + len) ls (.int x :: .int x :: r) n k G
    | .ref x :: r => z_nx (pc + len) ls (.ref x :: .ref x :: r) n k G
    | _ => none)
  | .dup2 => (match st with
    | .int y :: .int x :: r => z_nx (pc + len) ls (.int y :: .int x :: .int y :: .int x :: r) n k G
    | .int y :: .ref x :: r => z_nx (pc + len) ls (.int y :: .ref x :: .int y :: .ref x :: r) n k G
    | _ => none)
  | .pop => (match st with
    | .int _ :: r => z_nx (pc + len) ls r n k G
    | _ => none)
  | .goto off => z_jp pc off ls st n k G
  | .ifCond cd off => (match st with
    | .int x :: r => (match cd with
      | .eq => z_cj (decide (x = 0)) len pc off ls r n k G
      | .ne => z_cj (decide (¬ x = 0)) len pc off ls r n k G
      | .lt => z_cj (decide (x < 0)) len pc off ls r n k G
      | .ge => z_cj (decide (0 ≤ x)) len pc off ls r n k G
      | .gt => z_cj (decide (0 < x)) len pc off ls r n k G
      | .le => z_cj (decide (x ≤ 0)) len pc off ls r n k G)
    | _ => none)
  | .if_icmp cd off => (match st with
    | .int y :: .int x :: r => (match cd with
      | .eq => z_cj (decide (x = y)) len pc off ls r n k G
      | .ne => z_cj (decide (¬ x = y)) len pc off ls r n k G
      | .lt => z_cj (decide (x < y)) len pc off ls r n k G
      | .ge => z_cj (decide (y ≤ x)) len pc off ls r n k G
      | .gt => z_cj (decide (y < x)) len pc off ls r n k G
      | .le => z_cj (decide (x ≤ y)) len pc off ls r n k G)
    | _ => none)
  | .ifnull off => (match st with
    | .null :: r => z_jp pc off ls r n k G
    | .ref _ :: r => z_nx (pc + len) ls r n k G
    | _ => none)
  | .ifnonnull off => (match st with
    | .null :: r => z_nx (pc + len) ls r n k G
    | .ref _ :: r => z_jp pc off ls r n k G
    | _ => none)
  | .tableswitch d lo hi offs => (match st with
    | .int x :: r => if hi + 1 - lo = (offs.size : Int) then z_jp pc (z_sw ((List.range offs.size).map fun (j : Nat) => (lo + (j : Int), offs.getD j 0)) d x.toInt) ls r n k G else none
    | _ => none)
  | .lookupswitch d ps => (match st with
    | .int x :: r => if (ps.toList.zip (ps.toList.drop 1)).all (fun q => decide (q.1.1 < q.2.1)) = true then z_jp pc (z_sw ps.toList d x.toInt) ls r n k G else none
    | _ => none)
  | .getfield j => (match st with
    | .ref a :: r => z_vl (z_gf G a (z_fe mid j)) (pc + len) ls r n k G
    | _ => none)
  | .putfield j => (match st with
    | v :: .ref a :: r => z_hp (z_pf G a v (z_init mid) (z_fe mid j)) (pc + len) ls r n k
    | _ => none)
  | .iaload => (match st with
    | .int j :: .ref a :: r => z_vl ((z_ai E G a j).map Value.int) (pc + len) ls r n k G
    | _ => none)
  | .laload => (match st with
    | .int j :: .ref a :: r => z_vl ((z_al G a j).map Value.long) (pc + len) ls r n k G
    | _ => none)
  | .aaload => (match st with
    | .int j :: .ref a :: r => z_vl (z_aq G a j) (pc + len) ls r n k G
    | _ => none)
  | .arraylength => (match st with
    | .ref a :: r => z_vl ((z_an E G a).map Value.int) (pc + len) ls r n k G
    | _ => none)
  | .iastore => (match st with
    | .int x :: .int j :: .ref a :: r => z_hp (z_pi G a j x) (pc + len) ls r n k
    | _ => none)
  | .lastore => (match st with
    | .long x :: .int j :: .ref a :: r => z_hp (z_pl G a j x) (pc + len) ls r n k
    | _ => none)
  | .aastore => (match st with
    | v :: .int j :: .ref a :: r => z_hp (z_pq G a j v) (pc + len) ls r n k
    | _ => none)
  | .new j => z_knew (pc + len) ls st n k G (z_ne mid j)
  | .newarray ty => (match st with
    | .int c :: r => if c < 0 ∨ 4096 < c.toNatClampNeg then none else (match ty with
      | .int => z_nx (pc + len) ls (.ref n :: r) (n + 1) (k + c.toNatClampNeg) (z_up G n (.inr (.int, c.toNatClampNeg, .inl fun _ => 0)))
      | .long => z_nx (pc + len) ls (.ref n :: r) (n + 1) (k + c.toNatClampNeg) (z_up G n (.inr (.long, c.toNatClampNeg, .inr (.inl fun _ => 0))))
      | _ => none)
    | _ => none)
  | .anewarray j => z_kan (pc + len) ls st n k G (z_ae mid j)
  | .ireturn => (match st with
    | [.int x] => if z_rt mid = some .int ∨ (z_rt mid = some .boolean ∧ (x = 0 ∨ x = 1)) then some (.inl (some (.int x))) else none
    | _ => none)
  | .lreturn => (match st with
    | [.long x] => if z_rt mid = some .long then some (.inl (some (.long x))) else none
    | _ => none)
  | .areturn => (match st with
    | [.ref x] => if z_rtA mid = true then some (.inl (some (.ref x))) else none
    | [.null] => if z_rtA mid = true then some (.inl (some .null)) else none
    | _ => none)
  | .return_ => (match st with
    | [] => if z_rt mid = none then some (.inl none) else none
    | _ => none)
  | .invokevirtual j => z_call [0, 3] mid lev (pc + 3) ls st G (z_me mid j)
  | .invokestatic j => z_kis mid lev (pc + 3) ls st n k G (z_me mid j)
  | .invokespecial j => z_ksp mid lev (pc + 3) ls st n k G (z_me mid j)
  | _ => none
/-- what the two methods that catch do: the FAILURE of a bell, caught; an element told, or which exception -/
def z_prim (y : Nat) (as : List Value) (n k : Nat) (G : z_H) : Option z_R :=
  if y = 1000 then (match as with
    | [.ref a] => (match G a with
      | some (.inl (ci, [_, .int f, _, _, _, .int p])) =>
        if 7 < ci then none
        else if f = 0 ∨ ci = 1 ∨ ci = 2 then some (some (.int (-15)), n, k, G)
        else some (some (.int (if ci = 0 then f else if ci = 7 then p + 200 else f + 100)), n + 1, k + 6, G)
      | _ => none)
    | _ => none)
  else if y = 1001 then (match as with
    | [.ref x, .int d, .int i, .ref o] =>
      if z_clsOf G x = some 11 then (if d < 0 ∨ 8 ≤ d then some (some (.int 1), n + 1, k + 6, G)
      else (match z_gf G x [6, 11, 11, 0, 0] with
        | some (.ref t) => (match z_aq G t d with
          | some .null => some (some (.int 2), n + 1, k + 6, G)
          | some (.ref r) => (match z_gf G r [1, 9, 9, 0, 0] with
            | some (.ref e) => (match G e with
              | some (.inr (.int, N, .inl f)) => if N < 2147483648 then (if z_out i N = true then some (some (.int 2), n + 1, k + 6, G) else (match z_pl G o 0 (f i.toNatClampNeg).toInt64 with
                | some G1 => some (some (.int 0), n, k, G1)
                | none => none)) else none
              | _ => none)
            | _ => none)
          | _ => none)
        | _ => none)) else none
    | _ => none)
  else none
def z_pu (v : Option Value) (r : List Value) : List Value := v.toList ++ r
theorem z_pu_s (v : Value) (r : List Value) : z_pu (some v) r = v :: r := rfl
theorem z_pu_n (r : List Value) : z_pu none r = r := rfl
/-- the walk, with a bound on its length -/
def z_run (E : z_E) : Nat → Nat → Nat → Nat → z_L → List Value → Nat → Nat → z_H → Option z_R
  | 0, _, _, _, _, _, _, _, _ => none
  | f + 1, mid, lev, pc, ls, st, n, k, G => match z_ins mid pc with
    | none => none
    | some (i, len) => match z_step E mid lev i len pc ls st n k G with
      | none => none
      | some (.inl r) => some (r, n, k, G)
      | some (.inr (.inl (pc', ls', st', n', k', G'))) => z_run E f mid lev pc' ls' st' n' k' G'
      | some (.inr (.inr (y, lv, as, pc', ls', rest))) =>
        (if z_prm y = true then z_prim y as n k G else if z_rk y + lv < z_rk mid + lev then (z_ent y as).bind (fun le => z_run E f y lv 0 le [] n k G) else none).bind (fun q => z_run E f mid lev pc' ls' (z_pu q.1 rest) q.2.1 q.2.2.1 q.2.2.2)
