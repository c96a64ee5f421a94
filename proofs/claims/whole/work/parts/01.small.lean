/-! ===== a small machine for the bytecode of the claim's own classes ===== -/
/-- an instruction with what it links: instruction, the place of the next one, three numbers, an int, a table -/
abbrev mj_E : Type := Instr × Nat × Nat × Nat × Nat × Int32 × List (Int × Nat)
/-- a heap: the kinds and lengths of the cells, their ints, their references -/
abbrev mj_H : Type := List (Nat × Nat) × (Nat → Nat → Int32) × (Nat → Nat → Option Nat)
abbrev mj_C : Type := Nat × List Value × List Value × mj_H
/-- a program: the instructions; of a method the number of its arguments, of its locals, the kind of its answer, the class of its receiver -/
abbrev mj_P : Type := (Nat → Nat → Option mj_E) × (Nat → Nat × Nat × Nat × Nat)
def mj_u {α : Type} (f : Nat → Nat → α) (a j : Nat) (v : α) : Nat → Nat → α := fun b k => if b = a ∧ k = j then v else f b k
def mj_n {α : Type} (f : Nat → Nat → α) (a : Nat) (v : α) : Nat → Nat → α := fun b k => if b = a then v else f b k
def mj_V (v : Value) : Bool := match v with
  | .int _ => true
  | .null => true
  | .ref _ => true
  | _ => false
def mj_ix (i : Int32) (n : Nat) : Bool := !(decide (i < 0) || decide (n ≤ i.toNatClampNeg))
def mj_cnd (k : Jvm.ClassFile.Cond) (x y : Int32) : Bool := match k with
  | .eq => decide (x = y)
  | .ne => !decide (x = y)
  | .lt => decide (x < y)
  | .ge => decide (y ≤ x)
  | .gt => decide (y < x)
  | .le => decide (x ≤ y)
def mj_sl (M : mj_H) : Nat := (M.1.map (fun q => q.2)).sum
def mj_ild (nx x : Nat) (L st : List Value) (M : mj_H) : Option mj_C := match L[x]? with
  | some (.int v) => some (nx, L, .int v :: st, M)
  | _ => none
def mj_ald (nx x : Nat) (L st : List Value) (M : mj_H) : Option mj_C := match L[x]? with
  | some (.ref a) => some (nx, L, .ref a :: st, M)
  | some .null => some (nx, L, .null :: st, M)
  | _ => none
def mj_ist (nx x : Nat) (L st : List Value) (M : mj_H) : Option mj_C := match st with
  | .int v :: r => if x < L.length then some (nx, L.set x (.int v), r, M) else none
  | _ => none
def mj_ast (nx x : Nat) (L st : List Value) (M : mj_H) : Option mj_C := match st with
  | .ref a :: r => if x < L.length then some (nx, L.set x (.ref a), r, M) else none
  | .null :: r => if x < L.length then some (nx, L.set x .null, r, M) else none
  | _ => none
def mj_inc (nx x : Nat) (z : Int32) (L st : List Value) (M : mj_H) : Option mj_C := match L[x]? with
  | some (.int v) => some (nx, L.set x (.int (v + z)), st, M)
  | _ => none
def mj_bin (g : Int32 → Int32 → Int32) (nx : Nat) (L st : List Value) (M : mj_H) : Option mj_C := match st with
  | .int b :: .int a :: r => some (nx, L, .int (g a b) :: r, M)
  | _ => none
def mj_div (g : Int32 → Int32 → Int32) (nx : Nat) (L st : List Value) (M : mj_H) : Option mj_C := match st with
  | .int b :: .int a :: r => if b = 0 then none else some (nx, L, .int (g a b) :: r, M)
  | _ => none
def mj_una (g : Int32 → Int32) (nx : Nat) (L st : List Value) (M : mj_H) : Option mj_C := match st with
  | .int a :: r => some (nx, L, .int (g a) :: r, M)
  | _ => none
def mj_if1 (k : Jvm.ClassFile.Cond) (nx tg : Nat) (L st : List Value) (M : mj_H) : Option mj_C := match st with
  | .int a :: r => some (if mj_cnd k a 0 = true then tg else nx, L, r, M)
  | _ => none
def mj_if2 (k : Jvm.ClassFile.Cond) (nx tg : Nat) (L st : List Value) (M : mj_H) : Option mj_C := match st with
  | .int b :: .int a :: r => some (if mj_cnd k a b = true then tg else nx, L, r, M)
  | _ => none
def mj_ifn (nul oth : Nat) (L st : List Value) (M : mj_H) : Option mj_C := match st with
  | .null :: r => some (nul, L, r, M)
  | .ref _ :: r => some (oth, L, r, M)
  | _ => none
def mj_get (nx x y w : Nat) (L st : List Value) (M : mj_H) : Option mj_C := match st with
  | .ref a :: r => match M.1[a]? with
    | some (t, _) => if t = x then some (nx, L, (if w = 1 then va_rf (M.2.2 a y) else .int (M.2.1 a y)) :: r, M) else none
    | none => none
  | _ => none
def mj_put (nx x y w : Nat) (L st : List Value) (M : mj_H) : Option mj_C := match st with
  | .int v :: .ref a :: r => match M.1[a]? with
    | some (t, _) => if t = x ∧ (w = 0 ∨ (w = 2 ∧ (v = 0 ∨ v = 1))) then some (nx, L, r, (M.1, mj_u M.2.1 a y v, M.2.2)) else none
    | none => none
  | .null :: .ref a :: r => match M.1[a]? with
    | some (t, _) => if t = x ∧ w = 1 then some (nx, L, r, (M.1, M.2.1, mj_u M.2.2 a y none)) else none
    | none => none
  | .ref q :: .ref a :: r => match M.1[a]? with
    | some (t, _) => if t = x ∧ w = 1 then some (nx, L, r, (M.1, M.2.1, mj_u M.2.2 a y (some q))) else none
    | none => none
  | _ => none
def mj_iald (nx : Nat) (L st : List Value) (M : mj_H) : Option mj_C := match st with
  | .int i :: .ref a :: r => match M.1[a]? with
    | some (t, n) => if (t = 64 ∨ t = 65) ∧ mj_ix i n = true then some (nx, L, .int (M.2.1 a i.toNatClampNeg) :: r, M) else none
    | none => none
  | _ => none
def mj_aald (nx : Nat) (L st : List Value) (M : mj_H) : Option mj_C := match st with
  | .int i :: .ref a :: r => match M.1[a]? with
    | some (t, n) => if 128 ≤ t ∧ mj_ix i n = true then some (nx, L, va_rf (M.2.2 a i.toNatClampNeg) :: r, M) else none
    | none => none
  | _ => none
def mj_aast (nx : Nat) (L st : List Value) (M : mj_H) : Option mj_C := match st with
  | .ref q :: .int i :: .ref a :: r => match M.1[a]? with
    | some (t, n) => match M.1[q]? with
      | some (u, _) => if u < 64 ∧ t = 128 + u ∧ mj_ix i n = true then some (nx, L, r, (M.1, M.2.1, mj_u M.2.2 a i.toNatClampNeg (some q))) else none
      | none => none
    | none => none
  | _ => none
def mj_pald (g nx : Nat) (L st : List Value) (M : mj_H) : Option mj_C := match st with
  | .int i :: .ref a :: r => match M.1[a]? with
    | some (t, n) => if t = g ∧ mj_ix i n = true then some (nx, L, .int (M.2.1 a i.toNatClampNeg) :: r, M) else none
    | none => none
  | _ => none
def mj_past (g : Nat) (nr : Int32 → Int32) (nx : Nat) (L st : List Value) (M : mj_H) : Option mj_C := match st with
  | .int v :: .int i :: .ref a :: r => match M.1[a]? with
    | some (t, n) => if t = g ∧ mj_ix i n = true then some (nx, L, r, (M.1, mj_u M.2.1 a i.toNatClampNeg (nr v), M.2.2)) else none
    | none => none
  | _ => none
def mj_len (nx : Nat) (L st : List Value) (M : mj_H) : Option mj_C := match st with
  | .ref a :: r => match M.1[a]? with
    | some (t, n) => if (64 ≤ t ∧ t ≤ 67) ∨ 128 ≤ t then some (nx, L, .int (Int32.ofNat n) :: r, M) else none
    | none => none
  | _ => none
def mj_add (M : mj_H) (t n : Nat) : mj_H := (M.1 ++ [(t, n)], mj_n M.2.1 M.1.length 0, mj_n M.2.2 M.1.length none)
def mj_new (nx x y : Nat) (L st : List Value) (M : mj_H) : Option mj_C := some (nx, L, .ref M.1.length :: st, mj_add M x y)
def mj_nar (nx x : Nat) (L st : List Value) (M : mj_H) : Option mj_C := match st with
  | .int n :: r => if n < 0 ∨ 65536 < n.toNatClampNeg then none else some (nx, L, .ref M.1.length :: r, mj_add M x n.toNatClampNeg)
  | _ => none
def mj_dup (nx : Nat) (L st : List Value) (M : mj_H) : Option mj_C := match st with
  | a :: r => if mj_V a = true then some (nx, L, a :: a :: r, M) else none
  | _ => none
def mj_dx1 (nx : Nat) (L st : List Value) (M : mj_H) : Option mj_C := match st with
  | a :: b :: r => if mj_V a = true ∧ mj_V b = true then some (nx, L, a :: b :: a :: r, M) else none
  | _ => none
def mj_dup2 (nx : Nat) (L st : List Value) (M : mj_H) : Option mj_C := match st with
  | a :: b :: r => if mj_V a = true ∧ mj_V b = true then some (nx, L, a :: b :: a :: b :: r, M) else none
  | _ => none
def mj_pop (nx : Nat) (L st : List Value) (M : mj_H) : Option mj_C := match st with
  | a :: r => if mj_V a = true then some (nx, L, r, M) else none
  | _ => none
def mj_obj (nx : Nat) (L st : List Value) (M : mj_H) : Option mj_C := match st with
  | [.ref _] => some (nx, L, [], M)
  | _ => none
def mj_sw (dt : Nat) (tb : List (Int × Nat)) (L st : List Value) (M : mj_H) : Option mj_C := match st with
  | .int a :: r => some ((tb.lookup a.toInt).getD dt, L, r, M)
  | _ => none
def mj_i2l (nx : Nat) (L st : List Value) (M : mj_H) : Option mj_C := match st with
  | .int a :: r => some (nx, L, .long a.toInt64 :: r, M)
  | _ => none
def mj_lbin (g : Int64 → Int64 → Int64) (nx : Nat) (L st : List Value) (M : mj_H) : Option mj_C := match st with
  | .long b :: .long a :: r => some (nx, L, .long (g a b) :: r, M)
  | _ => none
def mj_lcmp (nx : Nat) (L st : List Value) (M : mj_H) : Option mj_C := match st with
  | .long b :: .long a :: r => some (nx, L, .int (lg_cmp a b) :: r, M)
  | _ => none
def mj_lc (tb : List (Int × Nat)) (nx : Nat) (L st : List Value) (M : mj_H) : Option mj_C := match tb with
  | (k, _) :: _ => some (nx, L, .long (Int64.ofInt k) :: st, M)
  | [] => none
/-- one instruction that neither calls nor returns -/
def mj_step (E : mj_E) (L st : List Value) (M : mj_H) : Option mj_C :=
  match E with
  | (i, nx, x, y, w, z, tb) =>
  match i with
  | .iconst _ => some (nx, L, .int z :: st, M)
  | .bipush _ => some (nx, L, .int z :: st, M)
  | .sipush _ => some (nx, L, .int z :: st, M)
  | .ldc _ => some (nx, L, .int z :: st, M)
  | .ldc2_w _ => mj_lc tb nx L st M
  | .lconst _ => mj_lc tb nx L st M
  | .aconst_null => some (nx, L, .null :: st, M)
  | .iload _ => mj_ild nx x L st M
  | .iload_n _ => mj_ild nx x L st M
  | .aload _ => mj_ald nx x L st M
  | .aload_n _ => mj_ald nx x L st M
  | .istore _ => mj_ist nx x L st M
  | .istore_n _ => mj_ist nx x L st M
  | .astore _ => mj_ast nx x L st M
  | .astore_n _ => mj_ast nx x L st M
  | .iinc _ _ => mj_inc nx x z L st M
  | .iadd => mj_bin (fun a b => a + b) nx L st M
  | .isub => mj_bin (fun a b => a - b) nx L st M
  | .imul => mj_bin (fun a b => a * b) nx L st M
  | .iand => mj_bin (fun a b => a &&& b) nx L st M
  | .ior => mj_bin (fun a b => a ||| b) nx L st M
  | .ixor => mj_bin (fun a b => a ^^^ b) nx L st M
  | .ishl => mj_bin (fun a b => a <<< (b &&& 31)) nx L st M
  | .ishr => mj_bin (fun a b => a >>> (b &&& 31)) nx L st M
  | .idiv => mj_div (fun a b => a / b) nx L st M
  | .irem => mj_div (fun a b => a - a / b * b) nx L st M
  | .ineg => mj_una (fun a => -a) nx L st M
  | .i2c => mj_una (fun a => (a.toUInt32 % 65536).toInt32) nx L st M
  | .goto _ => some (x, L, st, M)
  | .ifCond k _ => mj_if1 k nx x L st M
  | .if_icmp k _ => mj_if2 k nx x L st M
  | .ifnull _ => mj_ifn x nx L st M
  | .ifnonnull _ => mj_ifn nx x L st M
  | .getfield _ => mj_get nx x y w L st M
  | .putfield _ => mj_put nx x y w L st M
  | .iaload => mj_iald nx L st M
  | .iastore => mj_past 65 (fun v => v) nx L st M
  | .baload => mj_pald 66 nx L st M
  | .bastore => mj_past 66 (fun v => v &&& 1) nx L st M
  | .caload => mj_pald 67 nx L st M
  | .castore => mj_past 67 (fun v => v.toUInt32.toUInt16.toUInt32.toInt32) nx L st M
  | .aaload => mj_aald nx L st M
  | .aastore => mj_aast nx L st M
  | .arraylength => mj_len nx L st M
  | .new _ => mj_new nx x y L st M
  | .newarray _ => mj_nar nx x L st M
  | .anewarray _ => mj_nar nx x L st M
  | .dup => mj_dup nx L st M
  | .dup_x1 => mj_dx1 nx L st M
  | .dup2 => mj_dup2 nx L st M
  | .pop => mj_pop nx L st M
  | .invokespecial _ => mj_obj nx L st M
  | .lookupswitch _ _ => mj_sw x tb L st M
  | .tableswitch _ _ _ _ => mj_sw x tb L st M
  | .i2l => mj_i2l nx L st M
  | .ladd => mj_lbin (fun a b => a + b) nx L st M
  | .lmul => mj_lbin (fun a b => a * b) nx L st M
  | .lcmp => mj_lcmp nx L st M
  | _ => none
/-- may it be called: enough arguments, of one slot each; the receiver's class; few values below them -/
def mj_cok (k rc : Nat) (st : List Value) (M : mj_H) : Bool :=
  decide (k ≤ st.length) && (st.take k).all mj_V && decide (((st.drop k).map fun v => v.category).sum ≤ 8) &&
  (decide (rc = 1000) || match st[k - 1]? with
    | some (.ref a) => decide (rc = 1001) || match M.1[a]? with
      | some (t, _) => decide (t = rc)
      | none => false
    | _ => false)
def mj_ret (rk : Nat) (st : List Value) (M : mj_H) : Option (Option Value × mj_H) := match st with
  | [] => if rk = 4 then some (none, M) else none
  | [.int v] => if rk = 0 ∨ (rk = 1 ∧ (v = 0 ∨ v = 1)) then some (some (.int v), M) else none
  | [.long v] => if rk = 3 then some (some (.long v), M) else none
  | [.ref a] => if rk = 2 then some (some (.ref a), M) else none
  | [.null] => if rk = 2 then some (some .null, M) else none
  | _ => none
def mj_ent (mL : Nat) (as : List Value) : List Value := as ++ List.replicate (mL - as.length) (.retAddr 0)
/-- a run: fuel, method, place, locals, stack, heap -/
def mj_x (P : mj_P) : Nat → Nat → Nat → List Value → List Value → mj_H → Option (Option Value × mj_H)
  | 0, _, _, _, _, _ => none
  | n + 1, f, pc, L, st, M =>
    match P.1 f pc with
    | none => none
    | some E =>
      if E.2.2.2.2.1 = 7 then
        if mj_cok (P.2 E.2.2.1).1 (P.2 E.2.2.1).2.2.2 st M = true then
          match mj_x P n E.2.2.1 0 (mj_ent (P.2 E.2.2.1).2.1 (st.take (P.2 E.2.2.1).1).reverse) [] M with
          | some (v, M1) => mj_x P n f E.2.1 L (v.toList ++ st.drop (P.2 E.2.2.1).1) M1
          | none => none
        else none
      else if E.2.2.2.2.1 = 8 then mj_ret (P.2 f).2.2.1 st M
      else match mj_step E L st M with
        | some (pc', L', st', M') => mj_x P n f pc' L' st' M'
        | none => none
/-- more fuel changes nothing -/
theorem mj_x_more (P : mj_P) : ∀ (n f pc : Nat) (L st : List Value) (M : mj_H) (r : Option Value × mj_H), mj_x P n f pc L st M = some r → ∀ (k : Nat), mj_x P (n + k) f pc L st M = some r := by
  intro n
  induction n with
  | zero => intro f pc L st M r h; simp [mj_x] at h
  | succ n ih =>
    intro f pc L st M r h k
    rw [show n + 1 + k = (n + k) + 1 by omega]
    unfold mj_x at h ⊢
    cases hE : P.1 f pc with
    | none => rw [hE] at h; simp at h
    | some E =>
      rw [hE] at h
      simp only at h ⊢
      by_cases h7 : E.2.2.2.2.1 = 7
      · rw [if_pos h7] at h ⊢
        by_cases hc : mj_cok (P.2 E.2.2.1).1 (P.2 E.2.2.1).2.2.2 st M = true
        · rw [if_pos hc] at h ⊢
          cases h1 : mj_x P n E.2.2.1 0 (mj_ent (P.2 E.2.2.1).2.1 (st.take (P.2 E.2.2.1).1).reverse) [] M with
          | none => rw [h1] at h; simp at h
          | some q =>
            rw [h1] at h
            rw [ih _ _ _ _ _ _ h1 k]
            simp only at h ⊢
            exact ih _ _ _ _ _ _ h k
        · rw [if_neg hc] at h; simp at h
      · rw [if_neg h7] at h ⊢
        by_cases h8 : E.2.2.2.2.1 = 8
        · rw [if_pos h8] at h ⊢
          exact h
        · rw [if_neg h8] at h ⊢
          cases hs : mj_step E L st M with
          | none => rw [hs] at h; simp at h
          | some q =>
            rw [hs] at h
            simp only at h ⊢
            exact ih _ _ _ _ _ _ h k
/-! what each instruction asks of its operands, read backwards -/
theorem mj_ild_inv {nx x : Nat} {L st : List Value} {M : mj_H} {q : mj_C} (h : mj_ild nx x L st M = some q) : ∃ v, L[x]? = some (.int v) ∧ q = (nx, L, .int v :: st, M) := by
  unfold mj_ild at h
  split at h
  · rename_i v hv
    exact ⟨v, hv, (Option.some.inj h).symm⟩
  · cases h
theorem mj_ald_inv {nx x : Nat} {L st : List Value} {M : mj_H} {q : mj_C} (h : mj_ald nx x L st M = some q) : (∃ a, L[x]? = some (.ref a) ∧ q = (nx, L, .ref a :: st, M)) ∨ (L[x]? = some .null ∧ q = (nx, L, .null :: st, M)) := by
  unfold mj_ald at h
  split at h
  · rename_i v hv
    exact Or.inl ⟨v, hv, (Option.some.inj h).symm⟩
  · rename_i hv
    exact Or.inr ⟨hv, (Option.some.inj h).symm⟩
  · cases h
theorem mj_ist_inv {nx x : Nat} {L st : List Value} {M : mj_H} {q : mj_C} (h : mj_ist nx x L st M = some q) : ∃ v r, st = .int v :: r ∧ x < L.length ∧ q = (nx, L.set x (.int v), r, M) := by
  unfold mj_ist at h
  split at h
  · rename_i v r
    split at h
    · rename_i hl
      exact ⟨v, r, rfl, hl, (Option.some.inj h).symm⟩
    · cases h
  · cases h
theorem mj_ast_inv {nx x : Nat} {L st : List Value} {M : mj_H} {q : mj_C} (h : mj_ast nx x L st M = some q) : (∃ a r, st = .ref a :: r ∧ x < L.length ∧ q = (nx, L.set x (.ref a), r, M)) ∨ (∃ r, st = .null :: r ∧ x < L.length ∧ q = (nx, L.set x .null, r, M)) := by
  unfold mj_ast at h
  split at h
  · rename_i v r
    split at h
    · rename_i hl
      exact Or.inl ⟨v, r, rfl, hl, (Option.some.inj h).symm⟩
    · cases h
  · rename_i r
    split at h
    · rename_i hl
      exact Or.inr ⟨r, rfl, hl, (Option.some.inj h).symm⟩
    · cases h
  · cases h
theorem mj_inc_inv {nx x : Nat} {z : Int32} {L st : List Value} {M : mj_H} {q : mj_C} (h : mj_inc nx x z L st M = some q) : ∃ v, L[x]? = some (.int v) ∧ q = (nx, L.set x (.int (v + z)), st, M) := by
  unfold mj_inc at h
  split at h
  · rename_i v hv
    exact ⟨v, hv, (Option.some.inj h).symm⟩
  · cases h
theorem mj_bin_inv {g : Int32 → Int32 → Int32} {nx : Nat} {L st : List Value} {M : mj_H} {q : mj_C} (h : mj_bin g nx L st M = some q) : ∃ b a r, st = .int b :: .int a :: r ∧ q = (nx, L, .int (g a b) :: r, M) := by
  unfold mj_bin at h
  split at h
  · rename_i b a r
    exact ⟨b, a, r, rfl, (Option.some.inj h).symm⟩
  · cases h
theorem mj_div_inv {g : Int32 → Int32 → Int32} {nx : Nat} {L st : List Value} {M : mj_H} {q : mj_C} (h : mj_div g nx L st M = some q) : ∃ b a r, st = .int b :: .int a :: r ∧ ¬ b = 0 ∧ q = (nx, L, .int (g a b) :: r, M) := by
  unfold mj_div at h
  split at h
  · rename_i b a r
    split at h
    · cases h
    · rename_i hb
      exact ⟨b, a, r, rfl, hb, (Option.some.inj h).symm⟩
  · cases h
theorem mj_una_inv {g : Int32 → Int32} {nx : Nat} {L st : List Value} {M : mj_H} {q : mj_C} (h : mj_una g nx L st M = some q) : ∃ a r, st = .int a :: r ∧ q = (nx, L, .int (g a) :: r, M) := by
  unfold mj_una at h
  split at h
  · rename_i a r
    exact ⟨a, r, rfl, (Option.some.inj h).symm⟩
  · cases h
theorem mj_if1_inv {k : Jvm.ClassFile.Cond} {nx tg : Nat} {L st : List Value} {M : mj_H} {q : mj_C} (h : mj_if1 k nx tg L st M = some q) : ∃ a r, st = .int a :: r ∧ q = (if mj_cnd k a 0 = true then tg else nx, L, r, M) := by
  unfold mj_if1 at h
  split at h
  · rename_i a r
    exact ⟨a, r, rfl, (Option.some.inj h).symm⟩
  · cases h
theorem mj_if2_inv {k : Jvm.ClassFile.Cond} {nx tg : Nat} {L st : List Value} {M : mj_H} {q : mj_C} (h : mj_if2 k nx tg L st M = some q) : ∃ b a r, st = .int b :: .int a :: r ∧ q = (if mj_cnd k a b = true then tg else nx, L, r, M) := by
  unfold mj_if2 at h
  split at h
  · rename_i b a r
    exact ⟨b, a, r, rfl, (Option.some.inj h).symm⟩
  · cases h
theorem mj_ifn_inv {nul oth : Nat} {L st : List Value} {M : mj_H} {q : mj_C} (h : mj_ifn nul oth L st M = some q) : (∃ r, st = .null :: r ∧ q = (nul, L, r, M)) ∨ (∃ a r, st = .ref a :: r ∧ q = (oth, L, r, M)) := by
  unfold mj_ifn at h
  split at h
  · rename_i r
    exact Or.inl ⟨r, rfl, (Option.some.inj h).symm⟩
  · rename_i a r
    exact Or.inr ⟨a, r, rfl, (Option.some.inj h).symm⟩
  · cases h
theorem mj_get_inv {nx x y w : Nat} {L st : List Value} {M : mj_H} {q : mj_C} (h : mj_get nx x y w L st M = some q) : ∃ a r n, st = .ref a :: r ∧ M.1[a]? = some (x, n) ∧ q = (nx, L, (if w = 1 then va_rf (M.2.2 a y) else .int (M.2.1 a y)) :: r, M) := by
  unfold mj_get at h
  split at h
  · rename_i a r
    split at h
    · rename_i t n ht
      split at h
      · rename_i hx
        subst hx
        exact ⟨a, r, n, rfl, ht, (Option.some.inj h).symm⟩
      · cases h
    · cases h
  · cases h
theorem mj_put_inv {nx x y w : Nat} {L st : List Value} {M : mj_H} {q : mj_C} (h : mj_put nx x y w L st M = some q) :
    (∃ v a r n, st = .int v :: .ref a :: r ∧ M.1[a]? = some (x, n) ∧ (w = 0 ∨ (w = 2 ∧ (v = 0 ∨ v = 1))) ∧ q = (nx, L, r, (M.1, mj_u M.2.1 a y v, M.2.2))) ∨
    (∃ a r n, st = .null :: .ref a :: r ∧ M.1[a]? = some (x, n) ∧ w = 1 ∧ q = (nx, L, r, (M.1, M.2.1, mj_u M.2.2 a y none))) ∨
    (∃ k a r n, st = .ref k :: .ref a :: r ∧ M.1[a]? = some (x, n) ∧ w = 1 ∧ q = (nx, L, r, (M.1, M.2.1, mj_u M.2.2 a y (some k)))) := by
  unfold mj_put at h
  split at h
  · rename_i v a r
    split at h
    · rename_i t n ht
      split at h
      · rename_i hx
        obtain ⟨rfl, hw⟩ := hx
        exact Or.inl ⟨v, a, r, n, rfl, ht, hw, (Option.some.inj h).symm⟩
      · cases h
    · cases h
  · rename_i a r
    split at h
    · rename_i t n ht
      split at h
      · rename_i hx
        obtain ⟨rfl, hw⟩ := hx
        exact Or.inr (Or.inl ⟨a, r, n, rfl, ht, hw, (Option.some.inj h).symm⟩)
      · cases h
    · cases h
  · rename_i k a r
    split at h
    · rename_i t n ht
      split at h
      · rename_i hx
        obtain ⟨rfl, hw⟩ := hx
        exact Or.inr (Or.inr ⟨k, a, r, n, rfl, ht, hw, (Option.some.inj h).symm⟩)
      · cases h
    · cases h
  · cases h
theorem mj_iald_inv {nx : Nat} {L st : List Value} {M : mj_H} {q : mj_C} (h : mj_iald nx L st M = some q) : ∃ i a r t n, st = .int i :: .ref a :: r ∧ M.1[a]? = some (t, n) ∧ (t = 64 ∨ t = 65) ∧ mj_ix i n = true ∧ q = (nx, L, .int (M.2.1 a i.toNatClampNeg) :: r, M) := by
  unfold mj_iald at h
  split at h
  · rename_i i a r
    split at h
    · rename_i t n ht
      split at h
      · rename_i hx
        exact ⟨i, a, r, t, n, rfl, ht, hx.1, hx.2, (Option.some.inj h).symm⟩
      · cases h
    · cases h
  · cases h
theorem mj_pald_inv {g nx : Nat} {L st : List Value} {M : mj_H} {q : mj_C} (h : mj_pald g nx L st M = some q) : ∃ i a r n, st = .int i :: .ref a :: r ∧ M.1[a]? = some (g, n) ∧ mj_ix i n = true ∧ q = (nx, L, .int (M.2.1 a i.toNatClampNeg) :: r, M) := by
  unfold mj_pald at h
  split at h
  · rename_i i a r
    split at h
    · rename_i t n ht
      split at h
      · rename_i hx
        obtain ⟨rfl, hx⟩ := hx
        exact ⟨i, a, r, n, rfl, ht, hx, (Option.some.inj h).symm⟩
      · cases h
    · cases h
  · cases h
theorem mj_past_inv {g : Nat} {nr : Int32 → Int32} {nx : Nat} {L st : List Value} {M : mj_H} {q : mj_C} (h : mj_past g nr nx L st M = some q) : ∃ v i a r n, st = .int v :: .int i :: .ref a :: r ∧ M.1[a]? = some (g, n) ∧ mj_ix i n = true ∧ q = (nx, L, r, (M.1, mj_u M.2.1 a i.toNatClampNeg (nr v), M.2.2)) := by
  unfold mj_past at h
  split at h
  · rename_i v i a r
    split at h
    · rename_i t n ht
      split at h
      · rename_i hx
        obtain ⟨rfl, hx⟩ := hx
        exact ⟨v, i, a, r, n, rfl, ht, hx, (Option.some.inj h).symm⟩
      · cases h
    · cases h
  · cases h
theorem mj_dup2_inv {nx : Nat} {L st : List Value} {M : mj_H} {q : mj_C} (h : mj_dup2 nx L st M = some q) : ∃ a b r, st = a :: b :: r ∧ mj_V a = true ∧ mj_V b = true ∧ q = (nx, L, a :: b :: a :: b :: r, M) := by
  unfold mj_dup2 at h
  split at h
  · rename_i a b r
    split at h
    · rename_i hx
      exact ⟨a, b, r, rfl, hx.1, hx.2, (Option.some.inj h).symm⟩
    · cases h
  · cases h
theorem mj_lc_inv {tb : List (Int × Nat)} {nx : Nat} {L st : List Value} {M : mj_H} {q : mj_C} (h : mj_lc tb nx L st M = some q) : ∃ k j r, tb = (k, j) :: r ∧ q = (nx, L, .long (Int64.ofInt k) :: st, M) := by
  unfold mj_lc at h
  split at h
  · rename_i k j r
    exact ⟨k, j, r, rfl, (Option.some.inj h).symm⟩
  · cases h
theorem mj_aald_inv {nx : Nat} {L st : List Value} {M : mj_H} {q : mj_C} (h : mj_aald nx L st M = some q) : ∃ i a r t n, st = .int i :: .ref a :: r ∧ M.1[a]? = some (t, n) ∧ 128 ≤ t ∧ mj_ix i n = true ∧ q = (nx, L, va_rf (M.2.2 a i.toNatClampNeg) :: r, M) := by
  unfold mj_aald at h
  split at h
  · rename_i i a r
    split at h
    · rename_i t n ht
      split at h
      · rename_i hx
        exact ⟨i, a, r, t, n, rfl, ht, hx.1, hx.2, (Option.some.inj h).symm⟩
      · cases h
    · cases h
  · cases h
theorem mj_aast_inv {nx : Nat} {L st : List Value} {M : mj_H} {q : mj_C} (h : mj_aast nx L st M = some q) : ∃ k i a r u n n', st = .ref k :: .int i :: .ref a :: r ∧ M.1[a]? = some (128 + u, n) ∧ M.1[k]? = some (u, n') ∧ u < 64 ∧ mj_ix i n = true ∧ q = (nx, L, r, (M.1, M.2.1, mj_u M.2.2 a i.toNatClampNeg (some k))) := by
  unfold mj_aast at h
  split at h
  · rename_i k i a r
    split at h
    · rename_i t n ht
      split at h
      · rename_i u n' hu
        split at h
        · rename_i hx
          obtain ⟨h1, rfl, h3⟩ := hx
          exact ⟨k, i, a, r, u, n, n', rfl, ht, hu, h1, h3, (Option.some.inj h).symm⟩
        · cases h
      · cases h
    · cases h
  · cases h
theorem mj_len_inv {nx : Nat} {L st : List Value} {M : mj_H} {q : mj_C} (h : mj_len nx L st M = some q) : ∃ a r t n, st = .ref a :: r ∧ M.1[a]? = some (t, n) ∧ ((64 ≤ t ∧ t ≤ 67) ∨ 128 ≤ t) ∧ q = (nx, L, .int (Int32.ofNat n) :: r, M) := by
  unfold mj_len at h
  split at h
  · rename_i a r
    split at h
    · rename_i t n ht
      split at h
      · rename_i hx
        exact ⟨a, r, t, n, rfl, ht, hx, (Option.some.inj h).symm⟩
      · cases h
    · cases h
  · cases h
theorem mj_nar_inv {nx x : Nat} {L st : List Value} {M : mj_H} {q : mj_C} (h : mj_nar nx x L st M = some q) : ∃ n r, st = .int n :: r ∧ ¬ n < 0 ∧ n.toNatClampNeg ≤ 65536 ∧ q = (nx, L, .ref M.1.length :: r, mj_add M x n.toNatClampNeg) := by
  unfold mj_nar at h
  split at h
  · rename_i n r
    split at h
    · cases h
    · rename_i hx
      exact ⟨n, r, rfl, fun h1 => hx (Or.inl h1), Nat.not_lt.mp fun h1 => hx (Or.inr h1), (Option.some.inj h).symm⟩
  · cases h
theorem mj_dup_inv {nx : Nat} {L st : List Value} {M : mj_H} {q : mj_C} (h : mj_dup nx L st M = some q) : ∃ a r, st = a :: r ∧ mj_V a = true ∧ q = (nx, L, a :: a :: r, M) := by
  unfold mj_dup at h
  split at h
  · rename_i a r
    split at h
    · rename_i hx
      exact ⟨a, r, rfl, hx, (Option.some.inj h).symm⟩
    · cases h
  · cases h
theorem mj_dx1_inv {nx : Nat} {L st : List Value} {M : mj_H} {q : mj_C} (h : mj_dx1 nx L st M = some q) : ∃ a b r, st = a :: b :: r ∧ mj_V a = true ∧ mj_V b = true ∧ q = (nx, L, a :: b :: a :: r, M) := by
  unfold mj_dx1 at h
  split at h
  · rename_i a b r
    split at h
    · rename_i hx
      exact ⟨a, b, r, rfl, hx.1, hx.2, (Option.some.inj h).symm⟩
    · cases h
  · cases h
theorem mj_pop_inv {nx : Nat} {L st : List Value} {M : mj_H} {q : mj_C} (h : mj_pop nx L st M = some q) : ∃ a r, st = a :: r ∧ mj_V a = true ∧ q = (nx, L, r, M) := by
  unfold mj_pop at h
  split at h
  · rename_i a r
    split at h
    · rename_i hx
      exact ⟨a, r, rfl, hx, (Option.some.inj h).symm⟩
    · cases h
  · cases h
theorem mj_obj_inv {nx : Nat} {L st : List Value} {M : mj_H} {q : mj_C} (h : mj_obj nx L st M = some q) : ∃ a, st = [.ref a] ∧ q = (nx, L, [], M) := by
  unfold mj_obj at h
  split at h
  · rename_i a
    exact ⟨a, rfl, (Option.some.inj h).symm⟩
  · cases h
theorem mj_sw_inv {dt : Nat} {tb : List (Int × Nat)} {L st : List Value} {M : mj_H} {q : mj_C} (h : mj_sw dt tb L st M = some q) : ∃ a r, st = .int a :: r ∧ q = ((tb.lookup a.toInt).getD dt, L, r, M) := by
  unfold mj_sw at h
  split at h
  · rename_i a r
    exact ⟨a, r, rfl, (Option.some.inj h).symm⟩
  · cases h
theorem mj_i2l_inv {nx : Nat} {L st : List Value} {M : mj_H} {q : mj_C} (h : mj_i2l nx L st M = some q) : ∃ a r, st = .int a :: r ∧ q = (nx, L, .long a.toInt64 :: r, M) := by
  unfold mj_i2l at h
  split at h
  · rename_i a r
    exact ⟨a, r, rfl, (Option.some.inj h).symm⟩
  · cases h
theorem mj_lbin_inv {g : Int64 → Int64 → Int64} {nx : Nat} {L st : List Value} {M : mj_H} {q : mj_C} (h : mj_lbin g nx L st M = some q) : ∃ b a r, st = .long b :: .long a :: r ∧ q = (nx, L, .long (g a b) :: r, M) := by
  unfold mj_lbin at h
  split at h
  · rename_i b a r
    exact ⟨b, a, r, rfl, (Option.some.inj h).symm⟩
  · cases h
theorem mj_lcmp_inv {nx : Nat} {L st : List Value} {M : mj_H} {q : mj_C} (h : mj_lcmp nx L st M = some q) : ∃ b a r, st = .long b :: .long a :: r ∧ q = (nx, L, .int (lg_cmp a b) :: r, M) := by
  unfold mj_lcmp at h
  split at h
  · rename_i b a r
    exact ⟨b, a, r, rfl, (Option.some.inj h).symm⟩
  · cases h
