/-! ===== runs without fuel: a run comes to an answer and a heap of which Q holds ===== -/
def mj_T (P : mj_P) (f pc : Nat) (L st : List Value) (M : mj_H) (Q : Option Value × mj_H → Prop) : Prop := ∃ n r, mj_x P n f pc L st M = some r ∧ Q r
/-- a method's contract -/
def mj_G (P : mj_P) (f : Nat) (as : List Value) (M : mj_H) (Q : Option Value × mj_H → Prop) : Prop := mj_T P f 0 (mj_ent (P.2 f).2.1 as) [] M Q
section MJB
variable {P : mj_P} {f pc nx x y w : Nat} {L st : List Value} {M : mj_H} {Q : Option Value × mj_H → Prop} {z : Int32} {tb : List (Int × Nat)}
theorem mj_T.mono {Q' : Option Value × mj_H → Prop} (h : mj_T P f pc L st M Q) (hQ : ∀ r, Q r → Q' r) : mj_T P f pc L st M Q' := by
  obtain ⟨n, r, h, q⟩ := h
  exact ⟨n, r, h, hQ r q⟩
theorem mj_T.step {E : mj_E} {q : mj_C} (hE : P.1 f pc = some E) (h7 : ¬ E.2.2.2.2.1 = 7) (h8 : ¬ E.2.2.2.2.1 = 8) (hs : mj_step E L st M = some q) (k : mj_T P f q.1 q.2.1 q.2.2.1 q.2.2.2 Q) : mj_T P f pc L st M Q := by
  obtain ⟨n, r, k, hq⟩ := k
  obtain ⟨pc', L', st', M'⟩ := q
  refine ⟨n + 1, r, ?_, hq⟩
  unfold mj_x
  rw [hE]
  simp only
  rw [if_neg h7, if_neg h8, hs]
  exact k
theorem mj_T.ret {E : mj_E} {r : Option Value × mj_H} (hE : P.1 f pc = some E) (h8 : E.2.2.2.2.1 = 8) (h : mj_ret (P.2 f).2.2.1 st M = some r) (hq : Q r) : mj_T P f pc L st M Q := by
  refine ⟨1, r, ?_, hq⟩
  unfold mj_x
  rw [hE]
  simp only
  rw [if_neg (by omega), if_pos h8]
  exact h
theorem mj_T.call {E : mj_E} {Q1 : Option Value × mj_H → Prop} (hE : P.1 f pc = some E) (h7 : E.2.2.2.2.1 = 7) (hc : mj_cok (P.2 E.2.2.1).1 (P.2 E.2.2.1).2.2.2 st M = true) (h1 : mj_G P E.2.2.1 (st.take (P.2 E.2.2.1).1).reverse M Q1)
    (k : ∀ v M1, Q1 (v, M1) → mj_T P f E.2.1 L (v.toList ++ st.drop (P.2 E.2.2.1).1) M1 Q) : mj_T P f pc L st M Q := by
  obtain ⟨n1, ⟨v, M1⟩, h1, hq1⟩ := h1
  obtain ⟨n2, r, k, hq⟩ := k v M1 hq1
  refine ⟨(n1 + n2) + 1, r, ?_, hq⟩
  unfold mj_x
  rw [hE]
  simp only
  rw [if_pos h7, if_pos hc]
  have a1 := mj_x_more P _ _ _ _ _ _ _ h1 n2
  have a2 := mj_x_more P _ _ _ _ _ _ _ k n1
  rw [a1]
  simp only
  rw [show n1 + n2 = n2 + n1 by omega]
  exact a2
/-! instruction by instruction -/
theorem mj_b_iconst {i : Int} (hE : P.1 f pc = some (.iconst i, nx, x, y, w, z, tb)) (h7 : ¬ w = 7 := by decide) (h8 : ¬ w = 8 := by decide)  (k : mj_T P f nx L (.int z :: st) M Q) : mj_T P f pc L st M Q := by
  refine mj_T.step (q := (nx, L, (.int z :: st), M)) hE h7 h8 ?_ k
  rfl
theorem mj_b_bipush {i : Int} (hE : P.1 f pc = some (.bipush i, nx, x, y, w, z, tb)) (h7 : ¬ w = 7 := by decide) (h8 : ¬ w = 8 := by decide)  (k : mj_T P f nx L (.int z :: st) M Q) : mj_T P f pc L st M Q := by
  refine mj_T.step (q := (nx, L, (.int z :: st), M)) hE h7 h8 ?_ k
  rfl
theorem mj_b_sipush {i : Int} (hE : P.1 f pc = some (.sipush i, nx, x, y, w, z, tb)) (h7 : ¬ w = 7 := by decide) (h8 : ¬ w = 8 := by decide)  (k : mj_T P f nx L (.int z :: st) M Q) : mj_T P f pc L st M Q := by
  refine mj_T.step (q := (nx, L, (.int z :: st), M)) hE h7 h8 ?_ k
  rfl
theorem mj_b_ldc {i : Nat} (hE : P.1 f pc = some (.ldc i, nx, x, y, w, z, tb)) (h7 : ¬ w = 7 := by decide) (h8 : ¬ w = 8 := by decide)  (k : mj_T P f nx L (.int z :: st) M Q) : mj_T P f pc L st M Q := by
  refine mj_T.step (q := (nx, L, (.int z :: st), M)) hE h7 h8 ?_ k
  rfl
theorem mj_b_null  (hE : P.1 f pc = some (.aconst_null, nx, x, y, w, z, tb)) (h7 : ¬ w = 7 := by decide) (h8 : ¬ w = 8 := by decide)  (k : mj_T P f nx L (.null :: st) M Q) : mj_T P f pc L st M Q := by
  refine mj_T.step (q := (nx, L, (.null :: st), M)) hE h7 h8 ?_ k
  rfl
theorem mj_b_iload {i : Nat} {v : Int32} (hE : P.1 f pc = some (.iload i, nx, x, y, w, z, tb)) (h7 : ¬ w = 7 := by decide) (h8 : ¬ w = 8 := by decide) (hv : L[x]? = some (.int v)) (k : mj_T P f nx L (.int v :: st) M Q) : mj_T P f pc L st M Q := by
  refine mj_T.step (q := (nx, L, (.int v :: st), M)) hE h7 h8 ?_ k
  simp [mj_step, mj_ild, hv]
theorem mj_b_iload_n {i : Fin 4} {v : Int32} (hE : P.1 f pc = some (.iload_n i, nx, x, y, w, z, tb)) (h7 : ¬ w = 7 := by decide) (h8 : ¬ w = 8 := by decide) (hv : L[x]? = some (.int v)) (k : mj_T P f nx L (.int v :: st) M Q) : mj_T P f pc L st M Q := by
  refine mj_T.step (q := (nx, L, (.int v :: st), M)) hE h7 h8 ?_ k
  simp [mj_step, mj_ild, hv]
theorem mj_b_aload {i : Nat} {v : Option Nat} (hE : P.1 f pc = some (.aload i, nx, x, y, w, z, tb)) (h7 : ¬ w = 7 := by decide) (h8 : ¬ w = 8 := by decide) (hv : L[x]? = some (va_rf v)) (k : mj_T P f nx L (va_rf v :: st) M Q) : mj_T P f pc L st M Q := by
  refine mj_T.step (q := (nx, L, (va_rf v :: st), M)) hE h7 h8 ?_ k
  cases v <;> simp [va_rf] at hv <;> simp [mj_step, mj_ald, hv, va_rf]
theorem mj_b_aload_n {i : Fin 4} {v : Option Nat} (hE : P.1 f pc = some (.aload_n i, nx, x, y, w, z, tb)) (h7 : ¬ w = 7 := by decide) (h8 : ¬ w = 8 := by decide) (hv : L[x]? = some (va_rf v)) (k : mj_T P f nx L (va_rf v :: st) M Q) : mj_T P f pc L st M Q := by
  refine mj_T.step (q := (nx, L, (va_rf v :: st), M)) hE h7 h8 ?_ k
  cases v <;> simp [va_rf] at hv <;> simp [mj_step, mj_ald, hv, va_rf]
theorem mj_b_rload {i : Nat} {v : Nat} (hE : P.1 f pc = some (.aload i, nx, x, y, w, z, tb)) (h7 : ¬ w = 7 := by decide) (h8 : ¬ w = 8 := by decide) (hv : L[x]? = some (.ref v)) (k : mj_T P f nx L (.ref v :: st) M Q) : mj_T P f pc L st M Q := by
  refine mj_T.step (q := (nx, L, (.ref v :: st), M)) hE h7 h8 ?_ k
  simp [mj_step, mj_ald, hv]
theorem mj_b_rload_n {i : Fin 4} {v : Nat} (hE : P.1 f pc = some (.aload_n i, nx, x, y, w, z, tb)) (h7 : ¬ w = 7 := by decide) (h8 : ¬ w = 8 := by decide) (hv : L[x]? = some (.ref v)) (k : mj_T P f nx L (.ref v :: st) M Q) : mj_T P f pc L st M Q := by
  refine mj_T.step (q := (nx, L, (.ref v :: st), M)) hE h7 h8 ?_ k
  simp [mj_step, mj_ald, hv]
theorem mj_b_istore {i : Nat} {v : Int32} (hE : P.1 f pc = some (.istore i, nx, x, y, w, z, tb)) (h7 : ¬ w = 7 := by decide) (h8 : ¬ w = 8 := by decide) (hx : x < L.length) (k : mj_T P f nx (L.set x (.int v)) st M Q) : mj_T P f pc L (.int v :: st) M Q := by
  refine mj_T.step (q := (nx, (L.set x (.int v)), st, M)) hE h7 h8 ?_ k
  simp [mj_step, mj_ist, hx]
theorem mj_b_istore_n {i : Fin 4} {v : Int32} (hE : P.1 f pc = some (.istore_n i, nx, x, y, w, z, tb)) (h7 : ¬ w = 7 := by decide) (h8 : ¬ w = 8 := by decide) (hx : x < L.length) (k : mj_T P f nx (L.set x (.int v)) st M Q) : mj_T P f pc L (.int v :: st) M Q := by
  refine mj_T.step (q := (nx, (L.set x (.int v)), st, M)) hE h7 h8 ?_ k
  simp [mj_step, mj_ist, hx]
theorem mj_b_astore {i : Nat} {v : Option Nat} (hE : P.1 f pc = some (.astore i, nx, x, y, w, z, tb)) (h7 : ¬ w = 7 := by decide) (h8 : ¬ w = 8 := by decide) (hx : x < L.length) (k : mj_T P f nx (L.set x (va_rf v)) st M Q) : mj_T P f pc L (va_rf v :: st) M Q := by
  refine mj_T.step (q := (nx, (L.set x (va_rf v)), st, M)) hE h7 h8 ?_ k
  cases v <;> simp [mj_step, mj_ast, hx, va_rf]
theorem mj_b_astore_n {i : Fin 4} {v : Option Nat} (hE : P.1 f pc = some (.astore_n i, nx, x, y, w, z, tb)) (h7 : ¬ w = 7 := by decide) (h8 : ¬ w = 8 := by decide) (hx : x < L.length) (k : mj_T P f nx (L.set x (va_rf v)) st M Q) : mj_T P f pc L (va_rf v :: st) M Q := by
  refine mj_T.step (q := (nx, (L.set x (va_rf v)), st, M)) hE h7 h8 ?_ k
  cases v <;> simp [mj_step, mj_ast, hx, va_rf]
theorem mj_b_rstore {i : Nat} {v : Nat} (hE : P.1 f pc = some (.astore i, nx, x, y, w, z, tb)) (h7 : ¬ w = 7 := by decide) (h8 : ¬ w = 8 := by decide) (hx : x < L.length) (k : mj_T P f nx (L.set x (.ref v)) st M Q) : mj_T P f pc L (.ref v :: st) M Q := by
  refine mj_T.step (q := (nx, (L.set x (.ref v)), st, M)) hE h7 h8 ?_ k
  simp [mj_step, mj_ast, hx]
theorem mj_b_rstore_n {i : Fin 4} {v : Nat} (hE : P.1 f pc = some (.astore_n i, nx, x, y, w, z, tb)) (h7 : ¬ w = 7 := by decide) (h8 : ¬ w = 8 := by decide) (hx : x < L.length) (k : mj_T P f nx (L.set x (.ref v)) st M Q) : mj_T P f pc L (.ref v :: st) M Q := by
  refine mj_T.step (q := (nx, (L.set x (.ref v)), st, M)) hE h7 h8 ?_ k
  simp [mj_step, mj_ast, hx]
theorem mj_b_iinc {i : Nat} {c : Int} {v : Int32} (hE : P.1 f pc = some (.iinc i c, nx, x, y, w, z, tb)) (h7 : ¬ w = 7 := by decide) (h8 : ¬ w = 8 := by decide) (hv : L[x]? = some (.int v)) (k : mj_T P f nx (L.set x (.int (v + z))) st M Q) : mj_T P f pc L st M Q := by
  refine mj_T.step (q := (nx, (L.set x (.int (v + z))), st, M)) hE h7 h8 ?_ k
  simp [mj_step, mj_inc, hv]
theorem mj_b_iadd {a b : Int32} (hE : P.1 f pc = some (.iadd, nx, x, y, w, z, tb)) (h7 : ¬ w = 7 := by decide) (h8 : ¬ w = 8 := by decide)  (k : mj_T P f nx L (.int (a + b) :: st) M Q) : mj_T P f pc L (.int b :: .int a :: st) M Q := by
  refine mj_T.step (q := (nx, L, (.int (a + b) :: st), M)) hE h7 h8 ?_ k
  rfl
theorem mj_b_isub {a b : Int32} (hE : P.1 f pc = some (.isub, nx, x, y, w, z, tb)) (h7 : ¬ w = 7 := by decide) (h8 : ¬ w = 8 := by decide)  (k : mj_T P f nx L (.int (a - b) :: st) M Q) : mj_T P f pc L (.int b :: .int a :: st) M Q := by
  refine mj_T.step (q := (nx, L, (.int (a - b) :: st), M)) hE h7 h8 ?_ k
  rfl
theorem mj_b_imul {a b : Int32} (hE : P.1 f pc = some (.imul, nx, x, y, w, z, tb)) (h7 : ¬ w = 7 := by decide) (h8 : ¬ w = 8 := by decide)  (k : mj_T P f nx L (.int (a * b) :: st) M Q) : mj_T P f pc L (.int b :: .int a :: st) M Q := by
  refine mj_T.step (q := (nx, L, (.int (a * b) :: st), M)) hE h7 h8 ?_ k
  rfl
theorem mj_b_iand {a b : Int32} (hE : P.1 f pc = some (.iand, nx, x, y, w, z, tb)) (h7 : ¬ w = 7 := by decide) (h8 : ¬ w = 8 := by decide)  (k : mj_T P f nx L (.int (a &&& b) :: st) M Q) : mj_T P f pc L (.int b :: .int a :: st) M Q := by
  refine mj_T.step (q := (nx, L, (.int (a &&& b) :: st), M)) hE h7 h8 ?_ k
  rfl
theorem mj_b_ior {a b : Int32} (hE : P.1 f pc = some (.ior, nx, x, y, w, z, tb)) (h7 : ¬ w = 7 := by decide) (h8 : ¬ w = 8 := by decide)  (k : mj_T P f nx L (.int (a ||| b) :: st) M Q) : mj_T P f pc L (.int b :: .int a :: st) M Q := by
  refine mj_T.step (q := (nx, L, (.int (a ||| b) :: st), M)) hE h7 h8 ?_ k
  rfl
theorem mj_b_ixor {a b : Int32} (hE : P.1 f pc = some (.ixor, nx, x, y, w, z, tb)) (h7 : ¬ w = 7 := by decide) (h8 : ¬ w = 8 := by decide)  (k : mj_T P f nx L (.int (a ^^^ b) :: st) M Q) : mj_T P f pc L (.int b :: .int a :: st) M Q := by
  refine mj_T.step (q := (nx, L, (.int (a ^^^ b) :: st), M)) hE h7 h8 ?_ k
  rfl
theorem mj_b_ishl {a b : Int32} (hE : P.1 f pc = some (.ishl, nx, x, y, w, z, tb)) (h7 : ¬ w = 7 := by decide) (h8 : ¬ w = 8 := by decide)  (k : mj_T P f nx L (.int (a <<< (b &&& 31)) :: st) M Q) : mj_T P f pc L (.int b :: .int a :: st) M Q := by
  refine mj_T.step (q := (nx, L, (.int (a <<< (b &&& 31)) :: st), M)) hE h7 h8 ?_ k
  rfl
theorem mj_b_ishr {a b : Int32} (hE : P.1 f pc = some (.ishr, nx, x, y, w, z, tb)) (h7 : ¬ w = 7 := by decide) (h8 : ¬ w = 8 := by decide)  (k : mj_T P f nx L (.int (a >>> (b &&& 31)) :: st) M Q) : mj_T P f pc L (.int b :: .int a :: st) M Q := by
  refine mj_T.step (q := (nx, L, (.int (a >>> (b &&& 31)) :: st), M)) hE h7 h8 ?_ k
  rfl
theorem mj_b_idiv {a b : Int32} (hE : P.1 f pc = some (.idiv, nx, x, y, w, z, tb)) (h7 : ¬ w = 7 := by decide) (h8 : ¬ w = 8 := by decide) (hb : ¬ b = 0) (k : mj_T P f nx L (.int (a / b) :: st) M Q) : mj_T P f pc L (.int b :: .int a :: st) M Q := by
  refine mj_T.step (q := (nx, L, (.int (a / b) :: st), M)) hE h7 h8 ?_ k
  simp [mj_step, mj_div, hb]
theorem mj_b_irem {a b : Int32} (hE : P.1 f pc = some (.irem, nx, x, y, w, z, tb)) (h7 : ¬ w = 7 := by decide) (h8 : ¬ w = 8 := by decide) (hb : ¬ b = 0) (k : mj_T P f nx L (.int (a - a / b * b) :: st) M Q) : mj_T P f pc L (.int b :: .int a :: st) M Q := by
  refine mj_T.step (q := (nx, L, (.int (a - a / b * b) :: st), M)) hE h7 h8 ?_ k
  simp [mj_step, mj_div, hb]
theorem mj_b_ineg {a : Int32} (hE : P.1 f pc = some (.ineg, nx, x, y, w, z, tb)) (h7 : ¬ w = 7 := by decide) (h8 : ¬ w = 8 := by decide)  (k : mj_T P f nx L (.int (-a) :: st) M Q) : mj_T P f pc L (.int a :: st) M Q := by
  refine mj_T.step (q := (nx, L, (.int (-a) :: st), M)) hE h7 h8 ?_ k
  rfl
theorem mj_b_i2c {a : Int32} (hE : P.1 f pc = some (.i2c, nx, x, y, w, z, tb)) (h7 : ¬ w = 7 := by decide) (h8 : ¬ w = 8 := by decide)  (k : mj_T P f nx L (.int ((a.toUInt32 % 65536).toInt32) :: st) M Q) : mj_T P f pc L (.int a :: st) M Q := by
  refine mj_T.step (q := (nx, L, (.int ((a.toUInt32 % 65536).toInt32) :: st), M)) hE h7 h8 ?_ k
  rfl
theorem mj_b_goto {i : Int} (hE : P.1 f pc = some (.goto i, nx, x, y, w, z, tb)) (h7 : ¬ w = 7 := by decide) (h8 : ¬ w = 8 := by decide)  (k : mj_T P f x L st M Q) : mj_T P f pc L st M Q := by
  refine mj_T.step (q := (x, L, st, M)) hE h7 h8 ?_ k
  rfl
theorem mj_b_dup {v : Value} (hE : P.1 f pc = some (.dup, nx, x, y, w, z, tb)) (h7 : ¬ w = 7 := by decide) (h8 : ¬ w = 8 := by decide) (hv : mj_V v = true) (k : mj_T P f nx L (v :: v :: st) M Q) : mj_T P f pc L (v :: st) M Q := by
  refine mj_T.step (q := (nx, L, (v :: v :: st), M)) hE h7 h8 ?_ k
  simp [mj_step, mj_dup, hv]
theorem mj_b_dup_x1 {v u : Value} (hE : P.1 f pc = some (.dup_x1, nx, x, y, w, z, tb)) (h7 : ¬ w = 7 := by decide) (h8 : ¬ w = 8 := by decide) (hv : mj_V v = true) (hu : mj_V u = true) (k : mj_T P f nx L (v :: u :: v :: st) M Q) : mj_T P f pc L (v :: u :: st) M Q := by
  refine mj_T.step (q := (nx, L, (v :: u :: v :: st), M)) hE h7 h8 ?_ k
  simp [mj_step, mj_dx1, hv, hu]
theorem mj_b_pop {v : Value} (hE : P.1 f pc = some (.pop, nx, x, y, w, z, tb)) (h7 : ¬ w = 7 := by decide) (h8 : ¬ w = 8 := by decide) (hv : mj_V v = true) (k : mj_T P f nx L st M Q) : mj_T P f pc L (v :: st) M Q := by
  refine mj_T.step (q := (nx, L, st, M)) hE h7 h8 ?_ k
  simp [mj_step, mj_pop, hv]
theorem mj_b_obj {i a : Nat} (hE : P.1 f pc = some (.invokespecial i, nx, x, y, w, z, tb)) (h7 : ¬ w = 7 := by decide) (h8 : ¬ w = 8 := by decide) (k : mj_T P f nx L [] M Q) : mj_T P f pc L [.ref a] M Q := mj_T.step (q := (nx, L, [], M)) hE h7 h8 rfl k
theorem mj_b_getI {i a n : Nat} (hE : P.1 f pc = some (.getfield i, nx, x, y, w, z, tb)) (h7 : ¬ w = 7 := by decide) (h8 : ¬ w = 8 := by decide) (hw : ¬ w = 1) (hM : M.1[a]? = some (x, n)) (k : mj_T P f nx L (.int (M.2.1 a y) :: st) M Q) : mj_T P f pc L (.ref a :: st) M Q := by
  refine mj_T.step (q := (nx, L, (.int (M.2.1 a y) :: st), M)) hE h7 h8 ?_ k
  simp [mj_step, mj_get, hM, hw]
theorem mj_b_getR {i a n : Nat} (hE : P.1 f pc = some (.getfield i, nx, x, y, w, z, tb)) (h7 : ¬ w = 7 := by decide) (h8 : ¬ w = 8 := by decide) (hw : w = 1) (hM : M.1[a]? = some (x, n)) (k : mj_T P f nx L (va_rf (M.2.2 a y) :: st) M Q) : mj_T P f pc L (.ref a :: st) M Q := by
  refine mj_T.step (q := (nx, L, (va_rf (M.2.2 a y) :: st), M)) hE h7 h8 ?_ k
  simp [mj_step, mj_get, hM, hw]
theorem mj_b_putI {i a n : Nat} {v : Int32} (hE : P.1 f pc = some (.putfield i, nx, x, y, w, z, tb)) (h7 : ¬ w = 7 := by decide) (h8 : ¬ w = 8 := by decide) (hw : w = 0 ∨ (w = 2 ∧ (v = 0 ∨ v = 1))) (hM : M.1[a]? = some (x, n)) (k : mj_T P f nx L st (M.1, mj_u M.2.1 a y v, M.2.2) Q) : mj_T P f pc L (.int v :: .ref a :: st) M Q := by
  refine mj_T.step (q := (nx, L, st, (M.1, mj_u M.2.1 a y v, M.2.2))) hE h7 h8 ?_ k
  simp only [mj_step, mj_put, hM]
  rw [if_pos ⟨trivial, hw⟩]
theorem mj_b_putR {i a n : Nat} {v : Option Nat} (hE : P.1 f pc = some (.putfield i, nx, x, y, w, z, tb)) (h7 : ¬ w = 7 := by decide) (h8 : ¬ w = 8 := by decide) (hw : w = 1) (hM : M.1[a]? = some (x, n)) (k : mj_T P f nx L st (M.1, M.2.1, mj_u M.2.2 a y v) Q) : mj_T P f pc L (va_rf v :: .ref a :: st) M Q := by
  refine mj_T.step (q := (nx, L, st, (M.1, M.2.1, mj_u M.2.2 a y v))) hE h7 h8 ?_ k
  cases v <;> simp [mj_step, mj_put, hM, va_rf, hw]
theorem mj_b_iald {i : Int32} {a n t : Nat} (hE : P.1 f pc = some (.iaload, nx, x, y, w, z, tb)) (h7 : ¬ w = 7 := by decide) (h8 : ¬ w = 8 := by decide) (hM : M.1[a]? = some (t, n)) (ht : t = 64 ∨ t = 65) (hi : mj_ix i n = true) (k : mj_T P f nx L (.int (M.2.1 a i.toNatClampNeg) :: st) M Q) : mj_T P f pc L (.int i :: .ref a :: st) M Q := by
  refine mj_T.step (q := (nx, L, (.int (M.2.1 a i.toNatClampNeg) :: st), M)) hE h7 h8 ?_ k
  simp [mj_step, mj_iald, hM, ht, hi]
theorem mj_b_bald {i : Int32} {a n : Nat} (hE : P.1 f pc = some (.baload, nx, x, y, w, z, tb)) (h7 : ¬ w = 7 := by decide) (h8 : ¬ w = 8 := by decide) (hM : M.1[a]? = some (66, n)) (hi : mj_ix i n = true) (k : mj_T P f nx L (.int (M.2.1 a i.toNatClampNeg) :: st) M Q) : mj_T P f pc L (.int i :: .ref a :: st) M Q := by
  refine mj_T.step (q := (nx, L, (.int (M.2.1 a i.toNatClampNeg) :: st), M)) hE h7 h8 ?_ k
  simp [mj_step, mj_pald, hM, hi]
theorem mj_b_cald {i : Int32} {a n : Nat} (hE : P.1 f pc = some (.caload, nx, x, y, w, z, tb)) (h7 : ¬ w = 7 := by decide) (h8 : ¬ w = 8 := by decide) (hM : M.1[a]? = some (67, n)) (hi : mj_ix i n = true) (k : mj_T P f nx L (.int (M.2.1 a i.toNatClampNeg) :: st) M Q) : mj_T P f pc L (.int i :: .ref a :: st) M Q := by
  refine mj_T.step (q := (nx, L, (.int (M.2.1 a i.toNatClampNeg) :: st), M)) hE h7 h8 ?_ k
  simp [mj_step, mj_pald, hM, hi]
theorem mj_b_iast {i v : Int32} {a n : Nat} (hE : P.1 f pc = some (.iastore, nx, x, y, w, z, tb)) (h7 : ¬ w = 7 := by decide) (h8 : ¬ w = 8 := by decide) (hM : M.1[a]? = some (65, n)) (hi : mj_ix i n = true) (k : mj_T P f nx L st (M.1, mj_u M.2.1 a i.toNatClampNeg (v), M.2.2) Q) : mj_T P f pc L (.int v :: .int i :: .ref a :: st) M Q := by
  refine mj_T.step (q := (nx, L, st, (M.1, mj_u M.2.1 a i.toNatClampNeg (v), M.2.2))) hE h7 h8 ?_ k
  simp [mj_step, mj_past, hM, hi]
theorem mj_b_bast {i v : Int32} {a n : Nat} (hE : P.1 f pc = some (.bastore, nx, x, y, w, z, tb)) (h7 : ¬ w = 7 := by decide) (h8 : ¬ w = 8 := by decide) (hM : M.1[a]? = some (66, n)) (hi : mj_ix i n = true) (k : mj_T P f nx L st (M.1, mj_u M.2.1 a i.toNatClampNeg ((v &&& 1)), M.2.2) Q) : mj_T P f pc L (.int v :: .int i :: .ref a :: st) M Q := by
  refine mj_T.step (q := (nx, L, st, (M.1, mj_u M.2.1 a i.toNatClampNeg ((v &&& 1)), M.2.2))) hE h7 h8 ?_ k
  simp [mj_step, mj_past, hM, hi]
theorem mj_b_cast {i v : Int32} {a n : Nat} (hE : P.1 f pc = some (.castore, nx, x, y, w, z, tb)) (h7 : ¬ w = 7 := by decide) (h8 : ¬ w = 8 := by decide) (hM : M.1[a]? = some (67, n)) (hi : mj_ix i n = true) (k : mj_T P f nx L st (M.1, mj_u M.2.1 a i.toNatClampNeg (v.toUInt32.toUInt16.toUInt32.toInt32), M.2.2) Q) : mj_T P f pc L (.int v :: .int i :: .ref a :: st) M Q := by
  refine mj_T.step (q := (nx, L, st, (M.1, mj_u M.2.1 a i.toNatClampNeg (v.toUInt32.toUInt16.toUInt32.toInt32), M.2.2))) hE h7 h8 ?_ k
  simp [mj_step, mj_past, hM, hi]
theorem mj_b_dup2 {v u : Value} (hE : P.1 f pc = some (.dup2, nx, x, y, w, z, tb)) (h7 : ¬ w = 7 := by decide) (h8 : ¬ w = 8 := by decide) (hv : mj_V v = true) (hu : mj_V u = true) (k : mj_T P f nx L (v :: u :: v :: u :: st) M Q) : mj_T P f pc L (v :: u :: st) M Q := by
  refine mj_T.step (q := (nx, L, (v :: u :: v :: u :: st), M)) hE h7 h8 ?_ k
  simp [mj_step, mj_dup2, hv, hu]
theorem mj_b_aald {i : Int32} {a n t : Nat} (hE : P.1 f pc = some (.aaload, nx, x, y, w, z, tb)) (h7 : ¬ w = 7 := by decide) (h8 : ¬ w = 8 := by decide) (hM : M.1[a]? = some (t, n)) (ht : 128 ≤ t) (hi : mj_ix i n = true) (k : mj_T P f nx L (va_rf (M.2.2 a i.toNatClampNeg) :: st) M Q) : mj_T P f pc L (.int i :: .ref a :: st) M Q := by
  refine mj_T.step (q := (nx, L, (va_rf (M.2.2 a i.toNatClampNeg) :: st), M)) hE h7 h8 ?_ k
  simp [mj_step, mj_aald, hM, ht, hi]
theorem mj_b_aast {i : Int32} {a n u n2 q : Nat} (hE : P.1 f pc = some (.aastore, nx, x, y, w, z, tb)) (h7 : ¬ w = 7 := by decide) (h8 : ¬ w = 8 := by decide) (hM : M.1[a]? = some (128 + u, n)) (hq : M.1[q]? = some (u, n2)) (hu : u < 64) (hi : mj_ix i n = true) (k : mj_T P f nx L st (M.1, M.2.1, mj_u M.2.2 a i.toNatClampNeg (some q)) Q) : mj_T P f pc L (.ref q :: .int i :: .ref a :: st) M Q := by
  refine mj_T.step (q := (nx, L, st, (M.1, M.2.1, mj_u M.2.2 a i.toNatClampNeg (some q)))) hE h7 h8 ?_ k
  simp [mj_step, mj_aast, hM, hq, hu, hi]
theorem mj_b_len {a n t : Nat} (hE : P.1 f pc = some (.arraylength, nx, x, y, w, z, tb)) (h7 : ¬ w = 7 := by decide) (h8 : ¬ w = 8 := by decide) (hM : M.1[a]? = some (t, n)) (ht : (64 ≤ t ∧ t ≤ 67) ∨ 128 ≤ t) (k : mj_T P f nx L (.int (Int32.ofNat n) :: st) M Q) : mj_T P f pc L (.ref a :: st) M Q := by
  refine mj_T.step (q := (nx, L, (.int (Int32.ofNat n) :: st), M)) hE h7 h8 ?_ k
  simp [mj_step, mj_len, hM, ht]
theorem mj_b_new {i : Nat} (hE : P.1 f pc = some (.new i, nx, x, y, w, z, tb)) (h7 : ¬ w = 7 := by decide) (h8 : ¬ w = 8 := by decide)  (k : mj_T P f nx L (.ref M.1.length :: st) (mj_add M x y) Q) : mj_T P f pc L st M Q := by
  refine mj_T.step (q := (nx, L, (.ref M.1.length :: st), (mj_add M x y))) hE h7 h8 ?_ k
  rfl
theorem mj_b_newarray {i : ArrayType} {n : Int32} (hE : P.1 f pc = some (.newarray i, nx, x, y, w, z, tb)) (h7 : ¬ w = 7 := by decide) (h8 : ¬ w = 8 := by decide) (h0 : ¬ n < 0) (h1 : n.toNatClampNeg ≤ 65536) (k : mj_T P f nx L (.ref M.1.length :: st) (mj_add M x n.toNatClampNeg) Q) : mj_T P f pc L (.int n :: st) M Q := by
  refine mj_T.step (q := (nx, L, (.ref M.1.length :: st), (mj_add M x n.toNatClampNeg))) hE h7 h8 ?_ k
  simp [mj_step, mj_nar, h0, Nat.not_lt.mpr h1]
theorem mj_b_anewarray {i : Nat} {n : Int32} (hE : P.1 f pc = some (.anewarray i, nx, x, y, w, z, tb)) (h7 : ¬ w = 7 := by decide) (h8 : ¬ w = 8 := by decide) (h0 : ¬ n < 0) (h1 : n.toNatClampNeg ≤ 65536) (k : mj_T P f nx L (.ref M.1.length :: st) (mj_add M x n.toNatClampNeg) Q) : mj_T P f pc L (.int n :: st) M Q := by
  refine mj_T.step (q := (nx, L, (.ref M.1.length :: st), (mj_add M x n.toNatClampNeg))) hE h7 h8 ?_ k
  simp [mj_step, mj_nar, h0, Nat.not_lt.mpr h1]
theorem mj_b_i2l {a : Int32} (hE : P.1 f pc = some (.i2l, nx, x, y, w, z, tb)) (h7 : ¬ w = 7 := by decide) (h8 : ¬ w = 8 := by decide)  (k : mj_T P f nx L (.long a.toInt64 :: st) M Q) : mj_T P f pc L (.int a :: st) M Q := by
  refine mj_T.step (q := (nx, L, (.long a.toInt64 :: st), M)) hE h7 h8 ?_ k
  rfl
theorem mj_b_ladd {a b : Int64} (hE : P.1 f pc = some (.ladd, nx, x, y, w, z, tb)) (h7 : ¬ w = 7 := by decide) (h8 : ¬ w = 8 := by decide)  (k : mj_T P f nx L (.long (a + b) :: st) M Q) : mj_T P f pc L (.long b :: .long a :: st) M Q := by
  refine mj_T.step (q := (nx, L, (.long (a + b) :: st), M)) hE h7 h8 ?_ k
  rfl
theorem mj_b_lmul {a b : Int64} (hE : P.1 f pc = some (.lmul, nx, x, y, w, z, tb)) (h7 : ¬ w = 7 := by decide) (h8 : ¬ w = 8 := by decide)  (k : mj_T P f nx L (.long (a * b) :: st) M Q) : mj_T P f pc L (.long b :: .long a :: st) M Q := by
  refine mj_T.step (q := (nx, L, (.long (a * b) :: st), M)) hE h7 h8 ?_ k
  rfl
theorem mj_b_lcmp {a b : Int64} (hE : P.1 f pc = some (.lcmp, nx, x, y, w, z, tb)) (h7 : ¬ w = 7 := by decide) (h8 : ¬ w = 8 := by decide)  (k : mj_T P f nx L (.int (lg_cmp a b) :: st) M Q) : mj_T P f pc L (.long b :: .long a :: st) M Q := by
  refine mj_T.step (q := (nx, L, (.int (lg_cmp a b) :: st), M)) hE h7 h8 ?_ k
  rfl
theorem mj_b_ldc2 {i j : Nat} {c : Int} {t : List (Int × Nat)} (hE : P.1 f pc = some (.ldc2_w i, nx, x, y, w, z, (c, j) :: t)) (h7 : ¬ w = 7 := by decide) (h8 : ¬ w = 8 := by decide) (k : mj_T P f nx L (.long (Int64.ofInt c) :: st) M Q) : mj_T P f pc L st M Q := mj_T.step (q := (nx, L, .long (Int64.ofInt c) :: st, M)) hE h7 h8 rfl k
theorem mj_b_lconst {i : Fin 2} {j : Nat} {c : Int} {t : List (Int × Nat)} (hE : P.1 f pc = some (.lconst i, nx, x, y, w, z, (c, j) :: t)) (h7 : ¬ w = 7 := by decide) (h8 : ¬ w = 8 := by decide) (k : mj_T P f nx L (.long (Int64.ofInt c) :: st) M Q) : mj_T P f pc L st M Q := mj_T.step (q := (nx, L, .long (Int64.ofInt c) :: st, M)) hE h7 h8 rfl k
theorem mj_b_sw {i : Int} {ps : Array (Int × Int)} {a : Int32} (hE : P.1 f pc = some (.lookupswitch i ps, nx, x, y, w, z, tb)) (h7 : ¬ w = 7 := by decide) (h8 : ¬ w = 8 := by decide) {tg : Nat} (ht : (tb.lookup a.toInt).getD x = tg) (k : mj_T P f tg L st M Q) : mj_T P f pc L (.int a :: st) M Q := by
  subst ht
  exact mj_T.step (q := ((tb.lookup a.toInt).getD x, L, st, M)) hE h7 h8 rfl k
theorem mj_b_tsw {i lo hi : Int} {ps : Array Int} {a : Int32} (hE : P.1 f pc = some (.tableswitch i lo hi ps, nx, x, y, w, z, tb)) (h7 : ¬ w = 7 := by decide) (h8 : ¬ w = 8 := by decide) {tg : Nat} (ht : (tb.lookup a.toInt).getD x = tg) (k : mj_T P f tg L st M Q) : mj_T P f pc L (.int a :: st) M Q := by
  subst ht
  exact mj_T.step (q := ((tb.lookup a.toInt).getD x, L, st, M)) hE h7 h8 rfl k
theorem mj_b_if1 {c : Jvm.ClassFile.Cond} {o : Int} {a : Int32} (hE : P.1 f pc = some (.ifCond c o, nx, x, y, w, z, tb)) (h7 : ¬ w = 7 := by decide) (h8 : ¬ w = 8 := by decide) (kt : mj_cnd c a 0 = true → mj_T P f x L st M Q) (kf : mj_cnd c a 0 = false → mj_T P f nx L st M Q) : mj_T P f pc L (.int a :: st) M Q := by
  refine mj_T.step (q := (if mj_cnd c a 0 = true then x else nx, L, st, M)) hE h7 h8 rfl ?_
  dsimp only
  cases h : mj_cnd c a 0
  · rw [if_neg (by decide)]; exact kf h
  · rw [if_pos rfl]; exact kt h
theorem mj_b_if2 {c : Jvm.ClassFile.Cond} {o : Int} {a b : Int32} (hE : P.1 f pc = some (.if_icmp c o, nx, x, y, w, z, tb)) (h7 : ¬ w = 7 := by decide) (h8 : ¬ w = 8 := by decide) (kt : mj_cnd c a b = true → mj_T P f x L st M Q) (kf : mj_cnd c a b = false → mj_T P f nx L st M Q) : mj_T P f pc L (.int b :: .int a :: st) M Q := by
  refine mj_T.step (q := (if mj_cnd c a b = true then x else nx, L, st, M)) hE h7 h8 rfl ?_
  dsimp only
  cases h : mj_cnd c a b
  · rw [if_neg (by decide)]; exact kf h
  · rw [if_pos rfl]; exact kt h
theorem mj_b_nul {o : Int} {v : Option Nat} (hE : P.1 f pc = some (.ifnull o, nx, x, y, w, z, tb)) (h7 : ¬ w = 7 := by decide) (h8 : ¬ w = 8 := by decide) (kn : v = none → mj_T P f x L st M Q) (ks : ∀ a, v = some a → mj_T P f nx L st M Q) : mj_T P f pc L (va_rf v :: st) M Q := by
  cases v with
  | none => exact mj_T.step (q := (x, L, st, M)) hE h7 h8 rfl (kn rfl)
  | some a => exact mj_T.step (q := (nx, L, st, M)) hE h7 h8 rfl (ks a rfl)
theorem mj_b_nnul {o : Int} {v : Option Nat} (hE : P.1 f pc = some (.ifnonnull o, nx, x, y, w, z, tb)) (h7 : ¬ w = 7 := by decide) (h8 : ¬ w = 8 := by decide) (kn : v = none → mj_T P f nx L st M Q) (ks : ∀ a, v = some a → mj_T P f x L st M Q) : mj_T P f pc L (va_rf v :: st) M Q := by
  cases v with
  | none => exact mj_T.step (q := (nx, L, st, M)) hE h7 h8 rfl (kn rfl)
  | some a => exact mj_T.step (q := (x, L, st, M)) hE h7 h8 rfl (ks a rfl)
end MJB
