/-! ===== calls, and reads whose value is known ===== -/
theorem mj_cok_v {k rc a n : Nat} {st : List Value} {M : mj_H} (h1 : (decide (k ≤ st.length) && (st.take k).all mj_V && decide (((st.drop k).map fun v => v.category).sum ≤ 8)) = true) (h2 : st[k - 1]? = some (.ref a)) (h3 : M.1[a]? = some (rc, n)) : mj_cok k rc st M = true := by
  unfold mj_cok
  rw [h1, h2]
  simp [h3]
theorem mj_cok_i {k a : Nat} {st : List Value} {M : mj_H} (h1 : (decide (k ≤ st.length) && (st.take k).all mj_V && decide (((st.drop k).map fun v => v.category).sum ≤ 8)) = true) (h2 : st[k - 1]? = some (.ref a)) : mj_cok k 1001 st M = true := by
  unfold mj_cok
  rw [h1, h2]
  simp
theorem mj_cok_s {k : Nat} {st : List Value} {M : mj_H} (h1 : (decide (k ≤ st.length) && (st.take k).all mj_V && decide (((st.drop k).map fun v => v.category).sum ≤ 8)) = true) : mj_cok k 1000 st M = true := by
  unfold mj_cok
  rw [h1]
  simp
section MJC
variable {P : mj_P} {f pc nx x y w : Nat} {L st rest as : List Value} {M : mj_H} {Q Q1 : Option Value × mj_H → Prop} {z : Int32} {tb : List (Int × Nat)} {i : Instr} {g k mL rk rc : Nat}
/-- a call; the callee's contract is given -/
theorem mj_b_call (hE : P.1 f pc = some (i, nx, g, y, 7, z, tb)) (hi : P.2 g = (k, mL, rk, rc)) (h1 : mj_G P g as M Q1) (hc : mj_cok k rc st M = true) (ha : (st.take k).reverse = as) (hr : st.drop k = rest)
    (kk : ∀ v M1, Q1 (v, M1) → mj_T P f nx L (v.toList ++ rest) M1 Q) : mj_T P f pc L st M Q := by
  subst ha; subst hr
  have e1 : (P.2 g).1 = k := by rw [hi]
  have e2 : (P.2 g).2.2.2 = rc := by rw [hi]
  refine mj_T.call (Q1 := Q1) hE rfl ?_ ?_ ?_
  · show mj_cok (P.2 g).1 (P.2 g).2.2.2 st M = true
    rw [e1, e2]; exact hc
  · show mj_G P g (st.take (P.2 g).1).reverse M Q1
    rw [e1]; exact h1
  · intro v M1 hq
    show mj_T P f nx L (v.toList ++ st.drop (P.2 g).1) M1 Q
    rw [e1]; exact kk v M1 hq
/-- a call of a method that answers a value and leaves the heap -/
theorem mj_b_callR {v : Value} (hE : P.1 f pc = some (i, nx, g, y, 7, z, tb)) (hi : P.2 g = (k, mL, rk, rc)) (h1 : mj_G P g as M (fun r => r = (some v, M))) (hc : mj_cok k rc st M = true) (ha : (st.take k).reverse = as) (hr : st.drop k = rest)
    (kk : mj_T P f nx L (v :: rest) M Q) : mj_T P f pc L st M Q := mj_b_call hE hi h1 hc ha hr (fun v' M1 hq => by cases hq; exact kk)
/-- a call of a method that answers nothing -/
theorem mj_b_callV {Q2 : mj_H → Prop} (hE : P.1 f pc = some (i, nx, g, y, 7, z, tb)) (hi : P.2 g = (k, mL, rk, rc)) (h1 : mj_G P g as M (fun r => r.1 = none ∧ Q2 r.2)) (hc : mj_cok k rc st M = true) (ha : (st.take k).reverse = as) (hr : st.drop k = rest)
    (kk : ∀ M1, Q2 M1 → mj_T P f nx L rest M1 Q) : mj_T P f pc L st M Q := mj_b_call hE hi h1 hc ha hr (fun v' M1 hq => by obtain ⟨h1, h2⟩ := hq; dsimp only at h1 h2; subst h1; exact kk M1 h2)
theorem mj_b_getV {j a n : Nat} {v : Int32} (hE : P.1 f pc = some (.getfield j, nx, x, y, 0, z, tb)) (hM : M.1[a]? = some (x, n)) (hv : M.2.1 a y = v) (k : mj_T P f nx L (.int v :: st) M Q) : mj_T P f pc L (.ref a :: st) M Q := by
  subst hv
  exact mj_b_getI hE (by decide) (by decide) (by decide) hM k
theorem mj_b_getQ {j a n q : Nat} (hE : P.1 f pc = some (.getfield j, nx, x, y, 1, z, tb)) (hM : M.1[a]? = some (x, n)) (hv : M.2.2 a y = some q) (k : mj_T P f nx L (.ref q :: st) M Q) : mj_T P f pc L (.ref a :: st) M Q := by
  refine mj_b_getR hE (by decide) (by decide) rfl hM ?_
  rw [hv]
  exact k
theorem mj_b_aaldQ {j : Int32} {a n t q c : Nat} (hE : P.1 f pc = some (.aaload, nx, x, y, 0, z, tb)) (hM : M.1[a]? = some (t, n)) (ht : 128 ≤ t) (hj : j = nI c) (hc : c < n) (hn : n < 2 ^ 31) (hv : M.2.2 a c = some q) (k : mj_T P f nx L (.ref q :: st) M Q) : mj_T P f pc L (.int j :: .ref a :: st) M Q := by
  subst hj
  refine mj_b_aald hE (by decide) (by decide) hM ht ?_ ?_
  · have := nI_in hc hn
    simp only [mj_ix, Bool.not_eq_true', Bool.or_eq_false_iff, decide_eq_false_iff_not]
    exact ⟨fun h => this (Or.inl h), fun h => this (Or.inr h)⟩
  · rw [nI_clamp (by omega), hv]
    exact k
theorem mj_ix_nI {c n : Nat} (hc : c < n) (hn : n < 2 ^ 31) : mj_ix (nI c) n = true := by
  have := nI_in hc hn
  simp only [mj_ix, Bool.not_eq_true', Bool.or_eq_false_iff, decide_eq_false_iff_not]
  exact ⟨fun h => this (Or.inl h), fun h => this (Or.inr h)⟩
theorem mj_enter (hi : P.2 f = (k, mL, rk, rc)) (hL : mj_ent mL as = L) (h : mj_T P f 0 L [] M Q) : mj_G P f as M Q := by
  unfold mj_G
  rw [hi]
  dsimp only
  rw [hL]
  exact h
theorem mj_b_retI {v : Int32} (hE : P.1 f pc = some (i, nx, x, y, 8, z, tb)) (hi : P.2 f = (k, mL, 0, rc)) (hq : Q (some (.int v), M)) : mj_T P f pc L [.int v] M Q := mj_T.ret hE rfl (by rw [hi]; simp [mj_ret]) hq
theorem mj_b_retZ {v : Int32} (hE : P.1 f pc = some (i, nx, x, y, 8, z, tb)) (hi : P.2 f = (k, mL, 1, rc)) (hv : v = 0 ∨ v = 1) (hq : Q (some (.int v), M)) : mj_T P f pc L [.int v] M Q := mj_T.ret hE rfl (by rw [hi]; simp [mj_ret, hv]) hq
theorem mj_b_retL {v : Int64} (hE : P.1 f pc = some (i, nx, x, y, 8, z, tb)) (hi : P.2 f = (k, mL, 3, rc)) (hq : Q (some (.long v), M)) : mj_T P f pc L [.long v] M Q := mj_T.ret hE rfl (by rw [hi]; simp [mj_ret]) hq
theorem mj_b_retA {v : Option Nat} (hE : P.1 f pc = some (i, nx, x, y, 8, z, tb)) (hi : P.2 f = (k, mL, 2, rc)) (hq : Q (some (va_rf v), M)) : mj_T P f pc L [va_rf v] M Q := mj_T.ret hE rfl (by rw [hi]; cases v <;> simp [mj_ret, va_rf]) hq
theorem mj_b_retQ {a : Nat} (hE : P.1 f pc = some (i, nx, x, y, 8, z, tb)) (hi : P.2 f = (k, mL, 2, rc)) (hq : Q (some (.ref a), M)) : mj_T P f pc L [.ref a] M Q := mj_b_retA (v := some a) hE hi hq
theorem mj_b_retN (hE : P.1 f pc = some (i, nx, x, y, 8, z, tb)) (hi : P.2 f = (k, mL, 2, rc)) (hq : Q (some .null, M)) : mj_T P f pc L [.null] M Q := mj_b_retA (v := none) hE hi hq
theorem mj_b_retV (hE : P.1 f pc = some (i, nx, x, y, 8, z, tb)) (hi : P.2 f = (k, mL, 4, rc)) (hq : Q (none, M)) : mj_T P f pc L [] M Q := mj_T.ret hE rfl (by rw [hi]; simp [mj_ret]) hq
end MJC
/-! fetching an instruction, by the kernel -/
def mj_eqE (a b : mj_E) : Bool := decide (a.1 = b.1) && (decide (a.2.1 = b.2.1) && (decide (a.2.2.1 = b.2.2.1) && (decide (a.2.2.2.1 = b.2.2.2.1) && (decide (a.2.2.2.2.1 = b.2.2.2.2.1) && (decide (a.2.2.2.2.2.1 = b.2.2.2.2.2.1) && decide (a.2.2.2.2.2.2 = b.2.2.2.2.2.2))))))
def mj_eqO (a : Option mj_E) (b : mj_E) : Bool := match a with
  | some e => mj_eqE e b
  | none => false
theorem mj_fe {a : Option mj_E} {b : mj_E} (h : mj_eqO a b = true) : a = some b := by
  cases a with
  | none => cases h
  | some e =>
    obtain ⟨e1, e2, e3, e4, e5, e6, e7⟩ := e
    obtain ⟨b1, b2, b3, b4, b5, b6, b7⟩ := b
    simp only [mj_eqO, mj_eqE, Bool.and_eq_true, decide_eq_true_eq] at h
    obtain ⟨rfl, rfl, rfl, rfl, rfl, rfl, rfl⟩ := h
    rfl
