/-! ===== where the small heap lies in the machine's ===== -/
def mj_ad (b sz : Nat) : Nat → Nat
  | 0 => b
  | k + 1 => sz + k
def mj_tv (b sz : Nat) (v : Value) : Value := match v with
  | .ref a => .ref (mj_ad b sz a)
  | v => v
theorem mj_ad_inj {b sz i j : Nat} (hb : b < sz) (h : mj_ad b sz i = mj_ad b sz j) : i = j := by
  cases i with
  | zero => cases j with
    | zero => rfl
    | succ j => simp only [mj_ad] at h; omega
  | succ i => cases j with
    | zero => simp only [mj_ad] at h; omega
    | succ j => simp only [mj_ad] at h; omega
theorem mj_ad_pos {b sz k : Nat} (h : 0 < k) : sz ≤ mj_ad b sz k := by
  cases k with
  | zero => omega
  | succ k => simp only [mj_ad]; omega
theorem mj_ad_lt {b sz k n h : Nat} (hb : b < sz) (hk : k < n) (hz : h + 1 = sz + n) : mj_ad b sz k < h := by
  cases k with
  | zero => simp only [mj_ad]; omega
  | succ k => simp only [mj_ad]; omega
theorem mj_ad_len {b sz n h : Nat} (hn : 0 < n) (hz : h + 1 = sz + n) : mj_ad b sz n = h := by
  cases n with
  | zero => omega
  | succ k => simp only [mj_ad]; omega
theorem mj_tv_rf (b sz : Nat) (r : Option Nat) : mj_tv b sz (va_rf r) = va_rf (r.map (mj_ad b sz)) := by
  cases r <;> rfl
theorem mj_tv_cat (b sz : Nat) (v : Value) : (mj_tv b sz v).category = v.category := by
  cases v <;> rfl
theorem mj_V_cat {v : Value} (h : mj_V v = true) : v.category = 1 := by
  cases v <;> first | rfl | (simp [mj_V] at h)
theorem mj_map_cat (b sz : Nat) (st : List Value) : ((st.map (mj_tv b sz)).map fun v => v.category) = st.map fun v => v.category := by
  rw [List.map_map]
  exact List.map_congr_left fun v _ => mj_tv_cat b sz v
def mj_isR (d : String) : Bool := match parseFieldDescriptor d with
  | some (.object _) => true
  | some (.array _) => true
  | _ => false
def mj_fv (b sz : Nat) (T : u_T) (i : Nat → Int32) (r : Nat → Option Nat) (j : Nat) : Value := if mj_isR (T j).2.2.1 = true then va_rf ((r j).map (mj_ad b sz)) else .int (i j)
def mj_pt (t : Nat) : FieldType := match t with
  | 65 => .int
  | 66 => .boolean
  | _ => .char
def mj_at (D : va_G) (cl : List vw_C) (tys : List (Nat × FieldType)) (b sz : Nat) (scr : Cell) (M : mj_H) (H : Heap) (k t n : Nat) : Prop :=
  (t < 64 → 0 < k ∧ ∃ q : vw_C, cl[t]? = some q ∧ n = q.2.2 ∧ t_OB (mj_ad b sz k) (D.1 t) q.2.2 (D.2 t) H (mj_fv b sz q.2.1 (M.2.1 k) (M.2.2 k))) ∧
  (t = 64 → H[mj_ad b sz k]? = some scr ∧ scr.slots.size = n ∧ ∀ j, j < n → scr.slots[j]? = some (.int (M.2.1 k j))) ∧
  (65 ≤ t ∧ t ≤ 67 → 0 < k ∧ (t, mj_pt t) ∈ tys ∧ H[mj_ad b sz k]? = some (arrV (D.1 t) n (fun j => .int (M.2.1 k j)))) ∧
  (128 ≤ t → 0 < k ∧ (∃ q : vw_C, cl[t - 128]? = some q ∧ (t, FieldType.object q.1) ∈ tys) ∧ H[mj_ad b sz k]? = some (arrV (D.1 t) n (fun j => va_rf ((M.2.2 k j).map (mj_ad b sz)))))
def mj_Rel (D : va_G) (cl : List vw_C) (tys : List (Nat × FieldType)) (b sz : Nat) (scr : Cell) (M : mj_H) (H : Heap) : Prop :=
  (b < sz ∧ 0 < M.1.length ∧ H.size + 1 = sz + M.1.length) ∧ ∀ k t n, M.1[k]? = some (t, n) → mj_at D cl tys b sz scr M H k t n
theorem mj_at.kept {D : va_G} {cl : List vw_C} {tys : List (Nat × FieldType)} {b sz : Nat} {scr : Cell} {M M' : mj_H} {H H' : Heap} {k t n : Nat} (h : mj_at D cl tys b sz scr M H k t n) (hq : H'[mj_ad b sz k]? = H[mj_ad b sz k]?) (h1 : M'.2.1 k = M.2.1 k) (h2 : M'.2.2 k = M.2.2 k) : mj_at D cl tys b sz scr M' H' k t n := by
  obtain ⟨a1, a2, a3, a4⟩ := h
  refine ⟨fun ht => ?_, fun ht => ?_, fun ht => ?_, fun ht => ?_⟩
  · obtain ⟨hk, q, c1, c2, c3⟩ := a1 ht
    refine ⟨hk, q, c1, c2, ?_⟩
    rw [h1, h2]
    exact c3.kept hq
  · rw [hq, h1]; exact a2 ht
  · rw [hq, h1]; exact a3 ht
  · rw [hq, h2]; exact a4 ht
theorem mj_Rel.put {D : va_G} {cl : List vw_C} {tys : List (Nat × FieldType)} {b sz : Nat} {scr : Cell} {M M' : mj_H} {H H' : Heap} {a : Nat} (h : mj_Rel D cl tys b sz scr M H) (hs : M'.1 = M.1) (hi : ∀ k, k ≠ a → M'.2.1 k = M.2.1 k) (hr : ∀ k, k ≠ a → M'.2.2 k = M.2.2 k) (hz : H'.size = H.size) (ho : ∀ q, q ≠ mj_ad b sz a → H'[q]? = H[q]?) (ha : ∀ t n, M.1[a]? = some (t, n) → mj_at D cl tys b sz scr M' H' a t n) : mj_Rel D cl tys b sz scr M' H' := by
  obtain ⟨⟨hb, hl, hz0⟩, hat⟩ := h
  refine ⟨⟨hb, by rw [hs]; exact hl, by rw [hs, hz]; exact hz0⟩, fun k t n hk => ?_⟩
  rw [hs] at hk
  by_cases hka : k = a
  · subst hka
    exact ha t n hk
  · exact (hat k t n hk).kept (ho _ (fun e => hka (mj_ad_inj hb e))) (hi k hka) (hr k hka)
theorem mj_Rel.add {D : va_G} {cl : List vw_C} {tys : List (Nat × FieldType)} {b sz : Nat} {scr : Cell} {M : mj_H} {H H' : Heap} {t n : Nat} (h : mj_Rel D cl tys b sz scr M H) (hz : H'.size = H.size + 1) (ho : ∀ q, q < H.size → H'[q]? = H[q]?) (ha : mj_ad b sz M.1.length = H.size → mj_at D cl tys b sz scr (mj_add M t n) H' M.1.length t n) : mj_Rel D cl tys b sz scr (mj_add M t n) H' := by
  obtain ⟨⟨hb, hl, hz0⟩, hat⟩ := h
  refine ⟨⟨hb, by simp [mj_add], by simp [mj_add]; omega⟩, fun k t' n' hk => ?_⟩
  by_cases hkl : k < M.1.length
  · have hk' : M.1[k]? = some (t', n') := by
      simp only [mj_add] at hk
      rwa [List.getElem?_append_left hkl] at hk
    refine (hat k t' n' hk').kept (ho _ (mj_ad_lt hb hkl hz0)) ?_ ?_
    · funext j
      simp [mj_add, mj_n, Nat.ne_of_lt hkl]
    · funext j
      simp [mj_add, mj_n, Nat.ne_of_lt hkl]
  · simp only [mj_add] at hk
    rw [List.getElem?_append_right (by omega)] at hk
    have hk0 : k - M.1.length < 1 := (List.getElem?_eq_some_iff.mp hk).1
    have hke : k = M.1.length := by omega
    subst hke
    rw [Nat.sub_self] at hk
    cases hk
    exact ha (mj_ad_len hl hz0)
/-- what the tables say -/
def mj_K (D : va_G) (cl : List vw_C) (tys : List (Nat × FieldType)) (NF : List (String × Nat × String × String × String × String)) (NM : List (String × Nat × MethodName × String)) (AO : List String) (scr : Cell) (U : State) : Prop :=
  va_K D cl (tys.map fun q => (D.1 q.1, q.2)) U ∧ (U.isArrayOf scr .int ∧ scr.vm ≠ .unknown) ∧ (∀ x ∈ NF, va_Nw (.fieldLinkNest x.1 x.2.1 x.2.2.1 x.2.2.2.1 x.2.2.2.2.1 x.2.2.2.2.2) U) ∧ (∀ x ∈ NM, va_Nw (.methodLinkNest x.1 x.2.1 x.2.2.1 x.2.2.2) U) ∧ ∀ C ∈ AO, va_AO C U
theorem mj_K.warm {D : va_G} {cl : List vw_C} {tys : List (Nat × FieldType)} {NF : List (String × Nat × String × String × String × String)} {NM : List (String × Nat × MethodName × String)} {AO : List String} {scr : Cell} {s U : State} (hW : s.WarmedH U.vm) (h : mj_K D cl tys NF NM AO scr s) : mj_K D cl tys NF NM AO scr U :=
  ⟨va_K.moved hW.alike h.1, ⟨State.isArrayOf_alike hW.alike h.2.1.1, h.2.1.2⟩, fun x hx => va_Nw.warmF hW (h.2.2.1 x hx), fun x hx => va_Nw.warmM hW (h.2.2.2.1 x hx), fun C hC => va_AO.moved hW.alike (h.2.2.2.2 C hC)⟩
theorem mj_K.same {D : va_G} {cl : List vw_C} {tys : List (Nat × FieldType)} {NF : List (String × Nat × String × String × String × String)} {NM : List (String × Nat × MethodName × String)} {AO : List String} {scr : Cell} {s U : State} (hv : s.vm = U.vm) (h : mj_K D cl tys NF NM AO scr s) : mj_K D cl tys NF NM AO scr U := by
  have ha : s.vm.Alike U.vm := by rw [← hv]; exact Vm.Alike.refl _
  exact ⟨va_K.moved ha h.1, ⟨State.isArrayOf_alike ha h.2.1.1, h.2.1.2⟩, fun x hx => va_Nw.same rfl hv (h.2.2.1 x hx), fun x hx => va_Nw.same rfl hv (h.2.2.2.1 x hx), fun C hC => va_AO.moved ha (h.2.2.2.2 C hC)⟩
theorem mj_K.ty {D : va_G} {cl : List vw_C} {tys : List (Nat × FieldType)} {NF : List (String × Nat × String × String × String × String)} {NM : List (String × Nat × MethodName × String)} {AO : List String} {scr : Cell} {s : State} (h : mj_K D cl tys NF NM AO scr s) {t : Nat} {ty : FieldType} (ht : (t, ty) ∈ tys) : ArrOfT s (D.1 t) ty ∧ va_RA s (D.1 t) ty := by
  obtain ⟨k, hk⟩ := List.getElem?_of_mem (List.mem_map_of_mem (f := fun q : Nat × FieldType => (D.1 q.1, q.2)) ht)
  exact h.1.2 k _ hk
/-- the locals -/
def mj_L (b sz : Nat) (ls : Array Slot) (mL : Nat) (L : List Value) : Prop := L.length = mL ∧ ls.size = mL ∧ lv_wf ls ∧ ∀ (i : Nat) (v : Value), L[i]? = some v → mj_V v = true → ls[i]? = some (Slot.val (mj_tv b sz v))
def mj_prs (b sz : Nat) (L : List Value) : List (Nat × Value) := (List.range L.length).filterMap fun i => match L[i]? with
  | some v => if mj_V v = true then some (i, mj_tv b sz v) else none
  | none => none
theorem mj_prs_in {b sz : Nat} {L : List Value} {i : Nat} {v : Value} (h : L[i]? = some v) (hv : mj_V v = true) : (i, mj_tv b sz v) ∈ mj_prs b sz L := by
  refine List.mem_filterMap.mpr ⟨i, List.mem_range.mpr (List.getElem?_eq_some_iff.mp h).1, ?_⟩
  simp [h, hv]
theorem mj_prs_cat {b sz : Nat} {L : List Value} {q : Nat × Value} (h : q ∈ mj_prs b sz L) : q.2.category = 1 ∧ ∃ v, L[q.1]? = some v ∧ mj_V v = true ∧ q.2 = mj_tv b sz v := by
  obtain ⟨i, -, hi⟩ := List.mem_filterMap.mp h
  cases hL : L[i]? with
  | none => rw [hL] at hi; cases hi
  | some v =>
    rw [hL] at hi
    simp only at hi
    split at hi
    · rename_i hv
      cases hi
      exact ⟨by rw [mj_tv_cat]; exact mj_V_cat hv, v, hL, hv, rfl⟩
    · cases hi
theorem mj_L.has {b sz : Nat} {ls : Array Slot} {mL : Nat} {L : List Value} (h : mj_L b sz ls mL L) : lv_has ls mL (mj_prs b sz L) :=
  ⟨h.2.1, h.2.2.1, fun q hq => by
    obtain ⟨-, v, h1, h2, h3⟩ := mj_prs_cat hq
    rw [h3]
    exact h.2.2.2 q.1 v h1 h2⟩
theorem mj_L.set {b sz : Nat} {ls ls' : Array Slot} {mL i : Nat} {L : List Value} {v : Value} (h : mj_L b sz ls mL L) (hn : lv_has ls' mL ((i, mj_tv b sz v) :: (mj_prs b sz L).filter (fun q => !(q.1 == i) && !(q.1 + 1 == i && q.2.category == 2)))) : mj_L b sz ls' mL (L.set i v) := by
  refine ⟨by rw [List.length_set]; exact h.1, hn.1, hn.2.1, fun j w hj hw => ?_⟩
  by_cases hji : j = i
  · subst hji
    have hl : j < L.length := by
      have := (List.getElem?_eq_some_iff.mp hj).1
      rwa [List.length_set] at this
    rw [List.getElem?_set_self hl] at hj
    cases hj
    exact hn.2.2 (j, mj_tv b sz v) List.mem_cons_self
  · rw [List.getElem?_set_ne (Ne.symm hji)] at hj
    refine hn.2.2 (j, mj_tv b sz w) (List.mem_cons_of_mem _ (List.mem_filter.mpr ⟨mj_prs_in hj hw, ?_⟩))
    have hc : (mj_tv b sz w).category = 1 := by rw [mj_tv_cat]; exact mj_V_cat hw
    simp [hji, hc]
/-- what the tables must hold for an instruction -/
def mj_swk (pc : Nat) : List (Int × Int) → List (Int × Nat) → Prop
  | [], [] => True
  | (k, o) :: ps, (k', t) :: tb => k = k' ∧ (pc : Int) + o = (t : Int) ∧ mj_swk pc ps tb
  | _, _ => False
def mj_tsk (pc : Nat) : Int → List Int → List (Int × Nat) → Prop
  | _, [], [] => True
  | lo, o :: os, (k, t) :: tb => k = lo ∧ (pc : Int) + o = (t : Int) ∧ mj_tsk pc (lo + 1) os tb
  | _, _, _ => False
def mj_wty (w : Nat) (ty : FieldType) : Bool := match ty with
  | .int => w == 0
  | .boolean => w == 2
  | .object _ => w == 1
  | .array _ => w == 1
  | _ => false
def mj_clok (Ts : List Jvm.Cond) (q : vw_C) : Prop := (∀ w ∈ u_ws q.1 q.2.1 q.2.2, w ∈ Ts) ∧ (∀ k, k < q.2.2 → ∃ ty, parseFieldDescriptor (q.2.1 k).2.2.1 = some ty ∧ defaultValue ty = (if mj_isR (q.2.1 k).2.2.1 = true then .null else .int 0)) ∧ ∀ a, a < q.2.2 → ∀ b, b < q.2.2 → a ≠ b → (q.2.1 a).2.1 ≠ (q.2.1 b).2.1
def mj_ck (cl : List vw_C) (Ts : List Jvm.Cond) (tys : List (Nat × FieldType)) (NF : List (String × Nat × String × String × String × String)) (AO : List String) (rm : Nat × Nat) (own nm : String) (cc : ByteArray) (pc : Nat) (E : mj_E) : Prop :=
  match E with
  | (i, nx, x, y, w, z, tb) => decode cc pc = .ok (i, nx - pc) ∧
  match i with
  | .iconst n => nx = pc + 1 ∧ Int32.ofInt n = z
  | .bipush n => nx = pc + 2 ∧ (Int8.ofInt n).toInt32 = z
  | .sipush n => nx = pc + 3 ∧ (Int16.ofInt n).toInt32 = z
  | .ldc n => nx = pc + 2 ∧ Jvm.Cond.constant own n z ∈ Ts
  | .ldc2_w n => nx = pc + 3 ∧ ∃ k j r, tb = (k, j) :: r ∧ Jvm.Cond.constantLong own n (Int64.ofInt k) ∈ Ts
  | .aconst_null => nx = pc + 1
  | .iload n => nx = pc + 2 ∧ n = x
  | .iload_n n => nx = pc + 1 ∧ (n : Nat) = x
  | .aload n => nx = pc + 2 ∧ n = x
  | .aload_n n => nx = pc + 1 ∧ (n : Nat) = x
  | .istore n => nx = pc + 2 ∧ n = x
  | .istore_n n => nx = pc + 1 ∧ (n : Nat) = x
  | .astore n => nx = pc + 2 ∧ n = x
  | .astore_n n => nx = pc + 1 ∧ (n : Nat) = x
  | .iinc n k => nx = pc + 3 ∧ n = x ∧ Int32.ofInt k = z
  | .iadd => nx = pc + 1
  | .isub => nx = pc + 1
  | .imul => nx = pc + 1
  | .iand => nx = pc + 1
  | .ior => nx = pc + 1
  | .ixor => nx = pc + 1
  | .ishl => nx = pc + 1
  | .ishr => nx = pc + 1
  | .idiv => nx = pc + 1
  | .irem => nx = pc + 1
  | .ineg => nx = pc + 1
  | .i2c => nx = pc + 1
  | .goto o => (nx = pc + 3 ∧ True) ∧ (pc : Int) + o = (x : Int)
  | .ifCond _ o => nx = pc + 3 ∧ (pc : Int) + o = (x : Int)
  | .if_icmp _ o => nx = pc + 3 ∧ (pc : Int) + o = (x : Int)
  | .ifnull o => nx = pc + 3 ∧ (pc : Int) + o = (x : Int)
  | .ifnonnull o => nx = pc + 3 ∧ (pc : Int) + o = (x : Int)
  | .getfield n => nx = pc + 3 ∧ ∃ C T N, cl[x]? = some (C, T, N) ∧ y < N ∧ w = (if mj_isR (T y).2.2.1 = true then 1 else 0) ∧ (Jvm.Cond.fieldLink own n (T y).1 (T y).2.1 (T y).2.2.1 ∈ Ts ∨ ∃ host, (own, n, (T y).1, (T y).2.1, (T y).2.2.1, host) ∈ NF)
  | .putfield n => nx = pc + 3 ∧ ∃ C T N ty, cl[x]? = some (C, T, N) ∧ y < N ∧ parseFieldDescriptor (T y).2.2.1 = some ty ∧ mj_wty w ty = true ∧
      (((T y).2.2.2 = false ∧ (Jvm.Cond.fieldLink own n (T y).1 (T y).2.1 (T y).2.2.1 ∈ Ts ∨ ∃ host, (own, n, (T y).1, (T y).2.1, (T y).2.2.1, host) ∈ NF)) ∨
       ((T y).2.2.2 = true ∧ nm = "<init>" ∧ (T y).1 = own ∧ Jvm.Cond.fieldLink own n (T y).1 (T y).2.1 (T y).2.2.1 ∈ Ts))
  | .iaload => nx = pc + 1
  | .iastore => nx = pc + 1
  | .baload => nx = pc + 1
  | .bastore => nx = pc + 1
  | .caload => nx = pc + 1
  | .castore => nx = pc + 1
  | .dup2 => nx = pc + 1
  | .lconst n => nx = pc + 1 ∧ ∃ k j r, tb = (k, j) :: r ∧ Int64.ofNat (n : Nat) = Int64.ofInt k
  | .aaload => nx = pc + 1
  | .aastore => nx = pc + 1
  | .arraylength => nx = pc + 1
  | .new n => nx = pc + 3 ∧ ∃ C T, cl[x]? = some (C, T, y) ∧ Jvm.Cond.classLink own n C ∈ Ts ∧ Jvm.Cond.instantiable C y ∈ Ts ∧ Jvm.Cond.initialized C ∈ Ts
  | .newarray t => nx = pc + 2 ∧ (65 ≤ x ∧ x ≤ 67) ∧ newarray.typeOf t = mj_pt x ∧ (x, mj_pt x) ∈ tys ∧ Jvm.Cond.arrayClass (newarray.typeOf t) ∈ Ts
  | .anewarray n => nx = pc + 3 ∧ ∃ q : vw_C, 128 ≤ x ∧ cl[x - 128]? = some q ∧ (x, FieldType.object q.1) ∈ tys ∧ Jvm.Cond.classLink own n q.1 ∈ Ts ∧ q.1 ∈ AO
  | .dup => nx = pc + 1
  | .dup_x1 => nx = pc + 1
  | .pop => nx = pc + 1
  | .invokespecial n => nx = pc + 3 ∧ (1 ≤ rm.1 ∧ 12 ≤ rm.2) ∧ Jvm.Cond.methodLink own n objectInit ∈ Ts ∧ Jvm.Cond.instanceMethod objectInit ∈ Ts ∧ Jvm.Cond.code objectInit ⟨#[0xb1]⟩ 1 none ∈ Ts
  | .lookupswitch d ps => (ps.toList.zip (ps.toList.drop 1)).all (fun (a, next) => a.1 < next.1) = true ∧ (pc : Int) + d = (x : Int) ∧ mj_swk pc ps.toList tb
  | .tableswitch d lo hi offs => (pc : Int) + d = (x : Int) ∧ (offs.toList.length : Int) = hi - lo + 1 ∧ mj_tsk pc lo offs.toList tb
  | .i2l => nx = pc + 1
  | .ladd => nx = pc + 1
  | .lmul => nx = pc + 1
  | .lcmp => nx = pc + 1
  | _ => False
/-! ===== the machine follows the small one: one instruction ===== -/
theorem mj_ix_in {i : Int32} {n : Nat} (h : mj_ix i n = true) : ¬ (i < 0 ∨ n ≤ i.toNatClampNeg) := by
  intro q
  rcases q with q | q <;> simp [mj_ix, q] at h
theorem mj_ix_lt {i : Int32} {n : Nat} (h : mj_ix i n = true) : i.toNatClampNeg < n := Nat.not_le.mp fun q => mj_ix_in h (Or.inr q)
theorem mj_sw_off (pc x : Nat) (d : Int) (hd : (pc : Int) + d = (x : Int)) (key : Int) : ∀ (ps : List (Int × Int)) (tb : List (Int × Nat)), mj_swk pc ps tb → (pc : Int) + Op.lookupswitch.offset ps d key = (((tb.lookup key).getD x : Nat) : Int) := by
  intro ps
  induction ps with
  | nil =>
    intro tb h
    cases tb with
    | nil => rw [Op.lookupswitch.offset_nil]; exact hd
    | cons q tb => exact False.elim h
  | cons q ps ih =>
    intro tb h
    obtain ⟨k, o⟩ := q
    cases tb with
    | nil => exact False.elim h
    | cons q' tb =>
      obtain ⟨k', t⟩ := q'
      obtain ⟨rfl, h2, h3⟩ := h
      rw [Op.lookupswitch.offset_cons]
      by_cases hk : key = k
      · subst hk
        simp [List.lookup, h2]
      · have hk' : ¬ k = key := fun e => hk e.symm
        have hb : (key == k) = false := by simp [hk]
        simp only [List.lookup, hb]
        rw [if_neg (by first | exact hk | exact hk')]
        exact ih tb h3
theorem mj_ts_off (pc : Nat) (key : Int) : ∀ (os : List Int) (tb : List (Int × Nat)) (lo : Int), mj_tsk pc lo os tb → (lo ≤ key → key < lo + (os.length : Int) → ∃ (off : Int) (t : Nat), os[(key - lo).toNat]? = some off ∧ (pc : Int) + off = (t : Int) ∧ tb.lookup key = some t) ∧ (¬ (lo ≤ key ∧ key < lo + (os.length : Int)) → tb.lookup key = none) := by
  intro os
  induction os with
  | nil =>
    intro tb lo h
    cases tb with
    | nil => exact ⟨fun h1 h2 => by simp at h2; omega, fun _ => rfl⟩
    | cons q tb => exact False.elim h
  | cons o os ih =>
    intro tb lo h
    cases tb with
    | nil => exact False.elim h
    | cons q tb =>
      obtain ⟨k, t⟩ := q
      obtain ⟨rfl, h2, h3⟩ := h
      obtain ⟨i1, i2⟩ := ih tb (k + 1) h3
      by_cases hk : key = k
      · subst hk
        refine ⟨fun _ _ => ⟨o, t, by simp, h2, by simp [List.lookup]⟩, fun h => ?_⟩
        exfalso
        apply h
        simp
        omega
      · have hb : (key == k) = false := by simp [hk]
        refine ⟨fun h4 h5 => ?_, fun h4 => ?_⟩
        · simp only [List.length_cons] at h5
          obtain ⟨off, t', j1, j2, j3⟩ := i1 (by omega) (by omega)
          refine ⟨off, t', ?_, j2, by simp only [List.lookup, hb]; exact j3⟩
          rw [show (key - k).toNat = (key - (k + 1)).toNat + 1 by omega, List.getElem?_cons_succ]
          exact j1
        · simp only [List.lookup, hb]
          refine i2 (fun h5 => h4 ?_)
          simp only [List.length_cons]
          omega
section MJS
variable {D : va_G} {cl : List vw_C} {Ts : List Jvm.Cond} {tys : List (Nat × FieldType)} {NF : List (String × Nat × String × String × String × String)} {NM : List (String × Nat × MethodName × String)} {AO : List String} {b sz : Nat} {scr : Cell}
variable {p : Program} {l : Launch} {e : Env} {R : Room} {s : State} {m : MethodId} {args : Array Value} {below : List Frame} {meth : Method} {c : Code} {H : Heap} {locs : List Loc} {cells slots : Nat} {Q : State → Prop}
variable {cc : ByteArray} {own nm : String} {mL pc : Nat} {ls : Array Slot} {L st rest : List Value} {M : mj_H}
theorem mj_w_get (hcl : ∀ t q, cl[t]? = some q → t < 64 ∧ mj_clok Ts q) (hx : p.tables.exec = Jvm.exec) (hb : c.code = cc) (hown : s.vm.findClass own = some m.cls) (hts : ∀ w ∈ Ts, w.before args s = true) (hK : mj_K D cl tys NF NM AO scr s) (hR : mj_Rel D cl tys b sz scr M H) {a x y n idx : Nat} (hM : M.1[a]? = some (x, n)) {C : String} {T : u_T} {N : Nat} (hc : cl[x]? = some (C, T, N)) (hy : y < N)
    (hlink : Jvm.Cond.fieldLink own idx (T y).1 (T y).2.1 (T y).2.2.1 ∈ Ts ∨ ∃ host, (own, idx, (T y).1, (T y).2.1, (T y).2.2.1, host) ∈ NF) (hd : decode cc pc = .ok (.getfield idx, 3))
    (kk : W p l e R s m args below meth c H locs cells slots Q (F0 m (pc + 3) ls (mj_fv b sz T (M.2.1 a) (M.2.2 a) y :: rest))) : W p l e R s m args below meth c H locs cells slots Q (F0 m pc ls (.ref (mj_ad b sz a) :: rest)) := by
  obtain ⟨hx64, hin, -, -⟩ := hcl x _ hc
  obtain ⟨-, q, hq, -, cell, q1, q2, q3, q4⟩ := (hR.2 a x n hM).1 hx64
  cases hq.symm.trans hc
  obtain ⟨hS, hfc, kC, hkC, hkind⟩ := hK.1.1 x _ hc
  obtain ⟨cf, kf, fi, f, hi, hsl⟩ := hS y hy
  have hst := (u_facts hfc hkC (u_lays hts hin hy) hi).1
  rcases hlink with hl | ⟨host, hl⟩
  · exact W.getf hx hb hown (hts _ hl) hi hst q1 (by rw [q3]; intro h; cases h) (by rw [hsl]; exact q4 y hy) rfl rfl hd kk
  · exact va_Wgetf hx hb hown (va_Nw.use rfl (hK.2.2.1 _ hl)) hi hst q1 (by rw [q3]; intro h; cases h) (by rw [hsl]; exact q4 y hy) rfl rfl hd kk
theorem mj_w_put (hcl : ∀ t q, cl[t]? = some q → t < 64 ∧ mj_clok Ts q) (hx : p.tables.exec = Jvm.exec) (hb : c.code = cc) (hown : s.vm.findClass own = some m.cls) (hts : ∀ w ∈ Ts, w.before args s = true) (hK : mj_K D cl tys NF NM AO scr s) (hR : mj_Rel D cl tys b sz scr M H) (hin0 : nm = "<init>" → meth.name = "<init>") {a x y n idx : Nat} (hM : M.1[a]? = some (x, n)) {C : String} {T : u_T} {N : Nat} {ty : FieldType} (hc : cl[x]? = some (C, T, N)) (hy : y < N) (hp : parseFieldDescriptor (T y).2.2.1 = some ty)
    (hlink : ((T y).2.2.2 = false ∧ (Jvm.Cond.fieldLink own idx (T y).1 (T y).2.1 (T y).2.2.1 ∈ Ts ∨ ∃ host, (own, idx, (T y).1, (T y).2.1, (T y).2.2.1, host) ∈ NF)) ∨ ((T y).2.2.2 = true ∧ nm = "<init>" ∧ (T y).1 = own ∧ Jvm.Cond.fieldLink own idx (T y).1 (T y).2.1 (T y).2.2.1 ∈ Ts))
    {v : Value} (hn : narrow ty v = v) (hfit : fits ty v = true) (hd : decode cc pc = .ok (.putfield idx, 3))
    (kk : ∀ (H' : Heap) (j : Nat), H'.size = H.size → (∀ q, q ≠ mj_ad b sz a → H'[q]? = H[q]?) → t_OB (mj_ad b sz a) (D.1 x) N (D.2 x) H' (updV (mj_fv b sz T (M.2.1 a) (M.2.2 a)) y v) → W p l e R s m args below meth c H' (locs ++ [⟨mj_ad b sz a, j⟩]) cells slots Q (F0 m (pc + 3) ls rest)) :
    W p l e R s m args below meth c H locs cells slots Q (F0 m pc ls (v :: .ref (mj_ad b sz a) :: rest)) := by
  obtain ⟨hx64, hin, hty, hnm⟩ := hcl x _ hc
  obtain ⟨-, q, hq, -, cell, q1, q2, q3, q4⟩ := (hR.2 a x n hM).1 hx64
  cases hq.symm.trans hc
  have hap := va_apart (own := own) hts hin (fun k => (parseFieldDescriptor (T k).2.2.1).getD .int) (fun k hk => by obtain ⟨ty, h, -⟩ := hty k hk; simp [h]) hnm hK.1 hc
  obtain ⟨hS, hfc, kC, hkC, hkind⟩ := hK.1.1 x _ hc
  obtain ⟨cf, kf, fi, f, hi, hsl⟩ := hS y hy
  have hst := (u_facts hfc hkC (u_lays hts hin hy) hi).1
  have hlay := hts _ (hin _ (u_in_lay hy))
  unfold u_lay at hlay
  rcases hlink with ⟨hfin, hl⟩ | ⟨hfin, hnm2, hdecl, hl⟩
  · rw [if_neg (by rw [hfin]; decide)] at hlay
    have h6 := u_store hfc hkC hkind hlay hi hp hn hfit
    rcases hl with hl | ⟨host, hl⟩
    · refine W.putK hx hb (f := f) ⟨hown, hts _ hl, ⟨_, _, _, hi⟩, hst⟩ (by rw [q2]; exact h6) q1 q3 (by rw [hsl]; exact k2_hasslot (q4 y hy)) rfl rfl hd fun H' e1 e2 e3 => ?_
      rw [hsl] at e1
      exact kk H' _ e2 e3 ⟨_, e1, q2, q3, t_set q4 hap hy v⟩
    · refine va_WputK hx hb (f := f) hown (va_Nw.use rfl (hK.2.2.1 _ hl)) hi hst (by rw [q2]; exact h6) q1 q3 (by rw [hsl]; exact k2_hasslot (q4 y hy)) rfl rfl hd fun H' e1 e2 e3 => ?_
      rw [hsl] at e1
      exact kk H' _ e2 e3 ⟨_, e1, q2, q3, t_set q4 hap hy v⟩
  · rw [if_pos hfin] at hlay
    have hcf : m.cls = cf := by
      obtain ⟨_, _, c', _, _, _, -, -, hf', -, -, -, hown2, -⟩ := Cond.laysFinal_spec hlay
      have e1 : c' = cf := by have := hi.symm.trans hf'; simp at this; exact this.1.symm
      rw [hdecl] at hown2
      rw [← e1]; exact Option.some.inj (hown.symm.trans hown2)
    have h6 := u_fits hfc hkC hkind (Or.inr hlay) hi hp hn hfit
    refine W.putFinK hx hb hown (hts _ hl) hi hst hcf (hin0 hnm2) (by rw [q2]; exact h6) q1 q3 (by rw [hsl]; exact k2_hasslot (q4 y hy)) rfl rfl hd fun H' e1 e2 e3 => ?_
    rw [hsl] at e1
    exact kk H' _ e2 e3 ⟨_, e1, q2, q3, t_set q4 hap hy v⟩
theorem mj_Rel.putI {H' : Heap} (hcl : ∀ t q, cl[t]? = some q → t < 64 ∧ mj_clok Ts q) (hR : mj_Rel D cl tys b sz scr M H) {a x y n : Nat} (hM : M.1[a]? = some (x, n)) {C : String} {T : u_T} {N : Nat} (hc : cl[x]? = some (C, T, N)) (hr : mj_isR (T y).2.2.1 = false) {v : Int32} (hz : H'.size = H.size) (ho : ∀ q, q ≠ mj_ad b sz a → H'[q]? = H[q]?) (hOB : t_OB (mj_ad b sz a) (D.1 x) N (D.2 x) H' (updV (mj_fv b sz T (M.2.1 a) (M.2.2 a)) y (.int v))) : mj_Rel D cl tys b sz scr (M.1, mj_u M.2.1 a y v, M.2.2) H' := by
  refine hR.put rfl (fun k hk => funext fun j => by simp [mj_u, hk]) (fun _ _ => rfl) hz ho (fun t n' h => ?_)
  cases hM.symm.trans h
  have hx64 := (hcl x _ hc).1
  obtain ⟨hk, q, hq, hn, -⟩ := (hR.2 a x n hM).1 hx64
  cases hq.symm.trans hc
  refine ⟨fun _ => ⟨hk, _, hc, hn, hOB.to (fun j hj => ?_)⟩, fun h => by omega, fun h => by omega, fun h => by omega⟩
  by_cases hjy : j = y
  · subst hjy; simp [updV, mj_fv, mj_u, hr]
  · simp [updV, mj_fv, mj_u, hjy]
theorem mj_Rel.putR {H' : Heap} (hcl : ∀ t q, cl[t]? = some q → t < 64 ∧ mj_clok Ts q) (hR : mj_Rel D cl tys b sz scr M H) {a x y n : Nat} (hM : M.1[a]? = some (x, n)) {C : String} {T : u_T} {N : Nat} (hc : cl[x]? = some (C, T, N)) (hr : mj_isR (T y).2.2.1 = true) {v : Option Nat} (hz : H'.size = H.size) (ho : ∀ q, q ≠ mj_ad b sz a → H'[q]? = H[q]?) (hOB : t_OB (mj_ad b sz a) (D.1 x) N (D.2 x) H' (updV (mj_fv b sz T (M.2.1 a) (M.2.2 a)) y (va_rf (v.map (mj_ad b sz))))) : mj_Rel D cl tys b sz scr (M.1, M.2.1, mj_u M.2.2 a y v) H' := by
  refine hR.put rfl (fun _ _ => rfl) (fun k hk => funext fun j => by simp [mj_u, hk]) hz ho (fun t n' h => ?_)
  cases hM.symm.trans h
  have hx64 := (hcl x _ hc).1
  obtain ⟨hk, q, hq, hn, -⟩ := (hR.2 a x n hM).1 hx64
  cases hq.symm.trans hc
  refine ⟨fun _ => ⟨hk, _, hc, hn, hOB.to (fun j hj => ?_)⟩, fun h => by omega, fun h => by omega, fun h => by omega⟩
  by_cases hjy : j = y
  · subst hjy; simp [updV, mj_fv, mj_u, hr]
  · simp [updV, mj_fv, mj_u, hjy]
theorem mj_wty_0 {w : Nat} {d : String} {ty : FieldType} {v : Int32} (hp : parseFieldDescriptor d = some ty) (ht : mj_wty w ty = true) (hw : w = 0 ∨ (w = 2 ∧ (v = 0 ∨ v = 1))) : mj_isR d = false ∧ narrow ty (.int v) = .int v ∧ fits ty (.int v) = true := by
  cases ty <;> simp [mj_wty] at ht <;> subst ht <;> simp at hw
  · exact ⟨by simp [mj_isR, hp], rfl, rfl⟩
  · rcases hw with rfl | rfl <;> exact ⟨by simp [mj_isR, hp], by first | exact narrow_b0 | exact narrow_b1, by decide⟩
theorem mj_wty_1 {w : Nat} {d : String} {ty : FieldType} {v : Option Nat} (hp : parseFieldDescriptor d = some ty) (ht : mj_wty w ty = true) (hw : w = 1) : mj_isR d = true ∧ narrow ty (va_rf v) = va_rf v ∧ fits ty (va_rf v) = true := by
  subst hw
  cases ty <;> simp [mj_wty] at ht
  · exact ⟨by simp [mj_isR, hp], by cases v <;> rfl, by cases v <;> rfl⟩
  · exact ⟨by simp [mj_isR, hp], by cases v <;> rfl, by cases v <;> rfl⟩
set_option maxHeartbeats 4000000 in
theorem mj_step_ok (hcl : ∀ t q, cl[t]? = some q → t < 64 ∧ mj_clok Ts q) (hx : p.tables.exec = Jvm.exec) (hb : c.code = cc) (hml : c.maxLocals = mL) (hown : s.vm.findClass own = some m.cls) (hts : ∀ w ∈ Ts, w.before args s = true) (hK : mj_K D cl tys NF NM AO scr s) (hin0 : nm = "<init>" → meth.name = "<init>") {rm : Nat × Nat} (hf1 : rm.1 ≤ R.frames) (hf2 : rm.2 ≤ R.locals)
    {E : mj_E} {q : mj_C} (hck : mj_ck cl Ts tys NF AO rm own nm cc pc E) (hs : mj_step E L st M = some q) (hL : mj_L b sz ls mL L) (hR : mj_Rel D cl tys b sz scr M H) (hl : ∀ k ∈ locs, sz ≤ k.base)
    (hrc : cells + q.2.2.2.1.length ≤ R.cells + M.1.length) (hrs : slots + mj_sl q.2.2.2 ≤ R.slots + mj_sl M)
    (kk : ∀ (ls' : Array Slot) (H' : Heap) (locs' : List Loc) (cells' slots' : Nat), mj_L b sz ls' mL q.2.1 → mj_Rel D cl tys b sz scr q.2.2.2 H' → (∀ k ∈ locs', sz ≤ k.base) → cells' + M.1.length = cells + q.2.2.2.1.length → slots' + mj_sl M = slots + mj_sl q.2.2.2 →
      W p l e R s m args below meth c H' locs' cells' slots' Q (F0 m q.1 ls' (q.2.2.1.map (mj_tv b sz)))) :
    W p l e R s m args below meth c H locs cells slots Q (F0 m pc ls (st.map (mj_tv b sz))) := by
  obtain ⟨i, nx, x, y, w, z, tb⟩ := E
  obtain ⟨hd, hck⟩ := hck
  cases i <;> first | exact False.elim hck | skip
  case iconst n =>
    obtain ⟨rfl, hz⟩ := hck
    rw [Nat.add_sub_cancel_left] at hd
    obtain rfl := Option.some.inj (show some _ = some q from hs)
    exact lv_iconst hx hb hd hz (kk ls H locs cells slots hL hR hl rfl rfl)
  case bipush n =>
    obtain ⟨rfl, hz⟩ := hck
    rw [Nat.add_sub_cancel_left] at hd
    obtain rfl := Option.some.inj (show some _ = some q from hs)
    exact lv_bipush hx hb hd hz (kk ls H locs cells slots hL hR hl rfl rfl)
  case sipush n =>
    obtain ⟨rfl, hz⟩ := hck
    rw [Nat.add_sub_cancel_left] at hd
    obtain rfl := Option.some.inj (show some _ = some q from hs)
    exact lv_sipush hx hb hd hz (kk ls H locs cells slots hL hR hl rfl rfl)
  case ldc n =>
    obtain ⟨rfl, hz⟩ := hck
    rw [Nat.add_sub_cancel_left] at hd
    obtain rfl := Option.some.inj (show some _ = some q from hs)
    exact lv_ldc hx hb hown (hts _ hz) hd (kk ls H locs cells slots hL hR hl rfl rfl)
  case ldc2_w n =>
    obtain ⟨rfl, k, j, r, rfl, hz⟩ := hck
    rw [Nat.add_sub_cancel_left] at hd
    obtain rfl := Option.some.inj (show some _ = some q from hs)
    exact lv_ldc2 hx hb hown (hts _ hz) hd (kk ls H locs cells slots hL hR hl rfl rfl)
  case lconst n =>
    obtain ⟨rfl, k, j, r, rfl, hz⟩ := hck
    rw [Nat.add_sub_cancel_left] at hd
    obtain rfl := Option.some.inj (show some _ = some q from hs)
    exact lv_lconst hx hb hd hz (kk ls H locs cells slots hL hR hl rfl rfl)
  case aconst_null =>
    obtain rfl := hck
    rw [Nat.add_sub_cancel_left] at hd
    obtain rfl := Option.some.inj (show some _ = some q from hs)
    exact lv_null hx hb hd (kk ls H locs cells slots hL hR hl rfl rfl)
  case iload n =>
    obtain ⟨rfl, rfl⟩ := hck
    rw [Nat.add_sub_cancel_left] at hd
    obtain ⟨v, hv, rfl⟩ := mj_ild_inv (show mj_ild (pc + 2) n L st M = some q from hs)
    exact lv_iload hx hb hd (hL.2.2.2 _ _ hv rfl) (kk ls H locs cells slots hL hR hl rfl rfl)
  case iload_n n =>
    obtain ⟨rfl, rfl⟩ := hck
    rw [Nat.add_sub_cancel_left] at hd
    obtain ⟨v, hv, rfl⟩ := mj_ild_inv (show mj_ild (pc + 1) n L st M = some q from hs)
    exact lv_iload_n hx hb hd rfl (hL.2.2.2 _ _ hv rfl) (kk ls H locs cells slots hL hR hl rfl rfl)
  case aload n =>
    obtain ⟨rfl, rfl⟩ := hck
    rw [Nat.add_sub_cancel_left] at hd
    rcases mj_ald_inv (show mj_ald (pc + 2) n L st M = some q from hs) with ⟨v, hv, rfl⟩ | ⟨hv, rfl⟩
    · exact lv_aload hx hb hd (hL.2.2.2 _ _ hv rfl) (kk ls H locs cells slots hL hR hl rfl rfl)
    · exact lv_aloadN hx hb hd (hL.2.2.2 _ _ hv rfl) (kk ls H locs cells slots hL hR hl rfl rfl)
  case aload_n n =>
    obtain ⟨rfl, rfl⟩ := hck
    rw [Nat.add_sub_cancel_left] at hd
    rcases mj_ald_inv (show mj_ald (pc + 1) n L st M = some q from hs) with ⟨v, hv, rfl⟩ | ⟨hv, rfl⟩
    · exact lv_aload_n hx hb hd rfl (hL.2.2.2 _ _ hv rfl) (kk ls H locs cells slots hL hR hl rfl rfl)
    · exact lv_aload_nN hx hb hd rfl (hL.2.2.2 _ _ hv rfl) (kk ls H locs cells slots hL hR hl rfl rfl)
  case istore n =>
    obtain ⟨rfl, rfl⟩ := hck
    rw [Nat.add_sub_cancel_left] at hd
    obtain ⟨v, r, rfl, hn, rfl⟩ := mj_ist_inv (show mj_ist (pc + 2) n L st M = some q from hs)
    exact lv_istore hx hb hd hL.has (by rw [← hL.1]; exact hn) rfl (fun ls' h => kk ls' H locs cells slots (hL.set h) hR hl rfl rfl)
  case istore_n n =>
    obtain ⟨rfl, rfl⟩ := hck
    rw [Nat.add_sub_cancel_left] at hd
    obtain ⟨v, r, rfl, hn, rfl⟩ := mj_ist_inv (show mj_ist (pc + 1) n L st M = some q from hs)
    exact lv_istore_n hx hb hd rfl hL.has (by rw [← hL.1]; exact hn) rfl (fun ls' h => kk ls' H locs cells slots (hL.set h) hR hl rfl rfl)
  case astore n =>
    obtain ⟨rfl, rfl⟩ := hck
    rw [Nat.add_sub_cancel_left] at hd
    rcases mj_ast_inv (show mj_ast (pc + 2) n L st M = some q from hs) with ⟨v, r, rfl, hn, rfl⟩ | ⟨r, rfl, hn, rfl⟩
    · exact lv_astore hx hb hd hL.has (by rw [← hL.1]; exact hn) rfl (fun ls' h => kk ls' H locs cells slots (hL.set h) hR hl rfl rfl)
    · exact lv_astoreN hx hb hd hL.has (by rw [← hL.1]; exact hn) rfl (fun ls' h => kk ls' H locs cells slots (hL.set h) hR hl rfl rfl)
  case astore_n n =>
    obtain ⟨rfl, rfl⟩ := hck
    rw [Nat.add_sub_cancel_left] at hd
    rcases mj_ast_inv (show mj_ast (pc + 1) n L st M = some q from hs) with ⟨v, r, rfl, hn, rfl⟩ | ⟨r, rfl, hn, rfl⟩
    · exact lv_astore_n hx hb hd rfl hL.has (by rw [← hL.1]; exact hn) rfl (fun ls' h => kk ls' H locs cells slots (hL.set h) hR hl rfl rfl)
    · exact lv_astore_nN hx hb hd rfl hL.has (by rw [← hL.1]; exact hn) rfl (fun ls' h => kk ls' H locs cells slots (hL.set h) hR hl rfl rfl)
  case iinc n k =>
    obtain ⟨rfl, rfl, rfl⟩ := hck
    rw [Nat.add_sub_cancel_left] at hd
    obtain ⟨v, hv, rfl⟩ := mj_inc_inv (show mj_inc (pc + 3) n (Int32.ofInt k) L st M = some q from hs)
    have hn : n < L.length := (List.getElem?_eq_some_iff.mp hv).1
    obtain ⟨j, hj⟩ := List.getElem?_of_mem (mj_prs_in (b := b) (sz := sz) hv rfl)
    exact lv_iinc hx hb hd hL.has hj rfl (by rw [← hL.1]; exact hn) rfl (fun ls' h => kk ls' H locs cells slots (hL.set h) hR hl rfl rfl)
  case iadd =>
    obtain rfl := hck
    rw [Nat.add_sub_cancel_left] at hd
    obtain ⟨k, a, r, rfl, rfl⟩ := mj_bin_inv (show mj_bin (fun a b => a + b) (pc + 1) L st M = some q from hs)
    exact lv_iadd hx hb hd (kk ls H locs cells slots hL hR hl rfl rfl)
  case isub =>
    obtain rfl := hck
    rw [Nat.add_sub_cancel_left] at hd
    obtain ⟨k, a, r, rfl, rfl⟩ := mj_bin_inv (show mj_bin (fun a b => a - b) (pc + 1) L st M = some q from hs)
    exact lv_isub hx hb hd (kk ls H locs cells slots hL hR hl rfl rfl)
  case imul =>
    obtain rfl := hck
    rw [Nat.add_sub_cancel_left] at hd
    obtain ⟨k, a, r, rfl, rfl⟩ := mj_bin_inv (show mj_bin (fun a b => a * b) (pc + 1) L st M = some q from hs)
    exact lv_imul hx hb hd (kk ls H locs cells slots hL hR hl rfl rfl)
  case iand =>
    obtain rfl := hck
    rw [Nat.add_sub_cancel_left] at hd
    obtain ⟨k, a, r, rfl, rfl⟩ := mj_bin_inv (show mj_bin (fun a b => a &&& b) (pc + 1) L st M = some q from hs)
    exact lv_iand hx hb hd (kk ls H locs cells slots hL hR hl rfl rfl)
  case ior =>
    obtain rfl := hck
    rw [Nat.add_sub_cancel_left] at hd
    obtain ⟨k, a, r, rfl, rfl⟩ := mj_bin_inv (show mj_bin (fun a b => a ||| b) (pc + 1) L st M = some q from hs)
    exact lv_ior hx hb hd (kk ls H locs cells slots hL hR hl rfl rfl)
  case ixor =>
    obtain rfl := hck
    rw [Nat.add_sub_cancel_left] at hd
    obtain ⟨k, a, r, rfl, rfl⟩ := mj_bin_inv (show mj_bin (fun a b => a ^^^ b) (pc + 1) L st M = some q from hs)
    exact lv_ixor hx hb hd (kk ls H locs cells slots hL hR hl rfl rfl)
  case ishl =>
    obtain rfl := hck
    rw [Nat.add_sub_cancel_left] at hd
    obtain ⟨k, a, r, rfl, rfl⟩ := mj_bin_inv (show mj_bin (fun a b => a <<< (b &&& 31)) (pc + 1) L st M = some q from hs)
    exact lv_ishl hx hb hd (kk ls H locs cells slots hL hR hl rfl rfl)
  case ishr =>
    obtain rfl := hck
    rw [Nat.add_sub_cancel_left] at hd
    obtain ⟨k, a, r, rfl, rfl⟩ := mj_bin_inv (show mj_bin (fun a b => a >>> (b &&& 31)) (pc + 1) L st M = some q from hs)
    exact lv_ishr hx hb hd (kk ls H locs cells slots hL hR hl rfl rfl)
  case idiv =>
    obtain rfl := hck
    rw [Nat.add_sub_cancel_left] at hd
    obtain ⟨k, a, r, rfl, hne, rfl⟩ := mj_div_inv (show mj_div (fun a b => a / b) (pc + 1) L st M = some q from hs)
    exact lv_idiv hx hb hd hne (kk ls H locs cells slots hL hR hl rfl rfl)
  case irem =>
    obtain rfl := hck
    rw [Nat.add_sub_cancel_left] at hd
    obtain ⟨k, a, r, rfl, hne, rfl⟩ := mj_div_inv (show mj_div (fun a b => a - a / b * b) (pc + 1) L st M = some q from hs)
    exact lv_irem hx hb hd hne (kk ls H locs cells slots hL hR hl rfl rfl)
  case ineg =>
    obtain rfl := hck
    rw [Nat.add_sub_cancel_left] at hd
    obtain ⟨a, r, rfl, rfl⟩ := mj_una_inv (show mj_una (fun a => -a) (pc + 1) L st M = some q from hs)
    exact lv_ineg hx hb hd (kk ls H locs cells slots hL hR hl rfl rfl)
  case i2c =>
    obtain rfl := hck
    rw [Nat.add_sub_cancel_left] at hd
    obtain ⟨a, r, rfl, rfl⟩ := mj_una_inv (show mj_una (fun a => (a.toUInt32 % 65536).toInt32) (pc + 1) L st M = some q from hs)
    exact lv_i2c hx hb hd rfl (kk ls H locs cells slots hL hR hl rfl rfl)
  case goto o =>
    obtain ⟨⟨rfl, -⟩, ht⟩ := hck
    rw [Nat.add_sub_cancel_left] at hd
    obtain rfl := Option.some.inj (show some _ = some q from hs)

    exact lv_goto hx hb hd ht (kk ls H locs cells slots hL hR hl rfl rfl)
  case ifCond k o =>
    obtain ⟨rfl, ht⟩ := hck
    rw [Nat.add_sub_cancel_left] at hd
    obtain ⟨a, r, rfl, rfl⟩ := mj_if1_inv (show mj_if1 k (pc + 3) x L st M = some q from hs)
    have k0 := kk ls H locs cells slots hL hR hl rfl rfl
    dsimp only at k0
    have kt : mj_cnd k a 0 = true → W p l e R s m args below meth c H locs cells slots Q (F0 m x ls (r.map (mj_tv b sz))) := fun h => by rw [if_pos h] at k0; exact k0
    have kf : ¬ mj_cnd k a 0 = true → W p l e R s m args below meth c H locs cells slots Q (F0 m (pc + 3) ls (r.map (mj_tv b sz))) := fun h => by rw [if_neg h] at k0; exact k0
    cases k
    · exact lv_if_eq hx hb hd ht (fun h => kt (decide_eq_true h)) (fun h => kf (fun h' => h (of_decide_eq_true h')))
    · exact lv_if_ne hx hb hd ht (fun h => kt (by simp [mj_cnd, h])) (fun h => kf (by simp [mj_cnd, h]))
    · exact lv_if_lt hx hb hd ht (fun h => kt (decide_eq_true h)) (fun h => kf (fun h' => h (of_decide_eq_true h')))
    · exact lv_if_ge hx hb hd ht (fun h => kt (decide_eq_true h)) (fun h => kf (fun h' => h (of_decide_eq_true h')))
    · exact lv_if_gt hx hb hd ht (fun h => kt (decide_eq_true h)) (fun h => kf (fun h' => h (of_decide_eq_true h')))
    · exact lv_if_le hx hb hd ht (fun h => kt (decide_eq_true h)) (fun h => kf (fun h' => h (of_decide_eq_true h')))
  case if_icmp k o =>
    obtain ⟨rfl, ht⟩ := hck
    rw [Nat.add_sub_cancel_left] at hd
    obtain ⟨a2, a, r, rfl, rfl⟩ := mj_if2_inv (show mj_if2 k (pc + 3) x L st M = some q from hs)
    have k0 := kk ls H locs cells slots hL hR hl rfl rfl
    dsimp only at k0
    have kt : mj_cnd k a a2 = true → W p l e R s m args below meth c H locs cells slots Q (F0 m x ls (r.map (mj_tv b sz))) := fun h => by rw [if_pos h] at k0; exact k0
    have kf : ¬ mj_cnd k a a2 = true → W p l e R s m args below meth c H locs cells slots Q (F0 m (pc + 3) ls (r.map (mj_tv b sz))) := fun h => by rw [if_neg h] at k0; exact k0
    cases k
    · exact lv_icmp_eq hx hb hd ht (fun h => kt (decide_eq_true h)) (fun h => kf (fun h' => h (of_decide_eq_true h')))
    · exact lv_icmp_ne hx hb hd ht (fun h => kt (by simp [mj_cnd, h])) (fun h => kf (by simp [mj_cnd, h]))
    · exact lv_icmp_lt hx hb hd ht (fun h => kt (decide_eq_true h)) (fun h => kf (fun h' => h (of_decide_eq_true h')))
    · exact lv_icmp_ge hx hb hd ht (fun h => kt (decide_eq_true h)) (fun h => kf (fun h' => h (of_decide_eq_true h')))
    · exact lv_icmp_gt hx hb hd ht (fun h => kt (decide_eq_true h)) (fun h => kf (fun h' => h (of_decide_eq_true h')))
    · exact lv_icmp_le hx hb hd ht (fun h => kt (decide_eq_true h)) (fun h => kf (fun h' => h (of_decide_eq_true h')))
  case ifnull o =>
    obtain ⟨rfl, ht⟩ := hck
    rw [Nat.add_sub_cancel_left] at hd
    rcases mj_ifn_inv (show mj_ifn x (pc + 3) L st M = some q from hs) with ⟨r, rfl, rfl⟩ | ⟨a, r, rfl, rfl⟩
    · exact lv_ifnullN hx hb hd ht (kk ls H locs cells slots hL hR hl rfl rfl)
    · exact lv_ifnull hx hb hd (kk ls H locs cells slots hL hR hl rfl rfl)
  case ifnonnull o =>
    obtain ⟨rfl, ht⟩ := hck
    rw [Nat.add_sub_cancel_left] at hd
    rcases mj_ifn_inv (show mj_ifn (pc + 3) x L st M = some q from hs) with ⟨r, rfl, rfl⟩ | ⟨a, r, rfl, rfl⟩
    · exact lv_ifnonnullN hx hb hd (kk ls H locs cells slots hL hR hl rfl rfl)
    · exact lv_ifnonnull hx hb hd ht (kk ls H locs cells slots hL hR hl rfl rfl)
  case getfield n =>
    obtain ⟨rfl, C, T, N, hc, hy, hw, hlink⟩ := hck
    rw [Nat.add_sub_cancel_left] at hd
    obtain ⟨a, r, n', rfl, hM, rfl⟩ := mj_get_inv (show mj_get (pc + 3) x y w L st M = some q from hs)
    refine mj_w_get hcl hx hb hown hts hK hR hM hc hy hlink hd ?_
    have k0 : W p l e R s m args below meth c H locs cells slots Q (F0 m (pc + 3) ls (mj_tv b sz (if w = 1 then va_rf (M.2.2 a y) else Value.int (M.2.1 a y)) :: r.map (mj_tv b sz))) := kk ls H locs cells slots hL hR hl rfl rfl
    have e1 : mj_tv b sz (if w = 1 then va_rf (M.2.2 a y) else Value.int (M.2.1 a y)) = mj_fv b sz T (M.2.1 a) (M.2.2 a) y := by
      rw [hw]
      unfold mj_fv
      cases hh : mj_isR (T y).2.2.1 with
      | true => simp [mj_tv_rf]
      | false => simp [mj_tv]
    rw [e1] at k0
    exact k0
  case putfield n =>
    obtain ⟨rfl, C, T, N, ty, hc, hy, hp, hwt, hlink⟩ := hck
    rw [Nat.add_sub_cancel_left] at hd
    rcases mj_put_inv (show mj_put (pc + 3) x y w L st M = some q from hs) with ⟨v, a, r, n', rfl, hM, hw, rfl⟩ | ⟨a, r, n', rfl, hM, hw, rfl⟩ | ⟨k, a, r, n', rfl, hM, hw, rfl⟩
    · obtain ⟨hr, hn, hfit⟩ := mj_wty_0 hp hwt hw
      refine mj_w_put hcl hx hb hown hts hK hR hin0 hM hc hy hp hlink hn hfit hd fun H' j z1 o1 hOB => ?_
      have hk := ((hR.2 a x n' hM).1 (hcl x _ hc).1).1
      exact kk ls H' _ cells slots hL (mj_Rel.putI hcl hR hM hc hr z1 o1 hOB) (fun k hk' => by
        rcases List.mem_append.mp hk' with h | h
        · exact hl k h
        · rw [List.mem_singleton.mp h]; exact mj_ad_pos hk) rfl rfl
    · obtain ⟨hr, hn, hfit⟩ := mj_wty_1 (v := none) hp hwt hw
      refine mj_w_put hcl hx hb hown hts hK hR hin0 hM hc hy hp hlink hn hfit hd fun H' j z1 o1 hOB => ?_
      have hk := ((hR.2 a x n' hM).1 (hcl x _ hc).1).1
      exact kk ls H' _ cells slots hL (mj_Rel.putR (v := none) hcl hR hM hc hr z1 o1 hOB) (fun k hk' => by
        rcases List.mem_append.mp hk' with h | h
        · exact hl k h
        · rw [List.mem_singleton.mp h]; exact mj_ad_pos hk) rfl rfl
    · obtain ⟨hr, hn, hfit⟩ := mj_wty_1 (v := some (mj_ad b sz k)) hp hwt hw
      refine mj_w_put hcl hx hb hown hts hK hR hin0 hM hc hy hp hlink hn hfit hd fun H' j z1 o1 hOB => ?_
      have hk := ((hR.2 a x n' hM).1 (hcl x _ hc).1).1
      exact kk ls H' _ cells slots hL (mj_Rel.putR (v := some k) hcl hR hM hc hr z1 o1 hOB) (fun k hk' => by
        rcases List.mem_append.mp hk' with h | h
        · exact hl k h
        · rw [List.mem_singleton.mp h]; exact mj_ad_pos hk) rfl rfl
  case iaload =>
    obtain rfl := hck
    rw [Nat.add_sub_cancel_left] at hd
    obtain ⟨k, a, r, t, n, rfl, hM, ht, hix, rfl⟩ := mj_iald_inv (show mj_iald (pc + 1) L st M = some q from hs)
    rcases ht with rfl | rfl
    · obtain ⟨h1, h2, h3⟩ := (hR.2 a 64 n hM).2.1 rfl
      exact W.iald (v := .int (M.2.1 a k.toNatClampNeg)) hx hb h1 hK.2.1.1 hK.2.1.2 (by rw [h2]; exact mj_ix_in hix) (h3 _ (mj_ix_lt hix)) rfl rfl hd (kk ls H locs cells slots hL hR hl rfl rfl)
    · obtain ⟨-, hty, h1⟩ := (hR.2 a 65 n hM).2.2.1 (by omega)
      exact W.iald (v := .int (M.2.1 a k.toNatClampNeg)) hx hb h1 ((hK.ty hty).1 n _) (fun h => by cases h) (by rw [arrV_size]; exact mj_ix_in hix) (by rw [arrV_read _ _ (mj_ix_lt hix)]) rfl rfl hd (kk ls H locs cells slots hL hR hl rfl rfl)
  case baload =>
    obtain rfl := hck
    rw [Nat.add_sub_cancel_left] at hd
    obtain ⟨k, a, r, n, rfl, hM, hix, rfl⟩ := mj_pald_inv (show mj_pald 66 (pc + 1) L st M = some q from hs)
    obtain ⟨-, hty, h1⟩ := (hR.2 a 66 n hM).2.2.1 (by omega)
    exact W.zald (v := .int (M.2.1 a k.toNatClampNeg)) hx hb h1 ((hK.ty hty).1 n _) (fun h => by cases h) (by rw [arrV_size]; exact mj_ix_in hix) (by rw [arrV_read _ _ (mj_ix_lt hix)]) rfl rfl hd (kk ls H locs cells slots hL hR hl rfl rfl)
  case caload =>
    obtain rfl := hck
    rw [Nat.add_sub_cancel_left] at hd
    obtain ⟨k, a, r, n, rfl, hM, hix, rfl⟩ := mj_pald_inv (show mj_pald 67 (pc + 1) L st M = some q from hs)
    obtain ⟨-, hty, h1⟩ := (hR.2 a 67 n hM).2.2.1 (by omega)
    exact W.cald (v := .int (M.2.1 a k.toNatClampNeg)) hx hb h1 ((hK.ty hty).1 n _) (fun h => by cases h) (by rw [arrV_size]; exact mj_ix_in hix) (by rw [arrV_read _ _ (mj_ix_lt hix)]) rfl rfl hd (kk ls H locs cells slots hL hR hl rfl rfl)
  case iastore =>
    obtain rfl := hck
    rw [Nat.add_sub_cancel_left] at hd
    obtain ⟨v, k, a, r, n, rfl, hM, hix, rfl⟩ := mj_past_inv (show mj_past 65 (fun v => v) (pc + 1) L st M = some q from hs)
    obtain ⟨hk, hty, h1⟩ := (hR.2 a 65 n hM).2.2.1 (by omega)
    refine W.iast hx hb h1 ((hK.ty hty).1 n _) (fun h => by cases h) (by rw [arrV_size]; exact mj_ix_in hix) rfl rfl hd fun H' e1 z1 o1 => ?_
    refine kk ls H' _ cells slots hL (hR.put rfl (fun k hk => funext fun j => by simp [mj_u, hk]) (fun _ _ => rfl) z1 o1 (fun t n' h => ?_)) (fun k' hk' => by
        rcases List.mem_append.mp hk' with h | h
        · exact hl k' h
        · rw [List.mem_singleton.mp h]; exact mj_ad_pos hk) rfl rfl
    cases hM.symm.trans h
    refine ⟨fun h => by omega, fun h => by omega, fun _ => ⟨hk, hty, ?_⟩, fun h => by omega⟩
    rw [e1, arrV_store]
    congr 2
    funext j
    by_cases hj : j = k.toNatClampNeg
    · subst hj
      simp [updV, mj_u]
      try rfl
    · simp [updV, mj_u, hj]
  case bastore =>
    obtain rfl := hck
    rw [Nat.add_sub_cancel_left] at hd
    obtain ⟨v, k, a, r, n, rfl, hM, hix, rfl⟩ := mj_past_inv (show mj_past 66 (fun v => v &&& 1) (pc + 1) L st M = some q from hs)
    obtain ⟨hk, hty, h1⟩ := (hR.2 a 66 n hM).2.2.1 (by omega)
    refine W.zast hx hb h1 ((hK.ty hty).1 n _) (fun h => by cases h) (by rw [arrV_size]; exact mj_ix_in hix) rfl rfl hd fun H' e1 z1 o1 => ?_
    refine kk ls H' _ cells slots hL (hR.put rfl (fun k hk => funext fun j => by simp [mj_u, hk]) (fun _ _ => rfl) z1 o1 (fun t n' h => ?_)) (fun k' hk' => by
        rcases List.mem_append.mp hk' with h | h
        · exact hl k' h
        · rw [List.mem_singleton.mp h]; exact mj_ad_pos hk) rfl rfl
    cases hM.symm.trans h
    refine ⟨fun h => by omega, fun h => by omega, fun _ => ⟨hk, hty, ?_⟩, fun h => by omega⟩
    rw [e1, arrV_store]
    congr 2
    funext j
    by_cases hj : j = k.toNatClampNeg
    · subst hj
      simp [updV, mj_u]
      try rfl
    · simp [updV, mj_u, hj]
  case castore =>
    obtain rfl := hck
    rw [Nat.add_sub_cancel_left] at hd
    obtain ⟨v, k, a, r, n, rfl, hM, hix, rfl⟩ := mj_past_inv (show mj_past 67 (fun v => v.toUInt32.toUInt16.toUInt32.toInt32) (pc + 1) L st M = some q from hs)
    obtain ⟨hk, hty, h1⟩ := (hR.2 a 67 n hM).2.2.1 (by omega)
    refine W.cast hx hb h1 ((hK.ty hty).1 n _) (fun h => by cases h) (by rw [arrV_size]; exact mj_ix_in hix) rfl rfl hd fun H' e1 z1 o1 => ?_
    refine kk ls H' _ cells slots hL (hR.put rfl (fun k hk => funext fun j => by simp [mj_u, hk]) (fun _ _ => rfl) z1 o1 (fun t n' h => ?_)) (fun k' hk' => by
        rcases List.mem_append.mp hk' with h | h
        · exact hl k' h
        · rw [List.mem_singleton.mp h]; exact mj_ad_pos hk) rfl rfl
    cases hM.symm.trans h
    refine ⟨fun h => by omega, fun h => by omega, fun _ => ⟨hk, hty, ?_⟩, fun h => by omega⟩
    rw [e1, arrV_store]
    congr 2
    funext j
    by_cases hj : j = k.toNatClampNeg
    · subst hj
      simp [updV, mj_u]
      try rfl
    · simp [updV, mj_u, hj]
  case aaload =>
    obtain rfl := hck
    rw [Nat.add_sub_cancel_left] at hd
    obtain ⟨k, a, r, t, n, rfl, hM, ht, hix, rfl⟩ := mj_aald_inv (show mj_aald (pc + 1) L st M = some q from hs)
    obtain ⟨-, ⟨C, hc, hty⟩, h1⟩ := (hR.2 a t n hM).2.2.2 ht
    have k0 : W p l e R s m args below meth c H locs cells slots Q (F0 m (pc + 1) ls (mj_tv b sz (va_rf (M.2.2 a k.toNatClampNeg)) :: r.map (mj_tv b sz))) := kk ls H locs cells slots hL hR hl rfl rfl
    rw [mj_tv_rf] at k0
    exact W.aald (v := va_rf ((M.2.2 a k.toNatClampNeg).map (mj_ad b sz))) (ty := .object C.1) hx hb h1 ((hK.ty hty).1 n _) rfl (fun h => by cases h) (by rw [arrV_size]; exact mj_ix_in hix) (by rw [arrV_read _ _ (mj_ix_lt hix)]) rfl rfl hd k0
  case aastore =>
    obtain rfl := hck
    rw [Nat.add_sub_cancel_left] at hd
    obtain ⟨v, k, a, r, u, n, n', rfl, hM, hV, hu, hix, rfl⟩ := mj_aast_inv (show mj_aast (pc + 1) L st M = some q from hs)
    obtain ⟨hk, ⟨C, hc, hty⟩, h1⟩ := (hR.2 a (128 + u) n hM).2.2.2 (by omega)
    rw [show 128 + u - 128 = u by omega] at hc
    obtain ⟨-, C', hc', -, cellV, g1, g2, g3, -⟩ := (hR.2 v u n' hV).1 hu
    cases hc'.symm.trans hc
    have hcls := (hK.1.1 u C hc).2
    obtain ⟨kA, comp, k1, k2, k3, -⟩ := (hK.ty hty).2
    have hcomp : comp = D.1 u := Option.some.inj (k3.symm.trans hcls.1)
    subst hcomp
    obtain ⟨kC, hkC, -⟩ := hcls.2
    have hix' := mj_ix_in hix
    refine W.aast hx hb h1 (fun q h => by cases h) (fun h => by cases h) k1 k2 rfl hkC ⟨fun h => hix' (Or.inl h), by rw [arrV_size]; exact mj_ix_lt hix⟩ g1 (fun q h => by rw [g3] at h; cases h) (by rw [g2]; exact hkC) (by rw [g2]; exact va_assign hcls) rfl rfl hd fun H' e1 z1 o1 => ?_
    refine kk ls H' _ cells slots hL (hR.put rfl (fun _ _ => rfl) (fun k hk => funext fun j => by simp [mj_u, hk]) z1 o1 (fun t n'' h => ?_)) (fun k' hk' => by
        rcases List.mem_append.mp hk' with h | h
        · exact hl k' h
        · rw [List.mem_singleton.mp h]; exact mj_ad_pos hk) rfl rfl
    cases hM.symm.trans h
    refine ⟨fun h => by omega, fun h => by omega, fun h => by omega, fun _ => ⟨hk, ⟨C, by rw [show 128 + u - 128 = u by omega]; exact hc, hty⟩, ?_⟩⟩
    rw [e1, arrV_store]
    congr 2
    funext j
    by_cases hj : j = k.toNatClampNeg
    · subst hj; simp [updV, mj_u, va_rf]
    · simp [updV, mj_u, hj]
  case arraylength =>
    obtain rfl := hck
    rw [Nat.add_sub_cancel_left] at hd
    obtain ⟨a, r, t, n, rfl, hM, ht, rfl⟩ := mj_len_inv (show mj_len (pc + 1) L st M = some q from hs)
    rcases ht with ht | ht
    · by_cases h64 : t = 64
      · subst h64
        obtain ⟨h1, h2, -⟩ := (hR.2 a 64 n hM).2.1 rfl
        exact W.alen (n := Int32.ofNat n) hx hb h1 hK.2.1.1 (by rw [h2]) rfl rfl hd (kk ls H locs cells slots hL hR hl rfl rfl)
      · obtain ⟨-, hty, h1⟩ := (hR.2 a t n hM).2.2.1 (by omega)
        exact W.alen (n := Int32.ofNat n) hx hb h1 ((hK.ty hty).1 n _) (by rw [arrV_size]) rfl rfl hd (kk ls H locs cells slots hL hR hl rfl rfl)
    · obtain ⟨-, ⟨C, hc, hty⟩, h1⟩ := (hR.2 a t n hM).2.2.2 ht
      exact W.alen (n := Int32.ofNat n) hx hb h1 ((hK.ty hty).1 n _) (by rw [arrV_size]) rfl rfl hd (kk ls H locs cells slots hL hR hl rfl rfl)
  case new n =>
    obtain ⟨rfl, C, T, hc, h1, h2, h3⟩ := hck
    rw [Nat.add_sub_cancel_left] at hd
    obtain rfl := Option.some.inj (show some (pc + 3, L, Value.ref M.1.length :: st, mj_add M x y) = some q from hs)
    obtain ⟨hx64, hin, hty, -⟩ := hcl x _ hc
    have hKn := hK.1.1 x _ hc
    have hle : mj_ad b sz M.1.length = H.size := mj_ad_len hR.1.2.1 hR.1.2.2
    have hsl : mj_sl (mj_add M x y) = mj_sl M + y := by simp [mj_sl, mj_add]
    have hcn : (mj_add M x y).1.length = M.1.length + 1 := by simp [mj_add]
    dsimp only at hrc hrs
    refine W.newcK hx hb hown (hts _ h1) (hts _ h2) (hts _ h3) rfl hd (by omega) (by omega) hKn.2.1 rfl fun H1 kC hkC e1 z1 o1 => ?_
    have k0 : W p l e R s m args below meth c H1 locs (cells + 1) (slots + y) Q (F0 m (pc + 3) ls (.ref (mj_ad b sz M.1.length) :: st.map (mj_tv b sz))) := kk ls H1 locs (cells + 1) (slots + y) hL (hR.add z1 o1 (fun _ => ⟨fun _ => ⟨hR.1.2.1, _, hc, rfl, by
      rw [hle]
      exact (u_born (fun k => (parseFieldDescriptor (T k).2.2.1).getD .int) hts hin hKn hkC e1 (fun k hk => by obtain ⟨ty, h, -⟩ := hty k hk; simp [h])).to (fun j hj => by
        obtain ⟨ty, h, hdv⟩ := hty j hj
        show defaultValue ((parseFieldDescriptor (T j).2.2.1).getD .int) = _
        rw [show (parseFieldDescriptor (T j).2.2.1).getD .int = ty by simp [h], hdv]
        simp [mj_fv, mj_add, mj_n, va_rf])⟩, fun h => by omega, fun h => by omega, fun h => by omega⟩)) hl (by dsimp only; omega) (by dsimp only; omega)
    rw [hle] at k0
    exact k0
  case newarray at' =>
    obtain ⟨rfl, hx67, hta, hty, hac⟩ := hck
    rw [Nat.add_sub_cancel_left] at hd
    obtain ⟨k, r, rfl, h0, hle0, rfl⟩ := mj_nar_inv (show mj_nar (pc + 2) x L st M = some q from hs)
    have hle : mj_ad b sz M.1.length = H.size := mj_ad_len hR.1.2.1 hR.1.2.2
    have hsl : mj_sl (mj_add M x k.toNatClampNeg) = mj_sl M + k.toNatClampNeg := by simp [mj_sl, mj_add]
    have hcn : (mj_add M x k.toNatClampNeg).1.length = M.1.length + 1 := by simp [mj_add]
    dsimp only at hrc hrs
    have hcb : componentBytes (newarray.typeOf at') ≤ 8 := by cases at' <;> decide
    refine va_newaK hx hb (hts _ hac) rfl hd rfl h0 rfl (Nat.le_trans (Nat.mul_le_mul hle0 hcb) (by decide)) (by omega) (by omega) rfl fun H1 cA e1 z1 o1 hAr hNm => ?_
    have hRA := (hK.ty hty).2
    have hcA : cA = D.1 x := by
      rw [hta] at hNm
      have h67 : x = 65 ∨ x = 66 ∨ x = 67 := by omega
      rcases h67 with rfl | rfl | rfl <;> exact Option.some.inj (hNm.symm.trans hRA)
    subst hcA
    have k0 : W p l e R s m args below meth c H1 locs (cells + 1) (slots + k.toNatClampNeg) Q (F0 m (pc + 2) ls (.ref (mj_ad b sz M.1.length) :: r.map (mj_tv b sz))) := kk ls H1 locs (cells + 1) (slots + k.toNatClampNeg) hL (hR.add z1 o1 (fun _ => ⟨fun h => by omega, fun h => by omega, fun _ => ⟨hR.1.2.1, hty, by
      rw [hle, e1, hta]
      have h67 : x = 65 ∨ x = 66 ∨ x = 67 := by omega
      congr 2
      funext j
      rcases h67 with rfl | rfl | rfl <;> simp [mj_add, mj_n, defaultValue, mj_pt]⟩, fun h => by omega⟩)) hl (by dsimp only; omega) (by dsimp only; omega)
    rw [hle] at k0
    exact k0
  case anewarray n =>
    obtain ⟨rfl, C, hx128, hc, hty, hcl2, hao⟩ := hck
    rw [Nat.add_sub_cancel_left] at hd
    obtain ⟨k, r, rfl, h0, hle0, rfl⟩ := mj_nar_inv (show mj_nar (pc + 3) x L st M = some q from hs)
    have hle : mj_ad b sz M.1.length = H.size := mj_ad_len hR.1.2.1 hR.1.2.2
    have hsl : mj_sl (mj_add M x k.toNatClampNeg) = mj_sl M + k.toNatClampNeg := by simp [mj_sl, mj_add]
    have hcn : (mj_add M x k.toNatClampNeg).1.length = M.1.length + 1 := by simp [mj_add]
    dsimp only at hrc hrs
    refine W.anew hx hb hown (hts _ hcl2) (va_AO.use (hK.2.2.2.2 _ hao)) rfl hd rfl h0 (by omega) (by omega) (by omega) fun cA kA comp f1 f2 f3 f4 => ?_
    obtain ⟨kA', comp', g1, g2, g3, g4⟩ := (hK.ty hty).2
    have hcA : cA = D.1 x := Option.some.inj (f1.symm.trans g4)
    subst hcA
    generalize hH1 : H.push ({ cls := D.1 x, slots := Array.replicate k.toNatClampNeg .null, vm := .none } : Cell) = H1
    have z1 : H1.size = H.size + 1 := by rw [← hH1, Array.size_push]
    have e1 : H1[H.size]? = some (arrV (D.1 x) k.toNatClampNeg (fun _ => .null)) := by rw [← hH1, Array.getElem?_push_size, ← arrV_new]
    have o1 : ∀ q : Nat, q < H.size → H1[q]? = H[q]? := fun q hq => by rw [← hH1, Array.getElem?_push, if_neg (Nat.ne_of_lt hq)]
    have k0 : W p l e R s m args below meth c H1 locs (cells + 1) (slots + k.toNatClampNeg) Q (F0 m (pc + 3) ls (.ref (mj_ad b sz M.1.length) :: r.map (mj_tv b sz))) := kk ls H1 locs (cells + 1) (slots + k.toNatClampNeg) hL (hR.add z1 o1 (fun _ => ⟨fun h => by omega, fun h => by omega, fun h => by omega, fun _ => ⟨hR.1.2.1, ⟨C, hc, hty⟩, by
      rw [hle, e1]
      congr 2
      funext j
      simp [mj_add, mj_n, va_rf]⟩⟩)) hl (by dsimp only; omega) (by dsimp only; omega)
    rw [hle] at k0
    exact k0
  case dup =>
    obtain rfl := hck
    rw [Nat.add_sub_cancel_left] at hd
    obtain ⟨a, r, rfl, ha, rfl⟩ := mj_dup_inv (show mj_dup (pc + 1) L st M = some q from hs)
    exact lv_dup hx hb hd (by rw [mj_tv_cat]; exact mj_V_cat ha) (kk ls H locs cells slots hL hR hl rfl rfl)
  case dup_x1 =>
    obtain rfl := hck
    rw [Nat.add_sub_cancel_left] at hd
    obtain ⟨a, a2, r, rfl, ha, ha2, rfl⟩ := mj_dx1_inv (show mj_dx1 (pc + 1) L st M = some q from hs)
    exact lv_dup_x1 hx hb hd (by rw [mj_tv_cat]; exact mj_V_cat ha) (by rw [mj_tv_cat]; exact mj_V_cat ha2) (kk ls H locs cells slots hL hR hl rfl rfl)
  case dup2 =>
    obtain rfl := hck
    rw [Nat.add_sub_cancel_left] at hd
    obtain ⟨a, a2, r, rfl, ha, ha2, rfl⟩ := mj_dup2_inv (show mj_dup2 (pc + 1) L st M = some q from hs)
    exact lv_dup2_11 hx hb hd (by rw [mj_tv_cat]; exact mj_V_cat ha) (by rw [mj_tv_cat]; exact mj_V_cat ha2) (kk ls H locs cells slots hL hR hl rfl rfl)
  case pop =>
    obtain rfl := hck
    rw [Nat.add_sub_cancel_left] at hd
    obtain ⟨a, r, rfl, ha, rfl⟩ := mj_pop_inv (show mj_pop (pc + 1) L st M = some q from hs)
    exact lv_pop hx hb hd (by rw [mj_tv_cat]; exact mj_V_cat ha) (kk ls H locs cells slots hL hR hl rfl rfl)
  case invokespecial n =>
    obtain ⟨rfl, ⟨hr1, hr2⟩, h1, h2, h3⟩ := hck
    rw [Nat.add_sub_cancel_left] at hd
    obtain ⟨a, rfl, rfl⟩ := mj_obj_inv (show mj_obj (pc + 3) L st M = some q from hs)
    exact W.objInit hx hb hown (hts _ h1) (hts _ h2) (hts _ h3) rfl (by rw [hml]; exact hL.2.1) rfl hd (by omega) (Nat.le_trans (Nat.le_of_eq (show 2 * (F0 m pc ls [Value.ref (mj_ad b sz a)]).monitorRoom + (([] : List Value).map fun v => v.category).sum + 12 = 12 from rfl)) (by omega)) (kk ls H locs cells slots hL hR hl rfl rfl)
  case lookupswitch d ps =>
    obtain ⟨h1, h2, h3⟩ := hck
    obtain ⟨a, r, rfl, rfl⟩ := mj_sw_inv (show mj_sw x tb L st M = some q from hs)
    exact lv_lookup hx hb hd h1 rfl (mj_sw_off pc x d h2 a.toInt _ _ h3) (kk ls H locs cells slots hL hR hl rfl rfl)
  case tableswitch d lo hi offs =>
    obtain ⟨h1, h2, h3⟩ := hck
    obtain ⟨a, r, rfl, rfl⟩ := mj_sw_inv (show mj_sw x tb L st M = some q from hs)
    obtain ⟨i1, i2⟩ := mj_ts_off pc a.toInt offs.toList tb lo h3
    have k0 := kk ls H locs cells slots hL hR hl rfl rfl
    dsimp only at k0
    by_cases ho : a.toInt < lo ∨ hi < a.toInt
    · rw [i2 (by omega)] at k0
      exact lv_tableOut hx hb hd ho h1 k0
    · obtain ⟨off, t, j1, j2, j3⟩ := i1 (by omega) (by omega)
      rw [j3] at k0
      exact lv_tableIn hx hb hd (fun h => ho (Or.inl h)) (fun h => ho (Or.inr h)) (by rw [← Array.getElem?_toList]; exact j1) j2 k0
  case i2l =>
    obtain rfl := hck
    rw [Nat.add_sub_cancel_left] at hd
    obtain ⟨a, r, rfl, rfl⟩ := mj_i2l_inv (show mj_i2l (pc + 1) L st M = some q from hs)
    exact lv_i2l hx hb hd rfl (kk ls H locs cells slots hL hR hl rfl rfl)
  case ladd =>
    obtain rfl := hck
    rw [Nat.add_sub_cancel_left] at hd
    obtain ⟨k, a, r, rfl, rfl⟩ := mj_lbin_inv (show mj_lbin (fun a b => a + b) (pc + 1) L st M = some q from hs)
    exact lv_ladd hx hb hd (kk ls H locs cells slots hL hR hl rfl rfl)
  case lmul =>
    obtain rfl := hck
    rw [Nat.add_sub_cancel_left] at hd
    obtain ⟨k, a, r, rfl, rfl⟩ := mj_lbin_inv (show mj_lbin (fun a b => a * b) (pc + 1) L st M = some q from hs)
    exact lv_lmul hx hb hd (kk ls H locs cells slots hL hR hl rfl rfl)
  case lcmp =>
    obtain rfl := hck
    rw [Nat.add_sub_cancel_left] at hd
    obtain ⟨k, a, r, rfl, rfl⟩ := mj_lcmp_inv (show mj_lcmp (pc + 1) L st M = some q from hs)
    exact W.lcmp hx hb hd (kk ls H locs cells slots hL hR hl rfl rfl)
end MJS
