/-! ===== the machine follows the small one: a run ===== -/
set_option maxHeartbeats 2000000 in
theorem mj_step_sh {E : mj_E} {L st : List Value} {M : mj_H} {q : mj_C} (hs : mj_step E L st M = some q) : q.2.2.2.1 = M.1 ∨ ∃ t n, q.2.2.2.1 = M.1 ++ [(t, n)] := by
  obtain ⟨i, nx, x, y, w, z, tb⟩ := E
  cases i
  case iconst n => obtain rfl := Option.some.inj (show some _ = some q from hs); exact Or.inl rfl
  case bipush n => obtain rfl := Option.some.inj (show some _ = some q from hs); exact Or.inl rfl
  case sipush n => obtain rfl := Option.some.inj (show some _ = some q from hs); exact Or.inl rfl
  case ldc n => obtain rfl := Option.some.inj (show some _ = some q from hs); exact Or.inl rfl
  case ldc2_w n => obtain ⟨_, _, _, _, rfl⟩ := mj_lc_inv (show mj_lc tb nx L st M = some q from hs); exact Or.inl rfl
  case lconst n => obtain ⟨_, _, _, _, rfl⟩ := mj_lc_inv (show mj_lc tb nx L st M = some q from hs); exact Or.inl rfl
  case aconst_null => obtain rfl := Option.some.inj (show some _ = some q from hs); exact Or.inl rfl
  case iload n => obtain ⟨_, _, rfl⟩ := mj_ild_inv (show mj_ild nx x L st M = some q from hs); exact Or.inl rfl
  case iload_n n => obtain ⟨_, _, rfl⟩ := mj_ild_inv (show mj_ild nx x L st M = some q from hs); exact Or.inl rfl
  case aload n => rcases mj_ald_inv (show mj_ald nx x L st M = some q from hs) with ⟨_, _, rfl⟩ | ⟨_, rfl⟩ <;> exact Or.inl rfl
  case aload_n n => rcases mj_ald_inv (show mj_ald nx x L st M = some q from hs) with ⟨_, _, rfl⟩ | ⟨_, rfl⟩ <;> exact Or.inl rfl
  case istore n => obtain ⟨_, _, _, _, rfl⟩ := mj_ist_inv (show mj_ist nx x L st M = some q from hs); exact Or.inl rfl
  case istore_n n => obtain ⟨_, _, _, _, rfl⟩ := mj_ist_inv (show mj_ist nx x L st M = some q from hs); exact Or.inl rfl
  case astore n => rcases mj_ast_inv (show mj_ast nx x L st M = some q from hs) with ⟨_, _, _, _, rfl⟩ | ⟨_, _, _, rfl⟩ <;> exact Or.inl rfl
  case astore_n n => rcases mj_ast_inv (show mj_ast nx x L st M = some q from hs) with ⟨_, _, _, _, rfl⟩ | ⟨_, _, _, rfl⟩ <;> exact Or.inl rfl
  case iinc n k => obtain ⟨_, _, rfl⟩ := mj_inc_inv (show mj_inc nx x z L st M = some q from hs); exact Or.inl rfl
  case iadd => obtain ⟨_, _, _, _, rfl⟩ := mj_bin_inv (show mj_bin _ nx L st M = some q from hs); exact Or.inl rfl
  case isub => obtain ⟨_, _, _, _, rfl⟩ := mj_bin_inv (show mj_bin _ nx L st M = some q from hs); exact Or.inl rfl
  case imul => obtain ⟨_, _, _, _, rfl⟩ := mj_bin_inv (show mj_bin _ nx L st M = some q from hs); exact Or.inl rfl
  case iand => obtain ⟨_, _, _, _, rfl⟩ := mj_bin_inv (show mj_bin _ nx L st M = some q from hs); exact Or.inl rfl
  case ior => obtain ⟨_, _, _, _, rfl⟩ := mj_bin_inv (show mj_bin _ nx L st M = some q from hs); exact Or.inl rfl
  case ixor => obtain ⟨_, _, _, _, rfl⟩ := mj_bin_inv (show mj_bin _ nx L st M = some q from hs); exact Or.inl rfl
  case ishl => obtain ⟨_, _, _, _, rfl⟩ := mj_bin_inv (show mj_bin _ nx L st M = some q from hs); exact Or.inl rfl
  case ishr => obtain ⟨_, _, _, _, rfl⟩ := mj_bin_inv (show mj_bin _ nx L st M = some q from hs); exact Or.inl rfl
  case idiv => obtain ⟨_, _, _, _, _, rfl⟩ := mj_div_inv (show mj_div _ nx L st M = some q from hs); exact Or.inl rfl
  case irem => obtain ⟨_, _, _, _, _, rfl⟩ := mj_div_inv (show mj_div _ nx L st M = some q from hs); exact Or.inl rfl
  case ineg => obtain ⟨_, _, _, rfl⟩ := mj_una_inv (show mj_una _ nx L st M = some q from hs); exact Or.inl rfl
  case i2c => obtain ⟨_, _, _, rfl⟩ := mj_una_inv (show mj_una _ nx L st M = some q from hs); exact Or.inl rfl
  case goto o => obtain rfl := Option.some.inj (show some _ = some q from hs); exact Or.inl rfl
  case ifCond k o => obtain ⟨_, _, _, rfl⟩ := mj_if1_inv (show mj_if1 k nx x L st M = some q from hs); exact Or.inl rfl
  case if_icmp k o => obtain ⟨_, _, _, _, rfl⟩ := mj_if2_inv (show mj_if2 k nx x L st M = some q from hs); exact Or.inl rfl
  case ifnull o => rcases mj_ifn_inv (show mj_ifn x nx L st M = some q from hs) with ⟨_, _, rfl⟩ | ⟨_, _, _, rfl⟩ <;> exact Or.inl rfl
  case ifnonnull o => rcases mj_ifn_inv (show mj_ifn nx x L st M = some q from hs) with ⟨_, _, rfl⟩ | ⟨_, _, _, rfl⟩ <;> exact Or.inl rfl
  case getfield n => obtain ⟨_, _, _, _, _, rfl⟩ := mj_get_inv (show mj_get nx x y w L st M = some q from hs); exact Or.inl rfl
  case putfield n => rcases mj_put_inv (show mj_put nx x y w L st M = some q from hs) with ⟨_, _, _, _, _, _, _, rfl⟩ | ⟨_, _, _, _, _, _, rfl⟩ | ⟨_, _, _, _, _, _, _, rfl⟩ <;> exact Or.inl rfl
  case iaload => obtain ⟨_, _, _, _, _, _, _, _, _, rfl⟩ := mj_iald_inv (show mj_iald nx L st M = some q from hs); exact Or.inl rfl
  case iastore => obtain ⟨_, _, _, _, _, _, _, _, rfl⟩ := mj_past_inv (show mj_past 65 (fun v => v) nx L st M = some q from hs); exact Or.inl rfl
  case bastore => obtain ⟨_, _, _, _, _, _, _, _, rfl⟩ := mj_past_inv (show mj_past 66 (fun v => v &&& 1) nx L st M = some q from hs); exact Or.inl rfl
  case castore => obtain ⟨_, _, _, _, _, _, _, _, rfl⟩ := mj_past_inv (show mj_past 67 (fun v => v.toUInt32.toUInt16.toUInt32.toInt32) nx L st M = some q from hs); exact Or.inl rfl
  case baload => obtain ⟨_, _, _, _, _, _, _, rfl⟩ := mj_pald_inv (show mj_pald 66 nx L st M = some q from hs); exact Or.inl rfl
  case caload => obtain ⟨_, _, _, _, _, _, _, rfl⟩ := mj_pald_inv (show mj_pald 67 nx L st M = some q from hs); exact Or.inl rfl
  case dup2 => obtain ⟨_, _, _, _, _, _, rfl⟩ := mj_dup2_inv (show mj_dup2 nx L st M = some q from hs); exact Or.inl rfl
  case aaload => obtain ⟨_, _, _, _, _, _, _, _, _, rfl⟩ := mj_aald_inv (show mj_aald nx L st M = some q from hs); exact Or.inl rfl
  case aastore => obtain ⟨_, _, _, _, _, _, _, _, _, _, _, _, rfl⟩ := mj_aast_inv (show mj_aast nx L st M = some q from hs); exact Or.inl rfl
  case arraylength => obtain ⟨_, _, _, _, _, _, _, rfl⟩ := mj_len_inv (show mj_len nx L st M = some q from hs); exact Or.inl rfl
  case new n => obtain rfl := Option.some.inj (show some (nx, L, Value.ref M.1.length :: st, mj_add M x y) = some q from hs); exact Or.inr ⟨x, y, rfl⟩
  case newarray t => obtain ⟨k, _, _, _, _, rfl⟩ := mj_nar_inv (show mj_nar nx x L st M = some q from hs); exact Or.inr ⟨x, k.toNatClampNeg, rfl⟩
  case anewarray n => obtain ⟨k, _, _, _, _, rfl⟩ := mj_nar_inv (show mj_nar nx x L st M = some q from hs); exact Or.inr ⟨x, k.toNatClampNeg, rfl⟩
  case dup => obtain ⟨_, _, _, _, rfl⟩ := mj_dup_inv (show mj_dup nx L st M = some q from hs); exact Or.inl rfl
  case dup_x1 => obtain ⟨_, _, _, _, _, _, rfl⟩ := mj_dx1_inv (show mj_dx1 nx L st M = some q from hs); exact Or.inl rfl
  case pop => obtain ⟨_, _, _, _, rfl⟩ := mj_pop_inv (show mj_pop nx L st M = some q from hs); exact Or.inl rfl
  case invokespecial n => obtain ⟨_, _, rfl⟩ := mj_obj_inv (show mj_obj nx L st M = some q from hs); exact Or.inl rfl
  case lookupswitch d ps => obtain ⟨_, _, _, rfl⟩ := mj_sw_inv (show mj_sw x tb L st M = some q from hs); exact Or.inl rfl
  case tableswitch d lo hi ps => obtain ⟨_, _, _, rfl⟩ := mj_sw_inv (show mj_sw x tb L st M = some q from hs); exact Or.inl rfl
  case i2l => obtain ⟨_, _, _, rfl⟩ := mj_i2l_inv (show mj_i2l nx L st M = some q from hs); exact Or.inl rfl
  case ladd => obtain ⟨_, _, _, _, rfl⟩ := mj_lbin_inv (show mj_lbin _ nx L st M = some q from hs); exact Or.inl rfl
  case lmul => obtain ⟨_, _, _, _, rfl⟩ := mj_lbin_inv (show mj_lbin _ nx L st M = some q from hs); exact Or.inl rfl
  case lcmp => obtain ⟨_, _, _, _, rfl⟩ := mj_lcmp_inv (show mj_lcmp nx L st M = some q from hs); exact Or.inl rfl
  all_goals exact absurd (show (none : Option mj_C) = some q from hs) (by intro h; cases h)
theorem mj_step_mono {E : mj_E} {L st : List Value} {M : mj_H} {q : mj_C} (hs : mj_step E L st M = some q) : M.1.length ≤ q.2.2.2.1.length ∧ mj_sl M ≤ mj_sl q.2.2.2 := by
  rcases mj_step_sh hs with h | ⟨t, n, h⟩
  · unfold mj_sl
    rw [h]
    exact ⟨Nat.le_refl _, Nat.le_refl _⟩
  · unfold mj_sl
    rw [h]
    simp
theorem mj_ret_same {rk : Nat} {st : List Value} {M M' : mj_H} {r : Option Value} (h : mj_ret rk st M = some (r, M')) : M' = M := by
  unfold mj_ret at h
  split at h <;> first | (split at h <;> first | (cases h; rfl) | cases h) | cases h
theorem mj_x_mono (P : mj_P) : ∀ (n f pc : Nat) (L st : List Value) (M M' : mj_H) (r : Option Value), mj_x P n f pc L st M = some (r, M') → M.1.length ≤ M'.1.length ∧ mj_sl M ≤ mj_sl M' := by
  intro n
  induction n with
  | zero => intro f pc L st M M' r h; simp [mj_x] at h
  | succ n ih =>
    intro f pc L st M M' r h
    unfold mj_x at h
    cases hE : P.1 f pc with
    | none => rw [hE] at h; simp at h
    | some E =>
      rw [hE] at h
      simp only at h
      by_cases h7 : E.2.2.2.2.1 = 7
      · rw [if_pos h7] at h
        by_cases hc : mj_cok (P.2 E.2.2.1).1 (P.2 E.2.2.1).2.2.2 st M = true
        · rw [if_pos hc] at h
          cases h1 : mj_x P n E.2.2.1 0 (mj_ent (P.2 E.2.2.1).2.1 (st.take (P.2 E.2.2.1).1).reverse) [] M with
          | none => rw [h1] at h; simp at h
          | some q =>
            obtain ⟨v, M1⟩ := q
            rw [h1] at h
            simp only at h
            have a1 := ih _ _ _ _ _ _ _ h1
            have a2 := ih _ _ _ _ _ _ _ h
            exact ⟨Nat.le_trans a1.1 a2.1, Nat.le_trans a1.2 a2.2⟩
        · rw [if_neg hc] at h; simp at h
      · rw [if_neg h7] at h
        by_cases h8 : E.2.2.2.2.1 = 8
        · rw [if_pos h8] at h
          rw [mj_ret_same h]
          exact ⟨Nat.le_refl _, Nat.le_refl _⟩
        · rw [if_neg h8] at h
          cases hs : mj_step E L st M with
          | none => rw [hs] at h; simp at h
          | some q =>
            obtain ⟨pc', L', st', M1⟩ := q
            rw [hs] at h
            simp only at h
            have a1 := mj_step_mono hs
            have a2 := ih _ _ _ _ _ _ _ h
            exact ⟨Nat.le_trans a1.1 a2.1, Nat.le_trans a1.2 a2.2⟩
/-- what the tables must hold for a call, for a return, for a method -/
def mj_ckc (cl : List vw_C) (Ts : List Jvm.Cond) (NM : List (String × Nat × MethodName × String)) (P : mj_P) (nM : Nat) (Mt : Nat → MethodName × ByteArray × Option FieldType) (rf : Nat → Nat × Nat) (rm : Nat × Nat) (own : String) (cc : ByteArray) (pc : Nat) (E : mj_E) : Prop :=
  match E with
  | (i, nx, x, _, _, _, _) => decode cc pc = .ok (i, nx - pc) ∧ nx = pc + 3 ∧ x < nM ∧ ((rf x).1 + 1 ≤ rm.1 ∧ 8 + ((P.2 x).2.1 + 11) + (rf x).2 ≤ rm.2) ∧
  match i with
  | .invokestatic n => (P.2 x).2.2.2 = 1000 ∧ Jvm.Cond.static (Mt x).1 ∈ Ts ∧ (parseMethodDescriptor (Mt x).1.desc).map (fun d => d.parameters.length) = some (P.2 x).1 ∧ (Jvm.Cond.methodLink own n (Mt x).1 ∈ Ts ∨ ∃ host, (own, n, (Mt x).1, host) ∈ NM)
  | .invokevirtual n => ∃ T N k, (P.2 x).2.2.2 ≠ 1000 ∧ (P.2 x).2.2.2 ≠ 1001 ∧ cl[(P.2 x).2.2.2]? = some ((Mt x).1.cls, T, N) ∧ (P.2 x).1 = k + 1 ∧ Jvm.Cond.instanceMethod (Mt x).1 ∈ Ts ∧ Jvm.Cond.selects (Mt x).1.cls (Mt x).1 (Mt x).1 ∈ Ts ∧ (parseMethodDescriptor (Mt x).1.desc).map (fun d => d.parameters.length) = some k ∧ (Jvm.Cond.methodLink own n (Mt x).1 ∈ Ts ∨ ∃ host, (own, n, (Mt x).1, host) ∈ NM)
  | .invokespecial n => ∃ k, (P.2 x).2.2.2 = 1001 ∧ (P.2 x).1 = k + 1 ∧ (Mt x).1.name = "<init>" ∧ (Mt x).2.2 = none ∧ Jvm.Cond.instanceMethod (Mt x).1 ∈ Ts ∧ (parseMethodDescriptor (Mt x).1.desc).map (fun d => d.parameters.length) = some k ∧ (Jvm.Cond.methodLink own n (Mt x).1 ∈ Ts ∨ ∃ host, (own, n, (Mt x).1, host) ∈ NM)
  | _ => False
def mj_ckr (rk : Nat) (cc : ByteArray) (pc : Nat) (E : mj_E) : Prop :=
  (rk = 0 ∨ rk = 1 → decode cc pc = .ok (.ireturn, 1)) ∧ (rk = 2 → decode cc pc = .ok (.areturn, 1)) ∧ (rk = 3 → decode cc pc = .ok (.lreturn, 1)) ∧ (rk = 4 → decode cc pc = .ok (.return_, 1))
def mj_rkok (rk : Nat) (ret : Option FieldType) : Prop := (rk = 0 → ret = some .int) ∧ (rk = 1 → ret = some .boolean) ∧ (rk = 2 → ∃ t, ret = some t ∧ ((∃ n, t = FieldType.object n) ∨ ∃ u, t = FieldType.array u)) ∧ (rk = 3 → ret = some .long) ∧ (rk = 4 → ret = none)
def mj_mok (Ts : List Jvm.Cond) (P : mj_P) (Mt : Nat → MethodName × ByteArray × Option FieldType) (f : Nat) : Prop :=
  plainName (Mt f).1.cls = true ∧ Jvm.Cond.code (Mt f).1 (Mt f).2.1 (P.2 f).2.1 (Mt f).2.2 ∈ Ts ∧ Jvm.Cond.initialized (Mt f).1.cls ∈ Ts ∧ ((Mt f).1.cls ≠ "java/lang/invoke/MethodHandle" ∧ (Mt f).1.cls ≠ "java/lang/invoke/VarHandle") ∧ (P.2 f).1 ≤ (P.2 f).2.1 ∧ mj_rkok (P.2 f).2.2.1 (Mt f).2.2
def mj_chk (cl : List vw_C) (Ts : List Jvm.Cond) (tys : List (Nat × FieldType)) (NF : List (String × Nat × String × String × String × String)) (NM : List (String × Nat × MethodName × String)) (AO : List String) (P : mj_P) (nM : Nat) (Mt : Nat → MethodName × ByteArray × Option FieldType) (rf : Nat → Nat × Nat) (f pc : Nat) (E : mj_E) : Prop :=
  (E.2.2.2.2.1 = 7 → mj_ckc cl Ts NM P nM Mt rf (rf f) (Mt f).1.cls (Mt f).2.1 pc E) ∧ (E.2.2.2.2.1 = 8 → mj_ckr (P.2 f).2.2.1 (Mt f).2.1 pc E) ∧ (E.2.2.2.2.1 ≠ 7 → E.2.2.2.2.1 ≠ 8 → mj_ck cl Ts tys NF AO (rf f) (Mt f).1.cls (Mt f).1.name (Mt f).2.1 pc E)
def mj_mck (cl : List vw_C) (Ts : List Jvm.Cond) (tys : List (Nat × FieldType)) (NF : List (String × Nat × String × String × String × String)) (NM : List (String × Nat × MethodName × String)) (AO : List String) (P : mj_P) (nM : Nat) (Mt : Nat → MethodName × ByteArray × Option FieldType) (rf : Nat → Nat × Nat) (f : Nat) : Prop :=
  ∀ pc E, P.1 f pc = some E → mj_chk cl Ts tys NF NM AO P nM Mt rf f pc E
section MJO
variable {cl : List vw_C} {Ts : List Jvm.Cond} {tys : List (Nat × FieldType)} {NF : List (String × Nat × String × String × String × String)} {NM : List (String × Nat × MethodName × String)} {AO : List String} {P : mj_P} {nM : Nat} {Mt : Nat → MethodName × ByteArray × Option FieldType} {rf : Nat → Nat × Nat} {f pc : Nat} {E : mj_E}
theorem mj_o0 (h7 : ¬ E.2.2.2.2.1 = 7) (h8 : ¬ E.2.2.2.2.1 = 8) (h : mj_ck cl Ts tys NF AO (rf f) (Mt f).1.cls (Mt f).1.name (Mt f).2.1 pc E) : mj_chk cl Ts tys NF NM AO P nM Mt rf f pc E := ⟨fun e => absurd e h7, fun e => absurd e h8, fun _ _ => h⟩
theorem mj_o7 (h7 : E.2.2.2.2.1 = 7) (h : mj_ckc cl Ts NM P nM Mt rf (rf f) (Mt f).1.cls (Mt f).2.1 pc E) : mj_chk cl Ts tys NF NM AO P nM Mt rf f pc E := ⟨fun _ => h, fun e => by omega, fun e => absurd h7 e⟩
theorem mj_o8 (h8 : E.2.2.2.2.1 = 8) (h : mj_ckr (P.2 f).2.2.1 (Mt f).2.1 pc E) : mj_chk cl Ts tys NF NM AO P nM Mt rf f pc E := ⟨fun e => by omega, fun _ => h, fun _ e => absurd h8 e⟩
end MJO
/-- a method's end -/
def mj_Q (D : va_G) (cl : List vw_C) (tys : List (Nat × FieldType)) (b sz : Nat) (scr : Cell) (r : Option Value) (M : mj_H) : Array Value → State → Outcome → State → Prop := fun _ _ oc t => oc = .returned (r.map (mj_tv b sz)) ∧ mj_Rel D cl tys b sz scr M t.heap
theorem mj_sl_val {vs : List Value} (h : ∀ v ∈ vs, v.category = 1) : lg_sl vs = vs.map Slot.val := by
  induction vs with
  | nil => rfl
  | cons v vs ih =>
    have h1 := h v List.mem_cons_self
    have h2 := ih fun u hu => h u (List.mem_cons_of_mem _ hu)
    simp only [lg_sl, List.flatMap_cons, List.map_cons] at h2 ⊢
    rw [h2, if_neg (by omega)]
    rfl
theorem mj_args_in {u : Value} : ∀ (vs : List Value) (k i : Nat), (∀ v ∈ vs, v.category = 1) → vs[i]? = some u → (k + i, u) ∈ lv_args k vs := by
  intro vs
  induction vs with
  | nil => intro k i _ h; simp at h
  | cons v vs ih =>
    intro k i hc h
    have h1 := hc v List.mem_cons_self
    simp only [lv_args]
    rw [if_neg (by omega)]
    cases i with
    | zero =>
      simp at h
      subst h
      exact List.mem_cons_self
    | succ i =>
      simp only [List.getElem?_cons_succ] at h
      have := ih (k + 1) i (fun w hw => hc w (List.mem_cons_of_mem _ hw)) h
      rw [show k + 1 + i = k + (i + 1) by omega] at this
      exact List.mem_cons_of_mem _ this
theorem mj_L.entry (b sz mL : Nat) {as : List Value} (hv : ∀ v ∈ as, mj_V v = true) (hl : as.length ≤ mL) : mj_L b sz ((lg_sl (as.map (mj_tv b sz)) ++ List.replicate (mL - (lg_sl (as.map (mj_tv b sz))).length) Slot.unset).toArray) mL (mj_ent mL as) := by
  have hc : ∀ v ∈ as.map (mj_tv b sz), v.category = 1 := by
    intro v h
    obtain ⟨u, hu, rfl⟩ := List.mem_map.mp h
    rw [mj_tv_cat]
    exact mj_V_cat (hv u hu)
  have hlen : (lg_sl (as.map (mj_tv b sz))).length = as.length := by rw [mj_sl_val hc]; simp
  obtain ⟨e1, e2, e3⟩ := lv_entry (as.map (mj_tv b sz)) (n := mL) (by rw [hlen]; exact hl)
  refine ⟨by simp [mj_ent]; omega, e1, e2, fun i v hi hV => ?_⟩
  by_cases h : i < as.length
  · have hi' : as[i]? = some v := by
      unfold mj_ent at hi
      rwa [List.getElem?_append_left h] at hi
    have := mj_args_in (u := mj_tv b sz v) (as.map (mj_tv b sz)) 0 i hc (by rw [List.getElem?_map, hi']; rfl)
    rw [Nat.zero_add] at this
    exact e3 (i, mj_tv b sz v) this
  · unfold mj_ent at hi
    rw [List.getElem?_append_right (by omega)] at hi
    obtain ⟨h1, h2⟩ := List.getElem?_eq_some_iff.mp hi
    rw [List.getElem_replicate] at h2
    subst h2
    simp [mj_V] at hV
section MJR
variable {D : va_G} {cl : List vw_C} {Ts : List Jvm.Cond} {tys : List (Nat × FieldType)} {NF : List (String × Nat × String × String × String × String)} {NM : List (String × Nat × MethodName × String)} {AO : List String} {b sz : Nat} {scr : Cell} {P : mj_P} {nM : Nat} {Mt : Nat → MethodName × ByteArray × Option FieldType} {rf : Nat → Nat × Nat}
variable {p : Program} {l : Launch} {e : Env} {R : Room} {s : State} {m : MethodId} {args : Array Value} {below : List Frame} {meth : Method} {c : Code} {H : Heap} {locs : List Loc} {cells slots : Nat} {Q : State → Prop}
variable {cc : ByteArray} {pc : Nat} {ls : Array Slot} {st rest : List Value} {M : mj_H}
theorem mj_ret_ok {rk : Nat} {ret : Option FieldType} {E : mj_E} {r : Option Value} {Qc : Array Value → State → Outcome → State → Prop} {free : Addr → Prop} (hx : p.tables.exec = Jvm.exec) (hb : c.code = cc) (hck : mj_ckr rk cc pc E) (hret : mj_ret rk st M = some (r, M)) (hr : meth.sig.returnType = ret) (hrk : mj_rkok rk ret) (hlocks : meth.locks = false)
    (hq : ∀ t : State, t.heap = H → s.WarmedH t.vm → Qc args s (.returned (r.map (mj_tv b sz))) t) (hf : ∀ q ∈ locs, free q.base) : W p l e R s m args below meth c H locs cells slots (MQ below Qc args s cells slots free) (F0 m pc ls (st.map (mj_tv b sz))) := by
  obtain ⟨k0, k1, k2, k3, k4⟩ := hrk
  obtain ⟨c0, c2, c3, c4⟩ := hck
  unfold mj_ret at hret
  split at hret
  · split at hret
    · rename_i h4
      cases hret
      exact W.vret hx hb (hr.trans (k4 h4)) hq hf (c4 h4)
    · cases hret
  · split at hret
    · rename_i v h4
      cases hret
      rcases h4 with h4 | ⟨h4, hv⟩
      · exact W.iret hx hb (hr.trans (k0 h4)) hq hf (c0 (Or.inl h4))
      · exact W.zret hx hb (hr.trans (k1 h4)) (by rcases hv with rfl | rfl <;> first | exact narrow_b0 | exact narrow_b1) hq hf (c0 (Or.inr h4))
    · cases hret
  · split at hret
    · rename_i h4
      cases hret
      exact W.lret hx hb (hr.trans (k3 h4)) hq hf (c3 h4)
    · cases hret
  · split at hret
    · rename_i h4
      cases hret
      obtain ⟨t, h1, h2⟩ := k2 h4
      exact W.aret hx hb (hr.trans h1) h2 (Or.inr ⟨_, rfl⟩) hq hf (c2 h4)
    · cases hret
  · split at hret
    · rename_i h4
      cases hret
      obtain ⟨t, h1, h2⟩ := k2 h4
      exact W.aret hx hb (hr.trans h1) h2 (Or.inl rfl) hq hf (c2 h4)
    · cases hret
  · cases hret
theorem mj_callk {mc ms : Nat} {st0 : List Value} {Qa : State → Outcome → State → Prop} {free : Addr → Prop} (hr : va_Run p l e R s m args below meth c H locs cells slots mc ms (F0 m pc ls st0) rest Qa free)
    (kk : ∀ (v : Option Value) (st₀ t : State) (L : List Loc), Qa st₀ (.returned v) t → (∀ q ∈ L, free q.base) → W p l e R s m args below meth c t.heap (locs ++ L) (cells + mc) (slots + ms) Q (F0 m (pc + 3) ls (v.toList ++ rest))) : W p l e R s m args below meth c H locs cells slots Q (F0 m pc ls st0) := by
  intro T hT X
  obtain ⟨v, st₀, t, T', L, h0, X', hL, e1, e2, hq, st⟩ := hr T hT X
  obtain ⟨t2, a1, b1⟩ := kk v st₀ t L hq hL T' e1 X'
  exact ⟨t2, st t2 a1, b1⟩
theorem mj_good {ws : List Jvm.Cond} (hgd : ∀ w ∈ Ts, (w.onTables && w.keeps) = true ∨ ∃ ty, w = Jvm.Cond.arrayClass ty) (h : ∀ w ∈ ws, w ∈ Ts) : GoodIn Ts ws := fun w hw => ⟨h w hw, hgd w (h w hw)⟩
theorem mj_cok_spec {k rc : Nat} {st : List Value} {M : mj_H} (h : mj_cok k rc st M = true) : k ≤ st.length ∧ (∀ v ∈ st.take k, mj_V v = true) ∧ ((st.drop k).map fun v => v.category).sum ≤ 8 ∧ (rc = 1000 ∨ ∃ a, st[k - 1]? = some (.ref a) ∧ (rc = 1001 ∨ ∃ n, M.1[a]? = some (rc, n))) := by
  unfold mj_cok at h
  simp only [Bool.and_eq_true, Bool.or_eq_true, decide_eq_true_eq] at h
  obtain ⟨⟨⟨h1, h2⟩, h3⟩, h4⟩ := h
  refine ⟨h1, List.all_eq_true.mp h2, h3, ?_⟩
  rcases h4 with h4 | h4
  · exact Or.inl h4
  · right
    split at h4
    · rename_i a ha
      refine ⟨a, ha, ?_⟩
      simp only [Bool.or_eq_true, decide_eq_true_eq] at h4
      rcases h4 with h4 | h4
      · exact Or.inl h4
      · right
        split at h4
        · rename_i t n ht
          simp only [decide_eq_true_eq] at h4
          subst h4
          exact ⟨n, ht⟩
        · cases h4
    · cases h4
theorem mj_split {k a : Nat} {st : List Value} (h : st[k]? = some (.ref a)) : st = st.take k ++ .ref a :: st.drop (k + 1) ∧ st.take (k + 1) = st.take k ++ [.ref a] := by
  obtain ⟨hk, he⟩ := List.getElem?_eq_some_iff.mp h
  have h2 : st.take (k + 1) = st.take k ++ [.ref a] := by rw [List.take_succ, h]; rfl
  refine ⟨?_, h2⟩
  have h3 := (List.take_append_drop (k + 1) st).symm
  rw [h2] at h3
  rw [List.append_assoc] at h3
  exact h3
set_option maxHeartbeats 4000000 in
theorem mj_run_ok (hcl : ∀ t q, cl[t]? = some q → t < 64 ∧ mj_clok Ts q) (hgd : ∀ w ∈ Ts, (w.onTables && w.keeps) = true ∨ ∃ ty, w = Jvm.Cond.arrayClass ty) (hm : ∀ f, f < nM → mj_mok Ts P Mt f) (hk : ∀ f, f ≤ nM → mj_mck cl Ts tys NF NM AO P nM Mt rf f) :
    ∀ (n f pc : Nat) (L st : List Value) (M M' : mj_H) (r : Option Value), mj_x P n f pc L st M = some (r, M') → f ≤ nM →
    ∀ (p : Program) (e : Env) (R : Room) (s : State) (m : MethodId) (args : Array Value) (below : List Frame) (meth : Method) (c : Code) (H : Heap) (locs : List Loc) (cells slots : Nat) (Q : State → Prop) (ls : Array Slot),
    p.tables.exec = Jvm.exec → c.code = (Mt f).2.1 → c.maxLocals = (P.2 f).2.1 → s.vm.findClass (Mt f).1.cls = some m.cls → (∀ w ∈ Ts, w.before args s = true) → mj_K D cl tys NF NM AO scr s → ((Mt f).1.name = "<init>" → meth.name = "<init>") →
    (rf f).1 ≤ R.frames → (rf f).2 ≤ R.locals → mj_L b sz ls (P.2 f).2.1 L → mj_Rel D cl tys b sz scr M H → (∀ k ∈ locs, sz ≤ k.base) → cells + M'.1.length ≤ R.cells + M.1.length → slots + mj_sl M' ≤ R.slots + mj_sl M →
    (∀ (pc' : Nat) (E : mj_E) (ls' : Array Slot) (st' : List Value) (H' : Heap) (locs' : List Loc) (cells' slots' : Nat), P.1 f pc' = some E → E.2.2.2.2.1 = 8 → mj_ret (P.2 f).2.2.1 st' M' = some (r, M') → mj_Rel D cl tys b sz scr M' H' → (∀ k ∈ locs', sz ≤ k.base) → cells' + M.1.length = cells + M'.1.length → slots' + mj_sl M = slots + mj_sl M' →
      W p l e R s m args below meth c H' locs' cells' slots' Q (F0 m pc' ls' (st'.map (mj_tv b sz)))) →
    W p l e R s m args below meth c H locs cells slots Q (F0 m pc ls (st.map (mj_tv b sz))) := by
  intro n
  induction n with
  | zero => intro f pc L st M M' r h; simp [mj_x] at h
  | succ n ih =>
    intro f pc L st M M' r h hf p e R s m args below meth c H locs cells slots Q ls hx hb hml hown hts hK hin0 hfr hlo hL hR hl hrc hrs kret
    unfold mj_x at h
    cases hE : P.1 f pc with
    | none => rw [hE] at h; simp at h
    | some E =>
      rw [hE] at h
      simp only at h
      obtain ⟨ck7, ck8, ck0⟩ := hk f hf pc E hE
      by_cases h7 : E.2.2.2.2.1 = 7
      · rw [if_pos h7] at h
        by_cases hc : mj_cok (P.2 E.2.2.1).1 (P.2 E.2.2.1).2.2.2 st M = true
        · rw [if_pos hc] at h
          cases h1 : mj_x P n E.2.2.1 0 (mj_ent (P.2 E.2.2.1).2.1 (st.take (P.2 E.2.2.1).1).reverse) [] M with
          | none => rw [h1] at h; simp at h
          | some q =>
            obtain ⟨v, M1⟩ := q
            rw [h1] at h
            simp only at h
            have ck := ck7 h7
            obtain ⟨i, nx, g, y, w, z, tb⟩ := E
            obtain ⟨hd, rfl, hg, hrm, ck⟩ := ck
            rw [Nat.add_sub_cancel_left] at hd
            dsimp only at h h1 hc
            obtain ⟨c1, c2, c3, c4⟩ := mj_cok_spec hc
            obtain ⟨gplain, gcode, gini, gmh, gkm, grk⟩ := hm g hg
            have gcks := hk g (Nat.le_of_lt hg)
            have mo1 := mj_x_mono P _ _ _ _ _ _ _ _ h1
            have mo2 := mj_x_mono P _ _ _ _ _ _ _ _ h
            generalize has : (st.take (P.2 g).1).reverse = as at h1
            have hasV : ∀ u ∈ as, mj_V u = true := fun u hu => c2 u (by rw [← has] at hu; exact List.mem_reverse.mp hu)
            have hasL : as.length ≤ (P.2 g).2.1 := by rw [← has, List.length_reverse, List.length_take]; omega
            have hMet : Met l (Mt g).1 (Jvm.Cond.code (Mt g).1 (Mt g).2.1 (P.2 g).2.1 (Mt g).2.2 :: Ts) { frames := (rf g).1, cells := M1.1.length - M.1.length, slots := mj_sl M1 - mj_sl M, locals := (rf g).2 }
                (va_Pc (as.map (mj_tv b sz)) (fun U => mj_K D cl tys NF NM AO scr U ∧ mj_Rel D cl tys b sz scr M U.heap)) (mj_Q D cl tys b sz scr v M1) (M1.1.length - M.1.length) (mj_sl M1 - mj_sl M) (fun q => sz ≤ q) := by
              refine Met.ofW (cc := (Mt g).2.1) (maxL := (P.2 g).2.1) (ret := (Mt g).2.2) gplain rfl ?_
              intro p e s m args below meth c s₁ B hml hv
              obtain ⟨rfl, hK, hR⟩ := hv
              rw [lg_entry_eq]
              have hts := atoms_spec (ws := Jvm.Cond.code (Mt g).1 (Mt g).2.1 (P.2 g).2.1 (Mt g).2.2 :: Ts) B.pre
              refine ih g 0 _ [] M M1 v h1 (Nat.le_of_lt hg) p e _ s m _ below meth c s.heap [] 0 0 _ _ B.exec B.bytes hml (findClass_of_methodNamed B.named) (fun w h => hts w (List.mem_cons_of_mem _ h)) hK (fun h => (name_of_methodNamed B.named B.method).1.trans h) (Nat.le_refl _) (Nat.le_refl _) (mj_L.entry b sz _ hasV hasL) hR (fun k h => by cases h) (by show 0 + M1.1.length ≤ (M1.1.length - M.1.length) + M.1.length; omega) (by show 0 + mj_sl M1 ≤ (mj_sl M1 - mj_sl M) + mj_sl M; omega) ?_
              intro pc' E' ls' st' H' locs' cells' slots' hE' h8 hret hR' hl' hc' hs'
              have e1 : cells' = M1.1.length - M.1.length := by omega
              have e2 : slots' = mj_sl M1 - mj_sl M := by omega
              subst e1; subst e2
              exact mj_ret_ok B.exec B.bytes ((gcks pc' E' hE').2.1 h8) hret B.returns grk B.notSynchronized (fun t ht _ => ⟨rfl, by rw [ht]; exact hR'⟩) hl'
            have hblind : FrameBlind (va_Pc (as.map (mj_tv b sz)) (fun U => mj_K D cl tys NF NM AO scr U ∧ mj_Rel D cl tys b sz scr M U.heap)) := fun a U g mk q => ⟨q.1, mj_K.same (s := U) (U := U.calling g mk a) rfl q.2.1, q.2.2⟩
            have hGd : GoodIn Ts (Jvm.Cond.code (Mt g).1 (Mt g).2.1 (P.2 g).2.1 (Mt g).2.2 :: Ts) := mj_good hgd (fun w h => by
              rcases List.mem_cons.mp h with rfl | h
              · exact gcode
              · exact h)
            have hRm : (rf g).1 + 1 ≤ R.frames ∧ 8 + ((P.2 g).2.1 + 11) + (rf g).2 ≤ R.locals := ⟨Nat.le_trans hrm.1 hfr, Nat.le_trans hrm.2 hlo⟩
            have S : CallFix p m c (Mt f).2.1 (P.2 f).2.1 s args Ts (Mt f).1.cls := ⟨hx, hb, hml, hown, hts⟩
            have hcap : cells + (M1.1.length - M.1.length) ≤ R.cells ∧ slots + (mj_sl M1 - mj_sl M) ≤ R.slots := by omega
            have hroom := lv_room (m := m) (pc := pc) (ls := ls) (rest := st.map (mj_tv b sz)) (st := (st.drop (P.2 g).1).map (mj_tv b sz)) (by rw [mj_map_cat]; exact c3)
            have hgo : ∀ (v' : Option Value) (st₀ t : State) (L' : List Loc), mj_Q D cl tys b sz scr v M1 (as.map (mj_tv b sz)).toArray st₀ (.returned v') t → (∀ q ∈ L', sz ≤ q.base) → W p l e R s m args below meth c t.heap (locs ++ L') (cells + (M1.1.length - M.1.length)) (slots + (mj_sl M1 - mj_sl M)) Q (F0 m (pc + 3) ls (v'.toList ++ (st.drop (P.2 g).1).map (mj_tv b sz))) := by
              intro v' st₀ t L' hq hL'
              obtain ⟨hv', hR1⟩ := hq
              cases hv'
              have e3 : (v.map (mj_tv b sz)).toList ++ (st.drop (P.2 g).1).map (mj_tv b sz) = (v.toList ++ st.drop (P.2 g).1).map (mj_tv b sz) := by cases v <;> simp
              rw [e3]
              refine ih f (pc + 3) L _ M1 M' r h hf p e R s m args below meth c t.heap (locs ++ L') _ _ Q ls hx hb hml hown hts hK hin0 hfr hlo hL hR1 (fun k hk => by
                rcases List.mem_append.mp hk with h | h
                · exact hl k h
                · exact hL' k h) (by omega) (by omega) ?_
              intro pc' E' ls' st' H' locs' cells' slots' hE' h8 hret hR' hl' hc' hs'
              exact kret pc' E' ls' st' H' locs' cells' slots' hE' h8 hret hR' hl' (by omega) (by omega)
            cases i <;> first | exact False.elim ck | skip
            case invokestatic idx =>
              obtain ⟨s1, s2, s3, s4⟩ := ck
              have hstk : st.map (mj_tv b sz) = (as.map (mj_tv b sz)).reverse ++ (st.drop (P.2 g).1).map (mj_tv b sz) := by
                rw [← has, List.map_reverse, List.reverse_reverse, ← List.map_append, List.take_append_drop]
              have hlen : (as.map (mj_tv b sz)).length = (P.2 g).1 := by rw [List.length_map, ← has, List.length_reverse, List.length_take]; omega
              have hp : PreS s H (va_Pc (as.map (mj_tv b sz)) (fun U => mj_K D cl tys NF NM AO scr U ∧ mj_Rel D cl tys b sz scr M U.heap)) (as.map (mj_tv b sz)) := ⟨hblind, fun U hU hW => ⟨rfl, hK.warm hW, by rw [hU]; exact hR⟩⟩
              rcases s4 with s4 | ⟨host, s4⟩
              · exact mj_callk (va_runS S hMet (va_cwS (P.2 g).1 hts (mj_good hgd (fun w h => by
                  rcases List.mem_append.mp h with h | h
                  · simp only [List.mem_cons, List.not_mem_nil, or_false] at h
                    rcases h with rfl | rfl | rfl
                    · exact s4
                    · exact s2
                    · exact gini
                  · exact (hGd w h).1)) rfl rfl rfl ⟨gmh.1, gmh.2, s3⟩ hRm) hp rfl hlen hL.2.1 hstk hroom hd hcap) hgo
              · exact mj_callk (va_runSN S hMet ⟨va_cnB (P.2 g).1 hts hGd rfl rfl rfl (hK.2.2.2.1 _ s4) (hts _ gini) ⟨gmh.1, gmh.2, s3⟩ hRm, hts _ s2, trivial⟩ hp rfl hlen hL.2.1 hstk hroom hd hcap) hgo
            case invokevirtual idx =>
              obtain ⟨T, N, k, s0, s0', s1, s2, s3, s5, s6, s4⟩ := ck
              rcases c4 with c4 | ⟨a, ha, c4⟩
              · exact absurd c4 s0
              rcases c4 with c4 | ⟨n', hM⟩
              · exact absurd c4 s0'
              rw [s2, Nat.add_sub_cancel] at ha
              obtain ⟨t1, t2⟩ := mj_split ha
              have has2 : as = .ref a :: (st.take k).reverse := by rw [← has, s2, t2, List.reverse_append]; rfl
              subst has2
              have hlt : k < st.length := (List.getElem?_eq_some_iff.mp ha).1
              have hlen : (((st.take k).reverse).map (mj_tv b sz)).length = k := by rw [List.length_map, List.length_reverse, List.length_take]; omega
              have hstk : st.map (mj_tv b sz) = (((st.take k).reverse).map (mj_tv b sz)).reverse ++ .ref (mj_ad b sz a) :: (st.drop (P.2 g).1).map (mj_tv b sz) := by
                rw [List.map_reverse, List.reverse_reverse, s2]
                conv => lhs; rw [t1]
                rw [List.map_append]
                rfl
              have hx64 := (hcl _ _ s1).1
              obtain ⟨-, qq, hqq, -, cell, q1, q2, q3, -⟩ := (hR.2 a _ n' hM).1 hx64
              have hcls := (hK.1.1 _ _ s1).2
              have hp : PreV s H (Mt g).1.cls (mj_ad b sz a) (va_Pc ((Value.ref a :: (st.take k).reverse).map (mj_tv b sz)) (fun U => mj_K D cl tys NF NM AO scr U ∧ mj_Rel D cl tys b sz scr M U.heap)) (((st.take k).reverse).map (mj_tv b sz)) := ⟨hblind, ⟨cell, q1, by rw [q3]; rfl, by rw [q2]; exact hcls.1⟩, fun U hU hW => ⟨rfl, hK.warm hW, by rw [hU]; exact hR⟩⟩
              rcases s4 with s4 | ⟨host, s4⟩
              · exact mj_callk (va_runV S hMet (cwV k hts (mj_good hgd (fun w h => by
                  rcases List.mem_append.mp h with h | h
                  · simp only [List.mem_cons, List.not_mem_nil, or_false] at h
                    rcases h with rfl | rfl | rfl | rfl
                    · exact s4
                    · exact s3
                    · exact s5
                    · exact gini
                  · exact (hGd w h).1)) rfl rfl rfl ⟨rfl, gmh.1, gmh.2, s6⟩ hRm) hp rfl hlen hL.2.1 hstk hroom hd hcap) hgo
              · exact mj_callk (va_runVN S hMet ⟨va_cnB k hts hGd rfl rfl rfl (hK.2.2.2.1 _ s4) (hts _ gini) ⟨gmh.1, gmh.2, s6⟩ hRm, hts _ s3, hts _ s5⟩ hp rfl hlen hL.2.1 hstk hroom hd hcap) hgo
            case invokespecial idx =>
              obtain ⟨k, s1, s2, sn, sr, s3, s6, s4⟩ := ck
              rcases c4 with c4 | ⟨a, ha, -⟩
              · rw [s1] at c4; exact absurd c4 (by decide)
              rw [s2, Nat.add_sub_cancel] at ha
              obtain ⟨t1, t2⟩ := mj_split ha
              have has2 : as = .ref a :: (st.take k).reverse := by rw [← has, s2, t2, List.reverse_append]; rfl
              subst has2
              have hlt : k < st.length := (List.getElem?_eq_some_iff.mp ha).1
              have hlen : (((st.take k).reverse).map (mj_tv b sz)).length = k := by rw [List.length_map, List.length_reverse, List.length_take]; omega
              have hstk : st.map (mj_tv b sz) = (((st.take k).reverse).map (mj_tv b sz)).reverse ++ .ref (mj_ad b sz a) :: (st.drop (P.2 g).1).map (mj_tv b sz) := by
                rw [List.map_reverse, List.reverse_reverse, s2]
                conv => lhs; rw [t1]
                rw [List.map_append]
                rfl
              have hp : PreS s H (va_Pc ((Value.ref a :: (st.take k).reverse).map (mj_tv b sz)) (fun U => mj_K D cl tys NF NM AO scr U ∧ mj_Rel D cl tys b sz scr M U.heap)) (.ref (mj_ad b sz a) :: ((st.take k).reverse).map (mj_tv b sz)) := ⟨hblind, fun U hU hW => ⟨rfl, hK.warm hW, by rw [hU]; exact hR⟩⟩
              rw [sr] at hMet hGd
              rcases s4 with s4 | ⟨host, s4⟩
              · exact mj_callk (va_runI S hMet (cwI k hts hGd rfl rfl rfl (hts _ gini) (hts _ s4) (hts _ s3) sn ⟨gmh.1, gmh.2, s6⟩ hRm) hp rfl hlen hL.2.1 hstk hroom hd hcap) hgo
              · exact mj_callk (va_runIN S hMet ⟨va_cnB k hts hGd rfl rfl rfl (hK.2.2.2.1 _ s4) (hts _ gini) ⟨gmh.1, gmh.2, s6⟩ hRm, sn, hts _ s3⟩ hp rfl hlen hL.2.1 hstk hroom hd hcap) hgo
        · rw [if_neg hc] at h; simp at h
      · rw [if_neg h7] at h
        by_cases h8 : E.2.2.2.2.1 = 8
        · rw [if_pos h8] at h
          have e1 := mj_ret_same h
          subst e1
          exact kret pc E ls st H locs cells slots hE h8 h hR hl rfl rfl
        · rw [if_neg h8] at h
          cases hs : mj_step E L st M with
          | none => rw [hs] at h; simp at h
          | some q =>
            obtain ⟨pc', L', st', M1⟩ := q
            rw [hs] at h
            simp only at h
            have mo1 := mj_step_mono hs
            have mo2 := mj_x_mono P _ _ _ _ _ _ _ _ h
            dsimp only at mo1
            refine mj_step_ok (own := (Mt f).1.cls) (nm := (Mt f).1.name) hcl hx hb hml hown hts hK hin0 hfr hlo (ck0 h7 h8) hs hL hR hl (by dsimp only; omega) (by dsimp only; omega) ?_
            intro ls' H' locs' cells' slots' hL' hR' hl' hc' hs'
            dsimp only at hL' hR' hc' hs' ⊢
            refine ih f pc' L' st' M1 M' r h hf p e R s m args below meth c H' locs' cells' slots' Q ls' hx hb hml hown hts hK hin0 hfr hlo hL' hR' hl' (by omega) (by omega) ?_
            intro pc2 E2 ls2 st2 H2 locs2 cells2 slots2 hE2 h82 hret hR2 hl2 hc2 hs2
            exact kret pc2 E2 ls2 st2 H2 locs2 cells2 slots2 hE2 h82 hret hR2 hl2 (by omega) (by omega)
end MJR
