/-! ===== from a run of the small machine to the claim ===== -/
/-! THE CLAIM OUT OF ONE WALK OF THE LAW'S BODY. Your part is whole_start (and what it stands on); all else here is the same for every law, but numbers. -/
def R_law : String := "LockedTreeLaw"
def lw_P (b : Addr) (xs : List Int32) (args : Array Value) (s : State) : Prop := args = #[.ref b] ∧ s.IntsAt b xs ∧ xs.length ≤ 2560 ∧ (Jvm.Cond.and given_1 narrow_1).before args s = true
def lw_Q (_ : Array Value) (s : State) (o : Outcome) (t : State) : Prop := o = .returned (some (.int 1)) ∧ Framed s o t [] 600000 7302250
def lw_Z (below : List Frame) (a : Array Value) (s : State) : State → Prop := fun t => ∃ o, t.status = .running ∧ Ended t below o ∧ lw_Q a s o t
/-- the law's own end, with 1 on the stack, nothing written that was there before, its room as the claim has it -/
theorem lw_ret {p : Program} {l : Launch} {e : Env} {s : State} {m : MethodId} {below : List Frame} {meth : Method} {c : Code} {b : Nat} (hx : p.tables.exec = Jvm.exec) (hb : c.code = code) (hr : meth.sig.returnType = ret) (hlocks : meth.locks = false) {pc : Nat} {H : Heap} {ls : Array Slot} (hdg : decode code pc = .ok (.ireturn, 1)) : W p l e room_1 s m #[Value.ref b] below meth c H [] 600000 7302250 (lw_Z below #[Value.ref b] s) (F0 m pc ls [.int 1]) := by
  intro T hT X
  obtain ⟨fs, hret, hrun, hended, hW, hframe⟩ := X.leave (v := some (.int 1)) (hlocks := hlocks) (fun h => by rw [hr] at h; cases h)
  have hmeth' : T.vm.method? m = some meth := X.method'
  refine ⟨T.setFrames fs, ?_, .returned (some (.int 1)), hrun, hended, rfl, ⟨_, rfl⟩, hW, hframe⟩
  jvm_step X.here [X.here.top, hx, hb, hdg, hmeth', hr, ret, narrow_b1]
  (try refine ⟨rfl, ?_⟩); (try refine ⟨rfl, ?_⟩)
  first | (intro acts; rw [hret _ acts rfl rfl rfl]) | rw [hret _ _ rfl rfl rfl]
  exact Steps.refl _
/-- what holds at the law's entry: the machine, the code, the tables' words (any of lw_tbl by 'hts w (by decide +kernel)'), the script of L ints xs at the cell b, what the Statement gives of the start (any of its parts by flat_of_before) -/
def lw_At (p : Program) (s : State) (m : MethodId) (meth : Method) (c : Code) (b L : Nat) (xs : Nat → Int32) : Prop :=
  p.tables.exec = Jvm.exec ∧ c.code = code ∧ meth.sig.returnType = ret ∧ c.maxLocals = 4 ∧ s.vm.findClass R_law = some m.cls ∧ (∀ w ∈ lw_tbl, w.before #[Value.ref b] s = true) ∧ va_X b L xs s s.heap ∧ b < s.heap.size ∧ meth.locks = false ∧ (Jvm.Cond.and given_1 narrow_1).before #[Value.ref b] s = true
theorem mj_inTb {w : Jvm.Cond} (i : Nat) (h : tables_1[i]? = some w) : w ∈ lw_tbl := List.mem_append_right _ (List.mem_of_getElem? h)
/-- the small heap at the law's entry: the script alone -/
def mz_0 (L : Nat) (xs : Nat → Int32) : mj_H := ([(64, L)], fun a j => if a = 0 then xs j else 0, fun _ _ => none)
def mz_D (c0 c1 c2 c3 c4 c5 c6 a5 a6 a7 b2 b3 b5 : ClassId) (i0 i1 i2 i3 i4 i5 i6 : Nat → Nat) : va_G := (fun t => match t with
  | 0 => c0
  | 1 => c1
  | 2 => c2
  | 3 => c3
  | 4 => c4
  | 5 => c5
  | 6 => c6
  | 65 => a5
  | 66 => a6
  | 67 => a7
  | 130 => b2
  | 131 => b3
  | _ => b5, fun t => match t with
  | 0 => i0
  | 1 => i1
  | 2 => i2
  | 3 => i3
  | 4 => i4
  | 5 => i5
  | _ => i6)
theorem mz_known {s : State} {args : Array Value} (hts : ∀ w ∈ lw_tbl, w.before args s = true) {scr : Cell} (hA : s.isArrayOf scr .int) (hv : scr.vm ≠ .unknown) : ∃ D : va_G, mj_K D pj_cl pj_tys [] pj_NM pj_AO scr s := by
  have ht2 : ∀ w ∈ mj_Ts, w.before args s = true := fun w h => hts w (List.mem_filter.mp h).1
  obtain ⟨c0, i0, h0⟩ := u_known (T := pj_T0) (N := 7) (n := 7) ht2 cw_0 (hts _ (mj_inTb 10 (by decide +kernel)))
  obtain ⟨c1, i1, h1⟩ := u_known (T := pj_T1) (N := 7) (n := 7) ht2 cw_1 (hts _ (mj_inTb 18 (by decide +kernel)))
  obtain ⟨c2, i2, h2⟩ := u_known (T := pj_T2) (N := 5) (n := 5) ht2 cw_2 (hts _ (mj_inTb 27 (by decide +kernel)))
  obtain ⟨c3, i3, h3⟩ := u_known (T := pj_T3) (N := 5) (n := 5) ht2 cw_3 (hts _ (mj_inTb 58 (by decide +kernel)))
  obtain ⟨c4, i4, h4⟩ := u_known (T := pj_T4) (N := 8) (n := 8) ht2 cw_4 (hts _ (mj_inTb 117 (by decide +kernel)))
  obtain ⟨c5, i5, h5⟩ := u_known (T := pj_T5) (N := 5) (n := 5) ht2 cw_5 (hts _ (mj_inTb 124 (by decide +kernel)))
  obtain ⟨c6, i6, h6⟩ := u_known (T := pj_T6) (N := 23) (n := 23) ht2 cw_6 (hts _ (mj_inTb 531 (by decide +kernel)))
  obtain ⟨a5, ka5, co5, na5, ca5, kd5⟩ := Cond.arrayClass_spec (hts (Jvm.Cond.arrayClass .int) (mj_inTb 57 (by decide +kernel)))
  obtain ⟨a6, ka6, co6, na6, ca6, kd6⟩ := Cond.arrayClass_spec (hts (Jvm.Cond.arrayClass .boolean) (mj_inTb 606 (by decide +kernel)))
  obtain ⟨a7, ka7, co7, na7, ca7, kd7⟩ := Cond.arrayClass_spec (hts (Jvm.Cond.arrayClass .char) (mj_inTb 607 (by decide +kernel)))
  have o2 := hts (Jvm.Cond.arrayOver (.object "LockedTree$Resource")) (mj_inTb 24 (by decide +kernel))
  obtain ⟨cp2, b2, kb2, p2, q2, r2, t2, v2⟩ := Cond.arrayOver_spec o2
  have o3 := hts (Jvm.Cond.arrayOver (.object "LockedTree$Lock")) (mj_inTb 26 (by decide +kernel))
  obtain ⟨cp3, b3, kb3, p3, q3, r3, t3, v3⟩ := Cond.arrayOver_spec o3
  have o5 := hts (Jvm.Cond.arrayOver (.object "LockedTree$Condition")) (mj_inTb 123 (by decide +kernel))
  obtain ⟨cp5, b5, kb5, p5, q5, r5, t5, v5⟩ := Cond.arrayOver_spec o5
  refine ⟨mz_D c0 c1 c2 c3 c4 c5 c6 a5 a6 a7 b2 b3 b5 i0 i1 i2 i3 i4 i5 i6, ⟨fun c q hq => ?_, fun k q hq => ?_⟩, ⟨hA, hv⟩, fun x h => (by cases h), fun x h => ?_, fun C h => ?_⟩
  · have hc : c < 7 := (List.getElem?_eq_some_iff.mp hq).1
    rcases (show c = 0 ∨ c = 1 ∨ c = 2 ∨ c = 3 ∨ c = 4 ∨ c = 5 ∨ c = 6 by omega) with rfl | rfl | rfl | rfl | rfl | rfl | rfl <;> cases hq
    · exact h0
    · exact h1
    · exact h2
    · exact h3
    · exact h4
    · exact h5
    · exact h6
  · have hk : k < 6 := (List.getElem?_eq_some_iff.mp hq).1
    rcases (show k = 0 ∨ k = 1 ∨ k = 2 ∨ k = 3 ∨ k = 4 ∨ k = 5 by omega) with rfl | rfl | rfl | rfl | rfl | rfl <;> cases hq
    · exact ⟨fun n z => ⟨fun k h => (by cases h), ka5, ca5, co5, kd5⟩, na5⟩
    · exact ⟨fun n z => ⟨fun k h => (by cases h), ka6, ca6, co6, kd6⟩, na6⟩
    · exact ⟨fun n z => ⟨fun k h => (by cases h), ka7, ca7, co7, kd7⟩, na7⟩
    · exact ⟨fun n z => ⟨fun k h => (by cases h), kb2, r2, cp2, t2⟩, kb2, cp2, r2, t2, p2, v2⟩
    · exact ⟨fun n z => ⟨fun k h => (by cases h), kb3, r3, cp3, t3⟩, kb3, cp3, r3, t3, p3, v3⟩
    · exact ⟨fun n z => ⟨fun k h => (by cases h), kb5, r5, cp5, t5⟩, kb5, cp5, r5, t5, p5, v5⟩
  · simp only [pj_NM, List.mem_cons, List.not_mem_nil, or_false] at h
    rcases h with rfl | rfl | rfl
    · exact va_Nw.of rfl (hts _ (mj_inTb 28 (by decide +kernel)))
    · exact va_Nw.of rfl (hts _ (mj_inTb 59 (by decide +kernel)))
    · exact va_Nw.of rfl (hts _ (mj_inTb 125 (by decide +kernel)))
  · simp only [pj_AO, List.mem_cons, List.not_mem_nil, or_false] at h
    rcases h with rfl | rfl | rfl
    · exact va_AO.of o2
    · exact va_AO.of o3
    · exact va_AO.of o5
theorem pj_mcks : ∀ f, f ≤ 139 → mj_mck pj_cl mj_Ts pj_tys [] pj_NM pj_AO pj_P 139 pj_Mt pj_rf f := by
  intro f hf
  have h : ∀ g ∈ List.range 140, mj_mck pj_cl mj_Ts pj_tys [] pj_NM pj_AO pj_P 139 pj_Mt pj_rf g := by
    show ∀ g ∈ [0, 1, 2, 3, 4, 5, 6, 7, 8, 9, 10, 11, 12, 13, 14, 15, 16, 17, 18, 19, 20, 21, 22, 23, 24, 25, 26, 27, 28, 29, 30, 31, 32, 33, 34, 35, 36, 37, 38, 39, 40, 41, 42, 43, 44, 45, 46, 47, 48, 49, 50, 51, 52, 53, 54, 55, 56, 57, 58, 59, 60, 61, 62, 63, 64, 65, 66, 67, 68, 69, 70, 71, 72, 73, 74, 75, 76, 77, 78, 79, 80, 81, 82, 83, 84, 85, 86, 87, 88, 89, 90, 91, 92, 93, 94, 95, 96, 97, 98, 99, 100, 101, 102, 103, 104, 105, 106, 107, 108, 109, 110, 111, 112, 113, 114, 115, 116, 117, 118, 119, 120, 121, 122, 123, 124, 125, 126, 127, 128, 129, 130, 131, 132, 133, 134, 135, 136, 137, 138, 139], mj_mck pj_cl mj_Ts pj_tys [] pj_NM pj_AO pj_P 139 pj_Mt pj_rf g
    exact List.forall_mem_cons.mpr ⟨mk_0, List.forall_mem_cons.mpr ⟨mk_1, List.forall_mem_cons.mpr ⟨mk_2, List.forall_mem_cons.mpr ⟨mk_3, List.forall_mem_cons.mpr ⟨mk_4, List.forall_mem_cons.mpr ⟨mk_5, List.forall_mem_cons.mpr ⟨mk_6, List.forall_mem_cons.mpr ⟨mk_7, List.forall_mem_cons.mpr ⟨mk_8, List.forall_mem_cons.mpr ⟨mk_9, List.forall_mem_cons.mpr ⟨mk_10, List.forall_mem_cons.mpr ⟨mk_11, List.forall_mem_cons.mpr ⟨mk_12, List.forall_mem_cons.mpr ⟨mk_13, List.forall_mem_cons.mpr ⟨mk_14, List.forall_mem_cons.mpr ⟨mk_15, List.forall_mem_cons.mpr ⟨mk_16, List.forall_mem_cons.mpr ⟨mk_17, List.forall_mem_cons.mpr ⟨mk_18, List.forall_mem_cons.mpr ⟨mk_19, List.forall_mem_cons.mpr ⟨mk_20, List.forall_mem_cons.mpr ⟨mk_21, List.forall_mem_cons.mpr ⟨mk_22, List.forall_mem_cons.mpr ⟨mk_23, List.forall_mem_cons.mpr ⟨mk_24, List.forall_mem_cons.mpr ⟨mk_25, List.forall_mem_cons.mpr ⟨mk_26, List.forall_mem_cons.mpr ⟨mk_27, List.forall_mem_cons.mpr ⟨mk_28, List.forall_mem_cons.mpr ⟨mk_29, List.forall_mem_cons.mpr ⟨mk_30, List.forall_mem_cons.mpr ⟨mk_31, List.forall_mem_cons.mpr ⟨mk_32, List.forall_mem_cons.mpr ⟨mk_33, List.forall_mem_cons.mpr ⟨mk_34, List.forall_mem_cons.mpr ⟨mk_35, List.forall_mem_cons.mpr ⟨mk_36, List.forall_mem_cons.mpr ⟨mk_37, List.forall_mem_cons.mpr ⟨mk_38, List.forall_mem_cons.mpr ⟨mk_39, List.forall_mem_cons.mpr ⟨mk_40, List.forall_mem_cons.mpr ⟨mk_41, List.forall_mem_cons.mpr ⟨mk_42, List.forall_mem_cons.mpr ⟨mk_43, List.forall_mem_cons.mpr ⟨mk_44, List.forall_mem_cons.mpr ⟨mk_45, List.forall_mem_cons.mpr ⟨mk_46, List.forall_mem_cons.mpr ⟨mk_47, List.forall_mem_cons.mpr ⟨mk_48, List.forall_mem_cons.mpr ⟨mk_49, List.forall_mem_cons.mpr ⟨mk_50, List.forall_mem_cons.mpr ⟨mk_51, List.forall_mem_cons.mpr ⟨mk_52, List.forall_mem_cons.mpr ⟨mk_53, List.forall_mem_cons.mpr ⟨mk_54, List.forall_mem_cons.mpr ⟨mk_55, List.forall_mem_cons.mpr ⟨mk_56, List.forall_mem_cons.mpr ⟨mk_57, List.forall_mem_cons.mpr ⟨mk_58, List.forall_mem_cons.mpr ⟨mk_59, List.forall_mem_cons.mpr ⟨mk_60, List.forall_mem_cons.mpr ⟨mk_61, List.forall_mem_cons.mpr ⟨mk_62, List.forall_mem_cons.mpr ⟨mk_63, List.forall_mem_cons.mpr ⟨mk_64, List.forall_mem_cons.mpr ⟨mk_65, List.forall_mem_cons.mpr ⟨mk_66, List.forall_mem_cons.mpr ⟨mk_67, List.forall_mem_cons.mpr ⟨mk_68, List.forall_mem_cons.mpr ⟨mk_69, List.forall_mem_cons.mpr ⟨mk_70, List.forall_mem_cons.mpr ⟨mk_71, List.forall_mem_cons.mpr ⟨mk_72, List.forall_mem_cons.mpr ⟨mk_73, List.forall_mem_cons.mpr ⟨mk_74, List.forall_mem_cons.mpr ⟨mk_75, List.forall_mem_cons.mpr ⟨mk_76, List.forall_mem_cons.mpr ⟨mk_77, List.forall_mem_cons.mpr ⟨mk_78, List.forall_mem_cons.mpr ⟨mk_79, List.forall_mem_cons.mpr ⟨mk_80, List.forall_mem_cons.mpr ⟨mk_81, List.forall_mem_cons.mpr ⟨mk_82, List.forall_mem_cons.mpr ⟨mk_83, List.forall_mem_cons.mpr ⟨mk_84, List.forall_mem_cons.mpr ⟨mk_85, List.forall_mem_cons.mpr ⟨mk_86, List.forall_mem_cons.mpr ⟨mk_87, List.forall_mem_cons.mpr ⟨mk_88, List.forall_mem_cons.mpr ⟨mk_89, List.forall_mem_cons.mpr ⟨mk_90, List.forall_mem_cons.mpr ⟨mk_91, List.forall_mem_cons.mpr ⟨mk_92, List.forall_mem_cons.mpr ⟨mk_93, List.forall_mem_cons.mpr ⟨mk_94, List.forall_mem_cons.mpr ⟨mk_95, List.forall_mem_cons.mpr ⟨mk_96, List.forall_mem_cons.mpr ⟨mk_97, List.forall_mem_cons.mpr ⟨mk_98, List.forall_mem_cons.mpr ⟨mk_99, List.forall_mem_cons.mpr ⟨mk_100, List.forall_mem_cons.mpr ⟨mk_101, List.forall_mem_cons.mpr ⟨mk_102, List.forall_mem_cons.mpr ⟨mk_103, List.forall_mem_cons.mpr ⟨mk_104, List.forall_mem_cons.mpr ⟨mk_105, List.forall_mem_cons.mpr ⟨mk_106, List.forall_mem_cons.mpr ⟨mk_107, List.forall_mem_cons.mpr ⟨mk_108, List.forall_mem_cons.mpr ⟨mk_109, List.forall_mem_cons.mpr ⟨mk_110, List.forall_mem_cons.mpr ⟨mk_111, List.forall_mem_cons.mpr ⟨mk_112, List.forall_mem_cons.mpr ⟨mk_113, List.forall_mem_cons.mpr ⟨mk_114, List.forall_mem_cons.mpr ⟨mk_115, List.forall_mem_cons.mpr ⟨mk_116, List.forall_mem_cons.mpr ⟨mk_117, List.forall_mem_cons.mpr ⟨mk_118, List.forall_mem_cons.mpr ⟨mk_119, List.forall_mem_cons.mpr ⟨mk_120, List.forall_mem_cons.mpr ⟨mk_121, List.forall_mem_cons.mpr ⟨mk_122, List.forall_mem_cons.mpr ⟨mk_123, List.forall_mem_cons.mpr ⟨mk_124, List.forall_mem_cons.mpr ⟨mk_125, List.forall_mem_cons.mpr ⟨mk_126, List.forall_mem_cons.mpr ⟨mk_127, List.forall_mem_cons.mpr ⟨mk_128, List.forall_mem_cons.mpr ⟨mk_129, List.forall_mem_cons.mpr ⟨mk_130, List.forall_mem_cons.mpr ⟨mk_131, List.forall_mem_cons.mpr ⟨mk_132, List.forall_mem_cons.mpr ⟨mk_133, List.forall_mem_cons.mpr ⟨mk_134, List.forall_mem_cons.mpr ⟨mk_135, List.forall_mem_cons.mpr ⟨mk_136, List.forall_mem_cons.mpr ⟨mk_137, List.forall_mem_cons.mpr ⟨mk_138, List.forall_mem_cons.mpr ⟨mk_139, fun _ h => absurd h List.not_mem_nil⟩⟩⟩⟩⟩⟩⟩⟩⟩⟩⟩⟩⟩⟩⟩⟩⟩⟩⟩⟩⟩⟩⟩⟩⟩⟩⟩⟩⟩⟩⟩⟩⟩⟩⟩⟩⟩⟩⟩⟩⟩⟩⟩⟩⟩⟩⟩⟩⟩⟩⟩⟩⟩⟩⟩⟩⟩⟩⟩⟩⟩⟩⟩⟩⟩⟩⟩⟩⟩⟩⟩⟩⟩⟩⟩⟩⟩⟩⟩⟩⟩⟩⟩⟩⟩⟩⟩⟩⟩⟩⟩⟩⟩⟩⟩⟩⟩⟩⟩⟩⟩⟩⟩⟩⟩⟩⟩⟩⟩⟩⟩⟩⟩⟩⟩⟩⟩⟩⟩⟩⟩⟩⟩⟩⟩⟩⟩⟩⟩⟩⟩⟩⟩⟩⟩⟩⟩⟩⟩⟩
  exact h f (List.mem_range.mpr (by omega))
/-- what a law's run must come to -/
def mz_Q (L : Nat) (r : Option Value × mj_H) : Prop := r.1 = some (.int 1) ∧ r.2.1.length ≤ 600001 ∧ mj_sl r.2 ≤ 7302250 + L
set_option maxHeartbeats 4000000 in
set_option maxRecDepth 100000 in
theorem whole_of_run {p : Program} {e : Env} {s : State} {m : MethodId} {below : List Frame} {meth : Method} {c : Code} (l : Launch) {b L : Nat} {xs : Nat → Int32} (hrun : mj_G pj_P 139 [.ref 0] (mz_0 L xs) (mz_Q L)) (C0 : lw_At p s m meth c b L xs) : W p l e room_1 s m #[Value.ref b] below meth c s.heap [] 0 0 (lw_Z below #[Value.ref b] s) (entryFrame m ([Value.ref b] : List Value).toArray 4) := by
  obtain ⟨hx, hb, hr, hml, hown, hts, ⟨scr, s1, s2, s3, s4, s5⟩, hbl, hlocks, hgv⟩ := C0
  obtain ⟨D, hK⟩ := mz_known hts s2 s3
  obtain ⟨n, ⟨v, M'⟩, hx1, hv, hcl, hsl⟩ := hrun
  dsimp only at hv hcl hsl
  subst hv
  have ht2 : ∀ w ∈ mj_Ts, w.before #[Value.ref b] s = true := fun w h => hts w (List.mem_filter.mp h).1
  have hR : mj_Rel D pj_cl pj_tys b s.heap.size scr (mz_0 L xs) s.heap := by
    refine ⟨⟨hbl, by simp [mz_0], by simp [mz_0]⟩, fun k t n h => ?_⟩
    have hk : k < 1 := (List.getElem?_eq_some_iff.mp h).1
    have hk0 : k = 0 := by omega
    subst hk0
    cases h
    refine ⟨fun h => by omega, fun _ => ⟨s1, s4, fun j hj => ?_⟩, fun h => by omega, fun h => by omega⟩
    rw [s5 j hj]
    rfl
  rw [lg_entry_eq]
  have hL0 : mj_L b s.heap.size ((lg_sl ([Value.ref 0].map (mj_tv b s.heap.size)) ++ List.replicate (4 - (lg_sl ([Value.ref 0].map (mj_tv b s.heap.size))).length) Slot.unset).toArray) 4 (mj_ent 4 [.ref 0]) := mj_L.entry b s.heap.size 4 (fun v h => by rw [List.mem_singleton.mp h]; rfl) (by decide)
  refine mj_run_ok (l := l) (b := b) (sz := s.heap.size) (scr := scr) (D := D) (rf := pj_rf) pj_clok mj_Ts_good pj_mok pj_mcks n 139 0 (mj_ent 4 [.ref 0]) [] (mz_0 L xs) M' (some (.int 1)) hx1 (Nat.le_refl _) p e room_1 s m #[Value.ref b] below meth c s.heap [] 0 0 _ _ hx hb hml hown ht2 hK (fun h => absurd h (by decide +kernel)) (by decide +kernel) (by decide +kernel) hL0 hR (fun k h => by cases h) ?_ ?_ ?_
  · have e1 : (mz_0 L xs).1.length = 1 := rfl
    show 0 + M'.1.length ≤ 600000 + (mz_0 L xs).1.length
    omega
  · have e1 : mj_sl (mz_0 L xs) = L := by simp [mz_0, mj_sl]
    show 0 + mj_sl M' ≤ 7302250 + mj_sl (mz_0 L xs)
    omega
  · intro pc' E ls' st' H' locs' cells' slots' hE h8 hret hR' hl' hc' hs'
    have hck := (pj_mcks 139 (Nat.le_refl _) pc' E hE).2.1 h8
    have hdg : decode code pc' = .ok (.ireturn, 1) := hck.1 (Or.inr (by decide +kernel))
    have e1 : (mz_0 L xs).1.length = 1 := rfl
    have e2 : mj_sl (mz_0 L xs) = L := by simp [mz_0, mj_sl]
    have hst : st' = [.int 1] := by
      unfold mj_ret at hret
      split at hret
      · split at hret <;> cases hret
      · split at hret
        · cases hret; rfl
        · cases hret
      · split at hret <;> cases hret
      · split at hret <;> cases hret
      · split at hret <;> cases hret
      · cases hret
    subst hst
    refine va_forget (fun q h => hl' q h) ?_
    refine W.widen (k := 600000) (n := 7302250) (by omega) (by omega) ?_
    exact lw_ret hx hb hr hlocks hdg
