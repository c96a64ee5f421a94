/-! ===== the class: requests, what they have in common ===== -/
/-- an outcome: the answer, the state, the writes, the list of what stays -/
abbrev ty_oc : Type := Int32 × ty_st × Int32 × List Int32
def o_ref (S : ty_st) (w : Int32) (ms : List Int32) (r : Int32) : ty_oc := (r, S, w, a_ms r ms)
def o_car (S : ty_st) (f w : Int32) (ms : List Int32) (Sx : ty_st) (st : Int32) : ty_oc :=
  (if a_int f (a_chg (a_fin Sx) S) = true then 0 else st, if a_cmt f (a_chg (a_fin Sx) S) = true then a_fin Sx else S, w + a_wr f (a_chg (a_fin Sx) S), a_ms (if a_int f (a_chg (a_fin Sx) S) = true then 0 else st) ms)
def o_post (L : Nat) (I0 : Nat → Nat → Int32) (R0 : Nat → Nat → Option Nat) (H : ty_hd) (o : ty_oc) : Option Value × mj_H → Prop := c_post L I0 R0 o.1 o.2.1 (hd_clr H) (-1) o.2.2.1 o.2.2.2
theorem rw_at_u2 (I : Nat → Nat → Int32) (a : Nat) (v : Int32) : rw_at (mj_u I a 2 v) a = ((rw_at I a).1, (rw_at I a).2.1, v, (rw_at I a).2.2.2) := by simp [rw_at, mj_u]
theorem rw_at_u3 (I : Nat → Nat → Int32) (a : Nat) (v : Int32) : rw_at (mj_u I a 3 v) a = ((rw_at I a).1, (rw_at I a).2.1, (rw_at I a).2.2.1, v, (rw_at I a).2.2.2.2) := by simp [rw_at, mj_u]
theorem ins_set {pre suf : List ty_rw} {x y : ty_rw} (hs : ar_sorted (pre ++ x :: suf)) (he : y.1 = x.1) : (pre ++ x :: suf).set pre.length y = ar_ins y (pre ++ suf) := by
  have e : (pre ++ x :: suf).set pre.length y = pre ++ y :: suf := by simp
  rw [e]
  refine ar_ins_eq pre suf ?_
  rw [ar_sorted_map] at hs ⊢
  simpa [he] using hs
section RQ
variable {L b sn sx : Nat} {pi pn px : Nat → Nat} {S Sx : ty_st} {H : ty_hd} {f w : Int32} {ms : List Int32} {I I0 : Nat → Nat → Int32} {R R0 : Nat → Nat → Option Nat}
theorem cs_rep.body {j : Nat} {r : ty_rw} (h : cs_rep b pi S I R) (hj : S.1[j]? = some r) (v : Int32) : cs_rep b pi (S.1.set j (r.1, r.2.1, v, r.2.2.2), S.2) (mj_u I (cs_row b pi j) 2 v) R := by
  have hl := (List.getElem?_eq_some_iff.mp hj).1
  refine h.set hl ?_ (fun x k h1 h2 => mj_u_na _ _ _ _ h1)
  rw [rw_at_u2, h.2.2.2.2.1 j r hj]
theorem cs_rep.stmp {j : Nat} {r : ty_rw} (h : cs_rep b pi S I R) (hj : S.1[j]? = some r) (v : Int32) : cs_rep b pi (S.1.set j (r.1, r.2.1, r.2.2.1, v, r.2.2.2.2), S.2) (mj_u I (cs_row b pi j) 3 v) R := by
  have hl := (List.getElem?_eq_some_iff.mp hj).1
  refine h.set hl ?_ (fun x k h1 h2 => mj_u_na _ _ _ _ h1)
  rw [rw_at_u3, h.2.2.2.2.1 j r hj]
theorem cs_rep.nst (h : cs_rep b pi S I R) (v : Int32) : cs_rep b pi (S.1, S.2.1, S.2.2.1, v, S.2.2.2.2) (mj_u I b 5 v) R := by
  obtain ⟨k1, k2, k3⟩ := h.2.2.2.2.2.2
  exact h.num (fun x k hx => mj_u_na _ _ _ _ hx) (by simp [mj_u]) (by simp [mj_u]) (by simp [mj_u, k1]) (by simp [mj_u]) (by simp [mj_u, k3])
/-- a stamp is taken and put on the row -/
theorem cs_rep.tst {j : Nat} {r : ty_rw} (h : cs_rep b pi S I R) (hj : S.1[j]? = some r) : cs_rep b pi (S.1.set j (r.1, r.2.1, r.2.2.1, S.2.2.2.1, r.2.2.2.2), S.2.1, S.2.2.1, S.2.2.2.1 + 1, S.2.2.2.2) (mj_u (mj_u I b 5 (S.2.2.2.1 + 1)) (cs_row b pi j) 3 S.2.2.2.1) R :=
  (h.nst (S.2.2.2.1 + 1)).stmp hj S.2.2.2.1
theorem fr_row {v : Nat} {j : Nat} {z : Int32} (h : cs_ok b pi R) (hj : j < 13) : fr_I b I (mj_u I (cs_row b pi j) v z) := by
  have := (h.2.2.1 j hj).2
  exact fr_I.u (by unfold cs_row; omega) (by unfold cs_row; omega)
theorem g33' (h : c_all sn sx pn px S H f w ms I R) (p : Int32) : mj_G pj_P 33 [.ref 1, .int p] (mz_SH L, I, R) (fun r => r = (some (.int (pz (a_bar S.2.1 (a_sub H.1) p))), (mz_SH L, I, R))) := by
  have := g33 (L := L) p h.2.2.1.st h.2.2.2.2.1.hd h.1
  rwa [h.2.2.1.bar h.2.2.2.2.1] at this
theorem g19' (h : c_all sn sx pn px S H f w ms I R) (p : Int32) (ok : Bool) : mj_G pj_P 19 [.ref 1, .int p, .int (pz ok)] (mz_SH L, I, R) (fun r => r = (some (.int (a_fstR S.1 S.2.1 H p ok)), (mz_SH L, I, R))) := by
  have := g19 (L := L) p ok h.2.2.1.st h.2.2.2.2.1.hd h.1
  rwa [h.2.2.1.fstR h.2.2.2.2.1] at this
theorem g29' (h : c_all sn sx pn px S H f w ms I R) (p : Int32) : mj_G pj_P 29 [.ref 1, .int p] (mz_SH L, I, R) (fun r => r = (some (.int (a_putR S.1 S.2.1 (a_sub H.1) p)), (mz_SH L, I, R))) := by
  have := g29 (L := L) p h.2.2.1.st h.2.2.2.2.1.hd h.1
  rwa [h.2.2.1.putR h.2.2.2.2.1] at this
theorem g51' (h : c_all sn sx pn px S H f w ms I R) (p : Int32) : mj_G pj_P 51 [.ref 1, .int p] (mz_SH L, I, R) (fun r => r = (some (.int (a_mkR S.1 S.2.1 (a_sub H.1) p)), (mz_SH L, I, R))) := by
  have := g51 (L := L) p h.2.2.1.st h.2.2.2.2.1.hd h.1
  rwa [h.2.2.1.mkR h.2.2.2.2.1] at this
theorem g53' (h : c_all sn sx pn px S H f w ms I R) (p : Int32) : mj_G pj_P 53 [.ref 1, .int p] (mz_SH L, I, R) (fun r => r = (some (.int (a_delR S.1 S.2.1 (a_sub H.1) p)), (mz_SH L, I, R))) := by
  have := g53 (L := L) p h.2.2.1.st h.2.2.2.2.1.hd h.1
  rwa [h.2.2.1.delR h.2.2.2.2.1] at this
theorem g59' (h : c_all sn sx pn px S H f w ms I R) (p q : Int32) (ov : Bool) : mj_G pj_P 59 [.ref 1, .int p, .int q, .int (pz ov)] (mz_SH L, I, R) (fun r => r = (some (.int (a_tgtR S.1 p q ov)), (mz_SH L, I, R))) := by
  have := g59 (L := L) p q ov h.2.2.1.st h.1
  rwa [h.2.2.1.tgtR] at this
theorem g60' (h : c_all sn sx pn px S H f w ms I R) (p q : Int32) (dq : Bool) : mj_G pj_P 60 [.ref 1, .int p, .int q, .int (pz dq)] (mz_SH L, I, R) (fun r => r = (some (.int (a_copR S.1 S.2.1 (a_sub H.1) p q dq)), (mz_SH L, I, R))) := by
  have := g60 (L := L) p q dq h.2.2.1.st h.2.2.2.2.1.hd h.1
  rwa [h.2.2.1.copR h.2.2.2.2.1] at this
theorem g68' (h : c_all sn sx pn px S H f w ms I R) (p q : Int32) : mj_G pj_P 68 [.ref 1, .int p, .int q] (mz_SH L, I, R) (fun r => r = (some (.int (a_movR S.1 S.2.1 (a_sub H.1) p q)), (mz_SH L, I, R))) := by
  have := g68 (L := L) p q h.2.2.1.st h.2.2.2.2.1.hd h.1
  rwa [h.2.2.1.movR h.2.2.2.2.1] at this
theorem g71' (h : c_all sn sx pn px S H f w ms I R) (p : Int32) : mj_G pj_P 71 [.ref 1, .int p] (mz_SH L, I, R) (fun r => r = (some (.int (a_patR S.1 S.2.1 (a_sub H.1) p)), (mz_SH L, I, R))) := by
  have := g71 (L := L) p h.2.2.1.st h.2.2.2.2.1.hd h.1
  rwa [h.2.2.1.patR h.2.2.2.2.1] at this
theorem g73' (h : c_all sn sx pn px S H f w ms I R) (p : Int32) (xc dq : Bool) : mj_G pj_P 73 [.ref 1, .int p, .int (pz xc), .int (pz dq)] (mz_SH L, I, R) (fun r => r = (some (.int (a_lckR S.1 S.2.1 (a_sub H.1) p xc dq)), (mz_SH L, I, R))) := by
  have := g73 (L := L) p xc dq h.2.2.1.st h.2.2.2.2.1.hd h.1
  rwa [h.2.2.1.lckR h.2.2.2.2.1] at this
theorem g24' (t : Int32) (h : cs_rep b pi S I R) : mj_G pj_P 24 [.ref b, .int t] (mz_SH L, I, R) (fun r => r = (some (va_rf ((al_fi S.2.1 t).map (fun i => b + 29 + i))), (mz_SH L, I, R))) := by
  have := g24 (L := L) t h.1 h.2.1 h.2.2.2.1.1 h.2.2.2.1.2
  rwa [h.lfi] at this
/-- the request is refused -/
theorem q_close {F pc nx nx2 k mL rc x2 y y2 : Nat} {i i2 : Instr} {z z2 : Int32} {tb tb2 : List (Int × Nat)} {Lc : List Value} (hE : pj_P.1 F pc = some (i, nx, 37, y, 7, z, tb)) (hE2 : pj_P.1 F nx = some (i2, nx2, x2, y2, 8, z2, tb2)) (hi : pj_P.2 F = (k, mL, 0, rc)) (h : c_all sn sx pn px S H f w ms I R) (fI : fr_C I0 I) (fR : fr_C R0 R) (r : Int32) :
    mj_T pj_P F pc Lc [.int r, .ref 1] (mz_SH L, I, R) (o_post L I0 R0 H (o_ref S w ms r)) := by
  refine mj_b_call (hE := hE) (hi := in_37) (h1 := g37' r h) (hc := mj_cok_v rfl rfl (sh_1 L)) (ha := rfl) (hr := rfl) ?_
  rintro v M1 ⟨I', hM, hc, hf'⟩
  cases hM
  exact mj_b_retI (hE := hE2) (hi := hi) ⟨sn, sx, pn, px, I', R, rfl, hc, fI.trans hf', fR⟩
/-- the request is carried out -/
theorem q_carry {F pc nx nx2 k mL rc x2 y y2 : Nat} {i i2 : Instr} {z z2 : Int32} {tb tb2 : List (Int × Nat)} {Lc : List Value} (hE : pj_P.1 F pc = some (i, nx, 45, y, 7, z, tb)) (hE2 : pj_P.1 F nx = some (i2, nx2, x2, y2, 8, z2, tb2)) (hi : pj_P.2 F = (k, mL, 0, rc)) (h : c_all sn sx pn px S H f w ms I R) (hx : cs_rep sx px Sx I R) (fI : fr_C I0 I) (fR : fr_C R0 R) (st : Int32) :
    mj_T pj_P F pc Lc [.int st, .ref 1] (mz_SH L, I, R) (o_post L I0 R0 H (o_car S f w ms Sx st)) := by
  refine mj_b_call (hE := hE) (hi := in_45) (h1 := g45 st h hx fI fR) (hc := mj_cok_v rfl rfl (sh_1 L)) (ha := rfl) (hr := rfl) ?_
  rintro v M1 ⟨a, c, d, e, I', R', hM, hc, h1, h2⟩
  cases hM
  exact mj_b_retI (hE := hE2) (hi := hi) ⟨a, c, d, e, I', R', rfl, hc, h1, h2⟩
/-- the refusal that counts -/
def o_ans (S : ty_st) (w : Int32) (ms : List Int32) (r : Int32) (o : ty_oc) : ty_oc := if r = -1 then o else o_ref S w ms r
def a_two (r q : Int32) : Int32 := if r = -1 then q else r
theorem a_two_ok {r q : Int32} (h : a_two r q = -1) : r = -1 ∧ q = -1 := by
  unfold a_two at h
  split at h
  · rename_i h1; exact ⟨h1, h⟩
  · rename_i h1; exact absurd h h1
theorem a_fstR_ok {rs : List ty_rw} {ls : List ty_lk} {p : Int32} {ok : Bool} (h : a_fstR rs ls H p ok = -1) : ok = true := by
  unfold a_fstR at h
  split at h
  · exact absurd h (by decide)
  · rename_i h1
    cases ok
    · exact absurd (Or.inl rfl) h1
    · rfl
theorem a_putR_ok {rs : List ty_rw} {ls : List ty_lk} {sub : Int32 → Bool} {p : Int32} (h : a_putR rs ls sub p = -1) (hn : ar_has rs p = false) : rs.length < 13 := by
  unfold a_putR at h
  split at h
  · exact absurd h (by decide)
  · split at h
    · exact absurd h (by decide)
    · split at h
      · exact absurd h (by decide)
      · split at h
        · exact absurd h (by decide)
        · rename_i h4
          exact Nat.lt_of_not_le (fun h5 => h4 ⟨hn, h5⟩)
end RQ
