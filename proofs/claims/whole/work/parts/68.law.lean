/-! ===== the law from its start ===== -/
section KD
variable {L sn sx : Nat} {pn px : Nat → Nat} {S : ty_st} {H : ty_hd} {ms : List Int32} {f w : Int32} {I I' : Nat → Nat → Int32} {R R' : Nat → Nat → Option Nat}
theorem c_all.on (h : c_all sn sx pn px S H f w ms I R) (eI : ∀ x j, x < 87 → I' x j = I x j) (eR : ∀ x j, x < 87 → R' x j = R x j) : c_all sn sx pn px S H f w ms I' R' := by
  obtain ⟨⟨t1, t2, t3, t4⟩, hsx, hs, hok, hh, hf1, hw, ⟨m1, m2⟩, m3⟩ := h
  refine ⟨⟨?_, ?_, ?_, ?_⟩, hsx, hs.on (fun x j h1 h2 => eI _ _ (by omega)) (fun x j h1 h2 => eR _ _ (by omega)), hok.on (fun x j h1 h2 => eR _ _ (by omega)), hh.eq (fun x j h1 h2 => eI _ _ (by omega)) (fun x j h1 h2 => eR _ _ (by omega)), ?_, ?_, ⟨?_, m2⟩, ?_⟩
  · rw [eR _ _ (by omega)]; exact t1
  · rw [eR _ _ (by omega)]; exact t2
  · rw [eR _ _ (by omega)]; exact t3
  · rw [eR _ _ (by omega)]; exact t4
  · rw [eI _ _ (by omega)]; exact hf1
  · rw [eI _ _ (by omega)]; exact hw
  · rw [eI _ _ (by omega)]; exact m1
  · intro i v hi; rw [eI _ _ (by omega)]; exact m3 i v hi
theorem wf_0 : wf_st 0 S_0 := by
  refine ⟨⟨by simp [S_0, ar_sorted], by decide, ?_, ⟨_, List.mem_cons_self, rfl⟩⟩, ⟨by simp [S_0], by decide, by simp [S_0]⟩, ⟨0, rfl, by omega⟩, ⟨1, rfl, by omega, by omega⟩⟩
  intro r hr
  obtain rfl : r = (0, 2, 0, 0, 0, 0, 0) := by simpa [S_0] using hr
  exact ⟨by decide, Or.inr rfl⟩
theorem sl_SH (L : Nat) (J : Nat → Nat → Int32) (K : Nat → Nat → Option Nat) : mj_sl (mz_SH L, J, K) ≤ 7302250 + L := by
  unfold mj_sl mz_SH
  simp only [List.map_cons, List.sum_cons]
  have : (mz_tail.map (fun q => q.2)).sum ≤ 7302250 := by decide +kernel
  omega
set_option maxHeartbeats 4000000 in
theorem g139 (L : Nat) (xs : Nat → Int32) (hL : L ≤ 2560) : mj_G pj_P 139 [.ref 0] ([(64, L)], fun a j => if a = 0 then xs j else 0, fun _ _ => none) (fun r => r.1 = some (.int 1) ∧ r.2.1.length ≤ 600001 ∧ mj_sl r.2 ≤ 7302250 + L) := by
  refine mj_enter in_139 (L := mj_ent 4 [.ref 0]) rfl ?_
  refine mj_b_new (hE := fe_139_0) (k := ?_)
  refine mj_b_dup (hE := fe_139_3) (hv := rfl) (k := ?_)
  refine (show mj_T pj_P 139 4 _ [.ref 1, .ref 1] ([(64, L), (0, 7)], mj_n (fun a j => if a = 0 then xs j else 0) 1 0, mj_n (fun _ _ => none) 1 none) _ from ?_)
  have i1 : ∀ x j, 1 ≤ x → mj_n (fun a j => if a = 0 then xs j else (0 : Int32)) 1 0 x j = 0 := fun x j hx => by
    by_cases h : x = 1
    · subst h; exact mj_n_at _ _ _ _
    · rw [mj_n_off _ _ _ h]; exact if_neg (by omega)
  refine mj_b_call (hE := fe_139_4) (hi := in_0) (h1 := g0 i1) (hc := mj_cok_i rfl rfl) (ha := rfl) (hr := rfl) ?_
  rintro v' M1 ⟨I1, R1, hM, s1, s2, s3⟩
  cases hM
  refine (show mj_T pj_P 139 7 _ [.ref 1] (sh_c L, I1, R1) _ from ?_)
  refine mj_b_rstore_n (hE := fe_139_7) (hx := Nat.le_of_ble_eq_true rfl) (k := ?_)
  refine mj_b_new (hE := fe_139_8) (k := ?_)
  refine mj_b_dup (hE := fe_139_11) (hv := rfl) (k := ?_)
  refine (show mj_T pj_P 139 12 _ [.ref 87, .ref 87] (sh_c L ++ [(6, 23)], mj_n I1 87 0, mj_n R1 87 none) _ from ?_)
  have i2 : ∀ x j, 87 ≤ x → mj_n I1 87 0 x j = 0 := fun x j hx => by
    by_cases h : x = 87
    · subst h; exact mj_n_at _ _ _ _
    · rw [mj_n_off _ _ _ h]; exact s3 x j hx
  refine mj_b_call (hE := fe_139_12) (hi := in_88) (h1 := g88 i2) (hc := mj_cok_i rfl rfl) (ha := rfl) (hr := rfl) ?_
  rintro v' M1 ⟨I2, R2, hM, t1, t2, t3, t4⟩
  cases hM
  refine (show mj_T pj_P 139 15 _ [.ref 87] (mz_SH L, I2, R2) _ from ?_)
  refine mj_b_rstore_n (hE := fe_139_15) (hx := Nat.le_of_ble_eq_true rfl) (k := ?_)
  refine mj_b_iconst (hE := fe_139_16) (k := ?_)
  refine mj_b_istore_n (hE := fe_139_17) (hx := Nat.le_of_ble_eq_true rfl) (k := ?_)
  refine (show mj_T pj_P 139 18 [.ref 0, .ref 1, .ref 87, .int (nI (5 * 0))] [] (mz_SH L, I2, R2) _ from ?_)
  refine l139 (X := xs) hL ?_ 2560 0 I2 R2 rfl ?_
  · intro J K i
    refine mj_b_iconst (hE := fe_139_844) (k := ?_)
    refine mj_b_retZ (hE := fe_139_845) (hi := in_139) (Or.inr rfl) ⟨rfl, ?_, sl_SH L J K⟩
    exact (show (mz_SH L).length ≤ 600001 from by simp [mz_SH]; decide +kernel)
  · refine ⟨2, 37, fun i => i, fun i => i, S_0, H_0, -1, 0, [], [(0, 2, 0, 0, 0, 0, 0)], [], ?_, t1, t2, ⟨List.Perm.refl _, wf_0, ⟨(0, 0), rfl⟩, by simp, Or.inl rfl⟩, ?_⟩
    · refine s1.on (fun x j h => ?_) (fun x j h => ?_)
      · rw [t3 x j h, mj_n_off _ _ _ (by omega)]
      · rw [t4 x j h, mj_n_off _ _ _ (by omega)]
    · intro j
      rw [t3 0 j (by omega), mj_n_off _ _ _ (by omega), s2 j, mj_n_off _ _ _ (by omega)]
      exact if_pos rfl
end KD
