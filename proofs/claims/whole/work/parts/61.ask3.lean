/-! ===== both sides: listing, fail, head ===== -/
def a_lsk (k : Int32) : List Int32 → Int32 → Int32
  | [], _ => -1
  | y :: ys, c => if c = k then y else a_lsk k ys (c + 1)
theorem mm_lsk_list (g : Nat → Bool) (k : Int32) : ∀ (m x : Nat) (c : Int32), mm_lsk g k m x c = a_lsk k (((List.range' x m).filter g).map nI) c := by
  intro m
  induction m with
  | zero => intro x c; rfl
  | succ m ih =>
    intro x c
    rw [List.range'_succ, List.filter_cons]
    simp only [mm_lsk]
    split
    · rw [List.map_cons]
      simp only [a_lsk]
      rw [ih]
    · exact ih _ _
theorem a_lsk_neg {k : Int32} (hk : k < 0) : ∀ (ys : List Int32) (m : Nat), m + ys.length < 2 ^ 31 → a_lsk k ys (nI m) = -1 := by
  intro ys
  have hk2 : k.toInt < 0 := by rw [Int32.lt_iff_toInt_lt, Int32.toInt_zero] at hk; exact hk
  induction ys with
  | nil => intro m _; rfl
  | cons y ys ih =>
    intro m hm
    rw [List.length_cons] at hm
    simp only [a_lsk]
    have hne : ¬ nI m = k := by
      intro e
      rw [← e, nI_toInt (by omega)] at hk2
      omega
    rw [if_neg hne, ← nI_succ, ih (m + 1) (by omega)]
theorem a_lsk_get : ∀ (ys : List Int32) (m k : Nat), m ≤ k → k < 2 ^ 31 → m + ys.length < 2 ^ 31 → a_lsk (nI k) ys (nI m) = (ys[k - m]?).getD (-1) := by
  intro ys
  induction ys with
  | nil => intro m k _ _ _; simp [a_lsk]
  | cons y ys ih =>
    intro m k hmk hk31 hl
    rw [List.length_cons] at hl
    simp only [a_lsk]
    by_cases he : m = k
    · subst he
      rw [if_pos rfl, Nat.sub_self]
      rfl
    · rw [if_neg (fun e => he (nI_inj (by omega) hk31 e)), ← nI_succ, ih (m + 1) k (by omega) hk31 (by omega), show k - m = (k - (m + 1)) + 1 by omega, List.getElem?_cons_succ]
section QD
variable {L n b sn sx : Nat} {pi pn px : Nat → Nat} {S : ty_st} {H : ty_hd} {rs : List ty_rw} {hs ms : List Int32} {f w : Int32} {I : Nat → Nat → Int32} {R : Nat → Nat → Option Nat}
theorem q_lst (h : c_all sn sx pn px S H f w ms I R) (hm : m_all (rs, S.2) hs f w ms I) (hr : m_rel n S H f rs hs) (k : Int32) : mm_lst I rs.length k = c_lst I sn pn S.1.length k := by
  unfold mm_lst c_lst
  rw [hr.len]
  by_cases hk : k = -1
  · rw [if_pos hk, if_pos hk]
  · rw [if_neg hk, if_neg hk, mm_lsk_list]
    obtain ⟨hso, h13, hpk, h0⟩ := hr.2.1.1
    have hpath : ∀ r ∈ S.1, pf_path r.1 = true := fun r h => (hpk r h).1
    obtain ⟨r0, tl, e, hr0, htl⟩ := ar_root hso hpath h0
    have hhas : (fun x => mm_has I S.1.length (nI x)) = (fun x => ar_has S.1 (nI x) && true) := by
      funext x
      unfold mm_has
      have hf := hm.1.fnd hr.ndT (nI x)
      rw [Nat.mul_zero] at hf
      dsimp only at hf
      rw [← hr.len, hf, ar_fi_has, ar_has_perm hr.1, Bool.and_true]
    have hlist : ((List.range' 1 4095).filter (fun x => mm_has I S.1.length (nI x))).map nI = tl.map (fun r => r.1) := by
      rw [hhas, sc_has (g := fun _ => true), show (4095 : Nat) = 4096 - 1 from rfl, sc_from hso hpath (by omega), htl]
      congr 1
      exact List.filter_eq_self.mpr (fun _ _ => rfl)
    rw [hlist]
    have hlen : S.1.length = tl.length + 1 := by rw [e]; rfl
    by_cases hk0 : k < 0
    · have := a_lsk_neg hk0 (tl.map (fun r => r.1)) 0 (by rw [List.length_map]; omega)
      rw [show (0 : Int32) = nI 0 from rfl, this, if_neg (by have hk1 : k < nI 0 := hk0; unfold pf_from; rw [decide_eq_true hk1]; simp)]
    · have hkn := i32_nI hk0
      have hm31 : k.toInt.toNat < 2 ^ 31 := by have := k.toInt_lt; omega
      generalize k.toInt.toNat = m at hkn hm31
      subst hkn
      have := a_lsk_get (tl.map (fun r => r.1)) 0 m (by omega) hm31 (by rw [List.length_map]; omega)
      rw [show (0 : Int32) = nI 0 from rfl, this, Nat.sub_zero, List.getElem?_map]
      have e1 : nI S.1.length - 1 = nI tl.length := by rw [hlen, nI_succ, Int32.add_sub_cancel]
      rw [e1]
      by_cases hlt : m < tl.length
      · have g2 : pf_from (nI m) (nI 0) (nI tl.length - 1) = true := by
          rw [pf_from_gt, show (1 : Int32) = nI 1 from rfl, nI_sub (by omega)]
          simp only [show ¬ nI m < nI 0 from hk0, decide_false, Bool.not_false, Bool.true_and, decide_eq_true_eq]
          rw [nI_le_iff (by omega) (by omega)]
          omega
        rw [if_pos g2, nI_clamp (by omega)]
        have hg : S.1[m + 1]? = some tl[m] := by
          rw [e, List.getElem?_cons_succ]
          exact List.getElem?_eq_getElem hlt
        rw [h.2.2.1.path hg, List.getElem?_eq_getElem hlt]
        rfl
      · rw [if_neg]
        · rw [List.getElem?_eq_none (by omega)]
          rfl
        · intro g2
          rw [pf_from_gt] at g2
          simp only [show ¬ nI m < nI 0 from hk0, decide_false, Bool.not_false, Bool.true_and, decide_eq_true_eq] at g2
          rcases Nat.eq_zero_or_pos tl.length with hz | hz
          · rw [hz, show nI 0 - 1 = -1 from rfl] at g2
            rw [Int32.le_iff_toInt_le, nI_toInt (by omega), show (-1 : Int32).toInt = -1 from rfl] at g2
            omega
          · rw [show (1 : Int32) = nI 1 from rfl, nI_sub (by omega), nI_le_iff (by omega) (by omega)] at g2
            omega
end QD
theorem q_fal (k : Int32) : mm_fal k = c_fal k := by
  unfold mm_fal c_fal
  rw [pf_from_gt, Bool.eq_iff_iff]
  simp only [Bool.and_eq_true, Bool.or_eq_true, Bool.not_eq_true', decide_eq_false_iff_not, decide_eq_true_eq]
  rw [Int32.lt_iff_toInt_lt, Int32.lt_iff_toInt_lt, Int32.le_iff_toInt_le, ← Int32.toInt_inj, show (-1 : Int32).toInt = -1 from rfl, Int32.toInt_zero, show (100 : Int32).toInt = 100 from rfl]
  omega
theorem q_falok {k : Int32} (h : c_fal k = true) : k = -1 ∨ ¬ k < 0 := by
  unfold c_fal at h
  rw [pf_from_gt] at h
  simp only [Bool.and_eq_true, Bool.or_eq_true, Bool.not_eq_true', decide_eq_false_iff_not, decide_eq_true_eq] at h
  rcases h with h | h
  · exact Or.inl h
  · exact Or.inr h.1
theorem hd_one_len (H : ty_hd) (c : Int32) : (hd_one H c).2.2.1 = H.2.2.1 + 1 := by
  unfold hd_one hd_aft
  simp only [hd_dig, hd_dg2, hd_sla, hd_opn, hd_let, hd_st]
  repeat' split
  all_goals rfl
theorem hd_at_len (z : Int32 × Int32) (hs : List Int32) : ∀ (i : Nat), i ≤ hs.length → (hd_at z hs i).2.2.1 = i := by
  intro i
  induction i with
  | zero => intro _; rfl
  | succ i ih =>
    intro hi
    have hc : hs[i]? = some hs[i] := List.getElem?_eq_getElem (by omega)
    rw [hd_at_s hc, hd_one_len, ih (by omega)]
theorem hd_at_app (z : Int32 × Int32) (hs : List Int32) (c : Int32) : hd_at z (hs ++ [c]) (hs ++ [c]).length = hd_one (hd_at z hs hs.length) c := by
  unfold hd_at
  rw [List.take_length, List.take_length, List.foldl_append]
  rfl
/-- head, on both sides -/
theorem q_head {z : Int32 × Int32} {hs : List Int32} {c : Int32} : (hd_add (hd_at z hs hs.length) c).1 = decide (hs.length < 24 ∧ pf_named c = true) ∧ (hd_add (hd_at z hs hs.length) c).2 = hd_at z (m_hed hs c) (m_hed hs c).length := by
  unfold hd_add m_hed
  rw [hd_at_len z hs hs.length (Nat.le_refl _)]
  by_cases h : hs.length < 24 ∧ pf_named c = true
  · rw [if_pos h, if_pos h, hd_at_app]
    exact ⟨by rw [decide_eq_true h], rfl⟩
  · rw [if_neg h, if_neg h]
    exact ⟨by rw [decide_eq_false h], rfl⟩
