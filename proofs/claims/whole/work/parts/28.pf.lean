/-! ===== pure: the header, read character by character ===== -/
def hd_st (H : ty_hd) (s : Int32) : ty_hd := (H.1, H.2.1, H.2.2.1, s, H.2.2.2.2)
/-- the last condition gets another number -/
def cd_lst (v : Int32) : List ty_cd → List ty_cd
  | [] => []
  | [c] => [(c.1, c.2.1, c.2.2.1, c.2.2.2.1, v)]
  | c :: d :: cs => c :: cd_lst v (d :: cs)
theorem cd_lst_app (v : Int32) (cs : List ty_cd) (c : ty_cd) : cd_lst v (cs ++ [c]) = cs ++ [(c.1, c.2.1, c.2.2.1, c.2.2.2.1, v)] := by
  induction cs with
  | nil => rfl
  | cons a cs ih =>
    cases cs with
    | nil => rfl
    | cons b cs => simp only [List.cons_append] at *; rw [cd_lst, ih]
theorem cd_lst_len (v : Int32) : ∀ (cs : List ty_cd), (cd_lst v cs).length = cs.length := by
  intro cs
  induction cs with
  | nil => rfl
  | cons a cs ih =>
    cases cs with
    | nil => rfl
    | cons b cs => rw [cd_lst, List.length_cons, ih]; rfl
/-- a digit; the state is 1 2 5 or 6 and there is room for it -/
def hd_dg2 (H : ty_hd) (d nm dg : Int32) : ty_hd :=
  if 4 ≤ dg then (H.1, H.2.1, H.2.2.1, 8, H.2.2.2.2.1, nm, dg)
  else if H.2.2.2.1 = 1 ∨ H.2.2.2.1 = 2 then (H.1, H.2.1, H.2.2.1, 2, H.2.2.2.2.1, nm * 10 + d, dg + 1)
  else (cd_lst (nm * 10 + d) H.1, H.2.1, H.2.2.1, 6, H.2.2.2.2.1, nm * 10 + d, dg + 1)
def hd_dig (H : ty_hd) (d : Int32) : ty_hd :=
  if H.2.2.2.1 = 1 ∨ H.2.2.2.1 = 5 then hd_dg2 H d 0 0
  else if H.2.2.2.1 = 2 ∨ H.2.2.2.1 = 6 then hd_dg2 H d H.2.2.2.2.2.1 H.2.2.2.2.2.2
  else hd_st H 8
def hd_sla (H : ty_hd) : ty_hd := hd_st H (if H.2.2.2.1 = 0 ∨ (H.2.2.2.1 = 7 ∧ H.2.2.2.2.1 ≠ -1) then 1 else 8)
def hd_opn (H : ty_hd) : ty_hd :=
  if H.2.2.2.1 = 2 ∧ pf_path H.2.2.2.2.2.1 = true then (H.1, H.2.1 + 1, H.2.2.1, 3, H.2.2.2.2.2.1, H.2.2.2.2.2)
  else if H.2.2.2.1 = 0 ∨ H.2.2.2.1 = 7 then (H.1, H.2.1 + 1, H.2.2.1, 3, H.2.2.2.2)
  else hd_st H 8
def hd_let (H : ty_hd) (t : Bool) : ty_hd :=
  if (H.2.2.2.1 = 3 ∨ H.2.2.2.1 = 6 ∨ H.2.2.2.1 = 4) ∧ H.1.length < 12 then (H.1 ++ [(H.2.1, H.2.2.2.2.1, t, decide (H.2.2.2.1 = 4), 0)], H.2.1, H.2.2.1, 5, H.2.2.2.2)
  else hd_st H 8
def hd_aft (H : ty_hd) (c : Int32) : ty_hd :=
  if pf_dig c = true then hd_dig H (c - 48)
  else if c = 47 then hd_sla H
  else if c = 40 then hd_opn H
  else if c = 41 then hd_st H (if H.2.2.2.1 = 6 then 7 else 8)
  else if c = 33 then hd_st H (if H.2.2.2.1 = 3 ∨ H.2.2.2.1 = 6 then 4 else 8)
  else hd_let H (decide (c = 116))
/-- one character more -/
def hd_one (H : ty_hd) (c : Int32) : ty_hd := hd_aft (H.1, H.2.1, H.2.2.1 + 1, H.2.2.2) c
def hd_add (H : ty_hd) (c : Int32) : Bool × ty_hd := if H.2.2.1 < 24 ∧ pf_named c = true then (true, hd_one H c) else (false, H)
/-- the header after the first i characters -/
def hd_at (z : Int32 × Int32) (hs : List Int32) (i : Nat) : ty_hd := (hs.take i).foldl hd_one ([], 0, 0, 0, -1, z)
def hd_gd (z : Int32 × Int32) (hs : List Int32) : Bool := decide ((hd_at z hs hs.length).2.2.2.1 = 0) || decide ((hd_at z hs hs.length).2.2.2.1 = 7)
section HD
variable {z : Int32 × Int32} {hs : List Int32}
theorem hd_at_0 : hd_at z hs 0 = ([], 0, 0, 0, -1, z) := rfl
theorem hd_at_s {i : Nat} {c : Int32} (h : hs[i]? = some c) : hd_at z hs (i + 1) = hd_one (hd_at z hs i) c := by
  unfold hd_at
  have hi := (List.getElem?_eq_some_iff.mp h).1
  have e := (List.getElem?_eq_some_iff.mp h).2
  rw [← List.take_append_getElem hi, List.foldl_append, e]
  rfl
theorem hd_8 {H : ty_hd} (c : Int32) (h : H.2.2.2.1 = 8) : (hd_one H c).2.2.2.1 = 8 := by
  have e : (H.1, H.2.1, H.2.2.1 + 1, H.2.2.2).2.2.2.1 = (8 : Int32) := h
  unfold hd_one hd_aft
  generalize (H.1, H.2.1, H.2.2.1 + 1, H.2.2.2) = G at e
  have n0 : ¬ G.2.2.2.1 = 0 := by rw [e]; decide
  have n1 : ¬ G.2.2.2.1 = 1 := by rw [e]; decide
  have n2 : ¬ G.2.2.2.1 = 2 := by rw [e]; decide
  have n3 : ¬ G.2.2.2.1 = 3 := by rw [e]; decide
  have n4 : ¬ G.2.2.2.1 = 4 := by rw [e]; decide
  have n5 : ¬ G.2.2.2.1 = 5 := by rw [e]; decide
  have n6 : ¬ G.2.2.2.1 = 6 := by rw [e]; decide
  have n7 : ¬ G.2.2.2.1 = 7 := by rw [e]; decide
  simp only [hd_dig, hd_sla, hd_opn, hd_let, hd_st, n0, n1, n2, n3, n4, n5, n6, n7, or_self, false_and, if_false]
  split <;> (try split) <;> (try split) <;> (try split) <;> (try split) <;> rfl
theorem hd_8s : ∀ (k i : Nat), i + k = hs.length → (hd_at z hs i).2.2.2.1 = 8 → (hd_at z hs hs.length).2.2.2.1 = 8 := by
  intro k
  induction k with
  | zero => intro i h e; rw [← h]; exact e
  | succ k ih =>
    intro i h e
    have hc : hs[i]? = some hs[i] := List.getElem?_eq_getElem (by omega)
    exact ih (i + 1) (by omega) (by rw [hd_at_s hc]; exact hd_8 _ e)
theorem hd_bad {i : Nat} (hi : i ≤ hs.length) (h1 : (hd_at z hs i).2.2.2.1 ≠ 0 ∧ (hd_at z hs i).2.2.2.1 ≠ 7 ∨ i < hs.length) (h2 : ∀ c, hs[i]? = some c → (hd_one (hd_at z hs i) c).2.2.2.1 = 8) : hd_gd z hs = false := by
  unfold hd_gd
  rcases Nat.lt_or_ge i hs.length with hlt | hge
  · have hc : hs[i]? = some hs[i] := List.getElem?_eq_getElem hlt
    have := h2 _ hc
    rw [← hd_at_s hc] at this
    rw [hd_8s (hs.length - (i + 1)) (i + 1) (by omega) this]
    decide
  · have e : i = hs.length := by omega
    subst e
    rcases h1 with h1 | h1
    · simp [h1.1, h1.2]
    · omega
theorem hd_bad8 {i : Nat} (hi : i ≤ hs.length) (h : (hd_at z hs i).2.2.2.1 = 8) : hd_gd z hs = false := by
  unfold hd_gd
  rw [hd_8s (hs.length - i) i (by omega) h]
  decide
end HD
/-- reading a number: the value and the number of digits -/
def rn_go : List Int32 → Int32 → Nat → Int32 × Nat
  | [], v, d => (v, d)
  | c :: cs, v, d => if pf_dig c = true then rn_go cs (if d < 4 then 10 * v + c - 48 else v) (d + 1) else (v, d)
theorem rn_val (v c : Int32) : 10 * v + c - 48 = v * 10 + (c - 48) := by
  rw [Int32.sub_eq_add_neg, Int32.sub_eq_add_neg, Int32.mul_comm, Int32.add_assoc]
