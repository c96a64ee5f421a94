/-! ===== pure: paths as natural numbers ===== -/
/-- q is above n -/
def nb_bel (n q : Nat) : Prop := ∃ k, 0 < n / 8 ^ k ∧ n / 8 ^ (k + 1) = q
theorem mi_mul (a b : Nat) : nI a * nI b = nI (a * b) := (Int32.ofNat_mul a b).symm
theorem i32_nI2 {a : Int32} (h : 0 ≤ a.toInt) : a = nI a.toInt.toNat := by
  apply Int32.toInt_inj.mp
  have h2 := a.toInt_lt
  rw [nI_toInt (by omega)]
  omega
theorem nI_inj {a b : Nat} (ha : a < 2 ^ 31) (hb : b < 2 ^ 31) (h : nI a = nI b) : a = b := by
  have := congrArg Int32.toInt h
  rw [nI_toInt ha, nI_toInt hb] at this
  omega
theorem nI_div8 {n : Nat} (h : n < 2 ^ 31) : nI n / 8 = nI (n / 8) := by
  apply Int32.toInt_inj.mp
  rw [i32_div8, nI_toInt h, nI_toInt (by omega), Int.tdiv_eq_ediv_of_nonneg (by omega)]
  omega
theorem nI_le0 {n : Nat} (h : n < 2 ^ 31) : (nI n ≤ 0) ↔ n = 0 := by
  rw [Int32.le_iff_toInt_le, nI_toInt h, Int32.toInt_zero]
  omega
theorem nI_lt_iff {a b : Nat} (ha : a < 2 ^ 31) (hb : b < 2 ^ 31) : nI a < nI b ↔ a < b := by
  rw [Int32.lt_iff_toInt_lt, nI_toInt ha, nI_toInt hb]
  omega
theorem nI_le_iff {a b : Nat} (ha : a < 2 ^ 31) (hb : b < 2 ^ 31) : nI a ≤ nI b ↔ a ≤ b := by
  rw [Int32.le_iff_toInt_le, nI_toInt ha, nI_toInt hb]
  omega
theorem nb_step {n q : Nat} : nb_bel n q ↔ 0 < n ∧ (n / 8 = q ∨ nb_bel (n / 8) q) := by
  unfold nb_bel
  constructor
  · rintro ⟨k, h1, h2⟩
    have h0 : 0 < n := by
      rcases Nat.eq_zero_or_pos n with h | h
      · subst h; rw [Nat.zero_div] at h1; exact h1
      · exact h
    refine ⟨h0, ?_⟩
    cases k with
    | zero => left; simpa using h2
    | succ k =>
      right
      refine ⟨k, ?_, ?_⟩
      · rw [Nat.div_div_eq_div_mul, ← Nat.pow_succ']; exact h1
      · rw [Nat.div_div_eq_div_mul, ← Nat.pow_succ']; exact h2
  · rintro ⟨h0, h | ⟨k, h1, h2⟩⟩
    · exact ⟨0, by simpa using h0, by simpa using h⟩
    · refine ⟨k + 1, ?_, ?_⟩
      · rw [Nat.div_div_eq_div_mul, ← Nat.pow_succ'] at h1; exact h1
      · rw [Nat.div_div_eq_div_mul, ← Nat.pow_succ'] at h2; exact h2
theorem pf_bel_iff {q : Nat} (hq : q < 2 ^ 31) : ∀ (f n : Nat), n < 8 ^ f → n < 2 ^ 31 → (pf_bel f (nI n) (nI q) = true ↔ nb_bel n q) := by
  intro f
  induction f with
  | zero =>
    intro n hn _
    have : n = 0 := by simpa using hn
    subst this
    rw [nb_step]
    simp [pf_bel]
  | succ f ih =>
    intro n hn h31
    rw [nb_step]
    simp only [pf_bel, nI_le0 h31, nI_div8 h31]
    by_cases h0 : n = 0
    · simp [h0]
    · rw [if_neg h0, Bool.or_eq_true, decide_eq_true_eq, ih (n / 8) (by rw [Nat.pow_succ] at hn; omega) (by omega)]
      constructor
      · rintro (h | h)
        · exact ⟨by omega, Or.inl (nI_inj (by omega) hq h)⟩
        · exact ⟨by omega, Or.inr h⟩
      · rintro ⟨-, h | h⟩
        · left; rw [h]
        · exact Or.inr h
theorem pf_below_iff {n q : Nat} (hn : n < 2 ^ 31) (hq : q < 2 ^ 31) : pf_below (nI n) (nI q) = true ↔ nb_bel n q := pf_bel_iff hq 11 n (by omega) hn
theorem nb_trans {a b c : Nat} (h1 : nb_bel a b) (h2 : nb_bel b c) : nb_bel a c := by
  obtain ⟨k, k1, k2⟩ := h1
  obtain ⟨j, j1, j2⟩ := h2
  refine ⟨k + 1 + j, ?_, ?_⟩
  · rw [Nat.pow_add, ← Nat.div_div_eq_div_mul, k2]; exact j1
  · rw [show k + 1 + j + 1 = k + 1 + (j + 1) by omega, Nat.pow_add, ← Nat.div_div_eq_div_mul, k2]; exact j2
theorem nb_lt {a b : Nat} (h : nb_bel a b) : b < a := by
  obtain ⟨k, k1, k2⟩ := h
  have h0 : 0 < a := by
    rcases Nat.eq_zero_or_pos a with h | h
    · subst h; rw [Nat.zero_div] at k1; exact k1
    · exact h
  rw [← k2]
  exact Nat.div_lt_self h0 (Nat.one_lt_pow (by omega) (by omega))
theorem nb_zero {a : Nat} (h : 0 < a) : nb_bel a 0 := by
  induction a using Nat.strongRecOn with
  | ind a ih =>
    rw [nb_step]
    refine ⟨h, ?_⟩
    by_cases h8 : a / 8 = 0
    · exact Or.inl h8
    · exact Or.inr (ih (a / 8) (by omega) (by omega))
/-- below, with the number of names between -/
theorem nb_split {n q : Nat} (h : nb_bel n q) : ∃ k t, n = q * 8 ^ (k + 1) + t ∧ t < 8 ^ (k + 1) ∧ 0 < n / 8 ^ k := by
  obtain ⟨k, k1, k2⟩ := h
  refine ⟨k, n % 8 ^ (k + 1), ?_, Nat.mod_lt _ (Nat.pow_pos (by omega)), k1⟩
  rw [← k2, Nat.mul_comm]
  exact (Nat.div_add_mod n _).symm
/-- the numbers that are paths -/
def nb_pth (n : Nat) : Prop := n ≤ 4095 ∧ ∀ k, 0 < n / 8 ^ k → n / 8 ^ k % 8 ≠ 0
theorem nI_mod8 {n : Nat} (h : n < 2 ^ 31) : nI n - nI n / 8 * 8 = nI (n % 8) := by
  rw [nI_div8 h, show (8 : Int32) = nI 8 from rfl, mi_mul]
  have e : nI n = nI (n % 8) + nI (n / 8 * 8) := by rw [nI_add]; congr 1; omega
  conv => lhs; rw [e]
  rw [Int32.sub_eq_add_neg, Int32.add_assoc, Int32.add_right_neg, Int32.add_zero]
theorem pf_pth_iff : ∀ (f n : Nat), n < 8 ^ f → n < 2 ^ 31 → (pf_pth f (nI n) = true ↔ ∀ k, 0 < n / 8 ^ k → n / 8 ^ k % 8 ≠ 0) := by
  intro f
  induction f with
  | zero =>
    intro n hn _
    have : n = 0 := by simpa using hn
    subst this
    simp [pf_pth]
  | succ f ih =>
    intro n hn h31
    have h8 := nI_mod8 h31
    rw [nI_div8 h31] at h8
    simp only [pf_pth, nI_le0 h31, nI_div8 h31, h8]
    by_cases h0 : n = 0
    · subst h0; simp
    · rw [if_neg h0, Bool.and_eq_true, ih (n / 8) (by rw [Nat.pow_succ] at hn; omega) (by omega)]
      simp only [Bool.not_eq_true', decide_eq_false_iff_not]
      constructor
      · rintro ⟨h1, h2⟩ k hk
        cases k with
        | zero =>
          intro e
          simp only [Nat.pow_zero, Nat.div_one] at e
          exact h1 (by rw [e]; rfl)
        | succ k =>
          have := h2 k
          rw [Nat.div_div_eq_div_mul, ← Nat.pow_succ'] at this
          exact this hk
      · intro h
        refine ⟨?_, ?_⟩
        · intro e
          have := h 0 (by simpa using Nat.pos_of_ne_zero h0)
          simp only [Nat.pow_zero, Nat.div_one] at this
          exact this (nI_inj (by omega) (by omega) e)
        · intro k hk
          rw [Nat.div_div_eq_div_mul, ← Nat.pow_succ'] at hk ⊢
          exact h (k + 1) hk
theorem pf_path_iff {n : Nat} (h : n < 2 ^ 31) : pf_path (nI n) = true ↔ nb_pth n := by
  unfold pf_path nb_pth
  have h1 : ¬ (nI n < 0) := by rw [Int32.lt_iff_toInt_lt, nI_toInt h, Int32.toInt_zero]; omega
  have h2 : (nI n ≤ 4095) ↔ n ≤ 4095 := by rw [show (4095 : Int32) = nI 4095 from rfl, nI_le_iff h (by omega)]
  simp only [h1, decide_false, Bool.not_false, Bool.true_and, Bool.and_eq_true, decide_eq_true_eq, h2, pf_pth_iff 11 n (by omega) h]
/-- a path as a natural number -/
theorem pf_path_nat {p : Int32} (h : pf_path p = true) : ∃ n, p = nI n ∧ nb_pth n := by
  have h0 : 0 ≤ p.toInt := by
    unfold pf_path at h
    simp only [Bool.and_eq_true, Bool.not_eq_true', decide_eq_false_iff_not] at h
    have := h.1
    rw [Int32.lt_iff_toInt_lt, Int32.toInt_zero] at this
    omega
  have e := i32_nI2 h0
  have h31 := p.toInt_lt
  rw [e] at h
  exact ⟨_, e, (pf_path_iff (by omega)).mp h⟩
theorem pw_trans {a b c : Int32} (ha : pf_path a = true) (hb : pf_path b = true) (hc : pf_path c = true) (h1 : pf_below a b = true) (h2 : pf_below b c = true) : pf_below a c = true := by
  obtain ⟨x, rfl, hx⟩ := pf_path_nat ha
  obtain ⟨y, rfl, hy⟩ := pf_path_nat hb
  obtain ⟨z, rfl, hz⟩ := pf_path_nat hc
  have := hx.1; have := hy.1; have := hz.1
  rw [pf_below_iff (by omega) (by omega)] at *
  exact nb_trans h1 h2
theorem pw_irr {a : Int32} (ha : pf_path a = true) : pf_below a a = false := by
  obtain ⟨x, rfl, hx⟩ := pf_path_nat ha
  have := hx.1
  cases h : pf_below (nI x) (nI x)
  · rfl
  · rw [pf_below_iff (by omega) (by omega)] at h
    exact absurd (nb_lt h) (Nat.lt_irrefl _)
theorem pw_zero {a : Int32} (ha : pf_path a = true) (h0 : a ≠ 0) : pf_below a 0 = true := by
  obtain ⟨x, rfl, hx⟩ := pf_path_nat ha
  have := hx.1
  rw [show (0 : Int32) = nI 0 from rfl, pf_below_iff (by omega) (by omega)]
  refine nb_zero ?_
  rcases Nat.eq_zero_or_pos x with h | h
  · subst h; exact absurd rfl h0
  · exact h
/-- the parent of a path is one -/
theorem pw_par {a : Int32} (ha : pf_path a = true) : pf_path (a / 8) = true := by
  obtain ⟨x, rfl, hx⟩ := pf_path_nat ha
  have := hx.1
  rw [nI_div8 (by omega), pf_path_iff (by omega)]
  refine ⟨by omega, ?_⟩
  intro k hk
  rw [Nat.div_div_eq_div_mul, ← Nat.pow_succ'] at hk ⊢
  exact hx.2 _ hk

theorem nb_add_div {q k t : Nat} (ht : t < 8 ^ k) : (q * 8 ^ k + t) / 8 ^ k = q := by
  rw [Nat.mul_comm, Nat.mul_add_div (Nat.pow_pos (by omega)), Nat.div_eq_of_lt ht, Nat.add_zero]
theorem nb_pow_le {k : Nat} (h : 8 ^ k ≤ 4095) : k ≤ 3 := by
  rcases Nat.lt_or_ge 3 k with h1 | h1
  · have : 8 ^ 4 ≤ 8 ^ k := Nat.pow_le_pow_right (by omega) h1
    omega
  · exact h1
/-- the loop of answering, from p * 8^k + t -/
theorem pf_ans_nat {p : Nat} (hp : 0 < p) : ∀ (k f t s m : Nat), p * 8 ^ k + t < 2 ^ 31 → t < 8 ^ k → p * 8 ^ k + t < 8 ^ f → pf_ans f (nI (p * 8 ^ k + t)) (nI p) (nI s) (nI m) = (nI (s * 8 ^ k), nI (m + t * s)) := by
  intro k
  induction k with
  | zero =>
    intro f t s m h31 ht hf
    have ht0 : t = 0 := by simpa using ht
    subst ht0
    simp only [Nat.pow_zero, Nat.mul_one, Nat.add_zero, Nat.zero_mul] at *
    cases f with
    | zero => simp only [Nat.pow_zero] at hf; omega
    | succ f =>
      simp only [pf_ans]
      rw [if_neg (by rw [nI_le0 h31]; omega), if_pos trivial]
  | succ k ih =>
    intro f t s m h31 ht hf
    have hk := Nat.pow_pos (n := k) (show 0 < 8 by omega)
    have hk1 : p * 8 ^ (k + 1) = 8 * (p * 8 ^ k) := by rw [Nat.pow_succ, Nat.mul_comm (8 ^ k) 8, Nat.mul_left_comm]
    have hpk : p ≤ p * 8 ^ k := Nat.le_mul_of_pos_right p hk
    cases f with
    | zero => simp only [Nat.pow_zero] at hf; omega
    | succ f =>
      have hd : (p * 8 ^ (k + 1) + t) / 8 = p * 8 ^ k + t / 8 := by omega
      have hm : (p * 8 ^ (k + 1) + t) % 8 = t % 8 := by omega
      have h8 := nI_mod8 h31
      rw [nI_div8 h31, hd, hm] at h8
      simp only [pf_ans]
      rw [if_neg (by rw [nI_le0 h31]; omega), if_neg (fun e => by have := nI_inj h31 (by omega) e; omega), nI_div8 h31, hd, h8, show (8 : Int32) = nI 8 from rfl, mi_mul, mi_mul, nI_add]
      rw [ih f (t / 8) (s * 8) (m + t % 8 * s) (by omega) (by rw [Nat.pow_succ] at ht; omega) (by have h8f : 8 ^ (f + 1) = 8 ^ f * 8 := Nat.pow_succ .. ; omega)]
      have e1 : s * 8 * 8 ^ k = s * 8 ^ (k + 1) := by rw [Nat.pow_succ, Nat.mul_assoc, Nat.mul_comm 8]
      have e2 : m + t % 8 * s + t / 8 * (s * 8) = m + t * s := by
        have : t * s = t % 8 * s + t / 8 * (s * 8) := by
          conv => lhs; rw [← Nat.mod_add_div t 8]
          rw [Nat.add_mul, Nat.mul_comm 8 (t / 8), Nat.mul_assoc, Nat.mul_comm 8 s]
        omega
      rw [e1, e2]
theorem pf_answering_nat {p q k t : Nat} (hp : 0 < p) (h31 : p * 8 ^ k + t < 2 ^ 31) (ht : t < 8 ^ k) : pf_answering (nI (p * 8 ^ k + t)) (nI p) (nI q) = nI (q * 8 ^ k + t) := by
  unfold pf_answering
  have := pf_ans_nat hp k 11 t 1 0 h31 ht (by omega)
  rw [show (1 : Int32) = nI 1 from rfl, show (0 : Int32) = nI 0 from rfl, this]
  simp only [Nat.one_mul, Nat.zero_add, Nat.mul_one]
  rw [mi_mul, nI_add]
/-- within, as numbers -/
theorem pw_split {r p : Int32} (hr : pf_path r = true) (hp : pf_path p = true) (hw : pf_within r p = true) : ∃ n k t, p = nI n ∧ nb_pth n ∧ r = nI (n * 8 ^ k + t) ∧ nb_pth (n * 8 ^ k + t) ∧ t < 8 ^ k := by
  obtain ⟨x, rfl, hx⟩ := pf_path_nat hr
  obtain ⟨n, rfl, hn⟩ := pf_path_nat hp
  have h1 := hx.1
  have h2 := hn.1
  unfold pf_within at hw
  rw [Bool.or_eq_true, decide_eq_true_eq] at hw
  rcases hw with e | hb
  · have := nI_inj (by omega) (by omega) e
    subst this
    exact ⟨x, 0, 0, rfl, hx, by simp, by simpa using hx, by simp⟩
  · rw [pf_below_iff (by omega) (by omega)] at hb
    obtain ⟨k, t, e, ht, -⟩ := nb_split hb
    subst e
    exact ⟨n, k + 1, t, rfl, hn, rfl, hx, ht⟩
theorem pw_k3 {n k t : Nat} (h0 : 0 < n) (h : nb_pth (n * 8 ^ k + t)) : k ≤ 3 ∧ 8 ^ k ≤ 4095 := by
  have h1 := h.1
  have h2 : 8 ^ k ≤ n * 8 ^ k := Nat.le_mul_of_pos_left _ h0
  exact ⟨nb_pow_le (by omega), by omega⟩
theorem nb_mulk {q k : Nat} (hq : q ≤ 4095) (hk : 8 ^ k ≤ 4095) : q * 8 ^ k ≤ 4095 * 4095 := Nat.mul_le_mul hq hk
/-- answering is one to one -/
theorem pw_inj {a b p q : Int32} (ha : pf_path a = true) (hb : pf_path b = true) (hp : pf_path p = true) (hq : pf_path q = true) (hp0 : p ≠ 0) (hq0 : q ≠ 0) (h1 : pf_within a p = true) (h2 : pf_within b p = true) (he : pf_answering a p q = pf_answering b p q) : a = b := by
  obtain ⟨n, k, t, rfl, hn, rfl, ha', ht⟩ := pw_split ha hp h1
  obtain ⟨n', j, u, en, -, rfl, hb', hu⟩ := pw_split hb hp h2
  obtain ⟨m, rfl, hm⟩ := pf_path_nat hq
  have hn1 := hn.1
  have hm1 := hm.1
  have hn0 : 0 < n := Nat.pos_of_ne_zero (fun e => hp0 (by rw [e]; rfl))
  have hm0 : 0 < m := Nat.pos_of_ne_zero (fun e => hq0 (by rw [e]; rfl))
  have hx1 := ha'.1
  have hx2 := hb'.1
  have hn' : n = n' := by
    have : n' < 2 ^ 31 := by
      have : n' ≤ n' * 8 ^ j := Nat.le_mul_of_pos_right _ (Nat.pow_pos (by omega))
      omega
    exact nI_inj (by omega) this en
  subst hn'
  rw [pf_answering_nat hn0 (by omega) ht, pf_answering_nat hn0 (by omega) hu] at he
  obtain ⟨k3, k8⟩ := pw_k3 hn0 ha'
  obtain ⟨j3, j8⟩ := pw_k3 hn0 hb'
  have b1 := nb_mulk hm1 k8
  have b2 := nb_mulk hm1 j8
  have he' := nI_inj (by omega) (by omega) he
  have hkj : k = j := by
    rcases Nat.lt_trichotomy k j with h | h | h
    · exfalso
      have c1 : 8 ^ (k + 1) ≤ 8 ^ j := Nat.pow_le_pow_right (by omega) h
      have c2 : m * 8 ^ (k + 1) ≤ m * 8 ^ j := Nat.mul_le_mul_left _ c1
      have c3 : m * 8 ^ (k + 1) = m * 8 ^ k * 8 := by rw [Nat.pow_succ, Nat.mul_assoc]
      have c4 : 8 ^ k ≤ m * 8 ^ k := Nat.le_mul_of_pos_left _ hm0
      omega
    · exact h
    · exfalso
      have c1 : 8 ^ (j + 1) ≤ 8 ^ k := Nat.pow_le_pow_right (by omega) h
      have c2 : m * 8 ^ (j + 1) ≤ m * 8 ^ k := Nat.mul_le_mul_left _ c1
      have c3 : m * 8 ^ (j + 1) = m * 8 ^ j * 8 := by rw [Nat.pow_succ, Nat.mul_assoc]
      have c4 : 8 ^ j ≤ m * 8 ^ j := Nat.le_mul_of_pos_left _ hm0
      omega
  subst hkj
  have : t = u := by omega
  rw [this]
/-- answering comes to stand within q -/
theorem pw_img {a p q : Int32} (ha : pf_path a = true) (hp : pf_path p = true) (hq : pf_path q = true) (hp0 : p ≠ 0) (hq0 : q ≠ 0) (h1 : pf_within a p = true) : pf_within (pf_answering a p q) q = true := by
  obtain ⟨n, k, t, rfl, hn, rfl, ha', ht⟩ := pw_split ha hp h1
  obtain ⟨m, rfl, hm⟩ := pf_path_nat hq
  have hn1 := hn.1
  have hm1 := hm.1
  have hn0 : 0 < n := Nat.pos_of_ne_zero (fun e => hp0 (by rw [e]; rfl))
  have hm0 : 0 < m := Nat.pos_of_ne_zero (fun e => hq0 (by rw [e]; rfl))
  have hx1 := ha'.1
  rw [pf_answering_nat hn0 (by omega) ht]
  obtain ⟨k3, k8⟩ := pw_k3 hn0 ha'
  have b1 := nb_mulk hm1 k8
  unfold pf_within
  rw [Bool.or_eq_true, decide_eq_true_eq, pf_below_iff (by omega) (by omega)]
  cases k with
  | zero =>
    left
    have : t = 0 := by simpa using ht
    subst this
    simp
  | succ k =>
    right
    refine ⟨k, ?_, nb_add_div ht⟩
    refine Nat.div_pos ?_ (Nat.pow_pos (by omega))
    have c1 : 8 ^ k ≤ 8 ^ (k + 1) := Nat.pow_le_pow_right (by omega) (by omega)
    have c4 : 8 ^ (k + 1) ≤ m * 8 ^ (k + 1) := Nat.le_mul_of_pos_left _ hm0
    omega
/-- how many names, as numbers -/
def nb_nam : Nat → Nat → Nat
  | 0, _ => 0
  | f + 1, n => if n = 0 then 0 else nb_nam f (n / 8) + 1
theorem pf_nam_nat : ∀ (f n : Nat), n < 2 ^ 31 → pf_nam f (nI n) = nI (nb_nam f n) := by
  intro f
  induction f with
  | zero => intro n _; rfl
  | succ f ih =>
    intro n h
    simp only [pf_nam, nb_nam, nI_le0 h, nI_div8 h]
    split
    · rfl
    · rw [ih _ (by omega), nI_succ]
theorem nb_nam_le : ∀ (f n : Nat), nb_nam f n ≤ f := by
  intro f
  induction f with
  | zero => intro n; exact Nat.le_refl _
  | succ f ih =>
    intro n
    simp only [nb_nam]
    split
    · omega
    · have := ih (n / 8); omega
theorem nb_nam_iff : ∀ (f n j : Nat), n < 8 ^ f → (nb_nam f n ≤ j ↔ n < 8 ^ j) := by
  intro f
  induction f with
  | zero =>
    intro n j h
    have : n = 0 := by simpa using h
    subst this
    simp [nb_nam, Nat.pow_pos]
  | succ f ih =>
    intro n j h
    simp only [nb_nam]
    split
    · rename_i h0
      subst h0
      simp [Nat.pow_pos]
    · cases j with
      | zero => simp only [Nat.pow_zero]; omega
      | succ j =>
        have := ih (n / 8) j (by rw [Nat.pow_succ] at h; omega)
        rw [Nat.pow_succ]
        omega
theorem nb_nam_split {n : Nat} (h0 : 0 < n) : ∀ (k f t : Nat), t < 8 ^ k → n * 8 ^ k + t < 8 ^ (f + k) → nb_nam (f + k) (n * 8 ^ k + t) = nb_nam f n + k := by
  intro k
  induction k with
  | zero =>
    intro f t ht _
    have ht0 : t = 0 := by simpa using ht
    subst ht0
    simp
  | succ k ih =>
    intro f t ht h
    have hk := Nat.pow_pos (n := k) (show 0 < 8 by omega)
    have hk1 : n * 8 ^ (k + 1) = 8 * (n * 8 ^ k) := by rw [Nat.pow_succ, Nat.mul_comm (8 ^ k) 8, Nat.mul_left_comm]
    have hpk : n ≤ n * 8 ^ k := Nat.le_mul_of_pos_right n hk
    have h8f : 8 ^ (f + (k + 1)) = 8 ^ (f + k) * 8 := by rw [← Nat.add_assoc, Nat.pow_succ]
    rw [← Nat.add_assoc]
    simp only [nb_nam]
    rw [if_neg (by omega), show (n * 8 ^ (k + 1) + t) / 8 = n * 8 ^ k + t / 8 by omega, ih f (t / 8) (by rw [Nat.pow_succ] at ht; omega) (by omega)]
    omega

theorem nb_nam_mono : ∀ (f g n : Nat), n < 8 ^ f → f ≤ g → nb_nam g n = nb_nam f n := by
  intro f g n h hg
  have h2 : n < 8 ^ g := Nat.lt_of_lt_of_le h (Nat.pow_le_pow_right (by omega) hg)
  have e1 := nb_nam_iff f n (nb_nam g n) h
  have e2 := nb_nam_iff g n (nb_nam f n) h2
  have e3 := nb_nam_iff f n (nb_nam f n) h
  have e4 := nb_nam_iff g n (nb_nam g n) h2
  have := e2.mpr (e3.mp (Nat.le_refl _))
  have := e1.mpr (e4.mp (Nat.le_refl _))
  omega
theorem nb_pth_img {n m k t : Nat} (hm0 : 0 < m) (hm : nb_pth m) (h : nb_pth (n * 8 ^ k + t)) (ht : t < 8 ^ k) (h0 : 0 < n) : nb_pth (m * 8 ^ k + t) ↔ nb_nam 11 m + k ≤ 4 := by
  have hm1 := hm.1
  obtain ⟨k3, k8⟩ := pw_k3 h0 h
  have b1 := nb_mulk hm1 k8
  have e := nb_nam_split hm0 k 11 t ht (by
    have : 8 ^ 11 ≤ 8 ^ (11 + k) := Nat.pow_le_pow_right (by omega) (by omega)
    omega)
  have hlt : m * 8 ^ k + t < 8 ^ (11 + k) := by
    have : 8 ^ 11 ≤ 8 ^ (11 + k) := Nat.pow_le_pow_right (by omega) (by omega)
    omega
  rw [← e, nb_nam_iff _ _ 4 hlt]
  constructor
  · intro hp
    have := hp.1
    omega
  · intro h4
    refine ⟨by omega, ?_⟩
    intro j hj
    rcases Nat.lt_or_ge j k with hjk | hjk
    · have e8 : 8 ^ k = 8 ^ j * 8 ^ (k - j) := by rw [← Nat.pow_add]; congr 1; omega
      have e9 : 8 ^ (k - j) = 8 * 8 ^ (k - j - 1) := by rw [← Nat.pow_succ']; congr 1; omega
      have hx : ∀ x, (x * 8 ^ k + t) / 8 ^ j = 8 * (x * 8 ^ (k - j - 1)) + t / 8 ^ j := by
        intro x
        rw [e8, ← Nat.mul_assoc, Nat.mul_comm x, Nat.mul_assoc, Nat.mul_add_div (Nat.pow_pos (by omega)), e9, Nat.mul_left_comm]
      have hn := h.2 j (by
        rw [hx]
        have : 0 < n * 8 ^ (k - j - 1) := Nat.mul_pos h0 (Nat.pow_pos (by omega))
        exact Nat.add_pos_left (by omega) _)
      rw [hx] at hn ⊢
      generalize t / 8 ^ j = z at hn ⊢
      omega
    · have e8 : 8 ^ j = 8 ^ k * 8 ^ (j - k) := by rw [← Nat.pow_add]; congr 1; omega
      rw [e8, ← Nat.div_div_eq_div_mul, nb_add_div ht] at hj ⊢
      exact hm.2 _ hj
/-- too far down: the names say what the path says -/
theorem pw_far {a p q : Int32} (ha : pf_path a = true) (hp : pf_path p = true) (hq : pf_path q = true) (hp0 : p ≠ 0) (hq0 : q ≠ 0) (h1 : pf_within a p = true) : (pf_nam 11 q + pf_nam 11 a - pf_nam 11 p ≤ 4) ↔ pf_path (pf_answering a p q) = true := by
  obtain ⟨n, k, t, rfl, hn, rfl, ha', ht⟩ := pw_split ha hp h1
  obtain ⟨m, rfl, hm⟩ := pf_path_nat hq
  have hn1 := hn.1
  have hm1 := hm.1
  have hn0 : 0 < n := Nat.pos_of_ne_zero (fun e => hp0 (by rw [e]; rfl))
  have hm0 : 0 < m := Nat.pos_of_ne_zero (fun e => hq0 (by rw [e]; rfl))
  have hx1 := ha'.1
  rw [pf_answering_nat hn0 (by omega) ht]
  obtain ⟨k3, k8⟩ := pw_k3 hn0 ha'
  have b1 := nb_mulk hm1 k8
  rw [pf_path_iff (by omega), nb_pth_img hm0 hm ha' ht hn0, pf_nam_nat _ _ (by omega), pf_nam_nat _ _ (by omega), pf_nam_nat _ _ (by omega)]
  have e := nb_nam_split hn0 k 4 t ht (by
    have : 8 ^ 4 ≤ 8 ^ (4 + k) := Nat.pow_le_pow_right (by omega) (by omega)
    omega)
  rw [nb_nam_mono 4 11 n (by omega) (by omega)]
  rw [nb_nam_mono 4 11 (n * 8 ^ k + t) (by omega) (by omega), ← nb_nam_mono 4 (4 + k) _ (by omega) (by omega), e]
  have c1 := nb_nam_le 4 n
  have c2 := nb_nam_le 11 m
  rw [nI_add, show nb_nam 11 m + (nb_nam 4 n + k) = nb_nam 11 m + k + nb_nam 4 n by omega, ← nI_add, Int32.sub_eq_add_neg, Int32.add_assoc, Int32.add_right_neg, Int32.add_zero, show (4 : Int32) = nI 4 from rfl, nI_le_iff (by omega) (by omega)]
