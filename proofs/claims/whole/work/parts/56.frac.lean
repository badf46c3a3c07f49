/-! a fraction in lowest terms -/
def fr (a b : Nat) (x : Int32) : Nat := if a = 0 ∨ b = 0 then (if x = 0 then 0 else 1) else (if x = 0 then a else b) / Nat.gcd a b
theorem mod_half {b r : Nat} (h0 : 0 < r) (h : r < b) : b % r ≤ b / 2 := by
  have h1 := Nat.mod_lt b h0
  rcases Nat.lt_or_ge (b / 2) r with q | q
  · have e : b % r = b - r := by
      rw [Nat.mod_eq_sub_mod (by omega), Nat.mod_eq_of_lt (by omega)]
    omega
  · omega
theorem gcd_step {a b : Nat} : Nat.gcd a b = Nat.gcd b (a % b) := by
  rw [Nat.gcd_comm a b, Nat.gcd_rec b a, Nat.gcd_comm]
theorem lc0 {b : Nat} (hb : b < 2 ^ 63) : lg_cmp (lN b) 0 = 0 ↔ b = 0 := (lg_cmp_eq _ _).trans (pk_lEQ (a := b) (b := 0) hb (by omega))
theorem ln0 {b : Nat} (hb : b < 2 ^ 63) (h : ¬ b = 0) : ¬ lN b = 0 := fun q => h ((pk_lEQ (a := b) (b := 0) hb (by omega)).mp q)
theorem lle0 {b : Nat} (hb : b < 2 ^ 63) : lg_cmp (lN b) 0 ≤ 0 ↔ b = 0 := (lg_cmp_le _ _).trans ((pk_lLE (a := b) (b := 0) hb (by omega)).trans (by omega))
theorem lgt0 {b : Nat} (hb : b < 2 ^ 63) : 0 < lg_cmp (lN b) 0 ↔ 0 < b := (lg_cmp_gt _ _).trans (pk_lLT (a := 0) (b := b) (by omega) hb)
theorem d_gcd {y0 y2 : Int64} {ι : iS} : ∀ k a b j n, a < 2 ^ 63 → b < 2 ^ 63 → b < 2 ^ k → j + 2 * k < 200 → 2 * k < n → l_X6_commonDivisor_9 n y0 y2 (lN a) (lN b) (nI j) ι = some (lN (Nat.gcd a b), ι) := by
  intro k
  induction k with
  | zero =>
    intro a b j n ha hb hk hj hn
    obtain ⟨n, rfl⟩ : ∃ m, n = m + 1 := ⟨n - 1, by omega⟩
    obtain rfl : b = 0 := by rw [Nat.pow_zero] at hk; omega
    rw [l_X6_commonDivisor_9, if_neg (show ¬ (200 : Int32) ≤ nI j from nI_ge (a := j) (b := 200) (by omega) (by omega)), if_pos ((lc0 (by omega)).mpr rfl), Nat.gcd_zero_right]
  | succ k ih =>
    intro a b j n ha hb hk hj hn
    obtain ⟨n, rfl⟩ : ∃ m, n = m + 2 := ⟨n - 2, by omega⟩
    by_cases h0 : b = 0
    · subst h0
      rw [l_X6_commonDivisor_9, if_neg (show ¬ (200 : Int32) ≤ nI j from nI_ge (a := j) (b := 200) (by omega) (by omega)), if_pos ((lc0 (by omega)).mpr rfl), Nat.gcd_zero_right]
    · have hr : a % b < b := Nat.mod_lt _ (by omega)
      rw [l_X6_commonDivisor_9, if_neg (show ¬ (200 : Int32) ≤ nI j from nI_ge (a := j) (b := 200) (by omega) (by omega)), if_neg (fun q => h0 ((lc0 hb).mp q)), if_pos (ln0 hb h0), pk_lRem ha (by omega) hb, nI_1, gcd_step]
      by_cases h1 : a % b = 0
      · rw [h1, l_X6_commonDivisor_9, if_neg (show ¬ (200 : Int32) ≤ nI (j + 1) from nI_ge (a := j + 1) (b := 200) (by omega) (by omega)), if_pos ((lc0 (by omega)).mpr rfl), Nat.gcd_zero_right]
      · rw [l_X6_commonDivisor_9, if_neg (show ¬ (200 : Int32) ≤ nI (j + 1) from nI_ge (a := j + 1) (b := 200) (by omega) (by omega)), if_neg (fun q => h1 ((lc0 (by omega)).mp q)), if_pos (ln0 (by omega) h1), pk_lRem hb (by omega) (by omega), nI_1, gcd_step]
        have hh := mod_half (b := b) (r := a % b) (by omega) hr
        rw [Nat.pow_succ] at hk
        exact ih (a % b) (b % (a % b)) (j + 1 + 1) n (by omega) (by omega) (by omega) (by omega) (by omega)
theorem m_gcd {y0 y2 : Int64} {y4 : Int32} {ι : iS} : ∀ k a b n, a < 2 ^ 63 → 0 < a → b < 2 ^ 63 → b < 2 ^ k → 2 * k < n → l_X7_terms_29 n y0 y2 y4 (lN a) (lN b) ι = some (if y4 = 0 then y0 / lN (Nat.gcd a b) else y2 / lN (Nat.gcd a b), ι) := by
  have base : ∀ a n, a < 2 ^ 63 → 0 < a → 0 < n → l_X7_terms_29 n y0 y2 y4 (lN a) (lN 0) ι = some (if y4 = 0 then y0 / lN (Nat.gcd a 0) else y2 / lN (Nat.gcd a 0), ι) := by
    intro a n ha h0 hn
    obtain ⟨n, rfl⟩ : ∃ m, n = m + 1 := ⟨n - 1, by omega⟩
    rw [l_X7_terms_29, if_pos ((lc0 (by omega)).mpr rfl), if_pos (ln0 ha (by omega)), if_pos (ln0 ha (by omega)), Nat.gcd_zero_right]
    by_cases h4 : y4 = 0
    · rw [if_pos h4, if_pos h4]
    · rw [if_neg h4, if_neg h4]
  intro k
  induction k with
  | zero =>
    intro a b n ha h0 hb hk hn
    obtain rfl : b = 0 := by rw [Nat.pow_zero] at hk; omega
    exact base a n ha h0 (by omega)
  | succ k ih =>
    intro a b n ha ha0 hb hk hn
    obtain ⟨n, rfl⟩ : ∃ m, n = m + 2 := ⟨n - 2, by omega⟩
    by_cases h0 : b = 0
    · subst h0
      exact base a _ ha ha0 (by omega)
    · have hr : a % b < b := Nat.mod_lt _ (by omega)
      rw [l_X7_terms_29, if_neg (fun q => h0 ((lc0 hb).mp q)), if_pos (ln0 hb h0), pk_lRem ha (by omega) hb, gcd_step]
      by_cases h1 : a % b = 0
      · rw [h1]
        exact base b _ hb (by omega) (by omega)
      · rw [l_X7_terms_29, if_neg (fun q => h1 ((lc0 (by omega)).mp q)), if_pos (ln0 (by omega) h1), pk_lRem hb (by omega) (by omega), gcd_step]
        have hh := mod_half (b := b) (r := a % b) (by omega) hr
        rw [Nat.pow_succ] at hk
        exact ih (a % b) (b % (a % b)) n (by omega) (by omega) (by omega) (by omega) (by omega)
theorem d_frac {a b : Nat} (ha : a < 2 ^ 63) (hb : b < 2 ^ 63) (x : Int32) (ι : iS) : m_X6_partOfFraction (lN a) (lN b) x ι = some (lN (fr a b x), ι) := by
  unfold m_X6_partOfFraction fr
  have hcm : (if x = 0 then some ((0 : Int64), ι) else some ((1 : Int64), ι)) = some (lN (if x = 0 then 0 else 1), ι) := by
    by_cases h : x = 0
    · rw [if_pos h, if_pos h]; rfl
    · rw [if_neg h, if_neg h]; rfl
  by_cases h0 : a = 0
  · subst h0
    rw [if_pos ((lle0 (b := 0) (by omega)).mpr rfl), if_pos (Or.inl rfl), hcm]
  · rw [if_neg (fun q => h0 ((lle0 ha).mp q))]
    by_cases h1 : b = 0
    · subst h1
      rw [if_neg (fun q => by have := (lgt0 (b := 0) (by omega)).mp q; omega), if_pos (Or.inr rfl), hcm]
    · have hg : 0 < Nat.gcd a b := Nat.gcd_pos_of_pos_left b (by omega)
      have hgl : Nat.gcd a b ≤ a := Nat.gcd_le_left b (by omega)
      rw [if_pos ((lgt0 hb).mpr (by omega)), if_neg (by omega)]
      have e := d_gcd (y0 := lN a) (y2 := lN b) (ι := ι) 63 a b 0 aF ha hb hb (by omega) (by unfold aF; omega)
      rw [show m_X6_commonDivisor (lN a) (lN b) ι = some (lN (Nat.gcd a b), ι) from e, Option.bind_some]
      dsimp only
      rw [if_pos ((lgt0 (b := Nat.gcd a b) (by omega)).mpr hg), if_pos ((lgt0 (b := Nat.gcd a b) (by omega)).mpr hg), if_pos (ln0 (b := Nat.gcd a b) (by omega) (by omega)), if_pos (ln0 (b := Nat.gcd a b) (by omega) (by omega)), pk_lDiv ha hg (by omega), pk_lDiv hb hg (by omega)]
      by_cases h : x = 0
      · rw [if_pos h, if_pos h]
      · rw [if_neg h, if_neg h]
theorem m_frac {a b : Nat} (ha : a < 2 ^ 63) (hb : b < 2 ^ 63) (x : Int32) (ι : iS) : m_X7_terms (lN a) (lN b) x ι = some (lN (fr a b x), ι) := by
  unfold m_X7_terms fr
  have hcm : (if x = 0 then some ((0 : Int64), ι) else some ((1 : Int64), ι)) = some (lN (if x = 0 then 0 else 1), ι) := by
    by_cases h : x = 0
    · rw [if_pos h, if_pos h]; rfl
    · rw [if_neg h, if_neg h]; rfl
  by_cases h1 : b = 0
  · rw [if_pos ((lc0 hb).mpr h1), if_pos (Or.inr h1), hcm]
  · rw [if_neg (fun q => h1 ((lc0 hb).mp q))]
    by_cases h0 : a = 0
    · rw [if_pos ((lc0 ha).mpr h0), if_pos (Or.inl h0), hcm]
    · have hg : 0 < Nat.gcd a b := Nat.gcd_pos_of_pos_left b (by omega)
      have hgl : Nat.gcd a b ≤ a := Nat.gcd_le_left b (by omega)
      rw [if_neg (fun q => h0 ((lc0 ha).mp q)), if_neg (by omega), m_gcd 63 a b aF ha (by omega) hb hb (by unfold aF; omega), pk_lDiv ha hg (by omega), pk_lDiv hb hg (by omega)]
      by_cases h : x = 0
      · rw [if_pos h, if_pos h]
      · rw [if_neg h, if_neg h]
theorem sm_one {f : Nat → Nat} {i : Nat} : ∀ n, i < n → (∀ k, k < n → k ≠ i → f k = 0) → sm f n = f i := by
  intro n
  induction n with
  | zero => intro h; omega
  | succ n ih =>
    intro h hf
    rw [sm]
    by_cases hn : n = i
    · subst hn
      rw [sm_zero n (fun k hk => hf k (by omega) (by omega)), Nat.zero_add]
    · rw [ih (by omega) (fun k hk hki => hf k (by omega) hki), hf n (by omega) hn, Nat.add_zero]
theorem m_half_y {x : Int32} (h : x = 0 ∨ x = 1) (κ : iS) : m_X7_isHalf x κ = some (1, κ) := by
  unfold m_X7_isHalf
  rcases h with rfl | rfl
  · rw [if_pos rfl]
  · rw [if_neg i10, if_pos rfl]
theorem m_half_n {x : Int32} (h : ¬ (x = 0 ∨ x = 1)) (κ : iS) : m_X7_isHalf x κ = some (0, κ) := by
  unfold m_X7_isHalf
  rw [if_neg (fun q => h (Or.inl q)), if_neg (fun q => h (Or.inr q))]
theorem half_r {x : Int32} : (x = 0 ∨ x = 1) ↔ ¬ (x < 0 ∨ 1 < x) := by
  constructor
  · rintro (rfl | rfl) <;> decide
  · intro h
    obtain ⟨h1, h2⟩ := not_or.mp h
    obtain ⟨j, hj, rfl⟩ := nI_of2 (n := 1) (M := 1) rfl h1 (Int32.not_lt.mp h2)
    rcases (show j = 0 ∨ j = 1 by omega) with rfl | rfl
    · exact Or.inl rfl
    · exact Or.inr rfl
