theorem m_ways_loop {ι : iS} {S z : Nat} {m : Nat → Nat} (h : MR ι S z m) (hS : S ≤ 8) (hz : z ≤ 5) : ∀ d k n, k + d = S → d < n → l_X7_allWays_4 n (lN ((2 * z + 1) ^ k)) (nI k) ι = some (lN ((2 * z + 1) ^ S), ι) := by
  intro d
  induction d with
  | zero =>
    intro k n hk hn
    obtain ⟨n, rfl⟩ : ∃ m, n = m + 1 := ⟨n - 1, by omega⟩
    obtain rfl : k = S := by omega
    rw [l_X7_allWays_4, h.1, if_pos (Int32.le_refl _)]
  | succ d ih =>
    intro k n hk hn
    obtain ⟨n, rfl⟩ : ∃ m, n = m + 1 := ⟨n - 1, by omega⟩
    rw [l_X7_allWays_4, h.1, if_neg (nI_ge (by omega) (by omega)), m_each h, Option.bind_some]
    dsimp only
    rw [nI_l (by omega), lN_mul, nI_1]
    exact ih (k + 1) n (by omega) (by omega)
theorem m_ways {ι : iS} {S z : Nat} {m : Nat → Nat} (h : MR ι S z m) (hS : S ≤ 8) (hz : z ≤ 5) : m_X7_allWays ι = some (lN ((2 * z + 1) ^ S), ι) := m_ways_loop h hS hz S 0 aF (by omega) (by unfold aF; omega)
theorem m_obo_loop {ι : iS} {S z c k a : Nat} {m : Nat → Nat} (h : MR ι S z m) (hS : S ≤ 8) (hz : z ≤ 5) (hc : c ≤ 120) (hm : ∀ k, k < S → m k < 1000) (hk : k < S) : ∀ d j n, j + d = S → d < n → l_X7_oneByOne_16 n (nI k) (nI c) (lN (a * prd (fun j => if j < k then bl m (2 * z + 1) (c + z) j else if k < j then 2 * z + 1 else 1) j)) (nI j) ι = some (lN (a * prd (fun j => if j < k then bl m (2 * z + 1) (c + z) j else if k < j then 2 * z + 1 else 1) S), ι) := by
  intro d
  induction d with
  | zero =>
    intro j n hj hn
    obtain ⟨n, rfl⟩ : ∃ m, n = m + 1 := ⟨n - 1, by omega⟩
    obtain rfl : j = S := by omega
    rw [l_X7_oneByOne_16, h.1, if_pos (Int32.le_refl _)]
  | succ d ih =>
    intro j n hj hn
    obtain ⟨n, rfl⟩ : ∃ m, n = m + 1 := ⟨n - 1, by omega⟩
    have ih := ih (j + 1) n (by omega) (by omega)
    rw [show prd (fun j => if j < k then bl m (2 * z + 1) (c + z) j else if k < j then 2 * z + 1 else 1) (j + 1) = prd (fun j => if j < k then bl m (2 * z + 1) (c + z) j else if k < j then 2 * z + 1 else 1) j * (if j < k then bl m (2 * z + 1) (c + z) j else if k < j then 2 * z + 1 else 1) from rfl, ← Nat.mul_assoc, ← lN_mul] at ih
    rw [l_X7_oneByOne_16, h.1, if_neg (nI_ge (by omega) (by omega)), nI_1]
    by_cases h1 : k ≤ j
    · rw [if_pos (nI_le h1 (by omega))]
      by_cases h2 : j ≤ k
      · rw [if_pos (nI_le h2 (by omega))]
        rw [if_neg (by omega), if_neg (by omega)] at ih
        exact ih
      · rw [if_neg (nI_ge (by omega) (by omega)), m_each h, Option.bind_some]
        dsimp only
        rw [nI_l (by omega)]
        rw [if_neg (by omega), if_pos (by omega)] at ih
        exact ih
    · rw [if_neg (nI_ge (by omega) (by omega)), m_below (u := c + z) h (by omega) hS hz (hm j (by omega)) (nI_add c z) (by omega), Option.bind_some]
      dsimp only
      rw [nI_l (by have : bl m (2 * z + 1) (c + z) j ≤ 2 * z + 1 := bl_le; omega)]
      rw [if_pos (by omega)] at ih
      exact ih
theorem m_obo {ι : iS} {S z c k : Nat} {m : Nat → Nat} (h : MR ι S z m) (hS : S ≤ 8) (hz : z ≤ 5) (hc : c ≤ 120) (hm : ∀ k, k < S → m k < 1000) (hk : k < S) : m_X7_oneByOne (nI k) (nI c) ι = some (lN (obo m (2 * z + 1) (c + z) S k), ι) := by
  unfold m_X7_oneByOne
  have hb : bl m (2 * z + 1) (c + z) k ≤ 2 * z + 1 := bl_le
  rw [m_each h, Option.bind_some]
  dsimp only
  rw [m_below (u := c + z) h hk hS hz (hm k hk) (nI_add c z) (by omega), Option.bind_some]
  dsimp only
  rw [pk_sub hb, nI_l (by omega)]
  have e := m_obo_loop (a := 2 * z + 1 - bl m (2 * z + 1) (c + z) k) h hS hz hc hm hk S 0 aF (by omega) (by unfold aF; omega)
  rw [show prd (fun j => if j < k then bl m (2 * z + 1) (c + z) j else if k < j then 2 * z + 1 else 1) 0 = 1 from rfl, Nat.mul_one] at e
  refine e.trans ?_
  have e2 := obo_ref (m := m) (w := 2 * z + 1) (u := c + z) (k := k) (S - k - 1)
  rw [show k + 1 + (S - k - 1) = S by omega] at e2
  rw [e2]
  unfold obo
  rw [← Nat.mul_assoc, Nat.mul_comm (2 * z + 1 - bl m (2 * z + 1) (c + z) k)]
theorem m_gk_loop {ι : iS} {S z k u : Nat} {m : Nat → Nat} {v y2 : Int32} {y3 : Int64} {kk : Int32 → Int32 → Int64 → Int32 → Int64 → Int32 → iS → Option (Int64 × iS)} (h : MR ι S z m) (hS : S ≤ 8) (hz : z ≤ 5) (hm : ∀ k, k < S → m k < 1000) (hk : k < S) (hv : v + nI z = nI u) (hu : u < 999) : ∀ d j n, j + d = S → d < n → l_X7_atOnce_45 n (nI k) y2 y3 v (lN (prd (fun j => if j < k then bl m (2 * z + 1) u j else if k < j then bl m (2 * z + 1) (u + 1) j else 1) j)) (nI j) ι kk = kk (nI k) y2 y3 v (lN (gk m (2 * z + 1) S k u)) (nI S) ι := by
  intro d
  induction d with
  | zero =>
    intro j n hj hn
    obtain ⟨n, rfl⟩ : ∃ m, n = m + 1 := ⟨n - 1, by omega⟩
    obtain rfl : j = S := by omega
    rw [l_X7_atOnce_45, h.1, if_pos (Int32.le_refl _)]
    rfl
  | succ d ih =>
    intro j n hj hn
    obtain ⟨n, rfl⟩ : ∃ m, n = m + 1 := ⟨n - 1, by omega⟩
    have ih := ih (j + 1) n (by omega) (by omega)
    rw [prd, ← lN_mul] at ih
    rw [l_X7_atOnce_45, h.1, if_neg (nI_ge (by omega) (by omega)), nI_1]
    by_cases h1 : k ≤ j
    · rw [if_pos (nI_le h1 (by omega))]
      by_cases h2 : j ≤ k
      · rw [if_pos (nI_le h2 (by omega))]
        rw [if_neg (by omega), if_neg (by omega)] at ih
        exact ih
      · rw [if_neg (nI_ge (by omega) (by omega)), m_below (u := u + 1) h (by omega) hS hz (hm j (by omega)) ((g_3 hv).trans (nI_1 u)) (by omega), Option.bind_some]
        dsimp only
        rw [nI_l (by have : bl m (2 * z + 1) (u + 1) j ≤ 2 * z + 1 := bl_le; omega)]
        rw [if_neg (by omega), if_pos (by omega)] at ih
        exact ih
    · rw [if_neg (nI_ge (by omega) (by omega)), m_below (u := u) h (by omega) hS hz (hm j (by omega)) hv (by omega), Option.bind_some]
      dsimp only
      rw [nI_l (by have : bl m (2 * z + 1) u j ≤ 2 * z + 1 := bl_le; omega)]
      rw [if_pos (by omega)] at ih
      exact ih
theorem m_ao_loop {ι : iS} {S z c k : Nat} {m : Nat → Nat} {y2 : Int32} (h : MR ι S z m) (hS : S ≤ 8) (hz : z ≤ 5) (hm : ∀ k, k < S → m k < 500) (hk : k < S) : ∀ d i n, i + d = 2 * z + 1 → d < n → c + z ≤ m k + i → l_X7_atOnce_21 n (nI k) y2 (lN (sm (fun i => if c + z ≤ m k + i then gk m (2 * z + 1) S k (m k + i) else 0) i)) (nI (m k + i) - nI z) ι = some (lN (ao m (2 * z + 1) (c + z) S k), ι) := by
  intro d
  have hmk := hm k hk
  induction d with
  | zero =>
    intro i n hi hn hci
    obtain ⟨n, rfl⟩ : ∃ m, n = m + 1 := ⟨n - 1, by omega⟩
    obtain rfl : i = 2 * z + 1 := by omega
    rw [l_X7_atOnce_21, if_pos (aIn_nI (by omega) (by omega)), nI_clamp (by omega), h.2.2 k hk, h.2.1, nI_add, if_pos (show nI (m k + z) < nI (m k + (2 * z + 1)) - nI z by rw [pk_sub (by omega)]; exact nI_lt (by omega) (by omega))]
    rfl
  | succ d ih =>
    intro i n hi hn hci
    obtain ⟨n, rfl⟩ : ∃ m, n = m + 1 := ⟨n - 1, by omega⟩
    have ih := ih (i + 1) n (by omega) (by omega) (by omega)
    rw [sm, if_pos hci, ← lN_add, show m k + (i + 1) = m k + i + 1 by omega, ← nI_1 (m k + i), ← g_5] at ih
    have ht2 := pk_sub_toInt (a := m k + i) (b := z) (by omega) (by omega)
    rw [l_X7_atOnce_21, if_pos (aIn_nI (by omega) (by omega)), nI_clamp (by omega), h.2.2 k hk, h.2.1, nI_add, if_neg (show ¬ nI (m k + z) < nI (m k + i) - nI z by rw [Int32.lt_iff_toInt_lt, ht2, nI_toInt (by omega)]; omega)]
    have e := m_gk_loop (u := m k + i) (v := nI (m k + i) - nI z) (y2 := y2) (y3 := lN (sm (fun i => if c + z ≤ m k + i then gk m (2 * z + 1) S k (m k + i) else 0) i)) (kk := fun z45_1 z45_2 z45_3 z45_5 z45_6 z45_8 ι45 => l_X7_atOnce_21 n z45_1 z45_2 (z45_3 + z45_6) (z45_5 + 1) ι45) h hS hz (fun k hk => by have := hm k hk; omega) hk (g_6 _ _) (by omega) S 0 aF (by omega) (by unfold aF; omega)
    exact Eq.trans e ih
theorem m_ao {ι : iS} {S z c k : Nat} {m : Nat → Nat} (h : MR ι S z m) (hS : S ≤ 8) (hz : z ≤ 5) (hc : c ≤ 120) (hm : ∀ k, k < S → m k < 500) (hk : k < S) : m_X7_atOnce (nI k) (nI c) ι = some (lN (ao m (2 * z + 1) (c + z) S k), ι) := by
  unfold m_X7_atOnce
  have hmk := hm k hk
  have ht2 := pk_sub_toInt (a := m k) (b := z) (by omega) (by omega)
  rw [if_pos (aIn_nI (by omega) (by omega)), nI_clamp (by omega), h.2.2 k hk, h.2.1]
  unfold m_X7_more
  have hz0 : ∀ i, i ≤ c + z - m k → lN (sm (fun i => if c + z ≤ m k + i then gk m (2 * z + 1) S k (m k + i) else 0) i) = 0 := fun i hi => by
    rw [sm_zero i (fun j hj => if_neg (by omega))]
    rfl
  by_cases h1 : c + z ≤ m k
  · rw [if_pos (show nI c ≤ nI (m k) - nI z by rw [Int32.le_iff_toInt_le, ht2, nI_toInt (by omega)]; omega), Option.bind_some]
    have e := m_ao_loop (c := c) (y2 := nI c) h hS hz hm hk (2 * z + 1) 0 aF (by omega) (by unfold aF; omega) (by omega)
    exact e
  · have hv : nI c = nI (m k + (c + z - m k)) - nI z := by
      rw [show m k + (c + z - m k) = c + z by omega, ← nI_add]
      grind
    have hle : (if nI c ≤ nI (m k) - nI z then some (nI (m k) - nI z, ι) else some (nI c, ι)) = some (nI (m k + (c + z - m k)) - nI z, ι) := by
      rw [if_neg (show ¬ nI c ≤ nI (m k) - nI z by rw [Int32.le_iff_toInt_le, ht2, nI_toInt (by omega)]; omega), ← hv]
    rw [hle, Option.bind_some]
    dsimp only
    by_cases h2 : c + z - m k ≤ 2 * z + 1
    · have e := m_ao_loop (c := c) (y2 := nI c) h hS hz hm hk (2 * z + 1 - (c + z - m k)) (c + z - m k) aF (by omega) (by unfold aF; omega) (by omega)
      rw [hz0 _ (Nat.le_refl _)] at e
      exact e
    · obtain ⟨n, hn⟩ : ∃ n, aF = n + 1 := ⟨69999, rfl⟩
      rw [hn, l_X7_atOnce_21, if_pos (aIn_nI (by omega) (by omega)), nI_clamp (by omega), h.2.2 k hk, h.2.1, nI_add, if_pos (show nI (m k + z) < nI (m k + (c + z - m k)) - nI z by rw [pk_sub (by omega)]; exact nI_lt (by omega) (by omega))]
      unfold ao
      rw [hz0 (2 * z + 1) (by omega)]
theorem m_pck {ι : iS} {S z c k : Nat} {m : Nat → Nat} (h : MR ι S z m) (hS : S ≤ 8) (hz : z ≤ 5) (hc : c ≤ 120) (hm : ∀ k, k < S → m k < 500) (hk : k < S) (way : Int32) : m_X7_picked way (nI k) (nI c) ι = some (lN (pck m (2 * z + 1) (c + z) S way k), ι) := by
  unfold m_X7_picked pck
  by_cases hw : way = 0
  · rw [if_pos hw, if_pos hw, m_obo h hS hz hc (fun k hk => by have := hm k hk; omega) hk]
    rfl
  · rw [if_neg hw, if_neg hw, m_ao h hS hz hc hm hk]
    rfl
