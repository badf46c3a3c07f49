/-! counting cases, on both sides -/
theorem g_1 {a z b m : Int32} (h : a + z = b) : a - m + z = b - m := by grind
theorem g_2 {a z b m : Int32} (h : a + z = b) : a - (m - z) = b - m := by grind
theorem g_3 {a z b : Int32} (h : a + z = b) : a + 1 + z = b + 1 := by grind
theorem g_4 (m i z : Int32) : m + (i - z) + z = m + i := by grind
theorem g_5 (i z : Int32) : i - z + 1 = i + 1 - z := by grind
theorem g_6 (i z : Int32) : i - z + z = i := by grind
theorem d_held {u m w : Nat} (hu : u < 1000) (hm : m < 1000) (hw : 0 < w) (hw2 : w < 1000) (ι : iS) : m_X6_held (nI u - nI m) 0 (nI w) ι = some (nI (min w (u - m)), ι) := by
  unfold m_X6_held
  have ht := pk_sub_toInt (a := u) (b := m) (by omega) (by omega)
  by_cases h : u ≤ m
  · rw [if_pos (show nI u - nI m < nI w by rw [Int32.lt_iff_toInt_lt, ht, nI_toInt (by omega)]; omega), if_neg (show ¬ (0 : Int32) < nI u - nI m by rw [Int32.lt_iff_toInt_lt, ht]; show ¬ ((0 : Int) < _); omega), show min w (u - m) = 0 by omega]
    rfl
  · rw [pk_sub (by omega)]
    by_cases h2 : u - m < w
    · rw [if_pos (nI_lt h2 (by omega)), if_pos (show (0 : Int32) < nI (u - m) from nI_lt (a := 0) (b := u - m) (by omega) (by omega)), Nat.min_eq_right (by omega)]
    · rw [if_neg (nI_nlt (by omega) (by omega)), if_pos (show (0 : Int32) < nI w from nI_lt (a := 0) (b := w) hw (by omega)), Nat.min_eq_left (by omega)]
theorem d_below {ι : iS} {o S z c j u : Nat} {m : Nat → Nat} {v : Int32} (h : WR ι o S z c m) (hj : j < S) (hS : S ≤ 8) (hz : z ≤ 5) (hm : m j < 1000) (hv : v + nI z = nI u) (hu : u < 1000) : m_X5_casesBelow o (nI j) v ι = some (nI (bl m (2 * z + 1) u j), ι) := by
  unfold m_X5_casesBelow
  rw [if_pos (aIn_nI (by omega) (by omega)), nI_clamp (by omega), h.2.2.2.2 j hj, h.2.2.1, h.2.2.2.1, g_1 hv, d_held hu hm (by omega) (by omega)]
  rfl
def MR (ι : iS) (S z : Nat) (m : Nat → Nat) : Prop := gI ι 112 3 = nI S ∧ gI ι 112 4 = nI z ∧ ∀ k, k < S → gI ι 124 k = nI (m k)
theorem m_each {ι : iS} {S z : Nat} {m : Nat → Nat} (h : MR ι S z m) : m_X7_each ι = some (nI (2 * z + 1), ι) := by
  unfold m_X7_each
  rw [h.2.1, show (2 : Int32) * nI z = nI (2 * z) from pk_mul 2 z, nI_1]
theorem m_below {ι : iS} {S z j u : Nat} {m : Nat → Nat} {v : Int32} (h : MR ι S z m) (hj : j < S) (hS : S ≤ 8) (hz : z ≤ 5) (hm : m j < 1000) (hv : v + nI z = nI u) (hu : u < 1000) : m_X7_below (nI j) v ι = some (nI (bl m (2 * z + 1) u j), ι) := by
  unfold m_X7_below
  rw [m_each h, Option.bind_some]
  dsimp only
  rw [if_pos (aIn_nI (by omega) (by omega)), nI_clamp (by omega), h.2.2 j hj, h.2.1, g_2 hv]
  have ht := pk_sub_toInt (a := u) (b := m j) (by omega) (by omega)
  unfold m_X7_more m_X7_less bl
  by_cases h1 : m j ≤ u
  · rw [pk_sub h1, if_pos (nI_pos' (by omega)), Option.bind_some]
    dsimp only
    by_cases h2 : u - m j ≤ 2 * z + 1
    · rw [if_pos (nI_le h2 (by omega)), Nat.min_eq_right h2]
      rfl
    · rw [if_neg (nI_ge (by omega) (by omega)), Nat.min_eq_left (by omega)]
      rfl
  · rw [if_neg (show ¬ (0 : Int32) ≤ nI u - nI (m j) by rw [Int32.le_iff_toInt_le, ht]; show ¬ ((0 : Int) ≤ _); omega), Option.bind_some]
    dsimp only
    rw [if_pos (nI_pos' (by omega)), show min (2 * z + 1) (u - m j) = 0 by omega]
    rfl
theorem d_pow_loop {ι : iS} {o S z c : Nat} {m : Nat → Nat} (h : WR ι o S z c m) (hz : z ≤ 5) {e : Nat} (he : e ≤ 8) : ∀ d k n, k + d = e → d < n → l_X5_power_5 o n (nI e) (lN ((2 * z + 1) ^ k)) (nI k) ι = some (lN ((2 * z + 1) ^ e), ι) := by
  intro d
  induction d with
  | zero =>
    intro k n hk hn
    obtain ⟨n, rfl⟩ : ∃ m, n = m + 1 := ⟨n - 1, by omega⟩
    obtain rfl : k = e := by omega
    rw [l_X5_power_5, if_pos (Int32.le_refl _)]
  | succ d ih =>
    intro k n hk hn
    obtain ⟨n, rfl⟩ : ∃ m, n = m + 1 := ⟨n - 1, by omega⟩
    rw [l_X5_power_5, if_neg (nI_ge (by omega) (by omega)), h.2.2.2.1, nI_l (by omega), lN_mul, nI_1]
    exact ih (k + 1) n (by omega) (by omega)
theorem d_pow {ι : iS} {o S z c : Nat} {m : Nat → Nat} (h : WR ι o S z c m) (hz : z ≤ 5) {e : Nat} (he : e ≤ 8) : m_X5_power o (nI e) ι = some (lN ((2 * z + 1) ^ e), ι) := d_pow_loop h hz he e 0 aF (by omega) (by unfold aF; omega)
theorem d_all {ι : iS} {o S z c : Nat} {m : Nat → Nat} (h : WR ι o S z c m) (hS : S ≤ 8) (hz : z ≤ 5) : m_X5_allCases o ι = some (lN ((2 * z + 1) ^ S), ι) := by
  unfold m_X5_allCases
  rw [h.2.1, d_pow h hz hS]
  rfl
theorem d_low_loop {ι : iS} {o S z c : Nat} {m : Nat → Nat} (h : WR ι o S z c m) (hS : S ≤ 8) (hz : z ≤ 5) (hc : c ≤ 120) (hm : ∀ k, k < S → m k < 1000) {e : Nat} (he : e ≤ S) : ∀ d k n, k + d = e → d < n → l_X5_casesAllBelow_5 o n (nI e) (lN (prd (bl m (2 * z + 1) (c + z)) k)) (nI k) ι = some (lN (prd (bl m (2 * z + 1) (c + z)) e), ι) := by
  intro d
  induction d with
  | zero =>
    intro k n hk hn
    obtain ⟨n, rfl⟩ : ∃ m, n = m + 1 := ⟨n - 1, by omega⟩
    obtain rfl : k = e := by omega
    rw [l_X5_casesAllBelow_5, if_pos (Int32.le_refl _)]
  | succ d ih =>
    intro k n hk hn
    obtain ⟨n, rfl⟩ : ∃ m, n = m + 1 := ⟨n - 1, by omega⟩
    rw [l_X5_casesAllBelow_5, if_neg (nI_ge (by omega) (by omega)), h.1, d_below (u := c + z) h (by omega) hS hz (hm k (by omega)) (nI_add c z) (by omega), Option.bind_some]
    dsimp only
    rw [nI_l (by have : bl m (2 * z + 1) (c + z) k ≤ 2 * z + 1 := bl_le; omega), lN_mul, nI_1]
    exact ih (k + 1) n (by omega) (by omega)
theorem d_low {ι : iS} {o S z c : Nat} {m : Nat → Nat} (h : WR ι o S z c m) (hS : S ≤ 8) (hz : z ≤ 5) (hc : c ≤ 120) (hm : ∀ k, k < S → m k < 1000) {e : Nat} (he : e ≤ S) : m_X5_casesAllBelow o (nI e) ι = some (lN (prd (bl m (2 * z + 1) (c + z)) e), ι) := d_low_loop h hS hz hc hm he e 0 aF (by omega) (by unfold aF; omega)
theorem d_obo {ι : iS} {o S z c k : Nat} {m : Nat → Nat} (h : WR ι o S z c m) (hS : S ≤ 8) (hz : z ≤ 5) (hc : c ≤ 120) (hm : ∀ k, k < S → m k < 1000) (hk : k < S) : m_X5_casesOneByOne o (nI k) ι = some (lN (obo m (2 * z + 1) (c + z) S k), ι) := by
  unfold m_X5_casesOneByOne
  have hb : bl m (2 * z + 1) (c + z) k ≤ 2 * z + 1 := bl_le
  rw [h.1, d_below (u := c + z) h hk hS hz (hm k hk) (nI_add c z) (by omega), Option.bind_some]
  dsimp only
  rw [d_low h hS hz hc hm (by omega), Option.bind_some]
  dsimp only
  rw [h.2.1, pk_sub (by omega), show nI (S - k) - 1 = nI (S - k - 1) from pk_sub (a := S - k) (b := 1) (by omega), d_pow h hz (by omega), Option.bind_some]
  dsimp only
  rw [h.2.2.2.1, pk_sub hb, nI_l (by omega), lN_mul, lN_mul]
  rfl
theorem d_gk_loop {ι : iS} {o S z c k u : Nat} {m : Nat → Nat} {v : Int32} (h : WR ι o S z c m) (hS : S ≤ 8) (hz : z ≤ 5) (hm : ∀ k, k < S → m k < 1000) (hk : k < S) (hv : v + nI z = nI u) (hu : u < 999) : ∀ d j n, j + d = S → d < n → l_X5_casesGreatest_5 o n (nI k) v (lN (prd (fun j => if j < k then bl m (2 * z + 1) u j else if k < j then bl m (2 * z + 1) (u + 1) j else 1) j)) (nI j) ι = some (lN (gk m (2 * z + 1) S k u), ι) := by
  intro d
  induction d with
  | zero =>
    intro j n hj hn
    obtain ⟨n, rfl⟩ : ∃ m, n = m + 1 := ⟨n - 1, by omega⟩
    obtain rfl : j = S := by omega
    rw [l_X5_casesGreatest_5, h.2.1, if_pos (Int32.le_refl _)]
    rfl
  | succ d ih =>
    intro j n hj hn
    obtain ⟨n, rfl⟩ : ∃ m, n = m + 1 := ⟨n - 1, by omega⟩
    have ih := ih (j + 1) n (by omega) (by omega)
    rw [prd] at ih
    rw [l_X5_casesGreatest_5, h.2.1, if_neg (nI_ge (by omega) (by omega)), nI_1]
    by_cases h1 : j = k
    · rw [if_pos (by rw [h1])]
      rw [if_neg (by omega), if_neg (by omega), Nat.mul_one] at ih
      exact ih
    · rw [if_neg (show ¬ nI j = nI k from fun q => h1 ((nI_eq (by omega) (by omega)).mp q))]
      by_cases h2 : k ≤ j
      · rw [if_pos (nI_le h2 (by omega)), d_below (u := u + 1) h (by omega) hS hz (hm j (by omega)) ((g_3 hv).trans (nI_1 u)) (by omega), Option.bind_some]
        dsimp only
        rw [nI_l (by have : bl m (2 * z + 1) (u + 1) j ≤ 2 * z + 1 := bl_le; omega), lN_mul]
        rw [if_neg (by omega), if_pos (by omega)] at ih
        exact ih
      · rw [if_neg (nI_ge (by omega) (by omega)), d_below (u := u) h (by omega) hS hz (hm j (by omega)) hv (by omega), Option.bind_some]
        dsimp only
        rw [nI_l (by have : bl m (2 * z + 1) u j ≤ 2 * z + 1 := bl_le; omega), lN_mul]
        rw [if_pos (by omega)] at ih
        exact ih
theorem d_ao_loop {ι : iS} {o S z c k : Nat} {m : Nat → Nat} (h : WR ι o S z c m) (hS : S ≤ 8) (hz : z ≤ 5) (hc : c ≤ 120) (hm : ∀ k, k < S → m k < 500) (hk : k < S) : ∀ d i n, i + d = 2 * z + 1 → d < n → l_X5_casesAtOnce_9 o n (nI k) (lN (sm (fun i => if c + z ≤ m k + i then gk m (2 * z + 1) S k (m k + i) else 0) i)) (nI i - nI z) ι = some (lN (ao m (2 * z + 1) (c + z) S k), ι) := by
  intro d
  have hmk := hm k hk
  induction d with
  | zero =>
    intro i n hi hn
    obtain ⟨n, rfl⟩ : ∃ m, n = m + 1 := ⟨n - 1, by omega⟩
    obtain rfl : i = 2 * z + 1 := by omega
    rw [l_X5_casesAtOnce_9, h.2.2.1, if_pos (show nI z < nI (2 * z + 1) - nI z by rw [pk_sub (by omega)]; exact nI_lt (by omega) (by omega))]
    rfl
  | succ d ih =>
    intro i n hi hn
    obtain ⟨n, rfl⟩ : ∃ m, n = m + 1 := ⟨n - 1, by omega⟩
    have ih := ih (i + 1) n (by omega) (by omega)
    rw [sm, show nI (i + 1) - nI z = nI i - nI z + 1 by rw [← nI_1, g_5]] at ih
    have ht := pk_sub_toInt (a := i) (b := z) (by omega) (by omega)
    have hv : nI (m k) + (nI i - nI z) + nI z = nI (m k + i) := (g_4 _ _ _).trans (nI_add _ _)
    have hv2 : nI (m k) + (nI i - nI z) = nI (m k + i) - nI z := by
      have := g_6 (nI (m k) + (nI i - nI z)) (nI z)
      rw [← nI_add]
      exact (by grind : nI (m k) + (nI i - nI z) = nI (m k) + nI i - nI z)
    have ht2 := pk_sub_toInt (a := m k + i) (b := z) (by omega) (by omega)
    rw [l_X5_casesAtOnce_9, h.2.2.1, if_neg (show ¬ nI z < nI i - nI z by rw [Int32.lt_iff_toInt_lt, ht, nI_toInt (by omega)]; omega), if_pos (aIn_nI (by omega) (by omega)), nI_clamp (by omega), h.2.2.2.2 k hk, h.1]
    by_cases h1 : c + z ≤ m k + i
    · rw [if_pos h1] at ih
      rw [if_neg (show ¬ nI (m k) + (nI i - nI z) < nI c by rw [hv2, Int32.lt_iff_toInt_lt, ht2, nI_toInt (by omega)]; omega)]
      have e := d_gk_loop (u := m k + i) h hS hz (fun k hk => by have := hm k hk; omega) hk hv (by omega) S 0 aF (by omega) (by unfold aF; omega)
      rw [show m_X5_casesGreatest o (nI k) (nI (m k) + (nI i - nI z)) ι = some (lN (gk m (2 * z + 1) S k (m k + i)), ι) from e, Option.bind_some]
      dsimp only
      rw [lN_add]
      exact ih
    · rw [if_neg h1, Nat.add_zero] at ih
      rw [if_pos (show nI (m k) + (nI i - nI z) < nI c by rw [hv2, Int32.lt_iff_toInt_lt, ht2, nI_toInt (by omega)]; omega)]
      exact ih
def pck (m : Nat → Nat) (w c S : Nat) (way : Int32) (k : Nat) : Nat := if way = 0 then obo m w c S k else ao m w c S k
theorem pck_le {m : Nat → Nat} {w c S k : Nat} {way : Int32} (hw : 0 < w) (hk : k < S) : pck m w c S way k ≤ w ^ S := by
  unfold pck
  by_cases h : way = 0
  · rw [if_pos h]; exact obo_le hk
  · rw [if_neg h]; exact ao_le hw hk
theorem pck_sum {m : Nat → Nat} {w c S : Nat} (way : Int32) (hw : 0 < w) : sm (fun k => pck m w c S way k) S + prd (bl m w c) S = w ^ S := by
  by_cases h : way = 0
  · rw [sm_ext (f := fun k => pck m w c S way k) (g := fun k => obo m w c S k) S (fun k _ => if_pos h)]; exact obo_sum S
  · rw [sm_ext (f := fun k => pck m w c S way k) (g := fun k => ao m w c S k) S (fun k _ => if_neg h)]; exact ao_sum hw
theorem d_pck {ι : iS} {o S z c k : Nat} {m : Nat → Nat} (h : WR ι o S z c m) (hS : S ≤ 8) (hz : z ≤ 5) (hc : c ≤ 120) (hm : ∀ k, k < S → m k < 500) (hk : k < S) (way : Int32) : m_X5_casesOf o way (nI k) ι = some (lN (pck m (2 * z + 1) (c + z) S way k), ι) := by
  unfold m_X5_casesOf pck
  rw [if_neg (i_pos (by omega)), h.2.1, if_pos (nI_lt hk (by omega))]
  by_cases hw : way = 0
  · rw [if_pos hw, if_pos hw, d_obo h hS hz hc (fun k hk => by have := hm k hk; omega) hk]
    rfl
  · rw [if_neg hw, if_neg hw]
    have e := d_ao_loop h hS hz hc hm hk (2 * z + 1) 0 aF (by omega) (by unfold aF; omega)
    rw [show m_X5_casesAtOnce o (nI k) ι = some (lN (ao m (2 * z + 1) (c + z) S k), ι) by
      unfold m_X5_casesAtOnce
      rw [h.2.2.1, show -nI z = nI 0 - nI z from (by rw [nI_0]; grind)]
      exact e]
    rfl
theorem d_pck_no {ι : iS} {o S z c : Nat} {m : Nat → Nat} (way : Int32) : m_X5_casesOf o way (-1) ι = some (0, ι) := by
  unfold m_X5_casesOf
  rw [if_pos (by decide)]
