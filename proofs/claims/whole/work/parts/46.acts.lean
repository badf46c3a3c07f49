/-! the acts but text -/
theorem LR_act {B B' : Nat → Nat → Int32} {r r' : Nat → Int32} {T P S S' : Nat} {F : List (Nat × Nat)} (h0 : LR0 B r T P S) (hc : Coded r T F) (hm : ∀ p, p < P → B 7 p = mt r T F p 0 ∧ B 8 p = mt r T F p 1)
    (hB0 : B' 0 0 = B 0 0 ∧ B' 0 1 = B 0 1) (hB : ∀ j k, j = 1 ∨ j = 2 ∨ j = 3 ∨ j = 7 ∨ j = 8 → B' j k = B j k) (hr : ∀ k, k = 0 ∨ k = 1 ∨ (8 ≤ k ∧ k < 99) ∨ (123 ≤ k ∧ k < 883) → r' k = r k)
    (hS : S' ≤ 8) (hS2 : B' 0 2 = nI S' ∧ r' 3 = nI S') (hset : ∀ i, i < 4 → B' 4 i = r' (4 + i) ∧ ∃ n, r' (4 + i) = nI n ∧ setLo i ≤ n ∧ n ≤ setHi i)
    (hord : ∀ k, k < S' → B' 5 k = r' (99 + k) ∧ ∃ p, r' (99 + k) = nI p ∧ p < P) (hinj : ∀ k l, k < S' → l < S' → r' (99 + k) = r' (99 + l) → k = l)
    (hmock : ∀ p, p < 16 → B' 6 p = r' (107 + p) ∧ ∃ c, r' (107 + p) = nI c ∧ c ≤ 999 ∧ (P ≤ p → c = 0)) : LR B' r' := by
  obtain ⟨⟨hT, hP, -⟩, ⟨⟨b0, r0⟩, ⟨b1, r1⟩, -⟩, -, hval, htold, -, -, -⟩ := h0
  refine ⟨T, P, S', F, ⟨⟨hT, hP, hS⟩, ⟨⟨hB0.1.trans b0, (hr _ (by omega)).trans r0⟩, ⟨hB0.2.trans b1, (hr _ (by omega)).trans r1⟩, hS2⟩, hset, fun p hp t ht => ?_, fun t ht => ?_, hord, hinj, hmock⟩, Coded_cg (fun k hk => hr k (by omega)) hc, fun p hp => ?_⟩
  · rw [hB 1 _ (by omega), hr _ (by omega)]; exact hval p hp t ht
  · rw [hB 2 _ (by omega), hB 3 _ (by omega), hr _ (by omega), hr _ (by omega)]; exact htold t ht
  · rw [hB 7 _ (by omega), hB 8 _ (by omega), mt_cg (fun k h1 h2 => hr k (by omega)) (by omega) hT.2 (Coded_okQ hc), mt_cg (fun k h1 h2 => hr k (by omega)) (by omega) hT.2 (Coded_okQ hc)]
    exact hm p hp
theorem past_act {κ ι2 : iS} {a : Nat} {R : Nat → Nat → Int32} (hPD : PD κ a R) (h1 : ∀ k, gP ι2 29 k = gP κ 29 k) (h2 : ∀ o k, 37 ≤ o → o ≤ 108 → gI ι2 o k = gI κ o k) (h3 : gI ι2 0 5 = gI κ 0 5) (h4 : gI ι2 109 12 = nI a) (h5 : ∀ k, k < a → ∀ i, i < 883 → gI ι2 (115 + k) i = R k i) :
    pastR ι2 ∧ ∃ a, a ≤ 8 ∧ gI ι2 0 5 = nI a ∧ gI ι2 109 12 = nI a ∧ ∀ k, k < a → ∀ o, gP ι2 29 k = some o → LR (blk ι2 o) (gI ι2 (115 + k)) := by
  obtain ⟨hp, ha, hac, hk⟩ := hPD
  refine ⟨pastR_sm h1 hp, a, ha, h3.trans hac, h4, fun k hk2 o ho => ?_⟩
  rw [h1] at ho
  obtain ⟨i, hi, e⟩ := pastR_le hp (by omega) ho
  rw [blk_eq (ι := κ) (fun j z hj => h2 _ _ (by omega) (by omega))]
  exact LR_cg (fun _ _ _ => rfl) (fun i hi => h5 k hk2 i hi) (hk k hk2 o ho)
theorem act {ι : iS} (h : Inv ι) : ∃ κ, m_X6_keepPast ι = some κ ∧ (∀ o k, 1 ≤ o → o ≤ 36 → gI κ o k = gI ι o k) ∧ (∀ o k, 109 ≤ o → gI κ o k = gI ι o k) ∧ 
    ∀ ι1 : iS, (∀ o k, ¬ (2 ≤ o ∧ o ≤ 10) → ¬ (o = 109 ∧ k = 0) → gI ι1 o k = gI κ o k) → gP ι1 = gP κ →
      ∃ μ, m_X7_remembers ι1 = some μ ∧ (∀ o k, o ≤ 114 → ¬ (o = 109 ∧ k = 12) → gI μ o k = gI ι1 o k) ∧ gJ μ = gJ ι1 ∧ gP μ = gP ι1 ∧
        ∀ ι2 : iS, (∀ o k, o ≠ 112 → gI ι2 o k = gI μ o k) → gP ι2 = gP μ → LR (blk ι2 2) (gI ι2 112) → Inv ι2 := by
  obtain ⟨hL, ⟨n, hn, t1, t2, t3⟩, ⟨hp, a, ha, ac1, ac2, hk⟩, hf, hrf⟩ := id h
  obtain ⟨κ, e1, e2, e3, e4, e5⟩ := d_keep (ι := ι) (a := a) (R := fun k => gI ι (115 + k)) ⟨hp, ha, ac1, hk⟩ hL
  refine ⟨κ, e1, fun o k h1 h2 => e3 o k (by omega) (by omega), fun o k h1 => e3 o k (by omega) (by omega), fun ι1 q1 q2 => ?_⟩
  have g : ∀ o k, 109 ≤ o → ¬ (o = 109 ∧ k = 0) → gI ι1 o k = gI ι o k := fun o k h1 h2 => (q1 o k (by omega) h2).trans (e3 o k (by omega) (by omega))
  have gr : ∀ o, 110 ≤ o → gI ι1 o = gI ι o := fun o h1 => funext fun k => g o k (by omega) (by omega)
  obtain ⟨μ, m1, m2, m3, m4, m5, m6⟩ := m_rem (ι := ι1) ha ((g _ _ (by omega) (by omega)).trans ac2)
  refine ⟨μ, m1, fun o k h1 h2 => m4 o k (by omega) h2, m5, m6, fun ι2 w1 w2 w3 => ?_⟩
  have z : ∀ o k, o ≠ 112 → o ≤ 114 → ¬ (2 ≤ o ∧ o ≤ 10) → ¬ (o = 109 ∧ k = 0) → ¬ (o = 109 ∧ k = 12) → gI ι2 o k = gI κ o k := fun o k h1 h2 h3 h4 h5 => (w1 o k h1).trans ((m4 o k (by omega) h5).trans (q1 o k h3 h4))
  have z2 : ∀ o k, o ≠ 112 → (o < 37 ∨ 108 < o) → o ≤ 114 → ¬ (2 ≤ o ∧ o ≤ 10) → ¬ (o = 109 ∧ k = 0) → ¬ (o = 109 ∧ k = 12) → ¬ (o = 0 ∧ k = 5) → gI ι2 o k = gI ι o k := fun o k h1 h2 h3 h4 h5 h6 h7 => (z o k h1 h3 h4 h5 h6).trans (e3 o k h2 h7)
  refine ⟨w3, ⟨n, hn, ?_, ?_, fun k hk => ?_⟩, past_act e2 (fun k => by rw [w2, m6, q2]) (fun o k h1 h2 => z o k (by omega) (by omega) (by omega) (by omega) (by omega)) (z 0 5 (by omega) (by omega) (by omega) (by omega) (by omega)) ?_ (fun k hk i hi => ?_), ?_, fun k hk => ?_⟩
  · rw [z2 0 1 (by omega) (by omega) (by omega) (by omega) (by omega) (by omega) (by omega)]; exact t1
  · rw [z2 109 2 (by omega) (by omega) (by omega) (by omega) (by omega) (by omega) (by omega)]; exact t2
  · rw [z2 1 k (by omega) (by omega) (by omega) (by omega) (by omega) (by omega) (by omega), z2 111 k (by omega) (by omega) (by omega) (by omega) (by omega) (by omega) (by omega)]; exact t3 k hk
  · rw [w1 _ _ (by omega)]; exact m2
  · rw [w1 _ _ (by omega), m3 k hk i hi]
    have ef : (fun k => gI ι1 (115 + k)) = fun k => gI ι (115 + k) := funext fun k => gr _ (by omega)
    rw [ef, gr 112 (by omega)]
  · rw [z2 0 6 (by omega) (by omega) (by omega) (by omega) (by omega) (by omega) (by omega), z2 109 5 (by omega) (by omega) (by omega) (by omega) (by omega) (by omega) (by omega)]; exact hf
  · rw [z2 30 k (by omega) (by omega) (by omega) (by omega) (by omega) (by omega) (by omega), z2 110 k (by omega) (by omega) (by omega) (by omega) (by omega) (by omega) (by omega)]; exact hrf k hk
/-! at which place one is shown -/
def plc (f : Nat → Int32) (p : Int32) : Nat → Nat → Int32
  | 0, _ => -1
  | d + 1, k => if f k = p then nI k else plc f p d (k + 1)
theorem d_plc {ι : iS} {o S : Nat} {y : Int32} (hS : gI ι o 2 = nI S) (h8 : S ≤ 8) : ∀ d k n, k + d = S → d < n → l_X2_placeOf_2 o n y (nI k) ι = some (plc (gI ι (o + 5)) y d k, ι) := by
  intro d
  induction d with
  | zero =>
    intro k n hk hn
    obtain ⟨n, rfl⟩ : ∃ m, n = m + 1 := ⟨n - 1, by omega⟩
    obtain rfl : k = S := by omega
    rw [l_X2_placeOf_2, hS, if_pos (Int32.le_refl _)]
    rfl
  | succ d ih =>
    intro k n hk hn
    obtain ⟨n, rfl⟩ : ∃ m, n = m + 1 := ⟨n - 1, by omega⟩
    rw [l_X2_placeOf_2, hS, if_neg (nI_ge (by omega) (by omega)), if_pos (aIn_nI (by omega) (by omega)), nI_clamp (by omega), nI_1, ih (k + 1) n (by omega) (by omega), plc]
    by_cases h : gI ι (o + 5) k = y
    · rw [if_pos h, if_pos h]
    · rw [if_neg h, if_neg h]
theorem m_plc {ι : iS} {S : Nat} {y : Int32} (hS : gI ι 112 3 = nI S) (h8 : S ≤ 8) : ∀ d k n, k + d = S → d < n → l_X7_placeOf_2 n y (nI k) ι = some (plc (fun k => gI ι 112 (99 + k)) y d k, ι) := by
  intro d
  induction d with
  | zero =>
    intro k n hk hn
    obtain ⟨n, rfl⟩ : ∃ m, n = m + 1 := ⟨n - 1, by omega⟩
    obtain rfl : k = S := by omega
    rw [l_X7_placeOf_2, hS, if_pos (Int32.le_refl _)]
    rfl
  | succ d ih =>
    intro k n hk hn
    obtain ⟨n, rfl⟩ : ∃ m, n = m + 1 := ⟨n - 1, by omega⟩
    rw [l_X7_placeOf_2, hS, if_neg (nI_ge (by omega) (by omega)), show (99 : Int32) + nI k = nI (99 + k) from nI_add 99 k, if_pos (aIn_nI (by omega) (by omega)), nI_clamp (by omega), nI_1, ih (k + 1) n (by omega) (by omega), plc]
    by_cases h : gI ι 112 (99 + k) = y
    · rw [if_pos h, if_pos h]
    · rw [if_neg h, if_neg h]
theorem plc_ext {f g : Nat → Int32} {p : Int32} : ∀ d k, (∀ i, k ≤ i → i < k + d → f i = g i) → plc f p d k = plc g p d k := by
  intro d
  induction d with
  | zero => intro k _; rfl
  | succ d ih =>
    intro k h
    rw [plc, plc, h k (by omega) (by omega), ih (k + 1) (fun i h1 h2 => h i (by omega) (by omega))]
theorem plc_cs {f : Nat → Int32} {p : Int32} : ∀ d k, (plc f p d k = -1 ∧ ∀ i, k ≤ i → i < k + d → f i ≠ p) ∨ ∃ i, k ≤ i ∧ i < k + d ∧ plc f p d k = nI i ∧ f i = p := by
  intro d
  induction d with
  | zero => intro k; exact Or.inl ⟨rfl, fun i h1 h2 => by omega⟩
  | succ d ih =>
    intro k
    rw [plc]
    by_cases h : f k = p
    · rw [if_pos h]
      exact Or.inr ⟨k, by omega, by omega, rfl, h⟩
    · rw [if_neg h]
      rcases ih (k + 1) with ⟨h1, h2⟩ | ⟨i, h1, h2, h3, h4⟩
      · refine Or.inl ⟨h1, fun i q1 q2 => ?_⟩
        by_cases hi : i = k
        · rw [hi]; exact h
        · exact h2 i (by omega) (by omega)
      · exact Or.inr ⟨i, by omega, by omega, h3, h4⟩
/-- both sides find the same place -/
theorem plc_both {ι κ : iS} {S P : Nat} (x : Int32) (hS : S ≤ 8) (b2 : gI ι 2 2 = nI S) (r2 : gI κ 112 3 = nI S) (hrow : ∀ k, k < S → gI κ 112 (99 + k) = gI ι 112 (99 + k)) (hord : ∀ k, k < S → gI ι 7 k = gI ι 112 (99 + k)) : m_X2_placeOf 2 x ι = some (plc (fun k => gI ι 112 (99 + k)) x S 0, ι) ∧ m_X7_placeOf x κ = some (plc (fun k => gI ι 112 (99 + k)) x S 0, κ) := by
  refine ⟨?_, ?_⟩
  · have e := d_plc (ι := ι) (o := 2) (S := S) (y := x) b2 hS S 0 aF (by omega) (by unfold aF; omega)
    rw [plc_ext (g := fun k => gI ι 112 (99 + k)) S 0 (fun i h1 h2 => hord i (by omega))] at e
    exact e
  · have e := m_plc (ι := κ) (S := S) (y := x) r2 hS S 0 aF (by omega) (by unfold aF; omega)
    rw [plc_ext (g := fun k => gI ι 112 (99 + k)) S 0 (fun i h1 h2 => hrow i (by omega))] at e
    exact e
theorem nI_nm1 {i : Nat} (h : i < 2 ^ 30) : ¬ nI i = -1 := fun q => by
  have := congrArg Int32.toInt q
  rw [nI_toInt (by omega)] at this
  have e : (-1 : Int32).toInt = -1 := by decide
  omega
