/-! the reference reads the bytes themselves -/
theorem pI_pI (ι : iS) (o k : Nat) (x y : Int32) : pI (pI ι o k x) o k y = pI ι o k y := by
  have e : gI (pI (pI ι o k x) o k y) = gI (pI ι o k y) := by
    funext z w
    rw [gI_pI, gI_pI, gI_pI]
    by_cases h : z = o ∧ w = k
    · rw [if_pos h, if_pos h]
    · rw [if_neg h, if_neg h, if_neg h]
  exact Prod.ext e rfl
theorem pI_self (ι : iS) (o k : Nat) {v : Int32} (h : gI ι o k = v) : pI ι o k v = ι := by
  have e : gI (pI ι o k v) = gI ι := by
    funext z w
    rw [gI_pI]
    by_cases q : z = o ∧ w = k
    · rw [if_pos q, q.1, q.2, h]
    · rw [if_neg q]
  exact Prod.ext e rfl
def MB (κ : iS) (b : Nat → Nat) (n : Nat) : Prop := n ≤ 500 ∧ gI κ 109 3 = nI n ∧ ∀ i, i < n → gI κ 111 i = nI (b i) ∧ b i < 256
/-- between a and s there are blanks alone; at s there is none, or the end -/
def Cr (b : Nat → Nat) (n a s : Nat) : Prop := a ≤ s ∧ s ≤ n ∧ (∀ i, a ≤ i → i < s → b i = 32) ∧ (s = n ∨ b s ≠ 32)
def bq (b : Nat → Nat) (n i : Nat) : Int32 := if i < n then nI (b i) else -1
theorem m_byte {κ : iS} {b : Nat → Nat} {n i : Nat} (h : MB κ b n) (hi : i < 2000) : m_X7_byteAt (nI i) κ = some (bq b n i, κ) := by
  unfold m_X7_byteAt bq
  have hn := h.1
  by_cases q : i < n
  · rw [h.2.1, if_pos (nI_lt q (by omega)), if_pos (aIn_nI (by omega) (by omega)), nI_clamp (by omega), (h.2.2 i q).1, if_pos q]
  · rw [h.2.1, if_neg (nI_nlt (by omega) (by omega)), if_neg q]
theorem bq_eq {b : Nat → Nat} {n i c : Nat} (hb : i < n → b i < 256) (hc : c < 256) : bq b n i = nI c ↔ i < n ∧ b i = c := by
  unfold bq
  by_cases q : i < n
  · rw [if_pos q, nI_eq (by have := hb q; omega) (by omega)]
    exact ⟨fun h => ⟨q, h⟩, fun h => h.2⟩
  · rw [if_neg q]
    exact ⟨fun h => absurd h.symm (nI_nm1 (by omega)), fun h => absurd h.1 q⟩
theorem bq_m1 {b : Nat → Nat} {n i : Nat} (hb : i < n → b i < 256) : bq b n i = -1 ↔ ¬ i < n := by
  unfold bq
  by_cases q : i < n
  · rw [if_pos q]
    exact ⟨fun h => absurd h (nI_nm1 (by have := hb q; omega)), fun h => absurd q h⟩
  · rw [if_neg q]
    exact ⟨fun _ => q, fun _ => rfl⟩
theorem MB_at {κ : iS} {b : Nat → Nat} {n : Nat} (h : MB κ b n) (x : Int32) : MB (pI κ 109 4 x) b n := ⟨h.1, by rw [gI_p2 _ _ (by omega)]; exact h.2.1, fun i hi => by rw [gI_p2 _ _ (by omega)]; exact h.2.2 i hi⟩
theorem m_here_loop {b : Nat → Nat} {n s : Nat} : ∀ d a m κ, a + d = s → d < m → MB κ b n → gI κ 109 4 = nI a → Cr b n a s → l_X7_here_0 m κ = some (bq b n s, pI κ 109 4 (nI s)) := by
  intro d
  induction d with
  | zero =>
    intro a m κ ha hm h h4 hc
    obtain ⟨m, rfl⟩ : ∃ q, m = q + 1 := ⟨m - 1, by omega⟩
    obtain rfl : a = s := by omega
    have hn := h.1
    obtain ⟨-, c2, -, c4⟩ := hc
    rw [l_X7_here_0, h4, m_byte h (by omega), Option.bind_some]
    dsimp only
    rw [if_neg (show ¬ bq b n a = 32 from fun q => by
      have := (bq_eq (c := 32) (fun q => (h.2.2 a q).2) (by omega)).mp q
      rcases c4 with z | z
      · omega
      · exact z this.2), h4, m_byte h (by omega), Option.bind_some, pI_self _ _ _ h4]
  | succ d ih =>
    intro a m κ ha hm h h4 hc
    obtain ⟨m, rfl⟩ : ∃ q, m = q + 1 := ⟨m - 1, by omega⟩
    have hn := h.1
    obtain ⟨c1, c2, c3, c4⟩ := hc
    rw [l_X7_here_0, h4, m_byte h (by omega), Option.bind_some]
    dsimp only
    rw [if_pos (show bq b n a = 32 from (bq_eq (c := 32) (fun q => (h.2.2 a q).2) (by omega)).mpr ⟨by omega, c3 a (Nat.le_refl a) (by omega)⟩), h4, nI_1]
    have := ih (a + 1) m (pI κ 109 4 (nI (a + 1))) (by omega) (by omega) (MB_at h _) (gI_p1 _ _ _ _) ⟨by omega, c2, fun i h1 h2 => c3 i (by omega) h2, c4⟩
    rw [pI_pI] at this
    exact this
theorem m_here {κ : iS} {b : Nat → Nat} {n a s : Nat} (h : MB κ b n) (h4 : gI κ 109 4 = nI a) (hc : Cr b n a s) : m_X7_here κ = some (bq b n s, pI κ 109 4 (nI s)) := m_here_loop (s - a) a aF κ (by have := hc.1; omega) (by have := hc.2.1; have := h.1; unfold aF; omega) h h4 hc
theorem Cr_s {b : Nat → Nat} {n a s : Nat} (h : Cr b n a s) : Cr b n s s := ⟨Nat.le_refl s, h.2.1, fun i h1 h2 => by omega, h.2.2.2⟩
theorem m_fine_y {κ : iS} (h : gI κ 109 6 = 0) : m_X7_fine κ = some (1, κ) := by unfold m_X7_fine; rw [if_pos h]
theorem m_fine_n {κ : iS} (h : ¬ gI κ 109 6 = 0) : m_X7_fine κ = some (0, κ) := by unfold m_X7_fine; rw [if_neg h]
theorem m_digit_y {c : Nat} (h : dig c) (κ : iS) : m_X7_isDigit (nI c) κ = some (1, κ) := by
  have h1 := h.1
  have h2 := h.2
  unfold m_X7_isDigit
  rw [if_neg (show ¬ nI c < 48 from nI_nlt (b := 48) (by omega) (by omega)), if_neg (show ¬ 57 < nI c from nI_nlt (a := 57) (b := c) (by omega) (by omega))]
theorem m_digit_q {b : Nat → Nat} {n i : Nat} (hb : i < n → b i < 256) (h : ¬ (i < n ∧ dig (b i))) (κ : iS) : m_X7_isDigit (bq b n i) κ = some (0, κ) := by
  unfold m_X7_isDigit bq
  by_cases q : i < n
  · rw [if_pos q]
    have hbi := hb q
    by_cases z : b i < 48
    · rw [if_pos (show nI (b i) < 48 from nI_lt (b := 48) z (by omega))]
    · rw [if_neg (show ¬ nI (b i) < 48 from nI_nlt (b := 48) (by omega) (by omega)), if_pos (show 57 < nI (b i) from nI_lt (a := 57) (Nat.lt_of_not_le fun w => h ⟨q, by omega, w⟩) (by omega))]
  · rw [if_neg q, if_pos (by decide)]
theorem m_wrong_y {κ : iS} (h : gI κ 109 6 = 0) (x y : Int32) : m_X7_wrong x y κ = some (pI (pI κ 109 6 x) 109 7 y) := by unfold m_X7_wrong; rw [if_pos h]
theorem m_wrong_n {κ : iS} (h : ¬ gI κ 109 6 = 0) (x y : Int32) : m_X7_wrong x y κ = some κ := by unfold m_X7_wrong; rw [if_neg h]
/-- a fault at the place s -/
def wr (κ : iS) (f s : Nat) : iS := pI (pI κ 109 6 (nI f)) 109 7 (nI s)
theorem m_must_y {κ : iS} {b : Nat → Nat} {n a s c : Nat} (h : MB κ b n) (h6 : gI κ 109 6 = 0) (h4 : gI κ 109 4 = nI a) (hc : Cr b n a s) (hc2 : c < 256) (q : s < n ∧ b s = c) : m_X7_must (nI c) κ = some (pI κ 109 4 (nI (s + 1))) := by
  unfold m_X7_must
  rw [m_fine_y h6, Option.bind_some]
  dsimp only
  rw [if_neg i10, m_here h h4 hc, Option.bind_some]
  dsimp only
  rw [if_pos ((bq_eq (fun q => (h.2.2 s q).2) hc2).mpr q), gI_p1, nI_1, pI_pI]
theorem m_must_n {κ : iS} {b : Nat → Nat} {n a s c : Nat} (h : MB κ b n) (h6 : gI κ 109 6 = 0) (h4 : gI κ 109 4 = nI a) (hc : Cr b n a s) (hc2 : c < 256) (q : ¬ (s < n ∧ b s = c)) : m_X7_must (nI c) κ = some (wr (pI κ 109 4 (nI s)) 1 s) := by
  unfold m_X7_must
  rw [m_fine_y h6, Option.bind_some]
  dsimp only
  rw [if_neg i10, m_here h h4 hc, Option.bind_some]
  dsimp only
  rw [if_neg (fun w => q ((bq_eq (fun q => (h.2.2 s q).2) hc2).mp w)), gI_p1, m_wrong_y (by rw [gI_p2 _ _ (by omega)]; exact h6), Option.bind_some]
  rfl
theorem m_must_d {κ : iS} (h6 : ¬ gI κ 109 6 = 0) (c : Int32) : m_X7_must c κ = some κ := by
  unfold m_X7_must
  rw [m_fine_n h6, Option.bind_some]
  rfl
theorem m_num_loop {b : Nat → Nat} {n s ek : Nat} {lo hi : Int32} (hse : s < ek) (hen : ek ≤ n) (hd : ∀ i, s ≤ i → i < ek → dig (b i)) (he : ek = n ∨ ¬ dig (b ek)) : ∀ d q m κ, q + d = ek → s ≤ q → d < m → MB κ b n → gI κ 109 4 = nI q → l_X7_number_38 m lo hi (nI s) (nI (val b s (q - s))) κ = Option.bind (m_X7_in (nI (val b s (ek - s))) lo hi (pI κ 109 4 (nI ek))) fun r93 => if r93.1 = 0 then Option.bind (m_X7_wrong (2 : Int32) (nI s) r93.2) fun r102 => some (nI (val b s (ek - s)), r102) else some (nI (val b s (ek - s)), r93.2) := by
  intro d
  induction d with
  | zero =>
    intro q m κ hq hsq hm h h4
    obtain ⟨m, rfl⟩ : ∃ y, m = y + 1 := ⟨m - 1, by omega⟩
    obtain rfl : q = ek := by omega
    have hn := h.1
    rw [l_X7_number_38, h4, m_byte h (by omega), Option.bind_some]
    dsimp only
    rw [m_digit_q (fun q => (h.2.2 _ q).2) (fun w => he.elim (fun z => Nat.ne_of_lt w.1 z) (fun z => z w.2)), Option.bind_some]
    dsimp only
    rw [if_pos rfl, pI_self _ _ _ h4]
  | succ d ih =>
    intro q m κ hq hsq hm h h4
    obtain ⟨m, rfl⟩ : ∃ y, m = y + 1 := ⟨m - 1, by omega⟩
    have hn := h.1
    have hdq := hd q hsq (by omega)
    have hv := val_le b s (q - s)
    have h1 := hdq.1
    have h2 := hdq.2
    have ebq : bq b n q = nI (b q) := if_pos (by omega)
    rw [l_X7_number_38, h4, m_byte h (by omega), Option.bind_some]
    dsimp only
    rw [ebq, m_digit_y hdq, Option.bind_some]
    dsimp only
    rw [if_neg i10, h4, m_byte h (by omega), Option.bind_some]
    dsimp only
    rw [ebq]
    have e : (((10 : Int32) * nI (val b s (q - s))) + nI (b q)) - (48 : Int32) = nI (10 * val b s (q - s) + b q - 48) := by
      rw [show (10 : Int32) = nI 10 from rfl, pk_mul, nI_add, show (48 : Int32) = nI 48 from rfl, pk_sub (by omega)]
    have hless : m_X7_less (100000 : Int32) ((((10 : Int32) * nI (val b s (q - s))) + nI (b q)) - (48 : Int32)) κ = some (nI (val b s (q + 1 - s)), κ) := by
      unfold m_X7_less
      rw [e, show q + 1 - s = q - s + 1 by omega, val, show s + (q - s) = q by omega]
      by_cases z : 10 * val b s (q - s) + b q - 48 ≤ 100000
      · rw [if_pos (show nI (10 * val b s (q - s) + b q - 48) ≤ 100000 from nI_le (b := 100000) z (by omega)), show min 100000 (10 * val b s (q - s) + (b q - 48)) = 10 * val b s (q - s) + b q - 48 by omega]
      · rw [if_neg (show ¬ nI (10 * val b s (q - s) + b q - 48) ≤ 100000 from nI_ge (a := 100000) (by omega) (by omega)), show min 100000 (10 * val b s (q - s) + (b q - 48)) = 100000 by omega]
        rfl
    rw [hless, Option.bind_some]
    dsimp only
    rw [h4, nI_1]
    have := ih (q + 1) m (pI κ 109 4 (nI (q + 1))) (by omega) (by omega) (by omega) (MB_at h _) (gI_p1 _ _ _ _)
    rw [pI_pI] at this
    exact this
theorem m_num {κ : iS} {b : Nat → Nat} {n a s ek lo hi : Nat} (h : MB κ b n) (h6 : gI κ 109 6 = 0) (h4 : gI κ 109 4 = nI a) (hc : Cr b n a s) (hse : s < ek) (hen : ek ≤ n) (hd : ∀ i, s ≤ i → i < ek → dig (b i)) (he : ek = n ∨ ¬ dig (b ek)) (hlo : lo < 1000) (hhi : hi < 1000) : m_X7_number (nI lo) (nI hi) κ = if lo ≤ val b s (ek - s) ∧ val b s (ek - s) ≤ hi then some (nI (val b s (ek - s)), pI κ 109 4 (nI ek)) else some (nI (val b s (ek - s)), wr (pI κ 109 4 (nI ek)) 2 s) := by
  have hn := h.1
  have hv := val_le b s (ek - s)
  have ebq : bq b n s = nI (b s) := if_pos (by omega)
  unfold m_X7_number
  rw [m_fine_y h6, Option.bind_some]
  dsimp only
  rw [if_neg i10, m_here h h4 hc, Option.bind_some]
  dsimp only
  rw [ebq, m_digit_y (hd s (Nat.le_refl s) hse), Option.bind_some]
  dsimp only
  rw [if_neg i10, gI_p1]
  have e := m_num_loop (lo := nI lo) (hi := nI hi) hse hen hd he (ek - s) s aF (pI κ 109 4 (nI s)) (by omega) (Nat.le_refl s) (by unfold aF; omega) (MB_at h _) (gI_p1 _ _ _ _)
  rw [Nat.sub_self, show val b s 0 = 0 from rfl, pI_pI] at e
  refine Eq.trans e ?_
  by_cases q : lo ≤ val b s (ek - s) ∧ val b s (ek - s) ≤ hi
  · rw [if_pos q, m_in_y (nI_nlt q.1 (by omega)) (nI_nlt q.2 (by omega)), Option.bind_some]
    rfl
  · rw [if_neg q, m_in_n (show nI (val b s (ek - s)) < nI lo ∨ nI hi < nI (val b s (ek - s)) by
      rcases Nat.lt_or_ge (val b s (ek - s)) lo with z | z
      · exact Or.inl (nI_lt z (by omega))
      · exact Or.inr (nI_lt (Nat.lt_of_not_le fun w => q ⟨z, w⟩) (by omega))), Option.bind_some]
    dsimp only
    rw [if_pos rfl, m_wrong_y (by rw [gI_p2 _ _ (by omega)]; exact h6)]
    rfl
theorem m_num_no {κ : iS} {b : Nat → Nat} {n a s : Nat} (h : MB κ b n) (h6 : gI κ 109 6 = 0) (h4 : gI κ 109 4 = nI a) (hc : Cr b n a s) (q : ¬ (s < n ∧ dig (b s))) (lo hi : Int32) : m_X7_number lo hi κ = some (0, wr (pI κ 109 4 (nI s)) 1 s) := by
  unfold m_X7_number
  rw [m_fine_y h6, Option.bind_some]
  dsimp only
  rw [if_neg i10, m_here h h4 hc, Option.bind_some]
  dsimp only
  rw [m_digit_q (fun q => (h.2.2 _ q).2) q, Option.bind_some]
  dsimp only
  rw [if_pos rfl, gI_p1, m_wrong_y (by rw [gI_p2 _ _ (by omega)]; exact h6)]
  rfl
theorem m_num_d {κ : iS} (h6 : ¬ gI κ 109 6 = 0) (lo hi : Int32) : m_X7_number lo hi κ = some (0, κ) := by
  unfold m_X7_number
  rw [m_fine_n h6, Option.bind_some]
  rfl
theorem m_takes_loop {b : Nat → Nat} {n x s : Nat} (hx : x < 12) (hs : s ≤ n) (κ : iS) (h : MB κ b n) (h4 : gI κ 109 4 = nI s) : ∀ d j m, j + d = aLen.getD x 0 → d < m → (∀ i, i < j → s + i < n ∧ nI (b (s + i)) = sCh x i) → (Wd b n x s → l_X7_takes_16 x m (nI j) κ = some (1, pI κ 109 4 (nI (s + aLen.getD x 0)))) ∧ (¬ Wd b n x s → l_X7_takes_16 x m (nI j) κ = some (0, κ)) := by
  have hn := h.1
  obtain ⟨hl0, hl8⟩ := wd_pos x hx
  intro d
  induction d with
  | zero =>
    intro j m hj hm hall
    obtain ⟨m, rfl⟩ : ∃ y, m = y + 1 := ⟨m - 1, by omega⟩
    obtain rfl : j = aLen.getD x 0 := by omega
    have hsl : sLen x = nI (aLen.getD x 0) := rfl
    have hle : s + aLen.getD x 0 ≤ n := by
      have := (hall (aLen.getD x 0 - 1) (by omega)).1
      omega
    rw [l_X7_takes_16, hsl, if_pos (Int32.le_refl _), if_neg (nI_nlt (Nat.le_refl _) (by omega)), h4, nI_add, m_byte h (by omega), Option.bind_some]
    dsimp only
    by_cases hw : s + aLen.getD x 0 = n ∨ ¬ let' (b (s + aLen.getD x 0))
    · have hin : m_X7_in (bq b n (s + aLen.getD x 0)) 97 122 κ = some (0, κ) := by
        refine m_in_n ?_
        unfold bq
        by_cases q : s + aLen.getD x 0 < n
        · rw [if_pos q]
          have hb := (h.2.2 _ q).2
          have hnl := hw.resolve_left (by omega)
          by_cases z : b (s + aLen.getD x 0) < 97
          · exact Or.inl (nI_lt (b := 97) z (by omega))
          · exact Or.inr (nI_lt (a := 122) (Nat.lt_of_not_le fun w => hnl ⟨by omega, w⟩) (by omega))
        · rw [if_neg q]; exact Or.inl (by decide)
      refine ⟨fun _ => ?_, fun q => absurd ⟨hle, fun i hi => (hall i hi).2, hw⟩ q⟩
      rw [hin, Option.bind_some]
      dsimp only
      rw [if_pos rfl, h4, nI_add]
    · refine ⟨fun q => absurd q.2.2 hw, fun _ => ?_⟩
      obtain ⟨w1, w2⟩ := not_or.mp hw
      have w2 := Classical.not_not.mp w2
      have hlt : s + aLen.getD x 0 < n := by omega
      have hin : m_X7_in (bq b n (s + aLen.getD x 0)) 97 122 κ = some (1, κ) := by
        have w3 := w2.1
        have w4 := w2.2
        unfold bq
        rw [if_pos hlt]
        exact m_in_y (nI_nlt (b := 97) (by omega) (by omega)) (nI_nlt (a := 122) (by omega) (by omega))
      rw [hin, Option.bind_some]
      dsimp only
      rw [if_neg i10]
  | succ d ih =>
    intro j m hj hm hall
    obtain ⟨m, rfl⟩ : ∃ y, m = y + 1 := ⟨m - 1, by omega⟩
    have hsl : sLen x = nI (aLen.getD x 0) := rfl
    have hjn : s + j ≤ n := by
      by_cases z : j = 0
      · omega
      · have := (hall (j - 1) (by omega)).1; omega
    rw [l_X7_takes_16, hsl, if_neg (nI_ge (by omega) (by omega)), h4, nI_add, m_byte h (by omega), Option.bind_some]
    dsimp only
    rw [if_pos (aIn_nI (by omega) (by omega)), nI_clamp (by omega)]
    by_cases q : s + j < n ∧ nI (b (s + j)) = sCh x j
    · rw [if_pos (show bq b n (s + j) = sCh x j by unfold bq; rw [if_pos q.1]; exact q.2), nI_1]
      exact ih (j + 1) m (by omega) (by omega) (fun i hi => by
        by_cases z : i = j
        · rw [z]; exact q
        · exact hall i (by omega))
    · have hne : ¬ bq b n (s + j) = sCh x j := fun w => by
        obtain ⟨c, hc, -, hcc⟩ := wd_let x hx j (by omega)
        rw [hcc] at w
        have w2 := (bq_eq (fun q => (h.2.2 _ q).2) (by omega)).mp w
        exact q ⟨w2.1, by rw [w2.2, hcc]⟩
      rw [if_neg hne, if_pos (nI_lt (by omega) (by omega))]
      refine ⟨fun w => absurd ⟨by have := w.1; omega, w.2.1 j (by omega)⟩ q, fun _ => rfl⟩
theorem m_takes {κ : iS} {b : Nat → Nat} {n a s x : Nat} (hx : x < 12) (h : MB κ b n) (h6 : gI κ 109 6 = 0) (h4 : gI κ 109 4 = nI a) (hc : Cr b n a s) : (Wd b n x s → m_X7_takes x κ = some (1, pI κ 109 4 (nI (s + aLen.getD x 0)))) ∧ (¬ Wd b n x s → m_X7_takes x κ = some (0, pI κ 109 4 (nI s))) := by
  have hl := wd_pos x hx
  have e := m_takes_loop (x := x) hx hc.2.1 (pI κ 109 4 (nI s)) (MB_at h _) (gI_p1 _ _ _ _) (aLen.getD x 0) 0 aF (by omega) (by unfold aF; omega) (fun i hi => by omega)
  rw [pI_pI] at e
  unfold m_X7_takes
  rw [m_fine_y h6, Option.bind_some]
  dsimp only
  rw [if_neg i10, m_here h h4 hc, Option.bind_some]
  exact e
theorem m_takes_d {κ : iS} (h6 : ¬ gI κ 109 6 = 0) (x : Nat) : m_X7_takes x κ = some (0, κ) := by
  unfold m_X7_takes
  rw [m_fine_n h6, Option.bind_some]
  rfl
