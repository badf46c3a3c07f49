/-! a lineup is copied; a row is copied -/
def bd (j : Nat) : Nat := [3, 80, 5, 5, 4, 8, 16, 16, 16].getD j 0
theorem cpy_step {α : Type} {a : iS} {y x n : Nat} {f : iS → Option α} {Q : α → Prop} (h : ∀ b : iS, (∀ z k, gI b z k = if z = y ∧ k < n then gI a x k else gI a z k) → gJ b = gJ a → gP b = gP a → ∃ r, f b = some r ∧ Q r) : ∃ r, Option.bind (some (rI a y (va_cpy (gI a x) (gI a y) 0 0 n))) f = some r ∧ Q r := by
  rw [Option.bind_some]
  refine h _ (fun z k => ?_) rfl rfl
  rw [gI_rI]
  by_cases hz : z = y
  · subst hz
    rw [if_pos rfl]
    by_cases hk : k < n
    · rw [pk_cpy_in (by omega) (by omega), if_pos ⟨rfl, hk⟩, show 0 + (k - 0) = k by omega]
    · rw [pk_cpy_out (by omega), if_neg (by omega)]
  · rw [if_neg hz, if_neg (by omega)]
set_option maxHeartbeats 2000000 in
theorem d_copy {ι : iS} {o x : Nat} (ho : o + 8 < x ∨ x + 8 < o) : ∃ ι', m_X2_copyFrom o x ι = some ι' ∧ (∀ j k, k < bd j → gI ι' (o + j) k = gI ι (x + j) k) ∧ (∀ y k, (y < o ∨ o + 8 < y) → gI ι' y k = gI ι y k) ∧ gJ ι' = gJ ι ∧ gP ι' = gP ι := by
  obtain ⟨a, ha⟩ : ∃ a, a = pI (pI (pI ι o 0 (gI ι x 0)) o 1 (gI (pI ι o 0 (gI ι x 0)) x 1)) o 2 (gI (pI (pI ι o 0 (gI ι x 0)) o 1 (gI (pI ι o 0 (gI ι x 0)) x 1)) x 2) := ⟨_, rfl⟩
  have f0 : ∀ z k, gI a z k = if z = o ∧ k < 3 then gI ι x k else gI ι z k := by
    intro z k
    rw [ha]
    simp only [gI_pI]
    by_cases hz : z = o
    · rcases (show k = 0 ∨ k = 1 ∨ k = 2 ∨ 3 ≤ k by omega) with rfl | rfl | rfl | hk
      · simp [hz]
      · simp only [if_neg (show ¬ (x = o ∧ 1 = 0) by omega)]
        simp [hz]
      · simp only [if_neg (show ¬ (x = o ∧ 2 = 1) by omega), if_neg (show ¬ (x = o ∧ 2 = 0) by omega)]
        simp [hz]
      · rw [if_neg (by omega), if_neg (by omega), if_neg (by omega), if_neg (by omega)]
    · rw [if_neg (by omega), if_neg (by omega), if_neg (by omega), if_neg (by omega)]
  have hJ0 : gJ a = gJ ι := by rw [ha]; rfl
  have hP0 : gP a = gP ι := by rw [ha]; rfl
  unfold m_X2_copyFrom
  rw [← ha]
  refine cpy_step fun b1 f1 hJ1 hP1 => ?_
  refine cpy_step fun b2 f2 hJ2 hP2 => ?_
  refine cpy_step fun b3 f3 hJ3 hP3 => ?_
  refine cpy_step fun b4 f4 hJ4 hP4 => ?_
  refine cpy_step fun b5 f5 hJ5 hP5 => ?_
  refine cpy_step fun b6 f6 hJ6 hP6 => ?_
  refine cpy_step fun b7 f7 hJ7 hP7 => ?_
  refine cpy_step fun b8 f8 hJ8 hP8 => ?_
  refine ⟨b8, rfl, fun j k hk => ?_, fun y k hy => ?_, by rw [hJ8, hJ7, hJ6, hJ5, hJ4, hJ3, hJ2, hJ1, hJ0], by rw [hP8, hP7, hP6, hP5, hP4, hP3, hP2, hP1, hP0]⟩
  · rcases (show j = 0 ∨ j = 1 ∨ j = 2 ∨ j = 3 ∨ j = 4 ∨ j = 5 ∨ j = 6 ∨ j = 7 ∨ j = 8 ∨ 9 ≤ j by omega) with rfl | rfl | rfl | rfl | rfl | rfl | rfl | rfl | rfl | hj
    · have hk : k < 3 := hk
      rw [f8, if_neg (by omega), f7, if_neg (by omega), f6, if_neg (by omega), f5, if_neg (by omega), f4, if_neg (by omega), f3, if_neg (by omega), f2, if_neg (by omega), f1, if_neg (by omega), f0, if_pos (by omega)]
      rfl
    · have hk : k < 80 := hk
      rw [f8, if_neg (by omega), f7, if_neg (by omega), f6, if_neg (by omega), f5, if_neg (by omega), f4, if_neg (by omega), f3, if_neg (by omega), f2, if_neg (by omega), f1, if_pos (by omega), f0, if_neg (by omega)]
    · have hk : k < 5 := hk
      rw [f8, if_neg (by omega), f7, if_neg (by omega), f6, if_neg (by omega), f5, if_neg (by omega), f4, if_neg (by omega), f3, if_neg (by omega), f2, if_pos (by omega), f1, if_neg (by omega), f0, if_neg (by omega)]
    · have hk : k < 5 := hk
      rw [f8, if_neg (by omega), f7, if_neg (by omega), f6, if_neg (by omega), f5, if_neg (by omega), f4, if_neg (by omega), f3, if_pos (by omega), f2, if_neg (by omega), f1, if_neg (by omega), f0, if_neg (by omega)]
    · have hk : k < 4 := hk
      rw [f8, if_neg (by omega), f7, if_neg (by omega), f6, if_neg (by omega), f5, if_neg (by omega), f4, if_pos (by omega), f3, if_neg (by omega), f2, if_neg (by omega), f1, if_neg (by omega), f0, if_neg (by omega)]
    · have hk : k < 8 := hk
      rw [f8, if_neg (by omega), f7, if_neg (by omega), f6, if_neg (by omega), f5, if_pos (by omega), f4, if_neg (by omega), f3, if_neg (by omega), f2, if_neg (by omega), f1, if_neg (by omega), f0, if_neg (by omega)]
    · have hk : k < 16 := hk
      rw [f8, if_neg (by omega), f7, if_neg (by omega), f6, if_pos (by omega), f5, if_neg (by omega), f4, if_neg (by omega), f3, if_neg (by omega), f2, if_neg (by omega), f1, if_neg (by omega), f0, if_neg (by omega)]
    · have hk : k < 16 := hk
      rw [f8, if_neg (by omega), f7, if_pos (by omega), f6, if_neg (by omega), f5, if_neg (by omega), f4, if_neg (by omega), f3, if_neg (by omega), f2, if_neg (by omega), f1, if_neg (by omega), f0, if_neg (by omega)]
    · have hk : k < 16 := hk
      rw [f8, if_pos (by omega), f7, if_neg (by omega), f6, if_neg (by omega), f5, if_neg (by omega), f4, if_neg (by omega), f3, if_neg (by omega), f2, if_neg (by omega), f1, if_neg (by omega), f0, if_neg (by omega)]
    · exact absurd hk (by
        unfold bd
        rw [List.getD_eq_getElem?_getD, List.getElem?_eq_none (by simpa using hj)]
        exact Nat.not_lt_zero _)
  · rw [f8, if_neg (by omega), f7, if_neg (by omega), f6, if_neg (by omega), f5, if_neg (by omega), f4, if_neg (by omega), f3, if_neg (by omega), f2, if_neg (by omega), f1, if_neg (by omega), f0, if_neg (by omega)]
theorem m_copy_loop {x1 x2 : Nat} (hx : x1 ≠ x2) : ∀ d k n ι, k + d = 883 → d < n → ∃ ι', l_X7_copies_2 x1 x2 n (nI k) ι = some ι' ∧ (∀ i, k ≤ i → i < 883 → gI ι' x2 i = gI ι x1 i) ∧ (∀ i, i < k → gI ι' x2 i = gI ι x2 i) ∧ (∀ o i, o ≠ x2 → gI ι' o i = gI ι o i) ∧ gJ ι' = gJ ι ∧ gP ι' = gP ι := by
  intro d
  induction d with
  | zero =>
    intro k n ι hk hn
    obtain ⟨n, rfl⟩ : ∃ m, n = m + 1 := ⟨n - 1, by omega⟩
    obtain rfl : k = 883 := by omega
    refine ⟨ι, ?_, fun i h1 h2 => by omega, fun _ _ => rfl, fun _ _ _ => rfl, rfl, rfl⟩
    rw [l_X7_copies_2, if_pos (by decide)]
  | succ d ih =>
    intro k n ι hk hn
    obtain ⟨n, rfl⟩ : ∃ m, n = m + 1 := ⟨n - 1, by omega⟩
    obtain ⟨ι', e, g1, g2, g3, g4, g5⟩ := ih (k + 1) n (pI ι x2 k (gI ι x1 k)) (by omega) (by omega)
    refine ⟨ι', ?_, fun i h1 h2 => ?_, fun i h1 => ?_, fun o i ho => ?_, g4, g5⟩
    · rw [l_X7_copies_2, if_neg (show ¬ (883 : Int32) ≤ nI k from nI_ge (a := k) (b := 883) (by omega) (by omega)), if_pos (aIn_nI (by omega) (by omega)), if_pos (aIn_nI (by omega) (by omega)), nI_clamp (by omega), nI_1]
      exact e
    · by_cases hi : i = k
      · subst hi
        rw [g2 i (by omega), gI_p1]
      · rw [g1 i (by omega) h2, gI_p2 _ _ (by omega)]
    · rw [g2 i (by omega), gI_p2 _ _ (by omega)]
    · rw [g3 o i ho, gI_p2 _ _ (by omega)]
theorem m_copy {x1 x2 : Nat} (hx : x1 ≠ x2) (ι : iS) : ∃ ι', m_X7_copies x1 x2 ι = some ι' ∧ (∀ i, i < 883 → gI ι' x2 i = gI ι x1 i) ∧ (∀ o i, o ≠ x2 → gI ι' o i = gI ι o i) ∧ gJ ι' = gJ ι ∧ gP ι' = gP ι := by
  obtain ⟨ι', e, g1, -, g3, g4, g5⟩ := m_copy_loop hx 883 0 aF ι (by omega) (by unfold aF; omega)
  exact ⟨ι', e, fun i hi => g1 i (by omega) hi, g3, g4, g5⟩
/-! the relation looks at no more than that -/
theorem rOff_cg {r r' : Nat → Int32} (h : ∀ k, 9 ≤ k → k < 99 → r' k = r k) {p t : Nat} (hp : p < 16) (ht : t < 5) (g : Int32) : rOff r' p t g = rOff r p t g := by
  unfold rOff
  rw [h (89 + t) (by omega) (by omega), h (9 + 5 * p + t) (by omega) (by omega), h (9 + t) (by omega) (by omega)]
theorem rLeaf_cg {r r' : Nat → Int32} (h : ∀ k, 9 ≤ k → k < 99 → r' k = r k) {p T : Nat} (hp : p < 16) (hT : T ≤ 5) {q : Nat × Nat} (hq : okQ T q) (h4 : q.1 < 4) (g : Int32) : rLeaf r' p g q = rLeaf r p g q := by
  unfold rLeaf
  by_cases h0 : q.1 = 0
  · rw [if_pos h0, if_pos h0]
  · have hq2 : q.2 < 5 := by have := hq.2.2 (by omega) h4; omega
    rw [rOff_cg h hp hq2, h (9 + 5 * p + q.2) (by omega) (by omega), h (94 + q.2) (by omega) (by omega)]
theorem rStep_cg {r r' : Nat → Int32} (h : ∀ k, 9 ≤ k → k < 99 → r' k = r k) {p T : Nat} (hp : p < 16) (hT : T ≤ 5) {q : Nat × Nat} (hq : okQ T q) (g : Int32) (st : List Int64) : rStep r' p g st q = rStep r p g st q := by
  unfold rStep
  by_cases h4 : q.1 < 4
  · rw [if_pos h4, if_pos h4, rLeaf_cg h hp hT hq h4]
  · rw [if_neg h4, if_neg h4]
theorem rRun_cg {r r' : Nat → Int32} (h : ∀ k, 9 ≤ k → k < 99 → r' k = r k) {p T : Nat} (hp : p < 16) (hT : T ≤ 5) (g : Int32) : ∀ (F : List (Nat × Nat)) (st : List Int64), (∀ q ∈ F, okQ T q) → F.foldl (rStep r' p g) st = F.foldl (rStep r p g) st := by
  intro F
  induction F with
  | nil =>
    intro st _
    rw [List.foldl_nil, List.foldl_nil]
  | cons q F ih =>
    intro st hF
    have e1 := rStep_cg h hp hT (hF q List.mem_cons_self) g st
    have e2 := ih (rStep r p g st q) (fun q hq => hF q (List.mem_cons_of_mem _ hq))
    rw [List.foldl_cons, List.foldl_cons, e1]
    exact e2
theorem rPlain_cg {r r' : Nat → Int32} (h : ∀ k, 9 ≤ k → k < 99 → r' k = r k) {p : Nat} (hp : p < 16) (g : Int32) : ∀ T, T ≤ 5 → rPlain r' p g T = rPlain r p g T := by
  intro T
  induction T with
  | zero => intro _; rfl
  | succ t ih =>
    intro hT
    show rPlain r' p g t + (r' (94 + t) * (9 - rOff r' p t g)).toInt64 = rPlain r p g t + (r (94 + t) * (9 - rOff r p t g)).toInt64
    rw [ih (by omega), h _ (by omega) (by omega), rOff_cg h hp (by omega)]
theorem Coded_okQ {r : Nat → Int32} {T : Nat} {F : List (Nat × Nat)} (h : Coded r T F) : ∀ q ∈ F, okQ T q := by
  rcases h with ⟨-, rfl⟩ | ⟨-, -, h, -⟩
  · intro q hq; cases hq
  · exact h
theorem mt_cg {r r' : Nat → Int32} (h : ∀ k, 9 ≤ k → k < 99 → r' k = r k) {p T : Nat} (hp : p < 16) (hT : T ≤ 5) {F : List (Nat × Nat)} (hF : ∀ q ∈ F, okQ T q) (g : Int32) : mt r' T F p g = mt r T F p g := by
  unfold mt rRun
  rw [rRun_cg h hp hT g F [] hF, rPlain_cg h hp g T hT]
theorem Coded_cg {r r' : Nat → Int32} (h : ∀ k, k = 8 ∨ (123 ≤ k ∧ k < 883) → r' k = r k) {T : Nat} {F : List (Nat × Nat)} (hc : Coded r T F) : Coded r' T F := by
  rcases hc with ⟨h1, h2⟩ | ⟨h1, h2, h3, h4, h5, h6, h7⟩
  · exact Or.inl ⟨(h 8 (by omega)).trans h1, h2⟩
  · exact Or.inr ⟨(h 8 (by omega)).trans h1, h2, h3, h4, h5, fun i hi => (h _ (by omega)).trans (h6 i hi), (h _ (by omega)).trans h7⟩
theorem LR0_cg {B B' : Nat → Nat → Int32} {r r' : Nat → Int32} (hB : ∀ j k, k < bd j → B' j k = B j k) (hr : ∀ k, k < 883 → r' k = r k) {T P S : Nat} (h : LR0 B r T P S) : LR0 B' r' T P S := by
  obtain ⟨⟨hT, hP, hS⟩, ⟨⟨b0, r0⟩, ⟨b1, r1⟩, ⟨b2, r2⟩⟩, hset, hval, htold, hord, hinj, hmock⟩ := h
  refine ⟨⟨hT, hP, hS⟩, ⟨⟨(hB 0 0 (by decide)).trans b0, (hr _ (by omega)).trans r0⟩, ⟨(hB 0 1 (by decide)).trans b1, (hr _ (by omega)).trans r1⟩, ⟨(hB 0 2 (by decide)).trans b2, (hr _ (by omega)).trans r2⟩⟩, fun i hi => ?_, fun p hp t ht => ?_, fun t ht => ?_, fun k hk => ?_, fun k l hk hl e => ?_, fun p hp => ?_⟩
  · rw [hB 4 i (show i < 4 from hi), hr _ (by omega)]; exact hset i hi
  · rw [hB 1 _ (show 5 * p + t < 80 by omega), hr _ (by omega)]; exact hval p hp t ht
  · rw [hB 2 _ (show t < 5 from ht), hB 3 _ (show t < 5 from ht), hr _ (by omega), hr _ (by omega)]; exact htold t ht
  · rw [hB 5 _ (show k < 8 by omega), hr _ (by omega)]; exact hord k hk
  · rw [hr _ (by omega), hr _ (by omega)] at e; exact hinj k l hk hl e
  · rw [hB 6 _ (show p < 16 from hp), hr _ (by omega)]; exact hmock p hp
theorem LR_cg {B B' : Nat → Nat → Int32} {r r' : Nat → Int32} (hB : ∀ j k, k < bd j → B' j k = B j k) (hr : ∀ k, k < 883 → r' k = r k) (h : LR B r) : LR B' r' := by
  obtain ⟨T, P, S, F, h0, hc, hm⟩ := h
  refine ⟨T, P, S, F, LR0_cg hB hr h0, Coded_cg (fun k hk => hr k (by omega)) hc, fun p hp => ?_⟩
  have hp16 : p < 16 := by have := h0.1.2.1.2; omega
  rw [hB 7 _ (show p < 16 from hp16), hB 8 _ (show p < 16 from hp16), mt_cg (fun k _ hk => hr k (by omega)) hp16 h0.1.1.2 (Coded_okQ hc), mt_cg (fun k _ hk => hr k (by omega)) hp16 h0.1.1.2 (Coded_okQ hc)]
  exact hm p hp
