/-! the parts of a text, on both sides -/
def sd (o : Nat) : Nat := o / 2 % 16 + 16 * (o % 2) + 32 * (o / 32)
def db6 (j : Nat) : Nat := [16, 1, 2, 4, 8, 32].getD j 0
theorem fl_a : ∀ o, o < 64 → ∀ j, j < 6 → bit j o = 0 → nI o ||| ((1 : Int32) <<< (nI j &&& 31)) = nI (o + 2 ^ j) := by decide +kernel
theorem fl_b : ∀ o, o < 64 → ∀ j, j < 6 → bit j o = 0 → nI (sd o) &&& nI (db6 j) = 0 := by decide +kernel
theorem fl_c : ∀ o, o < 64 → ∀ j, j < 6 → bit j o = 0 → nI (sd o) ||| nI (db6 j) = nI (sd (o + 2 ^ j)) := by decide +kernel
theorem fl_d : ∀ o, o < 64 → ∀ j, j < 6 → bit j o = 0 → o + 2 ^ j < 64 := by decide +kernel
theorem fl_e : ∀ o, o < 64 → ∀ j, j < 6 → bit j o = 0 → bit j (o + 2 ^ j) = 1 := by decide +kernel
theorem fl_f0 : ((List.range 64).all fun o => (List.range 6).all fun j => (List.range 6).all fun i => !(bit j o == 0) || (i == j) || (bit i (o + 2 ^ j) == bit i o)) = true := by decide +kernel
theorem fl_f (o : Nat) (ho : o < 64) (j : Nat) (hj : j < 6) (i : Nat) (hi : i < 6) (h : bit j o = 0) (hij : ¬ i = j) : bit i (o + 2 ^ j) = bit i o := by
  have h1 := List.all_eq_true.mp (List.all_eq_true.mp (List.all_eq_true.mp fl_f0 o (List.mem_range.mpr ho)) j (List.mem_range.mpr hj)) i (List.mem_range.mpr hi)
  simp only [Bool.or_eq_true, Bool.not_eq_true', beq_iff_eq, beq_eq_false_iff_ne] at h1
  rcases h1 with (z | z) | z
  · exact absurd h z
  · exact absurd z hij
  · exact z
theorem fl_g : ∀ o, o < 64 → ∀ j, j < 6 → bit j o = 1 → ¬ nI (sd o) &&& nI (db6 j) = 0 := by decide +kernel
def DrR (ι κ : iS) (T P o : Nat) : Prop :=
  ((1 ≤ T ∧ T ≤ 5) ∧ gI ι 12 0 = nI T ∧ gI κ 113 0 = nI T) ∧ ((1 ≤ P ∧ P ≤ 16) ∧ gI ι 12 1 = nI P ∧ gI κ 113 1 = nI (P - 1)) ∧
  (∀ i, i < 4 → gI ι 16 i = gI κ 113 (4 + i) ∧ ∃ m, gI κ 113 (4 + i) = nI m ∧ setLo i ≤ m ∧ m ≤ setHi i) ∧
  (∀ q, q < P → (q = 0 → bit 0 o = 1) → ∀ t, t < T → gI ι 13 (5 * q + t) = gI κ 113 (9 + 5 * q + t) ∧ ∃ m, gI κ 113 (9 + 5 * q + t) = nI m ∧ m ≤ 9) ∧
  (∀ t, t < 5 → gI ι 14 t = gI κ 113 (89 + t) ∧ gI ι 15 t = gI κ 113 (94 + t) ∧ ((gI κ 113 (89 + t) = -1 ∧ gI κ 113 (94 + t) = 0) ∨ ∃ v w, gI κ 113 (89 + t) = nI v ∧ v ≤ 9 ∧ gI κ 113 (94 + t) = nI w ∧ 1 ≤ w ∧ w ≤ 9)) ∧
  (∀ q, q < 16 → gI ι 18 q = 0 ∧ gI κ 113 (107 + q) = 0) ∧
  (o < 64 ∧ gI κ 109 15 = nI o ∧ gI ι 11 6 = nI (sd o) ∧ gI κ 113 2 = nI (bit 0 o) ∧ gI κ 113 8 = nI (bit 5 o) ∧ gI κ 109 7 = -1)
def FmC (T o : Nat) (F : List (Nat × Nat)) : Prop := F.length ≤ 500 ∧ (bit 5 o = 0 → F = []) ∧ (bit 5 o = 1 → F ≠ [] ∧ (∀ q ∈ F, okQ T q) ∧ rHgt F 0 = some 1 ∧ (enc7 F).length ≤ 759)
section PA
variable {b : Nat → Nat} {n C : Nat} {p e : Nat → Nat}
def Ln (b : Nat → Nat) (n C : Nat) (p e : Nat → Nat) (ι κ : iS) (k a T P o : Nat) (F : List (Nat × Nat)) : Prop := Pos b n C p e ι κ k a ∧ DrR ι κ T P o ∧ FR ι κ F ∧ FmC T o F ∧ gI κ 109 14 = nI 0
theorem j_values {T q : Nat} (hT : 1 ≤ T ∧ T ≤ 5) (hq : q < 16) : ∀ d t m1 m2 ι κ k a, t + d = T → d < m1 → d + 1 < m2 → Pos b n C p e ι κ k a → gI ι 12 0 = nI T → gI κ 113 0 = nI T → (∃ c, c ≤ 500 ∧ gI ι 21 2 = nI c) →
    (∃ ι' κ' k' a', l_X3_readValues_2 m1 (nI q) (nI t) ι = some (1, ι') ∧ l_X7_values_2 m2 (nI q) (nI t) κ = some κ' ∧ Pos b n C p e ι' κ' k' a' ∧ k ≤ k' ∧ (∀ i, t ≤ i → i < T → gI ι' 13 (5 * q + i) = gI κ' 113 (9 + 5 * q + i) ∧ ∃ m, gI κ' 113 (9 + 5 * q + i) = nI m ∧ m ≤ 9) ∧ (∀ o i, ¬ (o = 11 ∧ i = 5) → ¬ (o = 13 ∧ 5 * q + t ≤ i ∧ i < 5 * q + T) → gI ι' o i = gI ι o i) ∧ gJ ι' = gJ ι ∧ gP ι' = gP ι ∧ (∀ o i, ¬ (o = 109 ∧ i = 4) → ¬ (o = 113 ∧ 9 + 5 * q + t ≤ i ∧ i < 9 + 5 * q + T) → gI κ' o i = gI κ o i) ∧ gJ κ' = gJ κ ∧ gP κ' = gP κ) ∨
    (∃ ι' κ' f s, l_X3_readValues_2 m1 (nI q) (nI t) ι = some (0, ι') ∧ l_X7_values_2 m2 (nI q) (nI t) κ = some κ' ∧ Flt ι' κ' f s ∧ DW ι ι' ∧ MW κ κ') := by
  intro d
  induction d with
  | zero =>
    intro t m1 m2 ι κ k a ht hm1 hm2 hp h12 h113 hc
    obtain ⟨m1, rfl⟩ : ∃ y, m1 = y + 1 := ⟨m1 - 1, by omega⟩
    obtain ⟨m2, rfl⟩ : ∃ y, m2 = y + 1 := ⟨m2 - 1, by omega⟩
    obtain rfl : t = T := by omega
    refine Or.inl ⟨ι, κ, k, a, ?_, ?_, hp, Nat.le_refl k, fun i h1 h2 => by omega, fun _ _ _ _ => rfl, rfl, rfl, fun _ _ _ _ => rfl, rfl, rfl⟩
    · rw [l_X3_readValues_2, h12, if_pos (Int32.le_refl _)]
    · rw [l_X7_values_2, h113, if_pos (Int32.le_refl _)]
  | succ d ih =>
    intro t m1 m2 ι κ k a ht hm1 hm2 hp h12 h113 hc
    obtain ⟨m1, rfl⟩ : ∃ y, m1 = y + 1 := ⟨m1 - 1, by omega⟩
    obtain ⟨m2, rfl⟩ : ∃ y, m2 = y + 1 := ⟨m2 - 1, by omega⟩
    have eix : ((9 : Int32) + (5 : Int32) * nI q) + nI t = nI (9 + 5 * q + t) := by
      rw [show (5 : Int32) = nI 5 from rfl, show (9 : Int32) = nI 9 from rfl, pk_mul, nI_add, nI_add]
    rw [l_X3_readValues_2, h12, if_neg (nI_ge (by omega) (by omega)), l_X7_values_2, h113, if_neg (nI_ge (by omega) (by omega)), m_fine_y hp.2.2.2.1, Option.bind_some]
    dsimp only
    rw [if_neg i10, eix, nI_clamp (by omega), nI_1]
    rcases j_num (lo := 0) (hi := 9) hp (by omega) (by omega) with ⟨v, hv1, hv2, hkC, e1, e2⟩ | ⟨f, w, x, hf, e1, e2⟩
    · have hP := Pos_on hp hkC
      have hP2 : Pos b n C p e (pI (pI ι 11 5 (nI (k + 1))) 13 (5 * q + t) (nI v)) (pI (pI κ 109 4 (nI (e k))) 113 (9 + 5 * q + t) (nI v)) (k + 1) (e k) := Pos_cg hP ((DW.rf _).pI _ (by omega)) ((MW.rf _).row _) (gI_p2 _ _ (by omega)) (gI_p2 _ _ (by omega)) (gI_p2 _ _ (by omega)) (gI_p2 _ _ (by omega))
      have hd1 : m_X3_readNumber 0 9 ι = some (nI v, pI ι 11 5 (nI (k + 1))) := e1
      have hm1' : m_X7_number 0 9 κ = some (nI v, pI κ 109 4 (nI (e k))) := e2
      rw [hd1, hm1', Option.bind_some, Option.bind_some]
      dsimp only
      rw [if_neg (nI_nm1 (by omega)), if_pos (aIn_nI (by omega) (by omega))]
      have hsv : m_X2_setValue 12 (nI q) (nI t) (nI v) (pI ι 11 5 (nI (k + 1))) = some (pI (pI ι 11 5 (nI (k + 1))) 13 (5 * q + t) (nI v)) := by
        unfold m_X2_setValue
        rw [show (5 : Int32) = nI 5 from rfl, pk_mul, nI_add, if_pos (aIn_nI (by omega) (by omega)), nI_clamp (by omega), Nat.mul_comm q 5]
      rw [hsv, Option.bind_some]
      rcases ih (t + 1) m1 m2 _ _ (k + 1) (e k) (by omega) (by omega) (by omega) hP2 (by rw [gI_p2 _ _ (by omega), gI_p2 _ _ (by omega)]; exact h12) (by rw [gI_p2 _ _ (by omega), gI_p2 _ _ (by omega)]; exact h113) (by obtain ⟨c, hc1, hc2⟩ := hc; exact ⟨c, hc1, by rw [gI_p2 _ _ (by omega), gI_p2 _ _ (by omega)]; exact hc2⟩) with ⟨ι', κ', k', a', g1, g2, g3, g4, g5, g6, g7, g8, g9, g10, g11⟩ | ⟨ι', κ', f, s, g1, g2, g3, g4, g5⟩
      · refine Or.inl ⟨ι', κ', k', a', g1, g2, g3, by omega, fun i h1 h2 => ?_, fun o i h1 h2 => ?_, g7, g8, fun o i h1 h2 => ?_, g10, g11⟩
        · by_cases z : i = t
          · subst z
            rw [g6 _ _ (by omega) (by omega), g9 _ _ (by omega) (by omega), gI_p1, gI_p1]
            exact ⟨rfl, v, rfl, hv2⟩
          · exact g5 i (by omega) h2
        · rw [g6 o i h1 (by omega), gI_p2 _ _ (by omega), gI_p2 _ _ h1]
        · rw [g9 o i h1 (by omega), gI_p2 _ _ (by omega), gI_p2 _ _ h1]
      · exact Or.inr ⟨ι', κ', f, s, g1, g2, g3, (((DW.rf ι).pI _ (by omega)).pI _ (by omega)).tr g4, ((((MW.rf κ).at' (k := 4) _ (by omega))).row _).tr g5⟩
    · obtain ⟨c, hc1, hc2⟩ := hc
      have hd1 : m_X3_readNumber 0 9 ι = some (-1, fl ι f (p k)) := e1
      have hm1' : m_X7_number 0 9 κ = some (w, wr (pI κ 109 4 (nI x)) f (p k)) := e2
      rw [hd1, hm1', Option.bind_some, Option.bind_some]
      dsimp only
      rw [if_pos rfl, if_pos (aIn_nI (by omega) (by omega))]
      have hfl := Flt_of (ι := ι) (κ := pI κ 109 4 (nI x)) (f := f) (s := p k) (c := c) (by omega) hc1 hc2 (Pos_pl hp)
      have hfl2 : Flt (fl ι f (p k)) (pI (wr (pI κ 109 4 (nI x)) f (p k)) 113 (9 + 5 * q + t) w) f (p k) := by
        obtain ⟨f1, f2, f3, f4, f5, f6, f7⟩ := hfl
        exact ⟨f1, f2, f3, f4, by rw [gI_p2 _ _ (by omega)]; exact f5, by rw [gI_p2 _ _ (by omega)]; exact f6, f7⟩
      refine Or.inr ⟨_, _, f, p k, rfl, ?_, hfl2, DW_fl ι f _, (((MW.rf κ).at' (k := 4) _ (by omega)).tr (MW_wr _ f _)).row _⟩
      obtain ⟨m2, rfl⟩ : ∃ y, m2 = y + 1 := ⟨m2 - 1, by omega⟩
      rw [l_X7_values_2, m_fine_n (Flt_6 hfl2), Option.bind_some]
      dsimp only
      by_cases z : gI (pI (wr (pI κ 109 4 (nI x)) f (p k)) 113 (9 + 5 * q + t) w) 113 0 ≤ nI (t + 1)
      · rw [if_pos z]
      · rw [if_neg z, if_pos rfl]
/-- a line's end: the sign ; -/
def LnJ (b : Nat → Nat) (n C : Nat) (p e : Nat → Nat) (ι κ : iS) (k : Nat) (T : Nat) (Dk : Option (Int32 × iS)) (Mk : Option iS) : Prop :=
  (∃ ι' κ' k' a' P' o' F', Dk = some (1, ι') ∧ Mk = some κ' ∧ Ln b n C p e ι' κ' k' a' T P' o' F' ∧ k < k' ∧ DW ι ι' ∧ MW κ κ') ∨ (∃ ι' κ' f s, Dk = some (0, ι') ∧ Mk = some κ' ∧ Flt ι' κ' f s ∧ DW ι ι' ∧ MW κ κ')
def dLine (Dk : Option (Int32 × iS)) : Option (Int32 × iS) := Option.bind Dk fun r78 => if r78.1 = 0 then some (0, r78.2) else Option.bind (m_X3_readSign (59 : Int32) r78.2) fun r87 => some (r87.1, r87.2)
theorem Ln_at {ι κ : iS} {k a T P o : Nat} {F : List (Nat × Nat)} (h : Ln b n C p e ι κ k a T P o F) {k' a' : Nat} {v w : Int32} (hP : Pos b n C p e (pI ι 11 5 v) (pI κ 109 4 w) k' a') : Ln b n C p e (pI ι 11 5 v) (pI κ 109 4 w) k' a' T P o F := by
  obtain ⟨h1, ⟨d1, d2, d3, d4, d5, d6, d7⟩, h3, h4, h5⟩ := h
  have gi : ∀ y i, y ≠ 11 → gI (pI ι 11 5 v) y i = gI ι y i := fun y i q => gI_p2 _ _ (by omega)
  have gm : ∀ i, gI (pI κ 109 4 w) 113 i = gI κ 113 i := fun i => gI_p2 _ _ (by omega)
  refine ⟨hP, ⟨?_, ?_, fun i hi => ?_, fun q hq hq0 t ht => ?_, fun t ht => ?_, fun q hq => ?_, ?_⟩, FR_cg h3 (fun y i q => gi y i (by omega)) (gI_p2 _ _ (by omega)) (fun i _ => gm i), h4, by rw [gI_p2 _ _ (by omega)]; exact h5⟩
  · rw [gi _ _ (by omega), gm]; exact d1
  · rw [gi _ _ (by omega), gm]; exact d2
  · rw [gi _ _ (by omega), gm]; exact d3 i hi
  · rw [gi _ _ (by omega), gm]; exact d4 q hq hq0 t ht
  · rw [gi _ _ (by omega), gi _ _ (by omega), gm, gm]; exact d5 t ht
  · rw [gi _ _ (by omega), gm]; exact d6 q hq
  · rw [gI_p2 _ _ (by omega), gI_p2 _ _ (by omega), gI_p2 _ _ (by omega), gI_p2 _ _ (by omega), gI_p2 _ _ (by omega)]; exact d7
theorem ln_end {ι κ ι1 κ1 : iS} {k k1 a1 T P o : Nat} {F : List (Nat × Nat)} (h : Ln b n C p e ι1 κ1 k1 a1 T P o F) (hk : k ≤ k1) (hD : DW ι ι1) (hM : MW κ κ1) : LnJ b n C p e ι κ k T (dLine (some (1, ι1))) (m_X7_must 59 κ1) := by
  unfold dLine
  rw [Option.bind_some]
  dsimp only
  rw [if_neg i10]
  rcases j_sign h.1 sgn_42.2.2.2.2.2 with ⟨s1, s2, s3⟩ | ⟨s2, s3⟩
  · refine Or.inl ⟨_, _, k1 + 1, e k1, P, o, F, ?_, s3, Ln_at h (Pos_on h.1 s1), by omega, hD.tr ((DW.rf _).pI _ (by omega)), hM.tr ((MW.rf _).at' _ (by omega))⟩
    rw [show m_X3_readSign 59 ι1 = some (1, pI ι1 11 5 (nI (k1 + 1))) from s2, Option.bind_some]
  · refine Or.inr ⟨_, _, 1, p k1, ?_, s3, Flt_of (by omega) h.2.2.2.1.1 h.2.2.1.1 (Pos_pl h.1), hD.tr (DW_fl ι1 1 _), hM.tr (((MW.rf κ1).at' (k := 4) _ (by omega)).tr (MW_wr _ 1 _))⟩
    rw [show m_X3_readSign 59 ι1 = some (0, fl ι1 1 (p k1)) from s2, Option.bind_some]
theorem ln_dead {ι κ ι1 κ1 : iS} {k T f s : Nat} (h : Flt ι1 κ1 f s) (hD : DW ι ι1) (hM : MW κ κ1) : LnJ b n C p e ι κ k T (dLine (some (0, ι1))) (m_X7_must 59 κ1) := by
  unfold dLine
  rw [Option.bind_some]
  dsimp only
  rw [if_pos rfl, m_must_d (Flt_6 h)]
  exact Or.inr ⟨ι1, κ1, f, s, rfl, rfl, h, hD, hM⟩
end PA
