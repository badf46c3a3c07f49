theorem DrR_cg {ι ι' κ κ' : iS} {T P o : Nat} (h : DrR ι κ T P o) (h1 : ∀ y i, 12 ≤ y → y ≤ 18 → gI ι' y i = gI ι y i) (h2 : ∀ i, i = 6 ∨ i = 2 → gI ι' 11 i = gI ι 11 i) (h3 : ∀ i, i < 123 → gI κ' 113 i = gI κ 113 i) (h4 : ∀ i, i = 15 ∨ i = 7 → gI κ' 109 i = gI κ 109 i) : DrR ι' κ' T P o := by
  obtain ⟨d1, d2, d3, d4, d5, d6, d7⟩ := h
  have hP := d2.1
  have hT := d1.1
  refine ⟨?_, ?_, fun i hi => ?_, fun q hq hq0 t ht => ?_, fun t ht => ?_, fun q hq => ?_, ?_⟩
  · rw [h1 _ _ (by omega) (by omega), h3 _ (by omega)]; exact d1
  · rw [h1 _ _ (by omega) (by omega), h3 _ (by omega)]; exact d2
  · rw [h1 _ _ (by omega) (by omega), h3 _ (by omega)]; exact d3 i hi
  · rw [h1 _ _ (by omega) (by omega), h3 _ (by omega)]; exact d4 q hq hq0 t ht
  · rw [h1 _ _ (by omega) (by omega), h1 _ _ (by omega) (by omega), h3 _ (by omega), h3 _ (by omega)]; exact d5 t ht
  · rw [h1 _ _ (by omega) (by omega), h3 _ (by omega)]; exact d6 q hq
  · rw [h2 6 (by omega), h4 15 (by omega), h4 7 (by omega), h3 _ (by omega), h3 _ (by omega)]; exact d7
section LI2
variable {b : Nat → Nat} {n C : Nat} {p e : Nat → Nat}
/-- the tests at a line's start -/
theorem ln_tests {ι κ : iS} {k a T P o : Nat} {F : List (Nat × Nat)} (h : Ln b n C p e ι κ k a T P o F) (hkC : k < C) :
    (∀ x, x < 12 → (Wd b n x (p k) → m_X4_isWord (nI k) x ι = some (1, ι)) ∧ (¬ Wd b n x (p k) → m_X4_isWord (nI k) x ι = some (0, ι))) ∧
    (∀ x, x < 12 → (Wd b n x (p k) → m_X7_takes x (pI κ 109 4 (nI (p k))) = some (1, pI κ 109 4 (nI (e k)))) ∧ (¬ Wd b n x (p k) → m_X7_takes x (pI κ 109 4 (nI (p k))) = some (0, pI κ 109 4 (nI (p k))))) ∧
    (∀ x j, x < 12 → j < 6 → (¬ Wd b n x (p k) ∨ bit j o = 1 → m_X7_takesOnce x (nI j) (pI κ 109 4 (nI (p k))) = some (0, pI κ 109 4 (nI (p k)))) ∧ (Wd b n x (p k) ∧ bit j o = 0 → m_X7_takesOnce x (nI j) (pI κ 109 4 (nI (p k))) = some (1, pI (pI κ 109 4 (nI (e k))) 109 15 (nI (o + 2 ^ j))))) := by
  obtain ⟨hp, hdr, -⟩ := h
  obtain ⟨hT, hM, h4, h6, h5, hk, hat, hc⟩ := id hp
  obtain ⟨ho, ho2, -⟩ := hdr.2.2.2.2.2.2
  have ht : ∀ x, x < 12 → (Wd b n x (p k) → m_X7_takes x (pI κ 109 4 (nI (p k))) = some (1, pI κ 109 4 (nI (e k)))) ∧ (¬ Wd b n x (p k) → m_X7_takes x (pI κ 109 4 (nI (p k))) = some (0, pI κ 109 4 (nI (p k)))) := fun x hx => by
    have := m_takes hx (MB_at hM (nI (p k))) (by rw [gI_p2 _ _ (by omega)]; exact h6) (gI_p1 _ _ _ _) (Cr_s hc)
    rw [pI_pI, pI_pI] at this
    refine ⟨fun w => ?_, this.2⟩
    rw [(Wd_end hx hT hkC w).1]
    exact this.1 w
  refine ⟨fun x hx => ⟨fun w => (d_isWord hx hT hk).1 ⟨hkC, w⟩, fun w => (d_isWord hx hT hk).2 (fun q => w q.2)⟩, ht, fun x j hx hj => ?_⟩
  have hb := bit_lt j o
  have e15 : gI (pI κ 109 4 (nI (p k))) 109 15 = nI o := by rw [gI_p2 _ _ (by omega)]; exact ho2
  unfold m_X7_takesOnce
  rw [e15, bit_nI (by omega) (by omega)]
  refine ⟨fun q => ?_, fun q => ?_⟩
  · by_cases z : bit j o = 1
    · rw [z, if_pos (show nI 1 = 1 from rfl)]
    · rw [if_neg (show ¬ nI (bit j o) = 1 from fun w => z ((nI_eq (b := 1) (by omega) (by omega)).mp w)), (ht x hx).2 (q.resolve_right z), Option.bind_some]
      rfl
  · rw [q.2, if_neg (by decide), (ht x hx).1 q.1, Option.bind_some]
    dsimp only
    rw [if_neg i10, gI_p2 _ _ (by omega), ho2, fl_a o ho j hj q.2]
theorem rl_here {ι κ : iS} {k a : Nat} (hp : Pos b n C p e ι κ k a) : m_X7_here κ = some (bq b n (p k), pI κ 109 4 (nI (p k))) := m_here hp.2.1 hp.2.2.2.2.2.2.1 hp.2.2.2.2.2.2.2
/-- no part begins here, or one that has stood -/
theorem ln_none {ι κ : iS} {k a T P o : Nat} {F : List (Nat × Nat)} (h : Ln b n C p e ι κ k a T P o F) (hkC : k < C) (h1 : ¬ Wd b n 1 (p k)) (h2 : ¬ Wd b n 2 (p k)) (h3 : ∀ x j, (x = 3 ∧ j = 0) ∨ (x = 5 ∧ j = 1) ∨ (x = 6 ∧ j = 2) ∨ (x = 7 ∧ j = 3) ∨ (x = 8 ∧ j = 4) ∨ (x = 4 ∧ j = 5) → ¬ Wd b n x (p k) ∨ bit j o = 1) (hD : m_X3_readPart ι = some (0, fl ι 1 (p k))) : LnJ b n C p e ι κ k T (dLine (m_X3_readPart ι)) (m_X7_readsLine κ) := by
  obtain ⟨-, t2, t3⟩ := ln_tests h hkC
  have hfl := Flt_of (ι := ι) (κ := pI κ 109 4 (nI (p k))) (f := 1) (s := p k) (by omega) h.2.2.2.1.1 h.2.2.1.1 (Pos_pl h.1)
  have h6 : gI (pI κ 109 4 (nI (p k))) 109 6 = 0 := by rw [gI_p2 _ _ (by omega)]; exact h.1.2.2.2.1
  have hR : m_X7_readsLine κ = m_X7_must 59 (wr (pI κ 109 4 (nI (p k))) 1 (p k)) := by
    unfold m_X7_readsLine
    rw [rl_here h.1, Option.bind_some]
    dsimp only
    rw [show m_X7_takesOnce 3 0 (pI κ 109 4 (nI (p k))) = _ from (t3 3 0 (by omega) (by omega)).1 (h3 3 0 (by omega)), Option.bind_some]
    dsimp only
    rw [if_pos rfl, (t2 1 (by omega)).2 h1, Option.bind_some]
    dsimp only
    rw [if_pos rfl, (t2 2 (by omega)).2 h2, Option.bind_some]
    dsimp only
    rw [if_pos rfl, show m_X7_takesOnce 5 1 (pI κ 109 4 (nI (p k))) = _ from (t3 5 1 (by omega) (by omega)).1 (h3 5 1 (by omega)), Option.bind_some]
    dsimp only
    rw [if_pos rfl, show m_X7_takesOnce 6 2 (pI κ 109 4 (nI (p k))) = _ from (t3 6 2 (by omega) (by omega)).1 (h3 6 2 (by omega)), Option.bind_some]
    dsimp only
    rw [if_pos rfl, show m_X7_takesOnce 7 3 (pI κ 109 4 (nI (p k))) = _ from (t3 7 3 (by omega) (by omega)).1 (h3 7 3 (by omega)), Option.bind_some]
    dsimp only
    rw [if_pos rfl, show m_X7_takesOnce 8 4 (pI κ 109 4 (nI (p k))) = _ from (t3 8 4 (by omega) (by omega)).1 (h3 8 4 (by omega)), Option.bind_some]
    dsimp only
    rw [if_pos rfl, show m_X7_takesOnce 4 5 (pI κ 109 4 (nI (p k))) = _ from (t3 4 5 (by omega) (by omega)).1 (h3 4 5 (by omega)), Option.bind_some]
    dsimp only
    rw [if_pos rfl, gI_p1, m_wrong_y h6, Option.bind_some, show pI (pI (pI κ 109 4 (nI (p k))) 109 6 1) 109 7 (nI (p k)) = wr (pI κ 109 4 (nI (p k))) 1 (p k) from rfl, m_must_d (Flt_6 hfl)]
    rfl
  rw [hR, hD]
  exact ln_dead hfl (DW_fl ι 1 _) (((MW.rf κ).at' (k := 4) _ (by omega)).tr (MW_wr _ 1 _))
theorem must_bind (κ : iS) : (Option.bind (m_X7_must (59 : Int32) κ) fun r288 => some r288) = m_X7_must 59 κ := by
  cases m_X7_must 59 κ <;> rfl
theorem ln_filler {ι κ : iS} {k a T P o : Nat} {F : List (Nat × Nat)} (h : Ln b n C p e ι κ k a T P o F) (hkC : k < C) (hw : Wd b n 1 (p k)) (h3 : ¬ Wd b n 3 (p k)) : LnJ b n C p e ι κ k T (dLine (m_X3_readPart ι)) (m_X7_readsLine κ) := by
  obtain ⟨t1, t2, t3⟩ := ln_tests h hkC
  obtain ⟨hp, hdr, hF, hFm, hop⟩ := id h
  obtain ⟨d1, d2, d3, d4, d5, d6, d7⟩ := id hdr
  have h5 := hp.2.2.2.2.1
  have hP := Pos_on hp hkC
  have hRL : m_X7_readsLine κ = if gI (pI κ 109 4 (nI (e k))) 113 1 = (15 : Int32) then Option.bind (m_X7_wrong (3 : Int32) (nI (p k)) (pI κ 109 4 (nI (e k)))) fun r58 => Option.bind (m_X7_must (59 : Int32) r58) fun r288 => some r288 else Option.bind (m_X7_values (gI (pI (pI κ 109 4 (nI (e k))) 113 1 ((gI (pI κ 109 4 (nI (e k))) 113 1) + (1 : Int32))) 113 1) (pI (pI κ 109 4 (nI (e k))) 113 1 ((gI (pI κ 109 4 (nI (e k))) 113 1) + (1 : Int32)))) fun r81 => Option.bind (m_X7_must (59 : Int32) r81) fun r288 => some r288 := by
    unfold m_X7_readsLine
    rw [rl_here hp, Option.bind_some]
    dsimp only
    rw [show m_X7_takesOnce 3 0 (pI κ 109 4 (nI (p k))) = _ from (t3 3 0 (by omega) (by omega)).1 (Or.inl h3), Option.bind_some]
    dsimp only
    rw [if_pos rfl, (t2 1 (by omega)).1 hw, Option.bind_some]
    dsimp only
    rw [if_neg i10, gI_p1]
  have hRP : m_X3_readPart ι = Option.bind (m_X3_readFiller ι) fun r17 => if r17.1 = 0 ∨ r17.1 = 1 then some (r17.1, r17.2) else none := by
    unfold m_X3_readPart
    rw [h5, (t1 1 (by omega)).1 hw, Option.bind_some]
    dsimp only
    rw [if_neg i10]
  have e113 : gI (pI κ 109 4 (nI (e k))) 113 1 = nI (P - 1) := by rw [gI_p2 _ _ (by omega)]; exact d2.2.2
  rw [hRL, hRP, e113]
  unfold m_X3_readFiller
  rw [d2.2.1]
  by_cases hP16 : P = 16
  · have hfl := Flt_of (ι := ι) (κ := pI κ 109 4 (nI (e k))) (f := 3) (s := p k) (by omega) hFm.1 hF.1 (Pos_pl hp)
    rw [hP16, if_neg (by decide), if_pos (by decide), show m_X3_fail 3 ι = some (0, fl ι 3 (p k)) from d_fail hp 3, Option.bind_some]
    dsimp only
    rw [if_pos (Or.inl rfl), Option.bind_some]
    dsimp only
    rw [if_pos (Or.inl rfl), m_wrong_y hP.2.2.2.1, Option.bind_some, must_bind]
    exact ln_dead hfl (DW_fl ι 3 _) (((MW.rf κ).at' (k := 4) _ (by omega)).tr (MW_wr _ 3 _))
  · have hP15 := d2.1
    have e12 : gI (pI ι 11 5 (nI (k + 1))) 12 1 = nI P := by rw [gI_p2 _ _ (by omega)]; exact d2.2.1
    rw [if_pos (show nI P < 16 from nI_lt (b := 16) (by omega) (by omega)), if_neg (show ¬ nI (P - 1) = 15 from fun q => by have := (nI_eq (a := P - 1) (b := 15) (by omega) (by omega)).mp q; omega), h5, nI_1 k, e12, nI_1 P, gI_p1, nI_pred, nI_1 (P - 1), gI_p1, show P - 1 + 1 = P by omega]
    have hP2 : Pos b n C p e (pI (pI ι 11 5 (nI (k + 1))) 12 1 (nI (P + 1))) (pI (pI κ 109 4 (nI (e k))) 113 1 (nI P)) (k + 1) (e k) := Pos_cg hP ((DW.rf _).pI _ (by omega)) ((MW.rf _).row _) (gI_p2 _ _ (by omega)) (gI_p2 _ _ (by omega)) (gI_p2 _ _ (by omega)) (gI_p2 _ _ (by omega))
    rcases j_values (T := T) (q := P) d1.1 (by omega) T 0 aF aF _ _ (k + 1) (e k) (by omega) (by unfold aF; omega) (by unfold aF; omega) hP2 (by rw [gI_p2 _ _ (by omega), gI_p2 _ _ (by omega)]; exact d1.2.1) (by rw [gI_p2 _ _ (by omega), gI_p2 _ _ (by omega)]; exact d1.2.2) ⟨F.length, hFm.1, by rw [gI_p2 _ _ (by omega), gI_p2 _ _ (by omega)]; exact hF.1⟩ with ⟨ι', κ', k', a', g1, g2, g3, g4, g5, g6, g7, g8, g9, g10, g11⟩ | ⟨ι', κ', f, s, g1, g2, g3, g4, g5⟩
    · have gi : ∀ y i, ¬ (y = 11 ∧ i = 5) → ¬ (y = 12 ∧ i = 1) → ¬ (y = 13 ∧ 5 * P ≤ i ∧ i < 5 * P + T) → gI ι' y i = gI ι y i := fun y i q1 q2 q3 => by rw [g6 y i q1 (by omega), gI_p2 _ _ q2, gI_p2 _ _ q1]
      have gm : ∀ y i, ¬ (y = 109 ∧ i = 4) → ¬ (y = 113 ∧ i = 1) → ¬ (y = 113 ∧ 9 + 5 * P ≤ i ∧ i < 9 + 5 * P + T) → gI κ' y i = gI κ y i := fun y i q1 q2 q3 => by rw [g9 y i q1 (by omega), gI_p2 _ _ q2, gI_p2 _ _ q1]
      have hT5 := d1.1.2
      have hDr : DrR ι' κ' T (P + 1) o := by
        refine ⟨?_, ⟨by omega, ?_, ?_⟩, fun i hi => ?_, fun q hq hq0 t ht => ?_, fun t ht => ?_, fun q hq => ?_, ?_⟩
        · rw [gi _ _ (by omega) (by omega) (by omega), gm _ _ (by omega) (by omega) (by omega)]; exact d1
        · rw [g6 _ _ (by omega) (by omega), gI_p1]
        · rw [g9 _ _ (by omega) (by omega), gI_p1, Nat.add_sub_cancel]
        · rw [gi _ _ (by omega) (by omega) (by omega), gm _ _ (by omega) (by omega) (by omega)]; exact d3 i hi
        · by_cases z : q = P
          · subst z
            exact g5 t (by omega) ht
          · rw [gi _ _ (by omega) (by omega) (by omega), gm _ _ (by omega) (by omega) (by omega)]; exact d4 q (by omega) hq0 t ht
        · rw [gi _ _ (by omega) (by omega) (by omega), gi _ _ (by omega) (by omega) (by omega), gm _ _ (by omega) (by omega) (by omega), gm _ _ (by omega) (by omega) (by omega)]; exact d5 t ht
        · rw [gi _ _ (by omega) (by omega) (by omega), gm _ _ (by omega) (by omega) (by omega)]; exact d6 q hq
        · rw [gi _ _ (by omega) (by omega) (by omega), gm _ _ (by omega) (by omega) (by omega), gm _ _ (by omega) (by omega) (by omega), gm _ _ (by omega) (by omega) (by omega), gm _ _ (by omega) (by omega) (by omega)]; exact d7
      have hL : Ln b n C p e ι' κ' k' a' T (P + 1) o F := ⟨g3, hDr, FR_cg hF (fun y i q => gi y i (by omega) (by omega) (by omega)) (gm _ _ (by omega) (by omega) (by omega)) (fun i q => gm _ _ (by omega) (by omega) (by omega)), hFm, by rw [gm _ _ (by omega) (by omega) (by omega)]; exact hop⟩
      have hD : DW ι ι' := ⟨fun y i q => gi y i (by omega) (by omega) (by omega), g7, g8⟩
      have hM : MW κ κ' := ⟨fun y i q1 q2 => gm y i (by omega) (by omega) (by omega), g10, g11⟩
      rw [show m_X3_readValues (nI P) (pI (pI ι 11 5 (nI (k + 1))) 12 1 (nI (P + 1))) = some (1, ι') from g1, show m_X7_values (nI P) (pI (pI κ 109 4 (nI (e k))) 113 1 (nI P)) = some κ' from g2, Option.bind_some, Option.bind_some]
      dsimp only
      rw [if_pos (Or.inr rfl), Option.bind_some]
      dsimp only
      rw [if_pos (Or.inr rfl), must_bind]
      exact ln_end hL (by omega) hD hM
    · rw [show m_X3_readValues (nI P) (pI (pI ι 11 5 (nI (k + 1))) 12 1 (nI (P + 1))) = some (0, ι') from g1, show m_X7_values (nI P) (pI (pI κ 109 4 (nI (e k))) 113 1 (nI P)) = some κ' from g2, Option.bind_some, Option.bind_some]
      dsimp only
      rw [if_pos (Or.inl rfl), Option.bind_some]
      dsimp only
      rw [if_pos (Or.inl rfl), must_bind]
      exact ln_dead g3 ((((DW.rf ι).pI _ (by omega)).pI _ (by omega)).tr g4) ((((MW.rf κ).at' (k := 4) _ (by omega)).row _).tr g5)
end LI2
