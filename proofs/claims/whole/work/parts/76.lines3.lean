section LI4
variable {b : Nat → Nat} {n C : Nat} {p e : Nat → Nat}
theorem Flt_row {ι κ : iS} {f s : Nat} (h : Flt ι κ f s) (i : Nat) (v : Int32) : Flt ι (pI κ 113 i v) f s := by
  obtain ⟨f1, f2, f3, f4, f5, f6, f7⟩ := h
  exact ⟨f1, f2, f3, f4, by rw [gI_p2 _ _ (by omega)]; exact f5, by rw [gI_p2 _ _ (by omega)]; exact f6, f7⟩
theorem ln_told {ι κ : iS} {k a T P o : Nat} {F : List (Nat × Nat)} (h : Ln b n C p e ι κ k a T P o F) (hkC : k < C) (hw : Wd b n 2 (p k)) (hno : ∀ y, y < 12 → y ≠ 2 → ¬ Wd b n y (p k)) : LnJ b n C p e ι κ k T (dLine (m_X3_readPart ι)) (m_X7_readsLine κ) := by
  obtain ⟨t1, t2, t3⟩ := ln_tests h hkC
  obtain ⟨hp, hdr, hF, hFm, hop⟩ := id h
  obtain ⟨d1, d2, d3, d4, d5, d6, d7⟩ := id hdr
  have h5 := hp.2.2.2.2.1
  have hP16 := d2.1.2
  have hT5 := d1.1
  have hP := Pos_on hp hkC
  have hT1 : nI T - 1 = nI (T - 1) := pk_sub (a := T) (b := 1) (by omega)
  have hRP : m_X3_readPart ι = Option.bind (m_X3_readTold (pI ι 11 5 (nI (k + 1)))) fun r48 => if r48.1 = 0 ∨ r48.1 = 1 then some (r48.1, r48.2) else none := by
    unfold m_X3_readPart
    rw [h5, (t1 1 (by omega)).2 (hno 1 (by omega) (by omega)), Option.bind_some]
    dsimp only
    rw [if_pos rfl, h5, (t1 2 (by omega)).1 hw, Option.bind_some]
    dsimp only
    rw [if_neg i10, h5, nI_1]
  have hRL : m_X7_readsLine κ = Option.bind (m_X7_traitTold (pI κ 109 4 (nI (e k)))) fun r97 => Option.bind (m_X7_number (0 : Int32) (9 : Int32) r97.2) fun r105 => Option.bind (m_X7_number (1 : Int32) (9 : Int32) r105.2) fun r113 => Option.bind (m_X7_fine r113.2) fun r119 => if r119.1 = 0 then Option.bind (m_X7_must (59 : Int32) r119.2) fun r288 => some r288 else if aIn ((89 : Int32) + r97.1) 883 = true then if aIn ((94 : Int32) + r97.1) 883 = true then Option.bind (m_X7_must (59 : Int32) (pI (pI r119.2 113 ((89 : Int32) + r97.1).toNatClampNeg r105.1) 113 ((94 : Int32) + r97.1).toNatClampNeg r113.1)) fun r288 => some r288 else none else none := by
    unfold m_X7_readsLine
    rw [rl_here hp, Option.bind_some]
    dsimp only
    rw [show m_X7_takesOnce 3 0 (pI κ 109 4 (nI (p k))) = _ from (t3 3 0 (by omega) (by omega)).1 (Or.inl (hno 3 (by omega) (by omega))), Option.bind_some]
    dsimp only
    rw [if_pos rfl, (t2 1 (by omega)).2 (hno 1 (by omega) (by omega)), Option.bind_some]
    dsimp only
    rw [if_pos rfl, (t2 2 (by omega)).1 hw, Option.bind_some]
    dsimp only
    rw [if_neg i10]
  rw [hRL, hRP, traitTold_eq, gI_p2 _ _ (by omega), d1.2.2, hT1]
  unfold m_X3_readTold
  rw [gI_p2 _ _ (by omega), d1.2.1, hT1]
  have dead : ∀ {ι1 κ1 : iS} {f s : Nat}, Flt ι1 κ1 f s → (Option.bind (m_X7_fine κ1) fun r119 => if r119.1 = 0 then Option.bind (m_X7_must (59 : Int32) r119.2) fun r288 => some r288 else (none : Option iS)) = m_X7_must 59 κ1 := fun hf => by
    rw [m_fine_n (Flt_6 hf), Option.bind_some]
    dsimp only
    rw [if_pos rfl, must_bind]
  rcases j_num (lo := 0) (hi := T - 1) hP (by omega) (by omega) with ⟨v1, v11, v12, kC1, e1, e2⟩ | ⟨f, w, x, hf, e1, e2⟩
  · have hP1 := Pos_on hP kC1
    rw [show m_X3_readNumber 0 (nI (T - 1)) _ = _ from e1, show m_X7_number 0 (nI (T - 1)) _ = _ from e2, Option.bind_some, Option.bind_some]
    dsimp only
    rw [if_neg (nI_nm1 (by omega))]
    rcases j_num (lo := 0) (hi := 9) hP1 (by omega) (by omega) with ⟨v2, v21, v22, kC2, g1, g2⟩ | ⟨f, w, x, hf, g1, g2⟩
    · have hP2 := Pos_on hP1 kC2
      rw [show m_X3_readNumber 0 9 _ = _ from g1, show m_X7_number 0 9 _ = _ from g2, Option.bind_some, Option.bind_some]
      dsimp only
      rw [if_neg (nI_nm1 (by omega))]
      rcases j_num (lo := 1) (hi := 9) hP2 (by omega) (by omega) with ⟨v3, v31, v32, kC3, u1, u2⟩ | ⟨f, w, x, hf, u1, u2⟩
      · have hP3 := Pos_on hP2 kC3
        rw [show m_X3_readNumber 1 9 _ = _ from u1, show m_X7_number 1 9 _ = _ from u2, Option.bind_some, Option.bind_some]
        dsimp only
        rw [if_neg (nI_nm1 (by omega)), if_pos (aIn_nI (by omega) (by omega)), if_pos (aIn_nI (by omega) (by omega)), nI_clamp (by omega), Option.bind_some]
        dsimp only
        rw [if_pos (Or.inr rfl), m_fine_y hP3.2.2.2.1, Option.bind_some]
        dsimp only
        rw [if_neg i10, show (89 : Int32) + nI v1 = nI (89 + v1) from nI_add 89 v1, show (94 : Int32) + nI v1 = nI (94 + v1) from nI_add 94 v1, if_pos (aIn_nI (by omega) (by omega)), if_pos (aIn_nI (by omega) (by omega)), nI_clamp (by omega), nI_clamp (by omega), must_bind]
        rw [pI_pI, pI_pI, pI_pI, pI_pI, pI_pI, pI_pI] at *
        obtain ⟨ι', hι'⟩ : ∃ ι', ι' = pI (pI (pI ι 11 5 (nI (k + 1 + 1 + 1 + 1))) 14 v1 (nI v2)) 15 v1 (nI v3) := ⟨_, rfl⟩
        obtain ⟨κ', hκ'⟩ : ∃ κ', κ' = pI (pI (pI κ 109 4 (nI (e (k + 1 + 1 + 1)))) 113 (89 + v1) (nI v2)) 113 (94 + v1) (nI v3) := ⟨_, rfl⟩
        have gi : ∀ y j, ¬ (y = 11 ∧ j = 5) → ¬ (y = 14 ∧ j = v1) → ¬ (y = 15 ∧ j = v1) → gI ι' y j = gI ι y j := fun y j q1 q2 q3 => by rw [hι', gI_p2 _ _ q3, gI_p2 _ _ q2, gI_p2 _ _ q1]
        have gm : ∀ y j, ¬ (y = 109 ∧ j = 4) → ¬ (y = 113 ∧ j = 89 + v1) → ¬ (y = 113 ∧ j = 94 + v1) → gI κ' y j = gI κ y j := fun y j q1 q2 q3 => by rw [hκ', gI_p2 _ _ q3, gI_p2 _ _ q2, gI_p2 _ _ q1]
        have hDr : DrR ι' κ' T P o := by
          refine ⟨?_, ?_, fun j hj => ?_, fun q hq hq0 t ht => ?_, fun t ht => ?_, fun q hq => ?_, ?_⟩
          · rw [gi _ _ (by omega) (by omega) (by omega), gm _ _ (by omega) (by omega) (by omega)]; exact d1
          · rw [gi _ _ (by omega) (by omega) (by omega), gm _ _ (by omega) (by omega) (by omega)]; exact d2
          · rw [gi _ _ (by omega) (by omega) (by omega), gm _ _ (by omega) (by omega) (by omega)]; exact d3 j hj
          · rw [gi _ _ (by omega) (by omega) (by omega), gm _ _ (by omega) (by omega) (by omega)]; exact d4 q hq hq0 t ht
          · by_cases z : t = v1
            · subst z
              have a1 : gI ι' 14 t = nI v2 := by rw [hι', gI_p2 _ _ (by omega), gI_p1]
              have a2 : gI ι' 15 t = nI v3 := by rw [hι', gI_p1]
              have a3 : gI κ' 113 (89 + t) = nI v2 := by rw [hκ', gI_p2 _ _ (by omega), gI_p1]
              have a4 : gI κ' 113 (94 + t) = nI v3 := by rw [hκ', gI_p1]
              rw [a1, a2, a3, a4]
              exact ⟨rfl, rfl, Or.inr ⟨v2, v3, rfl, v22, rfl, v31, v32⟩⟩
            · rw [gi _ _ (by omega) (by omega) (by omega), gi _ _ (by omega) (by omega) (by omega), gm _ _ (by omega) (by omega) (by omega), gm _ _ (by omega) (by omega) (by omega)]; exact d5 t ht
          · rw [gi _ _ (by omega) (by omega) (by omega), gm _ _ (by omega) (by omega) (by omega)]; exact d6 q hq
          · rw [gi _ _ (by omega) (by omega) (by omega), gm _ _ (by omega) (by omega) (by omega), gm _ _ (by omega) (by omega) (by omega), gm _ _ (by omega) (by omega) (by omega), gm _ _ (by omega) (by omega) (by omega)]; exact d7
        rw [← hι', ← hκ']
        refine ln_end (P := P) (o := o) (F := F) (k1 := k + 1 + 1 + 1 + 1) (a1 := e (k + 1 + 1 + 1)) ⟨?_, hDr, FR_cg hF (fun y j q => gi y j (by omega) (by omega) (by omega)) (gm _ _ (by omega) (by omega) (by omega)) (fun j q => gm _ _ (by omega) (by omega) (by omega)), hFm, by rw [gm _ _ (by omega) (by omega) (by omega)]; exact hop⟩ (by omega) ⟨fun y j q => gi y j (by omega) (by omega) (by omega), by rw [hι']; rfl, by rw [hι']; rfl⟩ ⟨fun y j q1 q2 => gm y j (by omega) (by omega) (by omega), by rw [hκ']; rfl, by rw [hκ']; rfl⟩
        rw [hι', hκ']
        exact Pos_cg hP3 (((DW.rf _).pI _ (by omega)).pI _ (by omega)) (((MW.rf _).row _).row _) (by rw [gI_p2 _ _ (by omega), gI_p2 _ _ (by omega)]) (by rw [gI_p2 _ _ (by omega), gI_p2 _ _ (by omega)]) (by rw [gI_p2 _ _ (by omega), gI_p2 _ _ (by omega)]) (by rw [gI_p2 _ _ (by omega), gI_p2 _ _ (by omega)])
      · have hfl := Flt_of (ι := pI (pI (pI ι 11 5 (nI (k + 1))) 11 5 (nI (k + 1 + 1))) 11 5 (nI (k + 1 + 1 + 1))) (κ := pI (pI (pI (pI κ 109 4 (nI (e k))) 109 4 (nI (e (k + 1)))) 109 4 (nI (e (k + 1 + 1)))) 109 4 (nI x)) (f := f) (s := p (k + 1 + 1 + 1)) (c := F.length) (by omega) hFm.1 (by rw [gI_p2 _ _ (by omega), gI_p2 _ _ (by omega), gI_p2 _ _ (by omega)]; exact hF.1) (Pos_pl hP2)
        rw [show m_X3_readNumber 1 9 _ = _ from u1, show m_X7_number 1 9 _ = _ from u2, Option.bind_some, Option.bind_some]
        dsimp only
        rw [if_pos rfl, Option.bind_some]
        dsimp only
        rw [if_pos (Or.inl rfl), m_fine_n (Flt_6 hfl), Option.bind_some]
        dsimp only
        rw [if_pos rfl, must_bind]
        exact ln_dead hfl (((((DW.rf ι).pI _ (by omega)).pI _ (by omega)).pI _ (by omega)).tr (DW_fl _ f _)) ((((((MW.rf κ).at' (k := 4) _ (by omega)).at' (k := 4) _ (by omega)).at' (k := 4) _ (by omega)).at' (k := 4) _ (by omega)).tr (MW_wr _ f _))
    · have hfl := Flt_of (ι := pI (pI ι 11 5 (nI (k + 1))) 11 5 (nI (k + 1 + 1))) (κ := pI (pI (pI κ 109 4 (nI (e k))) 109 4 (nI (e (k + 1)))) 109 4 (nI x)) (f := f) (s := p (k + 1 + 1)) (c := F.length) (by omega) hFm.1 (by rw [gI_p2 _ _ (by omega), gI_p2 _ _ (by omega)]; exact hF.1) (Pos_pl hP1)
      rw [show m_X3_readNumber 0 9 _ = _ from g1, show m_X7_number 0 9 _ = _ from g2, Option.bind_some, Option.bind_some]
      dsimp only
      rw [if_pos rfl, Option.bind_some]
      dsimp only
      rw [if_pos (Or.inl rfl), m_num_d (Flt_6 hfl), Option.bind_some]
      dsimp only
      rw [m_fine_n (Flt_6 hfl), Option.bind_some]
      dsimp only
      rw [if_pos rfl, must_bind]
      exact ln_dead hfl ((((DW.rf ι).pI _ (by omega)).pI _ (by omega)).tr (DW_fl _ f _)) (((((MW.rf κ).at' (k := 4) _ (by omega)).at' (k := 4) _ (by omega)).at' (k := 4) _ (by omega)).tr (MW_wr _ f _))
  · have hfl := Flt_of (ι := pI ι 11 5 (nI (k + 1))) (κ := pI (pI κ 109 4 (nI (e k))) 109 4 (nI x)) (f := f) (s := p (k + 1)) (c := F.length) (by omega) hFm.1 (by rw [gI_p2 _ _ (by omega)]; exact hF.1) (Pos_pl hP)
    rw [show m_X3_readNumber 0 (nI (T - 1)) _ = _ from e1, show m_X7_number 0 (nI (T - 1)) _ = _ from e2, Option.bind_some, Option.bind_some]
    dsimp only
    rw [if_pos rfl, Option.bind_some]
    dsimp only
    rw [if_pos (Or.inl rfl), m_num_d (Flt_6 hfl), Option.bind_some]
    dsimp only
    rw [m_num_d (Flt_6 hfl), Option.bind_some]
    dsimp only
    rw [m_fine_n (Flt_6 hfl), Option.bind_some]
    dsimp only
    rw [if_pos rfl, must_bind]
    exact ln_dead hfl (((DW.rf ι).pI _ (by omega)).tr (DW_fl _ f _)) ((((MW.rf κ).at' (k := 4) _ (by omega)).at' (k := 4) _ (by omega)).tr (MW_wr _ f _))
theorem ln_match {ι κ : iS} {k a T P o : Nat} {F : List (Nat × Nat)} (h : Ln b n C p e ι κ k a T P o F) (hkC : k < C) (hw : Wd b n 4 (p k)) (hno : ∀ y, y < 12 → y ≠ 4 → ¬ Wd b n y (p k)) : LnJ b n C p e ι κ k T (dLine (m_X3_readPart ι)) (m_X7_readsLine κ) := by
  obtain ⟨t1, t2, t3⟩ := ln_tests h hkC
  obtain ⟨hp, hdr, hF, hFm, hop⟩ := id h
  obtain ⟨d1, d2, d3, d4, d5, d6, ⟨ho, o2, o3, o4, o5, o7⟩⟩ := id hdr
  have h5 := hp.2.2.2.2.1
  have hP := Pos_on hp hkC
  have hRP : m_X3_readPart ι = Option.bind (m_X3_readOnce (nI (db6 5)) ι) fun r110 => if r110.1 = 0 then some ((0 : Int32), r110.2) else Option.bind (m_X3_readSum (m_X3_readUnit 20) (0 : Int32) r110.2) fun r118 => if r118.1 = 0 then some ((0 : Int32), r118.2) else some ((1 : Int32), r118.2) := by
    unfold m_X3_readPart
    rw [h5, (t1 1 (by omega)).2 (hno 1 (by omega) (by omega)), Option.bind_some]
    dsimp only
    rw [if_pos rfl, h5, (t1 2 (by omega)).2 (hno 2 (by omega) (by omega)), Option.bind_some]
    dsimp only
    rw [if_pos rfl, h5, (t1 3 (by omega)).2 (hno 3 (by omega) (by omega)), Option.bind_some]
    dsimp only
    rw [if_pos rfl, h5, (t1 4 (by omega)).1 hw, Option.bind_some]
    dsimp only
    rw [if_neg i10]
    rfl
  have hb2 := bit_lt 5 o
  rcases (show bit 5 o = 1 ∨ bit 5 o = 0 by omega) with hb | hb
  · refine ln_none h hkC (hno 1 (by omega) (by omega)) (hno 2 (by omega) (by omega)) (fun x j hx => ?_) ?_
    · by_cases z : x = 4
      · have : j = 5 := by omega
        rw [this]; exact Or.inr hb
      · exact Or.inl (hno x (by omega) z)
    · rw [hRP, d_once_n hp ho (by omega) o3 hb, Option.bind_some]
      rfl
  · have hF0 : F = [] := hFm.2.1 hb
    subst hF0
    have hRL : m_X7_readsLine κ = Option.bind (m_X7_sum (m_X7_part 20) (pI (pI κ 109 4 (nI (e k))) 109 15 (nI (o + 2 ^ 5)))) fun r265 => Option.bind (m_X7_must (59 : Int32) (pI r265 113 8 (1 : Int32))) fun r288 => some r288 := by
      unfold m_X7_readsLine
      rw [rl_here hp, Option.bind_some]
      dsimp only
      rw [show m_X7_takesOnce 3 0 (pI κ 109 4 (nI (p k))) = _ from (t3 3 0 (by omega) (by omega)).1 (Or.inl (hno 3 (by omega) (by omega))), Option.bind_some]
      dsimp only
      rw [if_pos rfl, (t2 1 (by omega)).2 (hno 1 (by omega) (by omega)), Option.bind_some]
      dsimp only
      rw [if_pos rfl, (t2 2 (by omega)).2 (hno 2 (by omega) (by omega)), Option.bind_some]
      dsimp only
      rw [if_pos rfl, show m_X7_takesOnce 5 1 (pI κ 109 4 (nI (p k))) = _ from (t3 5 1 (by omega) (by omega)).1 (Or.inl (hno 5 (by omega) (by omega))), Option.bind_some]
      dsimp only
      rw [if_pos rfl, show m_X7_takesOnce 6 2 (pI κ 109 4 (nI (p k))) = _ from (t3 6 2 (by omega) (by omega)).1 (Or.inl (hno 6 (by omega) (by omega))), Option.bind_some]
      dsimp only
      rw [if_pos rfl, show m_X7_takesOnce 7 3 (pI κ 109 4 (nI (p k))) = _ from (t3 7 3 (by omega) (by omega)).1 (Or.inl (hno 7 (by omega) (by omega))), Option.bind_some]
      dsimp only
      rw [if_pos rfl, show m_X7_takesOnce 8 4 (pI κ 109 4 (nI (p k))) = _ from (t3 8 4 (by omega) (by omega)).1 (Or.inl (hno 8 (by omega) (by omega))), Option.bind_some]
      dsimp only
      rw [if_pos rfl, show m_X7_takesOnce 4 5 (pI κ 109 4 (nI (p k))) = _ from (t3 4 5 (by omega) (by omega)).2 ⟨hw, hb⟩, Option.bind_some]
      dsimp only
      rw [if_neg i10]
    have hP2 : Pos b n C p e (pI (pI ι 11 6 (nI (sd (o + 2 ^ 5)))) 11 5 (nI (k + 1))) (pI (pI κ 109 4 (nI (e k))) 109 15 (nI (o + 2 ^ 5))) (k + 1) (e k) := Pos_cg hP (ι' := pI (pI ι 11 6 (nI (sd (o + 2 ^ 5)))) 11 5 (nI (k + 1))) ⟨fun y i q => by rw [gI_p2 _ _ (by omega), gI_p2 _ _ (by omega), gI_p2 _ _ (by omega)], rfl, rfl⟩ ((MW.rf _).at' _ (by omega)) (by rw [gI_p2 _ _ (by omega), gI_p2 _ _ (by omega), gI_p2 _ _ (by omega)]) (by rw [gI_p1, gI_p1]) (gI_p2 _ _ (by omega)) (gI_p2 _ _ (by omega))
    have hX : ExP b n C p e (pI (pI ι 11 6 (nI (sd (o + 2 ^ 5)))) 11 5 (nI (k + 1))) (pI (pI κ 109 4 (nI (e k))) 109 15 (nI (o + 2 ^ 5))) (k + 1) (e k) [] 0 T := ⟨hP2, FR_cg hF (fun y i q => by rw [gI_p2 _ _ (by omega), gI_p2 _ _ (by omega)]) (by rw [gI_p2 _ _ (by omega), gI_p2 _ _ (by omega)]) (fun i q => by rw [gI_p2 _ _ (by omega), gI_p2 _ _ (by omega)]), by rw [gI_p2 _ _ (by omega), gI_p2 _ _ (by omega)]; exact hop, ⟨by rw [gI_p2 _ _ (by omega), gI_p2 _ _ (by omega)]; exact d1.2.1, by rw [gI_p2 _ _ (by omega), gI_p2 _ _ (by omega)]; exact d1.2.2, d1.1⟩, Nat.zero_le _, Nat.zero_le _⟩
    rw [hRL, hRP, d_once_y h5 ho (by omega) o3 hb, Option.bind_some]
    dsimp only
    rw [if_neg i10]
    rcases j_sum (Ud := m_X3_readUnit 20) (Um := m_X7_part 20) (dep := 0) (m := 9) (fun ι κ k a F hh => j_unit 20 0 ι κ k a F (by omega) (by omega) hh) hX with ⟨ι', κ', k', a', G, e1, e2, e3, e4, e5, e6, e7, e8, e9, e10, e11, e12, e13, e14⟩ | ⟨ι', κ', f, s, e1, e2, e3, e4, e5⟩
    · have hb3 := Pos_a e3
      have hk3 := e3.2.2.2.2.2.1
      rw [show m_X3_readSum (m_X3_readUnit 20) 0 _ = some (1, ι') from e1, show m_X7_sum (m_X7_part 20) _ = some κ' from e2, Option.bind_some, Option.bind_some]
      dsimp only
      rw [if_neg i10, must_bind]
      have e4 : FR ι' κ' G := e4
      have f0 := fl_f o ho 5 (by omega) 0 (by omega) hb (by omega)
      have hDr : DrR ι' (pI κ' 113 8 1) T P (o + 2 ^ 5) := by
        have gi : ∀ y i, ¬ (y = 11 ∧ (i = 5 ∨ i = 6)) → y ≠ 21 → y ≠ 22 → gI ι' y i = gI ι y i := fun y i q1 q2 q3 => by rw [e13.2 y i q2 q3 (by omega), gI_p2 _ _ (by omega), gI_p2 _ _ (by omega)]
        have gm : ∀ i, i < 123 → i ≠ 8 → gI (pI κ' 113 8 1) 113 i = gI κ 113 i := fun i q1 q2 => by rw [gI_p2 _ _ (by omega), e14.2.1 i q1, gI_p2 _ _ (by omega), gI_p2 _ _ (by omega)]
        have hP16 := d2.1.2
        have hT5 := d1.1.2
        refine ⟨?_, ?_, fun j hj => ?_, fun q hq hq0 t ht => ?_, fun t ht => ?_, fun q hq => ?_, fl_d o ho 5 (by omega) hb, ?_, ?_, ?_, ?_, ?_⟩
        · rw [gi _ _ (by omega) (by omega) (by omega), gm _ (by omega) (by omega)]; exact d1
        · rw [gi _ _ (by omega) (by omega) (by omega), gm _ (by omega) (by omega)]; exact d2
        · rw [gi _ _ (by omega) (by omega) (by omega), gm _ (by omega) (by omega)]; exact d3 j hj
        · rw [gi _ _ (by omega) (by omega) (by omega), gm _ (by omega) (by omega)]; exact d4 q hq (fun w => by rw [← f0]; exact hq0 w) t ht
        · rw [gi _ _ (by omega) (by omega) (by omega), gi _ _ (by omega) (by omega) (by omega), gm _ (by omega) (by omega), gm _ (by omega) (by omega)]; exact d5 t ht
        · rw [gi _ _ (by omega) (by omega) (by omega), gm _ (by omega) (by omega)]; exact d6 q hq
        · rw [gI_p2 _ _ (by omega), e14.2.2.1, gI_p1]
        · rw [e13.2 _ _ (by omega) (by omega) (by omega), gI_p2 _ _ (by omega), gI_p1]
        · rw [gm _ (by omega) (by omega), f0]; exact o4
        · rw [gI_p1, fl_e o ho 5 (by omega) hb]; rfl
        · rw [gI_p2 _ _ (by omega), e14.2.2.2, gI_p2 _ _ (by omega), gI_p2 _ _ (by omega)]; exact o7
      have hsg : rHgt G 0 = some 1 := by
        have := e10 0 [] (by omega)
        rw [List.append_nil] at this
        exact this
      have hFm2 : FmC T (o + 2 ^ 5) G := ⟨by omega, fun q => by rw [fl_e o ho 5 (by omega) hb] at q; omega, fun _ => ⟨e12, e9, hsg, by have := e3.2.2.2.2.2.2.2.1; omega⟩⟩
      exact ln_end (P := P) (o := o + 2 ^ 5) (F := G) (k1 := k') (a1 := a') ⟨Pos_cg e3 (DW.rf _) ((MW.rf _).row _) rfl rfl (gI_p2 _ _ (by omega)) (gI_p2 _ _ (by omega)), hDr, FR_cg e4 (fun _ _ _ => rfl) (gI_p2 _ _ (by omega)) (fun i q => gI_p2 _ _ (by omega)), hFm2, by rw [gI_p2 _ _ (by omega)]; exact e11⟩ (by omega) ((((DW.rf ι).pI _ (by omega)).pI _ (by omega)).tr e13.1) (((((MW.rf κ).at' (k := 4) _ (by omega)).at' (k := 15) _ (by omega)).tr e14.1).row _)
    · rw [show m_X3_readSum (m_X3_readUnit 20) 0 _ = some (0, ι') from e1, show m_X7_sum (m_X7_part 20) _ = some κ' from e2, Option.bind_some, Option.bind_some]
      dsimp only
      rw [if_pos rfl, must_bind]
      exact ln_dead (Flt_row e3 8 1) ((((DW.rf ι).pI _ (by omega)).pI _ (by omega)).tr e4) (((((MW.rf κ).at' (k := 4) _ (by omega)).at' (k := 15) _ (by omega)).tr e5).row _)
end LI4
