section LI3
variable {b : Nat → Nat} {n C : Nat} {p e : Nat → Nat}
theorem d_once_y {ι : iS} {k o j : Nat} (h5 : gI ι 11 5 = nI k) (ho : o < 64) (hj : j < 6) (h6 : gI ι 11 6 = nI (sd o)) (hb : bit j o = 0) : m_X3_readOnce (nI (db6 j)) ι = some (1, pI (pI ι 11 6 (nI (sd (o + 2 ^ j)))) 11 5 (nI (k + 1))) := by
  unfold m_X3_readOnce
  rw [h6, if_pos (fl_b o ho j hj hb), fl_c o ho j hj hb, gI_p2 _ _ (by omega), h5, nI_1]
theorem d_once_n {ι κ : iS} {k a o j : Nat} (hp : Pos b n C p e ι κ k a) (ho : o < 64) (hj : j < 6) (h6 : gI ι 11 6 = nI (sd o)) (hb : bit j o = 1) : m_X3_readOnce (nI (db6 j)) ι = some (0, fl ι 1 (p k)) := by
  unfold m_X3_readOnce
  rw [h6, if_neg (fl_g o ho j hj hb), show m_X3_fail 1 ι = some (0, fl ι 1 (p k)) from d_fail hp 1, Option.bind_some]
  dsimp only
  rw [if_pos (Or.inl rfl)]
theorem ln_suspect {ι κ : iS} {k a T P o : Nat} {F : List (Nat × Nat)} (h : Ln b n C p e ι κ k a T P o F) (hkC : k < C) (hw : Wd b n 3 (p k)) (hno : ∀ y, y < 12 → y ≠ 3 → ¬ Wd b n y (p k)) : LnJ b n C p e ι κ k T (dLine (m_X3_readPart ι)) (m_X7_readsLine κ) := by
  obtain ⟨t1, t2, t3⟩ := ln_tests h hkC
  obtain ⟨hp, hdr, hF, hFm, hop⟩ := id h
  obtain ⟨d1, d2, d3, d4, d5, d6, ⟨ho, o2, o3, o4, o5, o7⟩⟩ := id hdr
  have h5 := hp.2.2.2.2.1
  have hP := Pos_on hp hkC
  have hRP : m_X3_readPart ι = Option.bind (m_X3_readOnce (nI (db6 0)) ι) fun r71 => if r71.1 = 0 then some ((0 : Int32), r71.2) else Option.bind (m_X3_readValues (0 : Int32) r71.2) fun r79 => if r79.1 = 0 then some ((0 : Int32), r79.2) else some ((1 : Int32), r79.2) := by
    unfold m_X3_readPart
    rw [h5, (t1 1 (by omega)).2 (hno 1 (by omega) (by omega)), Option.bind_some]
    dsimp only
    rw [if_pos rfl, h5, (t1 2 (by omega)).2 (hno 2 (by omega) (by omega)), Option.bind_some]
    dsimp only
    rw [if_pos rfl, h5, (t1 3 (by omega)).1 hw, Option.bind_some]
    dsimp only
    rw [if_neg i10]
    rfl
  have hb2 := bit_lt 0 o
  rcases (show bit 0 o = 1 ∨ bit 0 o = 0 by omega) with hb | hb
  · refine ln_none h hkC (hno 1 (by omega) (by omega)) (hno 2 (by omega) (by omega)) (fun x j hx => ?_) ?_
    · by_cases z : x = 3
      · have : j = 0 := by omega
        rw [this]; exact Or.inr hb
      · exact Or.inl (hno x (by omega) z)
    · rw [hRP, d_once_n hp ho (by omega) o3 hb, Option.bind_some]
      rfl
  · have hRL : m_X7_readsLine κ = Option.bind (m_X7_values (0 : Int32) (pI (pI κ 109 4 (nI (e k))) 109 15 (nI (o + 2 ^ 0)))) fun r22 => Option.bind (m_X7_must (59 : Int32) (pI r22 113 2 (1 : Int32))) fun r288 => some r288 := by
      unfold m_X7_readsLine
      rw [rl_here hp, Option.bind_some]
      dsimp only
      rw [show m_X7_takesOnce 3 0 (pI κ 109 4 (nI (p k))) = _ from (t3 3 0 (by omega) (by omega)).2 ⟨hw, hb⟩, Option.bind_some]
      dsimp only
      rw [if_neg i10]
    have hP2 : Pos b n C p e (pI (pI ι 11 6 (nI (sd (o + 2 ^ 0)))) 11 5 (nI (k + 1))) (pI (pI κ 109 4 (nI (e k))) 109 15 (nI (o + 2 ^ 0))) (k + 1) (e k) := Pos_cg hP (ι' := pI (pI ι 11 6 (nI (sd (o + 2 ^ 0)))) 11 5 (nI (k + 1))) ⟨fun y i q => by rw [gI_p2 _ _ (by omega), gI_p2 _ _ (by omega), gI_p2 _ _ (by omega)], rfl, rfl⟩ ((MW.rf _).at' _ (by omega)) (by rw [gI_p2 _ _ (by omega), gI_p2 _ _ (by omega), gI_p2 _ _ (by omega)]) (by rw [gI_p1, gI_p1]) (gI_p2 _ _ (by omega)) (gI_p2 _ _ (by omega))
    rw [hRL, hRP, d_once_y h5 ho (by omega) o3 hb, Option.bind_some]
    dsimp only
    rw [if_neg i10]
    have hT5 := d1.1.2
    rcases j_values (T := T) (q := 0) d1.1 (by omega) T 0 aF aF _ _ (k + 1) (e k) (by omega) (by unfold aF; omega) (by unfold aF; omega) hP2 (by rw [gI_p2 _ _ (by omega), gI_p2 _ _ (by omega)]; exact d1.2.1) (by rw [gI_p2 _ _ (by omega), gI_p2 _ _ (by omega)]; exact d1.2.2) ⟨F.length, hFm.1, by rw [gI_p2 _ _ (by omega), gI_p2 _ _ (by omega)]; exact hF.1⟩ with ⟨ι', κ', k', a', g1, g2, g3, g4, g5, g6, g7, g8, g9, g10, g11⟩ | ⟨ι', κ', f, s, g1, g2, g3, g4, g5⟩
    · have gi : ∀ y i, ¬ (y = 11 ∧ (i = 5 ∨ i = 6)) → ¬ (y = 13 ∧ i < T) → gI ι' y i = gI ι y i := fun y i q1 q3 => by rw [g6 y i (by omega) (by omega), gI_p2 _ _ (by omega), gI_p2 _ _ (by omega)]
      have gm0 : ∀ y i, ¬ (y = 109 ∧ (i = 4 ∨ i = 15)) → ¬ (y = 113 ∧ 9 ≤ i ∧ i < 9 + T) → gI κ' y i = gI κ y i := fun y i q1 q3 => by rw [g9 y i (by omega) (by omega), gI_p2 _ _ (by omega), gI_p2 _ _ (by omega)]
      have gm : ∀ y i, ¬ (y = 109 ∧ (i = 4 ∨ i = 15)) → ¬ (y = 113 ∧ 9 ≤ i ∧ i < 9 + T) → ¬ (y = 113 ∧ i = 2) → gI (pI κ' 113 2 1) y i = gI κ y i := fun y i q1 q3 q2 => by rw [gI_p2 _ _ q2, gm0 y i q1 q3]
      have e15 : gI (pI κ' 113 2 1) 109 15 = nI (o + 2 ^ 0) := by rw [gI_p2 _ _ (by omega), g9 _ _ (by omega) (by omega), gI_p1]
      have e6 : gI ι' 11 6 = nI (sd (o + 2 ^ 0)) := by rw [g6 _ _ (by omega) (by omega), gI_p2 _ _ (by omega), gI_p1]
      have f5 := fl_f o ho 0 (by omega) 5 (by omega) hb (by omega)
      have hDr : DrR ι' (pI κ' 113 2 1) T P (o + 2 ^ 0) := by
        refine ⟨?_, ?_, fun i hi => ?_, fun q hq hq0 t ht => ?_, fun t ht => ?_, fun q hq => ?_, fl_d o ho 0 (by omega) hb, e15, e6, ?_, ?_, ?_⟩
        · rw [gi _ _ (by omega) (by omega), gm _ _ (by omega) (by omega) (by omega)]; exact d1
        · rw [gi _ _ (by omega) (by omega), gm _ _ (by omega) (by omega) (by omega)]; exact d2
        · rw [gi _ _ (by omega) (by omega), gm _ _ (by omega) (by omega) (by omega)]; exact d3 i hi
        · by_cases z : q = 0
          · subst z
            have := g5 t (by omega) ht
            rw [gI_p2 _ _ (by omega)]
            exact this
          · rw [gi _ _ (by omega) (by omega), gm _ _ (by omega) (by omega) (by omega)]; exact d4 q hq (fun w => absurd w z) t ht
        · rw [gi _ _ (by omega) (by omega), gi _ _ (by omega) (by omega), gm _ _ (by omega) (by omega) (by omega), gm _ _ (by omega) (by omega) (by omega)]; exact d5 t ht
        · rw [gi _ _ (by omega) (by omega), gm _ _ (by omega) (by omega) (by omega)]; exact d6 q hq
        · rw [gI_p1, fl_e o ho 0 (by omega) hb]; rfl
        · rw [gm _ _ (by omega) (by omega) (by omega), f5]; exact o5
        · rw [gm _ _ (by omega) (by omega) (by omega)]; exact o7
      have hL : Ln b n C p e ι' (pI κ' 113 2 1) k' a' T P (o + 2 ^ 0) F := ⟨Pos_cg g3 (DW.rf _) ((MW.rf _).row _) rfl rfl (gI_p2 _ _ (by omega)) (gI_p2 _ _ (by omega)), hDr, FR_cg hF (fun y i q => gi y i (by omega) (by omega)) (gm _ _ (by omega) (by omega) (by omega)) (fun i q => gm _ _ (by omega) (by omega) (by omega)), ⟨hFm.1, by rw [f5]; exact hFm.2.1, by rw [f5]; exact hFm.2.2⟩, by rw [gm _ _ (by omega) (by omega) (by omega)]; exact hop⟩
      have hD : DW ι ι' := ⟨fun y i q => gi y i (by omega) (by omega), g7, g8⟩
      have hM : MW κ (pI κ' 113 2 1) := ⟨fun y i q1 q2 => gm y i (by omega) (by omega) (by omega), g10, g11⟩
      rw [show m_X3_readValues 0 _ = some (1, ι') from g1, show m_X7_values 0 _ = some κ' from g2, Option.bind_some, Option.bind_some]
      dsimp only
      rw [if_neg i10, must_bind]
      exact ln_end hL (by omega) hD hM
    · rw [show m_X3_readValues 0 _ = some (0, ι') from g1, show m_X7_values 0 _ = some κ' from g2, Option.bind_some, Option.bind_some]
      dsimp only
      rw [if_pos rfl, must_bind]
      have hfl2 : Flt ι' (pI κ' 113 2 1) f s := by
        obtain ⟨f1, f2, f3, f4, f5, f6, f7⟩ := g3
        exact ⟨f1, f2, f3, f4, by rw [gI_p2 _ _ (by omega)]; exact f5, by rw [gI_p2 _ _ (by omega)]; exact f6, f7⟩
      exact ln_dead hfl2 ((((DW.rf ι).pI _ (by omega)).pI _ (by omega)).tr g4) (((((MW.rf κ).at' (k := 4) _ (by omega)).at' (k := 15) _ (by omega)).tr g5).row _)
theorem aSt_lohi : ∀ i, i < 4 → aSt 0 i = nI (setLo i) ∧ aSt 1 i = nI (setHi i) ∧ setLo i < 1000 ∧ setHi i < 1000 ∧ (1 : Int32) <<< (nI i &&& 31) = nI (db6 (i + 1)) := by decide
theorem ln_set {ι κ : iS} {k a T P o i : Nat} {F : List (Nat × Nat)} (h : Ln b n C p e ι κ k a T P o F) (hkC : k < C) (hi : i < 4) (hw : Wd b n (i + 5) (p k)) (hno : ∀ y, y < 12 → y ≠ i + 5 → ¬ Wd b n y (p k))
    (hRP : m_X3_readPart ι = Option.bind (m_X3_readOnce ((1 : Int32) <<< (nI i &&& 31)) ι) fun r150 => if r150.1 = 0 then some ((0 : Int32), r150.2) else Option.bind (m_X3_readSetting (nI i) r150.2) fun r158 => if r158.1 = 0 then some ((0 : Int32), r158.2) else some ((1 : Int32), r158.2))
    (hRL : bit (i + 1) o = 0 → m_X7_readsLine κ = Option.bind (m_X7_number (nI (setLo i)) (nI (setHi i)) (pI (pI κ 109 4 (nI (e k))) 109 15 (nI (o + 2 ^ (i + 1))))) fun r167 => Option.bind (m_X7_must (59 : Int32) (pI r167.2 113 (4 + i) r167.1)) fun r288 => some r288) : LnJ b n C p e ι κ k T (dLine (m_X3_readPart ι)) (m_X7_readsLine κ) := by
  obtain ⟨hp, hdr, hF, hFm, hop⟩ := id h
  obtain ⟨d1, d2, d3, d4, d5, d6, ⟨ho, o2, o3, o4, o5, o7⟩⟩ := id hdr
  obtain ⟨s0, s1, s2, s3, s4⟩ := aSt_lohi i hi
  have h5 := hp.2.2.2.2.1
  have hP := Pos_on hp hkC
  have hb2 := bit_lt (i + 1) o
  have hP16 := d2.1.2
  have hT5 := d1.1.2
  rw [s4] at hRP
  rcases (show bit (i + 1) o = 1 ∨ bit (i + 1) o = 0 by omega) with hb | hb
  · refine ln_none h hkC (hno 1 (by omega) (by omega)) (hno 2 (by omega) (by omega)) (fun x j hx => ?_) ?_
    · by_cases z : x = i + 5
      · have : j = i + 1 := by omega
        rw [this]; exact Or.inr hb
      · exact Or.inl (hno x (by omega) z)
    · rw [hRP, d_once_n hp ho (by omega) o3 hb, Option.bind_some]
      rfl
  · have hP2 : Pos b n C p e (pI (pI ι 11 6 (nI (sd (o + 2 ^ (i + 1))))) 11 5 (nI (k + 1))) (pI (pI κ 109 4 (nI (e k))) 109 15 (nI (o + 2 ^ (i + 1)))) (k + 1) (e k) := Pos_cg hP (ι' := pI (pI ι 11 6 (nI (sd (o + 2 ^ (i + 1))))) 11 5 (nI (k + 1))) ⟨fun y i q => by rw [gI_p2 _ _ (by omega), gI_p2 _ _ (by omega), gI_p2 _ _ (by omega)], rfl, rfl⟩ ((MW.rf _).at' _ (by omega)) (by rw [gI_p2 _ _ (by omega), gI_p2 _ _ (by omega), gI_p2 _ _ (by omega)]) (by rw [gI_p1, gI_p1]) (gI_p2 _ _ (by omega)) (gI_p2 _ _ (by omega))
    rw [hRL hb, hRP, d_once_y h5 ho (by omega) o3 hb, Option.bind_some]
    dsimp only
    rw [if_neg i10]
    unfold m_X3_readSetting
    rw [if_pos (aIn_nI hi (by omega)), if_pos (aIn_nI hi (by omega)), nI_clamp (by omega), s0, s1]
    rcases j_num (lo := setLo i) (hi := setHi i) hP2 s2 s3 with ⟨v, hv1, hv2, hkC2, e1, e2⟩ | ⟨f, w, x, hf, e1, e2⟩
    · rw [e1, e2, Option.bind_some, Option.bind_some]
      dsimp only
      rw [if_neg (nI_nm1 (by omega)), if_pos (aIn_nI hi (by omega)), Option.bind_some, must_bind]
      dsimp only
      rw [if_neg i10]
      have hP3 := Pos_on hP2 hkC2
      obtain ⟨ι', hι'⟩ : ∃ ι', ι' = pI (pI (pI (pI ι 11 6 (nI (sd (o + 2 ^ (i + 1))))) 11 5 (nI (k + 1))) 11 5 (nI (k + 1 + 1))) 16 i (nI v) := ⟨_, rfl⟩
      obtain ⟨κ', hκ'⟩ : ∃ κ', κ' = pI (pI (pI (pI κ 109 4 (nI (e k))) 109 15 (nI (o + 2 ^ (i + 1)))) 109 4 (nI (e (k + 1)))) 113 (4 + i) (nI v) := ⟨_, rfl⟩
      have gi : ∀ y j, ¬ (y = 11 ∧ (j = 5 ∨ j = 6)) → ¬ (y = 16 ∧ j = i) → gI ι' y j = gI ι y j := fun y j q1 q2 => by rw [hι', gI_p2 _ _ q2, gI_p2 _ _ (by omega), gI_p2 _ _ (by omega), gI_p2 _ _ (by omega)]
      have gm : ∀ y j, ¬ (y = 109 ∧ (j = 4 ∨ j = 15)) → ¬ (y = 113 ∧ j = 4 + i) → gI κ' y j = gI κ y j := fun y j q1 q2 => by rw [hκ', gI_p2 _ _ q2, gI_p2 _ _ (by omega), gI_p2 _ _ (by omega), gI_p2 _ _ (by omega)]
      have f5 := fl_f o ho (i + 1) (by omega) 5 (by omega) hb (by omega)
      have f0 := fl_f o ho (i + 1) (by omega) 0 (by omega) hb (by omega)
      have hDr : DrR ι' κ' T P (o + 2 ^ (i + 1)) := by
        refine ⟨?_, ?_, fun j hj => ?_, fun q hq hq0 t ht => ?_, fun t ht => ?_, fun q hq => ?_, fl_d o ho (i + 1) (by omega) hb, ?_, ?_, ?_, ?_, ?_⟩
        · rw [gi _ _ (by omega) (by omega), gm _ _ (by omega) (by omega)]; exact d1
        · rw [gi _ _ (by omega) (by omega), gm _ _ (by omega) (by omega)]; exact d2
        · by_cases z : j = i
          · subst z
            rw [hι', hκ', gI_p1, gI_p1]
            exact ⟨rfl, v, rfl, hv1, hv2⟩
          · rw [gi _ _ (by omega) (by omega), gm _ _ (by omega) (by omega)]; exact d3 j hj
        · rw [gi _ _ (by omega) (by omega), gm _ _ (by omega) (by omega)]; exact d4 q hq (fun w => by rw [← f0]; exact hq0 w) t ht
        · rw [gi _ _ (by omega) (by omega), gi _ _ (by omega) (by omega), gm _ _ (by omega) (by omega), gm _ _ (by omega) (by omega)]; exact d5 t ht
        · rw [gi _ _ (by omega) (by omega), gm _ _ (by omega) (by omega)]; exact d6 q hq
        · rw [hκ', gI_p2 _ _ (by omega), gI_p2 _ _ (by omega), gI_p1]
        · rw [hι', gI_p2 _ _ (by omega), gI_p2 _ _ (by omega), gI_p2 _ _ (by omega), gI_p1]
        · rw [gm _ _ (by omega) (by omega), f0]; exact o4
        · rw [gm _ _ (by omega) (by omega), f5]; exact o5
        · rw [gm _ _ (by omega) (by omega)]; exact o7
      rw [← hι', ← hκ']
      refine ln_end (P := P) (o := o + 2 ^ (i + 1)) (F := F) (k1 := k + 1 + 1) (a1 := e (k + 1)) ⟨?_, hDr, FR_cg hF (fun y j q => gi y j (by omega) (by omega)) (gm _ _ (by omega) (by omega)) (fun j q => gm _ _ (by omega) (by omega)), ⟨hFm.1, by rw [f5]; exact hFm.2.1, by rw [f5]; exact hFm.2.2⟩, by rw [gm _ _ (by omega) (by omega)]; exact hop⟩ (by omega) ⟨fun y j q => gi y j (by omega) (by omega), by rw [hι']; rfl, by rw [hι']; rfl⟩ ⟨fun y j q1 q2 => gm y j (by omega) (by omega), by rw [hκ']; rfl, by rw [hκ']; rfl⟩
      rw [hι', hκ']
      exact Pos_cg hP3 ((DW.rf _).pI _ (by omega)) ((MW.rf _).row _) (gI_p2 _ _ (by omega)) (gI_p2 _ _ (by omega)) (gI_p2 _ _ (by omega)) (gI_p2 _ _ (by omega))
    · rw [e1, e2, Option.bind_some, Option.bind_some]
      dsimp only
      rw [if_pos rfl, Option.bind_some, must_bind]
      dsimp only
      rw [if_pos rfl]
      have hfl := Flt_of (ι := pI (pI ι 11 6 (nI (sd (o + 2 ^ (i + 1))))) 11 5 (nI (k + 1))) (κ := pI (pI (pI κ 109 4 (nI (e k))) 109 15 (nI (o + 2 ^ (i + 1)))) 109 4 (nI x)) (f := f) (s := p (k + 1)) (c := F.length) (by omega) hFm.1 (by rw [gI_p2 _ _ (by omega), gI_p2 _ _ (by omega)]; exact hF.1) (Pos_pl hP2)
      have hfl2 : Flt (fl (pI (pI ι 11 6 (nI (sd (o + 2 ^ (i + 1))))) 11 5 (nI (k + 1))) f (p (k + 1))) (pI (wr (pI (pI (pI κ 109 4 (nI (e k))) 109 15 (nI (o + 2 ^ (i + 1)))) 109 4 (nI x)) f (p (k + 1))) 113 (4 + i) w) f (p (k + 1)) := by
        obtain ⟨f1, f2, f3, f4, f5, f6, f7⟩ := hfl
        exact ⟨f1, f2, f3, f4, by rw [gI_p2 _ _ (by omega)]; exact f5, by rw [gI_p2 _ _ (by omega)]; exact f6, f7⟩
      exact ln_dead hfl2 ((((DW.rf ι).pI _ (by omega)).pI _ (by omega)).tr (DW_fl _ f _)) (((((MW.rf κ).at' (k := 4) _ (by omega)).at' (k := 15) _ (by omega)).at' (k := 4) _ (by omega)).tr (MW_wr _ f _) |>.row _)
end LI3
