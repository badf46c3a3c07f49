section UU
variable {b : Nat → Nat} {n C : Nat} {p e : Nat → Nat}
theorem ExJ_from {ι κ ι1 κ1 : iS} {k a k1 a1 : Nat} {F : List (Nat × Nat)} {dep T m m' : Nat} {Dk : Option (Int32 × iS)} {Mk : Option iS} (h : ExJ b n C p e ι1 κ1 k1 a1 F dep T m Dk Mk) (hk : k ≤ k1) (ha : a ≤ a1) (hm : m ≤ m') (hD : KD ι ι1) (hM : KM κ κ1) : ExJ b n C p e ι κ k a F dep T m' Dk Mk := by
  rcases h with ⟨ι', κ', k', a', G, e1, e2, e3, e4, e5, e6, e7, e8, e9, e10, e11, e12, e13, e14⟩ | ⟨ι', κ', f, s, e1, e2, e3, e4, e5⟩
  · exact Or.inl ⟨ι', κ', k', a', G, e1, e2, e3, e4, by omega, by omega, by omega, by omega, e9, sg_up e10 hm, e11, e12, hD.tr e13, hM.tr e14⟩
  · exact Or.inr ⟨ι', κ', f, s, e1, e2, e3, hD.1.tr e4, hM.1.tr e5⟩
theorem ExP_here {ι κ : iS} {k a : Nat} {F : List (Nat × Nat)} {dep T : Nat} (h : ExP b n C p e ι κ k a F dep T) : ExP b n C p e ι (pI κ 109 4 (nI (p k))) k (p k) F dep T := by
  obtain ⟨h1, h2, h3, ⟨t1, t2, t3, t4⟩, h5, h6⟩ := h
  have := Pos_a h1
  exact ⟨Pos_here h1, FR_cg h2 (fun _ _ _ => rfl) (gI_p2 _ _ (by omega)) (fun _ _ => gI_p2 _ _ (by omega)), by rw [gI_p2 _ _ (by omega)]; exact h3, ⟨t1, by rw [gI_p2 _ _ (by omega)]; exact t2, t3, t4⟩, h5, by omega⟩
theorem m_part_d {d : Nat} {κ : iS} (hd : 0 < d) (h : ¬ gI κ 109 6 = 0) : m_X7_part d κ = some κ := by
  obtain ⟨d, rfl⟩ : ∃ q, d = q + 1 := ⟨d - 1, by omega⟩
  rw [part_eq, m_fine_n h, Option.bind_some]
  rfl
theorem m_sum_d {d : Nat} {κ : iS} (hd : 0 < d) (h : ¬ gI κ 109 6 = 0) : m_X7_sum (m_X7_part d) κ = some κ := by
  unfold m_X7_sum m_X7_product
  rw [m_part_d hd h, Option.bind_some, m_pstop (by unfold aF; omega) h, Option.bind_some, m_sstop (by unfold aF; omega) h]
/-- one level deeper -/
theorem ExP_deep {ι κ : iS} {k a : Nat} {F : List (Nat × Nat)} {dep T : Nat} (h : ExP b n C p e ι κ k a F dep T) (hk : k < C) (he : e k = p k + 1) : ExP b n C p e (pI ι 11 5 (nI (k + 1))) (pI (pI κ 109 4 (nI (e k))) 109 14 (nI (dep + 1))) (k + 1) (e k) F (dep + 1) T := by
  obtain ⟨h1, h2, h3, ⟨t1, t2, t3, t4⟩, h5, h6⟩ := h
  have := Pos_a h1
  refine ⟨Pos_cg (Pos_on h1 hk) (DW.rf _) ((MW.rf _).at' _ (by omega)) rfl rfl (gI_p2 _ _ (by omega)) (gI_p2 _ _ (by omega)), FR_cg h2 (fun o i q => gI_p2 _ _ (by omega)) (by rw [gI_p2 _ _ (by omega), gI_p2 _ _ (by omega)]) (fun i q => by rw [gI_p2 _ _ (by omega), gI_p2 _ _ (by omega)]), gI_p1 _ _ _ _, ⟨by rw [gI_p2 _ _ (by omega)]; exact t1, by rw [gI_p2 _ _ (by omega), gI_p2 _ _ (by omega)]; exact t2, t3, t4⟩, by omega, by omega⟩
theorem m_opens_y {κ : iS} {dep s : Nat} (ho : gI κ 109 14 = nI dep) (hd : dep < 4) (h4 : gI κ 109 4 = nI s) : m_X7_opens κ = some (pI (pI κ 109 4 (nI (s + 1))) 109 14 (nI (dep + 1))) := by
  unfold m_X7_opens
  rw [ho, if_neg (show ¬ nI dep = 4 from fun q => by have := (nI_eq (a := dep) (b := 4) (by omega) (by omega)).mp q; omega), h4, nI_1, gI_p2 _ _ (by omega), ho, nI_1]
theorem m_opens_n {κ : iS} {s : Nat} (h6 : gI κ 109 6 = 0) (ho : gI κ 109 14 = nI 4) (h4 : gI κ 109 4 = nI s) : m_X7_opens κ = some (pI (pI (wr κ 4 s) 109 4 (nI (s + 1))) 109 14 (nI 5)) := by
  have e1 : gI (wr κ 4 s) 109 4 = nI s := by unfold wr; rw [gI_p2 _ _ (by omega), gI_p2 _ _ (by omega)]; exact h4
  have e2 : gI (wr κ 4 s) 109 14 = nI 4 := by unfold wr; rw [gI_p2 _ _ (by omega), gI_p2 _ _ (by omega)]; exact ho
  unfold m_X7_opens
  rw [if_pos (show gI κ 109 14 = 4 from ho), h4, m_wrong_y h6, Option.bind_some, show pI (pI κ 109 6 4) 109 7 (nI s) = wr κ 4 s from rfl, e1, nI_1, gI_p2 _ _ (by omega), e2]
  rfl
theorem Flt_14 {ι κ : iS} {f s : Nat} (h : Flt ι κ f s) (v : Int32) {i : Nat} (hi : i = 4 ∨ i = 14 ∨ i = 15) : Flt ι (pI κ 109 i v) f s := by
  obtain ⟨h1, h2, h3, h4, h5, h6, h7⟩ := h
  exact ⟨h1, h2, h3, h4, by rw [gI_p2 _ _ (by omega)]; exact h5, by rw [gI_p2 _ _ (by omega)]; exact h6, h7⟩
theorem j_unit {T : Nat} : ∀ d dep ι κ k a F, dep ≤ 4 → 8 ≤ d + dep → ExP b n C p e ι κ k a F dep T → ExJ b n C p e ι κ k a F dep T (9 - 2 * dep) (m_X3_readUnit d (nI dep) ι) (m_X7_part d κ) := by
  intro d
  induction d with
  | zero => intro dep ι κ k a F hd h8; omega
  | succ d ih =>
    intro dep ι κ k a F hdep h8 h
    obtain ⟨hp, hF, ho, ⟨t1, t2, t3, t4⟩, hFk, hE⟩ := id h
    obtain ⟨hT, hM, h4, h6, h5, hk, hat, hc⟩ := id hp
    have hb := Pos_a hp
    have hbb : p k < n → b (p k) < 256 := fun q => (hM.2.2 _ q).2
    have hk1 := Pos_lt hp
    have hx := ExP_here h
    have ho1 : gI (pI κ 109 4 (nI (p k))) 109 14 = nI dep := by rw [gI_p2 _ _ (by omega)]; exact ho
    have h61 : gI (pI κ 109 4 (nI (p k))) 109 6 = 0 := by rw [gI_p2 _ _ (by omega)]; exact h6
    have hlen : F.length ≤ 500 := by omega
    rw [m_X3_readUnit, h5, part_eq, m_fine_y h6, Option.bind_some]
    dsimp only
    rw [if_neg i10, m_here hM hat hc, Option.bind_some]
    dsimp only
    have hsub : dep < 4 → ∀ ι κ k a F, ExP b n C p e ι κ k a F (dep + 1) T → ExJ b n C p e ι κ k a F (dep + 1) T (7 - 2 * dep) (m_X3_readUnit d (nI (dep + 1)) ι) (m_X7_part d κ) := fun hd4 ι κ k a F hh => by
      have := ih (dep + 1) ι κ k a F (by omega) (by omega) hh
      rw [show 9 - 2 * (dep + 1) = 7 - 2 * dep by omega] at this
      exact this
    by_cases q : k < C ∧ b (p k) = 45
    · have he := sgn_end hT q.1 sgn_42.2.2.1 q.2
      rw [show m_X4_isSign (nI k) 45 ι = some (1, ι) from (d_isSign hT hk sgn_42.2.2.1).1 q, Option.bind_some]
      dsimp only
      rw [if_neg i10, if_pos (show bq b n (p k) = 45 from (bq_eq (c := 45) hbb (by omega)).mpr ⟨hk1.mp q.1, q.2⟩)]
      by_cases hd4 : dep < 4
      · rw [if_pos (show nI dep < 4 from nI_lt (b := 4) hd4 (by omega)), if_neg i10, h5, nI_1, nI_1, m_opens_y ho1 hd4 (gI_p1 _ _ _ _), pI_pI, Option.bind_some, ← he]
        have hdp := ExP_deep h q.1 he
        rcases hsub hd4 _ _ _ _ _ hdp with ⟨ι3, κ3, k3, a3, G, e1, e2, e3, e4, e5, e6, e7, e8, e9, e10, e11, e12, e13, e14⟩ | ⟨ι3, κ3, f, s, e1, e2, e3, e4, e5⟩
        · have hb3 := Pos_a e3
          have hk3 := e3.2.2.2.2.2.1
          have hlG := enc7_len F G
          have hc3 := e3.2.2.2.2.2.2.2
          obtain ⟨ι4, κ4, g1, g2, g3, g4, g5, g6, g7, g8, g9⟩ := FR_op (q := 4) e4 e3.2.2.2.1 (by omega) (by omega) (by rw [List.length_append]; omega) (by have := hc3.1; omega)
          have hD : DW ι3 ι4 := ⟨fun o i z => g4 o i (by omega) (by omega), g5, g6⟩
          have hMM : MW κ3 κ4 := ⟨fun o i z w => g7 o i (by omega) (by omega), g8, g9⟩
          have hop : (enc7 [(4, 0)]).length = 1 := rfl
          have hG' := enc7_len G [(4, 0)]
          rw [if_pos rfl] at g2
          refine Or.inl ⟨ι4, pI κ4 109 14 (nI dep), k3, a3, G ++ [(4, 0)], ?_, ?_, Pos_cg e3 hD (hMM.at' _ (by omega)) (g4 _ _ (by omega) (by omega)) (g4 _ _ (by omega) (by omega)) (by rw [gI_p2 _ _ (by omega)]; exact g7 _ _ (by omega) (by omega)) (by rw [gI_p2 _ _ (by omega)]; exact g7 _ _ (by omega) (by omega)), ?_, by omega, ?_, by omega, by omega, fun r hr => ?_, sg_up (sg_neg e10) (by omega), gI_p1 _ _ _ _, by simp, ((KD_on ι _).tr e13).tr ⟨hD, fun o i z1 z2 _ => g4 o i z1 z2⟩, ?_⟩
          · rw [e1, Option.bind_some]
            dsimp only
            rw [show m_X1_add 4 0 ι3 = some ι4 from g1, Option.bind_some, if_pos (Or.inr rfl)]
          · rw [e2, Option.bind_some, g2, Option.bind_some, g7 _ _ (by omega) (by omega), e11, nI_pred]
          · rw [← List.append_assoc]
            exact FR_cg g3 (fun _ _ _ => rfl) (gI_p2 _ _ (by omega)) (fun _ _ => gI_p2 _ _ (by omega))
          · rw [List.length_append]
            show k + (G.length + 1) ≤ k3
            omega
          · rcases List.mem_append.mp hr with z | z
            · exact e9 r z
            · rw [List.mem_singleton] at z
              rw [z]
              exact ⟨⟨by decide, fun _ => rfl⟩, fun w => by have w : 4 = 0 := w; omega, fun _ w => by have w : 4 < 4 := w; omega⟩
          · refine KM.tr (KM.tr (KM.tr (KM.tr (KM_at κ _ (Or.inl rfl)) (KM_at _ _ (Or.inr rfl))) e14) ⟨hMM, fun i z => g7 _ _ (by omega) (by omega), g7 _ _ (by omega) (by omega), g7 _ _ (by omega) (by omega)⟩) (KM_at κ4 _ (Or.inr rfl))
        · obtain ⟨f1, f2, f3, f4, f5, f6, c, hcc, f7⟩ := id e3
          obtain ⟨ι4, c', g1, g2, g3, g4, g5⟩ := d_add_any hcc f7 4 0
          refine Or.inr ⟨ι4, pI κ3 109 14 (gI κ3 109 14 - 1), f, s, ?_, ?_, Flt_14 ⟨f1, f2, by rw [g5]; exact f3, Pl_cg f4 g4 (g5 5), f5, f6, c', g2, g3⟩ _ (by omega), (((DW.rf ι).pI _ (by omega)).tr e4).tr g4, ((((MW.rf κ).at' (k := 4) _ (by omega)).at' (k := 14) _ (by omega)).tr e5).at' (k := 14) _ (by omega)⟩
          · rw [e1, Option.bind_some]
            dsimp only
            rw [g1, Option.bind_some, if_pos (Or.inl rfl)]
          · rw [e2, Option.bind_some, m_tells_d (Flt_6 e3), Option.bind_some]
      · obtain rfl : dep = 4 := by omega
        have hfl := Flt_14 (Flt_14 (Flt_14 (Flt_of (ι := ι) (κ := pI κ 109 4 (nI (p k))) (f := 4) (s := p k) (by omega) hlen hF.1 (Pos_pl hp)) (nI (p k + 1)) (i := 4) (by omega)) (nI 5) (i := 14) (by omega)) (nI 4) (i := 14) (by omega)
        have hfl2 := Flt_14 (Flt_14 (Flt_of (ι := ι) (κ := pI κ 109 4 (nI (p k))) (f := 4) (s := p k) (by omega) hlen hF.1 (Pos_pl hp)) (nI (p k + 1)) (i := 4) (by omega)) (nI 5) (i := 14) (by omega)
        refine Or.inr ⟨fl ι 4 (p k), _, 4, p k, ?_, ?_, hfl, DW_fl ι 4 _, (((((MW.rf κ).at' (k := 4) _ (by omega)).tr (MW_wr _ 4 _)).at' (k := 4) _ (by omega)).at' (k := 14) _ (by omega)).at' (k := 14) _ (by omega)⟩
        · rw [if_neg (by decide), show m_X3_fail 4 ι = some (0, fl ι 4 (p k)) from d_fail hp 4, Option.bind_some]
          dsimp only
          rw [if_pos (Or.inl rfl)]
        · rw [m_opens_n h61 ho1 (gI_p1 _ _ _ _), Option.bind_some, m_part_d (by omega) (Flt_6 hfl2), Option.bind_some, m_tells_d (Flt_6 hfl2), Option.bind_some, gI_p1]
          rfl
    · have hn45 : ¬ bq b n (p k) = 45 := fun w => q (by have := (bq_eq (c := 45) hbb (by omega)).mp w; exact ⟨hk1.mpr this.1, this.2⟩)
      rw [show m_X4_isSign (nI k) 45 ι = some (0, ι) from (d_isSign hT hk sgn_42.2.2.1).2 q, Option.bind_some]
      dsimp only
      rw [if_pos rfl, if_neg hn45, h5]
      by_cases r : k < C ∧ b (p k) = 40
      · have he := sgn_end hT r.1 sgn_42.2.2.2.1 r.2
        rw [show m_X4_isSign (nI k) 40 ι = some (1, ι) from (d_isSign hT hk sgn_42.2.2.2.1).1 r, Option.bind_some]
        dsimp only
        rw [if_neg i10, if_pos (show bq b n (p k) = 40 from (bq_eq (c := 40) hbb (by omega)).mpr ⟨hk1.mp r.1, r.2⟩)]
        by_cases hd4 : dep < 4
        · rw [if_pos (show nI dep < 4 from nI_lt (b := 4) hd4 (by omega)), if_pos rfl, h5, nI_1, nI_1, m_opens_y ho1 hd4 (gI_p1 _ _ _ _), pI_pI, Option.bind_some, ← he]
          have hdp := ExP_deep h r.1 he
          rcases j_sum (hsub hd4) hdp with ⟨ι3, κ3, k3, a3, G, e1, e2, e3, e4, e5, e6, e7, e8, e9, e10, e11, e12, e13, e14⟩ | ⟨ι3, κ3, f, s, e1, e2, e3, e4, e5⟩
          · have hb3 := Pos_a e3
            rw [e1, e2, Option.bind_some, Option.bind_some]
            dsimp only
            rw [if_neg i10]
            rcases j_sign e3 sgn_42.2.2.2.2.1 with ⟨s1, s2, s3⟩ | ⟨s2, s3⟩
            · have hpe := TK_next e3.1 s1
              have hc3 := e3.2.2.2.2.2.2.2
              refine Or.inl ⟨pI ι3 11 5 (nI (k3 + 1)), pI (pI κ3 109 4 (nI (e k3))) 109 14 (nI dep), k3 + 1, e k3, G, ?_, ?_, Pos_cg (Pos_on e3 s1) (DW.rf _) ((MW.rf _).at' _ (by omega)) rfl rfl (gI_p2 _ _ (by omega)) (gI_p2 _ _ (by omega)), FR_cg e4 (fun o i z => gI_p2 _ _ (by omega)) (by rw [gI_p2 _ _ (by omega), gI_p2 _ _ (by omega)]) (fun i z => by rw [gI_p2 _ _ (by omega), gI_p2 _ _ (by omega)]), by omega, by omega, by have := hc3.1; omega, by have := hc3.1; omega, e9, sg_up e10 (by omega), gI_p1 _ _ _ _, e12, ((KD_on ι _).tr e13).tr (KD_on ι3 _), ?_⟩
              · rw [show m_X3_readSign 41 ι3 = some (1, pI ι3 11 5 (nI (k3 + 1))) from s2, Option.bind_some]
                dsimp only
                rw [if_neg i10]
              · rw [show m_X7_must 41 κ3 = some (pI κ3 109 4 (nI (e k3))) from s3, Option.bind_some, gI_p2 _ _ (by omega), e11, nI_pred]
              · exact KM.tr (KM.tr (KM.tr (KM.tr (KM_at κ _ (Or.inl rfl)) (KM_at _ _ (Or.inr rfl))) e14) (KM_at κ3 _ (Or.inl rfl))) (KM_at _ _ (Or.inr rfl))
            · refine Or.inr ⟨fl ι3 1 (p k3), pI (wr (pI κ3 109 4 (nI (p k3))) 1 (p k3)) 109 14 (gI (wr (pI κ3 109 4 (nI (p k3))) 1 (p k3)) 109 14 - 1), 1, p k3, ?_, ?_, Flt_14 (Flt_of (by omega) (c := (F ++ G).length) (by have := e3.2.2.2.2.2.1; rw [List.length_append]; omega) e4.1 (Pos_pl e3)) _ (by omega), (((DW.rf ι).pI _ (by omega)).tr e13.1).tr (DW_fl ι3 1 _), (((((MW.rf κ).at' (k := 4) _ (by omega)).at' (k := 14) _ (by omega)).tr e14.1).at' (k := 4) _ (by omega)).tr (MW_wr _ 1 _) |>.at' (k := 14) _ (by omega)⟩
              · rw [show m_X3_readSign 41 ι3 = some (0, fl ι3 1 (p k3)) from s2, Option.bind_some]
                dsimp only
                rw [if_pos rfl]
              · rw [show m_X7_must 41 κ3 = some (wr (pI κ3 109 4 (nI (p k3))) 1 (p k3)) from s3, Option.bind_some]
          · refine Or.inr ⟨ι3, pI κ3 109 14 (gI κ3 109 14 - 1), f, s, ?_, ?_, Flt_14 e3 _ (by omega), ((DW.rf ι).pI _ (by omega)).tr e4, ((((MW.rf κ).at' (k := 4) _ (by omega)).at' (k := 14) _ (by omega)).tr e5).at' (k := 14) _ (by omega)⟩
            · rw [e1, Option.bind_some]
              dsimp only
              rw [if_pos rfl]
            · rw [e2, Option.bind_some, m_must_d (Flt_6 e3), Option.bind_some]
        · obtain rfl : dep = 4 := by omega
          have hfl2 := Flt_14 (Flt_14 (Flt_of (ι := ι) (κ := pI κ 109 4 (nI (p k))) (f := 4) (s := p k) (by omega) hlen hF.1 (Pos_pl hp)) (nI (p k + 1)) (i := 4) (by omega)) (nI 5) (i := 14) (by omega)
          have hfl := Flt_14 hfl2 (nI 4) (i := 14) (by omega)
          refine Or.inr ⟨fl ι 4 (p k), _, 4, p k, ?_, ?_, hfl, DW_fl ι 4 _, (((((MW.rf κ).at' (k := 4) _ (by omega)).tr (MW_wr _ 4 _)).at' (k := 4) _ (by omega)).at' (k := 14) _ (by omega)).at' (k := 14) _ (by omega)⟩
          · rw [if_neg (by decide), show m_X3_fail 4 ι = some (0, fl ι 4 (p k)) from d_fail hp 4, Option.bind_some]
            dsimp only
            rw [if_pos (Or.inl rfl)]
          · rw [m_opens_n h61 ho1 (gI_p1 _ _ _ _), Option.bind_some, m_sum_d (by omega) (Flt_6 hfl2), Option.bind_some, m_must_d (Flt_6 hfl2), Option.bind_some, gI_p1]
            rfl
      · have hn40 : ¬ bq b n (p k) = 40 := fun w => r (by have := (bq_eq (c := 40) hbb (by omega)).mp w; exact ⟨hk1.mpr this.1, this.2⟩)
        rw [show m_X4_isSign (nI k) 40 ι = some (0, ι) from (d_isSign hT hk sgn_42.2.2.2.1).2 r, Option.bind_some]
        dsimp only
        rw [if_pos rfl, if_neg hn40]
        have hj := ExJ_from (m' := 9 - 2 * dep) (j_leaf hx rfl) (Nat.le_refl k) (show a ≤ p k by omega) (by omega) (KD.rf ι) (KM_at κ (nI (p k)) (Or.inl rfl))
        rcases hj with ⟨ι', κ', k', a', G, e1, e2, e3⟩ | ⟨ι', κ', f, s, e1, e2, e3⟩
        · refine Or.inl ⟨ι', κ', k', a', G, ?_, e2, e3⟩
          rw [e1, Option.bind_some]
          dsimp only
          rw [if_pos (Or.inr rfl)]
        · refine Or.inr ⟨ι', κ', f, s, ?_, e2, e3⟩
          rw [e1, Option.bind_some]
          dsimp only
          rw [if_pos (Or.inl rfl)]
end UU
