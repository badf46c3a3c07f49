section SU
variable {b : Nat → Nat} {n C : Nat} {p e : Nat → Nat}
def LI (b : Nat → Nat) (n C : Nat) (p e : Nat → Nat) (ι κ : iS) (k a : Nat) (F : List (Nat × Nat)) (dep T m : Nat) (ι' κ' : iS) (k' a' : Nat) (G : List (Nat × Nat)) : Prop :=
  Pos b n C p e ι' κ' k' a' ∧ FR ι' κ' (F ++ G) ∧ k < k' ∧ k + G.length ≤ k' ∧ a ≤ a' ∧ 2 * (enc7 G).length + 3 * a ≤ 3 * a' + 1 ∧ (∀ q ∈ G, okQ T q) ∧ sg G m ∧ gI κ' 109 14 = nI dep ∧ G ≠ [] ∧ KD ι ι' ∧ KM κ κ'
theorem sgn_42 : sgn 42 ∧ sgn 43 ∧ sgn 45 ∧ sgn 40 ∧ sgn 41 ∧ sgn 59 := by unfold sgn let' dig; decide
theorem enc7_len (F G : List (Nat × Nat)) : (enc7 (F ++ G)).length = (enc7 F).length + (enc7 G).length := by rw [enc7_app, List.length_append]
/-- behind the sign q: one more operand, and what joins them -/
theorem j_bin {ι κ ι1 κ1 : iS} {k a k1 a1 : Nat} {F A : List (Nat × Nat)} {dep T m q : Nat} {Dx : Option (Int32 × iS)} {Mx : Option iS} (h0 : ExP b n C p e ι κ k a F dep T) (hI : LI b n C p e ι κ k a F dep T (m + 1) ι1 κ1 k1 a1 A) (hkC : k1 < C) (hq : 4 < q ∧ q < 8)
    (hX : ExP b n C p e (pI ι1 11 5 (nI (k1 + 1))) (pI κ1 109 4 (nI (e k1))) (k1 + 1) (e k1) (F ++ A) dep T → ExJ b n C p e (pI ι1 11 5 (nI (k1 + 1))) (pI κ1 109 4 (nI (e k1))) (k1 + 1) (e k1) (F ++ A) dep T m Dx Mx) :
    (∃ ι3 κ3 ι4 κ4 k3 a3 A', Dx = some (1, ι3) ∧ Mx = some κ3 ∧ m_X1_add (nI q) 0 ι3 = some ι4 ∧ m_X7_tells (nI q) κ3 = some κ4 ∧ k1 < k3 ∧ LI b n C p e ι κ k a F dep T (m + 1) ι4 κ4 k3 a3 A') ∨
    (∃ ι3 κ3 ι4 f s, Dx = some (0, ι3) ∧ Mx = some κ3 ∧ m_X1_add (nI q) 0 ι3 = some ι4 ∧ m_X7_tells (nI q) κ3 = some κ3 ∧ Flt ι4 κ3 f s ∧ DW ι ι4 ∧ MW κ κ3) := by
  obtain ⟨hp0, hF0, ho0, ⟨t1, t2, t3, t4⟩, hl0, hE0⟩ := h0
  obtain ⟨i1, i2, i3, i4, i5, i6, i7, i8, i9, i10', i11, i12⟩ := hI
  have hb1 := Pos_a i1
  have hpe := TK_next i1.1 hkC
  have hlF := enc7_len F A
  have hF1 : FR (pI ι1 11 5 (nI (k1 + 1))) (pI κ1 109 4 (nI (e k1))) (F ++ A) := FR_cg i2 (fun o i q => gI_p2 _ _ (by omega)) (gI_p2 _ _ (by omega)) (fun i q => gI_p2 _ _ (by omega))
  have hkd1 : KD ι (pI ι1 11 5 (nI (k1 + 1))) := i11.tr (KD_on ι1 _)
  have hkm1 : KM κ (pI κ1 109 4 (nI (e k1))) := i12.tr (KM_at κ1 _ (Or.inl rfl))
  rcases hX ⟨Pos_on i1 hkC, hF1, by rw [gI_p2 _ _ (by omega)]; exact i9, ⟨(hkd1.2 _ _ (by omega) (by omega) (by omega)).trans t1, (hkm1.2.1 _ (by omega)).trans t2, t3, t4⟩, by rw [List.length_append]; omega, by omega⟩ with ⟨ι3, κ3, k3, a3, G, e1, e2, e3, e4, e5, e6, e7, e8, e9, e10, e11, e12, e13, e14⟩ | ⟨ι3, κ3, f, s, e1, e2, e3, e4, e5⟩
  · have hb3 := Pos_a e3
    have hk3 := e3.2.2.2.2.2.1
    have hlG := enc7_len (F ++ A) G
    have hc3 := e3.2.2.2.2.2.2.2
    obtain ⟨ι4, κ4, g1, g2, g3, g4, g5, g6, g7, g8, g9⟩ := FR_op (q := q) e4 e3.2.2.2.1 (by omega) hq.2 (by rw [List.length_append, List.length_append]; omega) (by have := hc3.1; omega)
    have hD : DW ι3 ι4 := ⟨fun o i z => g4 o i (by omega) (by omega), g5, g6⟩
    have hM : MW κ3 κ4 := ⟨fun o i z w => g7 o i (by omega) (by omega), g8, g9⟩
    have hop : (enc7 [(q, 0)]).length = 1 := by rw [enc7_op (q := (q, 0)) (show ¬ q < 4 by omega)]; rfl
    have hA' := enc7_len A (G ++ [(q, 0)])
    have hG' := enc7_len G [(q, 0)]
    refine Or.inl ⟨ι3, κ3, ι4, κ4, k3, a3, A ++ (G ++ [(q, 0)]), e1, e2, g1, ?_, by omega, Pos_cg e3 hD hM (g4 _ _ (by omega) (by omega)) (g4 _ _ (by omega) (by omega)) (g7 _ _ (by omega) (by omega)) (g7 _ _ (by omega) (by omega)), ?_, by omega, ?_, by omega, by omega, fun r hr => ?_, sg_two hq.1 i8 e10, (g7 _ _ (by omega) (by omega)).trans e11, by simp, (hkd1.tr e13).tr ⟨hD, fun o i z1 z2 _ => g4 o i z1 z2⟩, (hkm1.tr e14).tr ⟨hM, fun i z => g7 _ _ (by omega) (by omega), g7 _ _ (by omega) (by omega), g7 _ _ (by omega) (by omega)⟩⟩
    · rw [if_neg (show ¬ q = 4 by omega)] at g2
      exact g2
    · rw [show F ++ (A ++ (G ++ [(q, 0)])) = F ++ A ++ G ++ [(q, 0)] by simp [List.append_assoc]]
      exact g3
    · rw [List.length_append, List.length_append]
      show k + (A.length + (G.length + 1)) ≤ k3
      omega
    · rcases List.mem_append.mp hr with z | z
      · exact i7 r z
      · rcases List.mem_append.mp z with y | y
        · exact e9 r y
        · rw [List.mem_singleton] at y
          rw [y]
          exact ⟨⟨hq.2, fun _ => rfl⟩, fun w => by have w : q = 0 := w; omega, fun _ w => by have w : q < 4 := w; omega⟩
  · obtain ⟨f1, f2, f3, f4, f5, f6, c, hc, f7⟩ := id e3
    obtain ⟨ι4, c', g1, g2, g3, g4, g5⟩ := d_add_any hc f7 (nI q) 0
    exact Or.inr ⟨ι3, κ3, ι4, f, s, e1, e2, g1, m_tells_d (Flt_6 e3) _, ⟨f1, f2, by rw [g5]; exact f3, Pl_cg f4 g4 (g5 5), f5, f6, c', g2, g3⟩, (hkd1.1.tr e4).tr g4, hkm1.1.tr e5⟩
theorem d_pstop {Ud : Int32 → iS → Option (Int32 × iS)} {m : Nat} {y1 y3 : Int32} {ι : iS} (hm : 0 < m) : l_X3_readProduct_8 Ud m y1 0 y3 ι = some (0, ι) := by
  obtain ⟨m, rfl⟩ : ∃ q, m = q + 1 := ⟨m - 1, by omega⟩
  rw [l_X3_readProduct_8]
  by_cases h : (500 : Int32) ≤ y3
  · rw [if_pos h, if_pos (Or.inl rfl)]
  · rw [if_neg h, if_pos rfl, if_pos (Or.inl rfl)]
theorem d_sstop {Ud : Int32 → iS → Option (Int32 × iS)} {m : Nat} {y1 y3 : Int32} {ι : iS} (hm : 0 < m) : l_X3_readSum_8 Ud m y1 0 y3 ι = some (0, ι) := by
  obtain ⟨m, rfl⟩ : ∃ q, m = q + 1 := ⟨m - 1, by omega⟩
  rw [l_X3_readSum_8]
  by_cases h : (500 : Int32) ≤ y3
  · rw [if_pos h, if_pos (Or.inl rfl)]
  · rw [if_neg h, if_pos rfl, if_pos (Or.inl rfl)]
theorem m_pstop {Um : iS → Option iS} {m : Nat} {κ : iS} (hm : 0 < m) (h : ¬ gI κ 109 6 = 0) : l_X7_product_4 Um m κ = some κ := by
  obtain ⟨m, rfl⟩ : ∃ q, m = q + 1 := ⟨m - 1, by omega⟩
  rw [l_X7_product_4, m_fine_n h, Option.bind_some]
  rfl
theorem m_sstop {Um : iS → Option iS} {m : Nat} {κ : iS} (hm : 0 < m) (h : ¬ gI κ 109 6 = 0) : l_X7_sum_4 Um m κ = some κ := by
  obtain ⟨m, rfl⟩ : ∃ q, m = q + 1 := ⟨m - 1, by omega⟩
  rw [l_X7_sum_4, m_fine_n h, Option.bind_some]
  rfl
theorem LI_here {ι κ ι1 κ1 : iS} {k a k1 a1 : Nat} {F A : List (Nat × Nat)} {dep T m : Nat} (hI : LI b n C p e ι κ k a F dep T m ι1 κ1 k1 a1 A) : LI b n C p e ι κ k a F dep T m ι1 (pI κ1 109 4 (nI (p k1))) k1 (p k1) A := by
  obtain ⟨i1, i2, i3, i4, i5, i6, i7, i8, i9, i10', i11, i12⟩ := hI
  have := Pos_a i1
  exact ⟨Pos_here i1, FR_cg i2 (fun _ _ _ => rfl) (gI_p2 _ _ (by omega)) (fun _ _ => gI_p2 _ _ (by omega)), i3, i4, by omega, by omega, i7, i8, by rw [gI_p2 _ _ (by omega)]; exact i9, i10', i11, i12.tr (KM_at κ1 _ (Or.inl rfl))⟩
theorem j_ploop {Ud : Int32 → iS → Option (Int32 × iS)} {Um : iS → Option iS} {ι κ : iS} {k a : Nat} {F : List (Nat × Nat)} {dep T m : Nat} (HU : ∀ ι κ k a F, ExP b n C p e ι κ k a F dep T → ExJ b n C p e ι κ k a F dep T m (Ud (nI dep) ι) (Um κ)) (h0 : ExP b n C p e ι κ k a F dep T) :
    ∀ d k1 a1 j m1 m2 ι1 κ1 A, C - k1 ≤ d → LI b n C p e ι κ k a F dep T (m + 1) ι1 κ1 k1 a1 A → j < k1 → d < m1 → d < m2 → ExJ b n C p e ι κ k a F dep T (m + 1) (l_X3_readProduct_8 Ud m1 (nI dep) 1 (nI j) ι1) (l_X7_product_4 Um m2 κ1) := by
  intro d
  induction d using Nat.strongRecOn with
  | ind d ih =>
    intro k1 a1 j m1 m2 ι1 κ1 A hd hI hj hm1 hm2
    obtain ⟨m1, rfl⟩ : ∃ q, m1 = q + 1 := ⟨m1 - 1, by omega⟩
    obtain ⟨m2, rfl⟩ : ∃ q, m2 = q + 1 := ⟨m2 - 1, by omega⟩
    obtain ⟨hT, hM, h4, h6, h5, hk, hat, hc⟩ := id hI.1
    have hb := Pos_a hI.1
    have hbb : p k1 < n → b (p k1) < 256 := fun q => (hM.2.2 _ q).2
    rw [l_X3_readProduct_8, if_neg (show ¬ (500 : Int32) ≤ nI j from nI_ge (a := j) (b := 500) (by omega) (by omega)), if_neg i10, h5, l_X7_product_4, m_fine_y h6, Option.bind_some]
    dsimp only
    rw [if_neg i10, m_here hM hat hc, Option.bind_some]
    dsimp only
    by_cases q : k1 < C ∧ b (p k1) = 42
    · rw [show m_X4_isSign (nI k1) 42 ι1 = some (1, ι1) from (d_isSign hT hk sgn_42.1).1 q, Option.bind_some]
      dsimp only
      rw [if_neg i10, h5, nI_1 k1, if_pos (show bq b n (p k1) = 42 from (bq_eq (c := 42) hbb (by omega)).mpr ⟨(Pos_lt hI.1).mp q.1, q.2⟩), gI_p1, nI_1 (p k1), pI_pI, ← sgn_end hT q.1 sgn_42.1 q.2]
      rcases j_bin (q := 7) h0 hI q.1 (by omega) (fun hx => HU _ _ _ _ _ hx) with ⟨ι3, κ3, ι4, κ4, k3, a3, A', e1, e2, e3, e4, e5, e6⟩ | ⟨ι3, κ3, ι4, f, s, e1, e2, e3, e4, e5, e6, e7⟩
      · rw [e1, e2, Option.bind_some, Option.bind_some]
        dsimp only
        rw [show m_X1_add 7 0 ι3 = some ι4 from e3, show m_X7_tells 7 κ3 = some κ4 from e4, Option.bind_some, Option.bind_some]
        rw [nI_1]
        exact ih (C - k3) (by omega) k3 a3 (j + 1) m1 m2 ι4 κ4 A' (Nat.le_refl _) e6 (by omega) (by omega) (by omega)
      · rw [e1, e2, Option.bind_some, Option.bind_some]
        dsimp only
        rw [show m_X1_add 7 0 ι3 = some ι4 from e3, show m_X7_tells 7 κ3 = some κ3 from e4, Option.bind_some, Option.bind_some]
        exact Or.inr ⟨ι4, κ3, f, s, d_pstop (by omega), m_pstop (by omega) (Flt_6 e5), e5, e6, e7⟩
    · rw [show m_X4_isSign (nI k1) 42 ι1 = some (0, ι1) from (d_isSign hT hk sgn_42.1).2 q, Option.bind_some]
      dsimp only
      rw [if_pos rfl, if_pos (Or.inr rfl), if_neg (fun w => q (by have := (bq_eq (c := 42) hbb (by omega)).mp w; exact ⟨(Pos_lt hI.1).mpr this.1, this.2⟩))]
      exact Or.inl ⟨ι1, _, k1, p k1, A, rfl, rfl, LI_here hI⟩
theorem ExJ_LI {ι κ : iS} {k a : Nat} {F : List (Nat × Nat)} {dep T m : Nat} {Dk : Option (Int32 × iS)} {Mk : Option iS} (h : ExJ b n C p e ι κ k a F dep T m Dk Mk) : (∃ ι' κ' k' a' G, Dk = some (1, ι') ∧ Mk = some κ' ∧ LI b n C p e ι κ k a F dep T m ι' κ' k' a' G) ∨ (∃ ι' κ' f s, Dk = some (0, ι') ∧ Mk = some κ' ∧ Flt ι' κ' f s ∧ DW ι ι' ∧ MW κ κ') := h
theorem LI_up {ι κ ι1 κ1 : iS} {k a k1 a1 : Nat} {F A : List (Nat × Nat)} {dep T m m' : Nat} (hI : LI b n C p e ι κ k a F dep T m ι1 κ1 k1 a1 A) (hm : m ≤ m') : LI b n C p e ι κ k a F dep T m' ι1 κ1 k1 a1 A := by
  obtain ⟨i1, i2, i3, i4, i5, i6, i7, i8, i9, i10', i11, i12⟩ := hI
  exact ⟨i1, i2, i3, i4, i5, i6, i7, sg_up i8 hm, i9, i10', i11, i12⟩
theorem j_product {Ud : Int32 → iS → Option (Int32 × iS)} {Um : iS → Option iS} {ι κ : iS} {k a : Nat} {F : List (Nat × Nat)} {dep T m : Nat} (HU : ∀ ι κ k a F, ExP b n C p e ι κ k a F dep T → ExJ b n C p e ι κ k a F dep T m (Ud (nI dep) ι) (Um κ)) (h0 : ExP b n C p e ι κ k a F dep T) : ExJ b n C p e ι κ k a F dep T (m + 1) (m_X3_readProduct Ud (nI dep) ι) (m_X7_product Um κ) := by
  have hb := Pos_a h0.1
  unfold m_X3_readProduct m_X7_product
  rcases ExJ_LI (HU ι κ k a F h0) with ⟨ι', κ', k', a', G, e1, e2, e3⟩ | ⟨ι', κ', f, s, e1, e2, e3, e4, e5⟩
  · rw [e1, e2, Option.bind_some, Option.bind_some]
    dsimp only
    exact j_ploop HU h0 (C - k') k' a' 0 aF aF ι' κ' G (Nat.le_refl _) (LI_up e3 (by omega)) (by have := e3.2.2.1; omega) (by unfold aF; omega) (by unfold aF; omega)
  · rw [e1, e2, Option.bind_some, Option.bind_some]
    dsimp only
    exact Or.inr ⟨ι', κ', f, s, d_pstop (by unfold aF; omega), m_pstop (by unfold aF; omega) (Flt_6 e3), e3, e4, e5⟩
theorem j_sloop {Ud : Int32 → iS → Option (Int32 × iS)} {Um : iS → Option iS} {ι κ : iS} {k a : Nat} {F : List (Nat × Nat)} {dep T m : Nat} (HU : ∀ ι κ k a F, ExP b n C p e ι κ k a F dep T → ExJ b n C p e ι κ k a F dep T m (Ud (nI dep) ι) (Um κ)) (h0 : ExP b n C p e ι κ k a F dep T) :
    ∀ d k1 a1 j m1 m2 ι1 κ1 A, C - k1 ≤ d → LI b n C p e ι κ k a F dep T (m + 1 + 1) ι1 κ1 k1 a1 A → j < k1 → d < m1 → d < m2 → ExJ b n C p e ι κ k a F dep T (m + 1 + 1) (l_X3_readSum_8 Ud m1 (nI dep) 1 (nI j) ι1) (l_X7_sum_4 Um m2 κ1) := by
  intro d
  induction d using Nat.strongRecOn with
  | ind d ih =>
    intro k1 a1 j m1 m2 ι1 κ1 A hd hI hj hm1 hm2
    obtain ⟨m1, rfl⟩ : ∃ q, m1 = q + 1 := ⟨m1 - 1, by omega⟩
    obtain ⟨m2, rfl⟩ : ∃ q, m2 = q + 1 := ⟨m2 - 1, by omega⟩
    obtain ⟨hT, hM, h4, h6, h5, hk, hat, hc⟩ := id hI.1
    have hb := Pos_a hI.1
    have hbb : p k1 < n → b (p k1) < 256 := fun q => (hM.2.2 _ q).2
    have hh : m_X7_here (pI κ1 109 4 (nI (p k1))) = some (bq b n (p k1), pI κ1 109 4 (nI (p k1))) := by
      have := m_here (MB_at hM (nI (p k1))) (gI_p1 _ _ _ _) (Cr_s hc)
      rw [pI_pI] at this
      exact this
    have hon : ∀ (c q : Nat), 4 < q ∧ q < 8 → sgn c → k1 < C ∧ b (p k1) = c → (∃ ι3 κ3 ι4 κ4 k3 a3 A', m_X3_readProduct Ud (nI dep) (pI ι1 11 5 (nI (k1 + 1))) = some (1, ι3) ∧ m_X7_product Um (pI κ1 109 4 (nI (p k1 + 1))) = some κ3 ∧ m_X1_add (nI q) 0 ι3 = some ι4 ∧ m_X7_tells (nI q) κ3 = some κ4 ∧ k1 < k3 ∧ LI b n C p e ι κ k a F dep T (m + 1 + 1) ι4 κ4 k3 a3 A') ∨
      (∃ ι3 κ3 ι4 f s, m_X3_readProduct Ud (nI dep) (pI ι1 11 5 (nI (k1 + 1))) = some (0, ι3) ∧ m_X7_product Um (pI κ1 109 4 (nI (p k1 + 1))) = some κ3 ∧ m_X1_add (nI q) 0 ι3 = some ι4 ∧ m_X7_tells (nI q) κ3 = some κ3 ∧ Flt ι4 κ3 f s ∧ DW ι ι4 ∧ MW κ κ3) := fun c q hq hcs hw => by
      rw [← sgn_end hT hw.1 hcs hw.2]
      exact j_bin (q := q) h0 hI hw.1 hq (fun hx => j_product HU hx)
    rw [l_X3_readSum_8, if_neg (show ¬ (500 : Int32) ≤ nI j from nI_ge (a := j) (b := 500) (by omega) (by omega)), if_neg i10, h5, l_X7_sum_4, m_fine_y h6, Option.bind_some]
    dsimp only
    rw [if_neg i10, m_here hM hat hc, Option.bind_some]
    dsimp only
    by_cases q : k1 < C ∧ b (p k1) = 43
    · rw [show m_X4_isSign (nI k1) 43 ι1 = some (1, ι1) from (d_isSign hT hk sgn_42.2.1).1 q, Option.bind_some]
      dsimp only
      rw [if_neg i10, h5, nI_1 k1, if_pos (show bq b n (p k1) = 43 from (bq_eq (c := 43) hbb (by omega)).mpr ⟨(Pos_lt hI.1).mp q.1, q.2⟩), hh, Option.bind_some]
      dsimp only
      rw [gI_p1, nI_1 (p k1), pI_pI]
      rcases hon 43 5 (by omega) sgn_42.2.1 q with ⟨ι3, κ3, ι4, κ4, k3, a3, A', e1, e2, e3, e4, e5, e6⟩ | ⟨ι3, κ3, ι4, f, s, e1, e2, e3, e4, e5, e6, e7⟩
      · rw [e1, e2, Option.bind_some, Option.bind_some]
        dsimp only
        rw [if_neg i10, if_pos (show bq b n (p k1) = 43 from (bq_eq (c := 43) hbb (by omega)).mpr ⟨(Pos_lt hI.1).mp q.1, q.2⟩), show m_X1_add 5 0 ι3 = some ι4 from e3, show m_X7_tells 5 κ3 = some κ4 from e4, Option.bind_some, Option.bind_some, nI_1]
        exact ih (C - k3) (by omega) k3 a3 (j + 1) m1 m2 ι4 κ4 A' (Nat.le_refl _) e6 (by omega) (by omega) (by omega)
      · rw [e1, e2, Option.bind_some, Option.bind_some]
        dsimp only
        rw [if_neg i10, if_pos (show bq b n (p k1) = 43 from (bq_eq (c := 43) hbb (by omega)).mpr ⟨(Pos_lt hI.1).mp q.1, q.2⟩), show m_X1_add 5 0 ι3 = some ι4 from e3, show m_X7_tells 5 κ3 = some κ3 from e4, Option.bind_some, Option.bind_some]
        exact Or.inr ⟨ι4, κ3, f, s, d_sstop (by omega), m_sstop (by omega) (Flt_6 e5), e5, e6, e7⟩
    · have hn43 : ¬ bq b n (p k1) = 43 := fun w => q (by have := (bq_eq (c := 43) hbb (by omega)).mp w; exact ⟨(Pos_lt hI.1).mpr this.1, this.2⟩)
      rw [show m_X4_isSign (nI k1) 43 ι1 = some (0, ι1) from (d_isSign hT hk sgn_42.2.1).2 q, Option.bind_some]
      dsimp only
      rw [if_pos rfl, if_neg hn43, h5, hh, Option.bind_some]
      dsimp only
      by_cases r : k1 < C ∧ b (p k1) = 45
      · rw [show m_X4_isSign (nI k1) 45 ι1 = some (1, ι1) from (d_isSign hT hk sgn_42.2.2.1).1 r, Option.bind_some]
        dsimp only
        rw [if_neg i10, h5, nI_1 k1, if_pos (show bq b n (p k1) = 45 from (bq_eq (c := 45) hbb (by omega)).mpr ⟨(Pos_lt hI.1).mp r.1, r.2⟩), hh, Option.bind_some]
        dsimp only
        rw [gI_p1, nI_1 (p k1), pI_pI]
        rcases hon 45 6 (by omega) sgn_42.2.2.1 r with ⟨ι3, κ3, ι4, κ4, k3, a3, A', e1, e2, e3, e4, e5, e6⟩ | ⟨ι3, κ3, ι4, f, s, e1, e2, e3, e4, e5, e6, e7⟩
        · rw [e1, e2, Option.bind_some, Option.bind_some]
          dsimp only
          rw [if_pos rfl, if_neg hn43, show m_X1_add 6 0 ι3 = some ι4 from e3, show m_X7_tells 6 κ3 = some κ4 from e4, Option.bind_some, Option.bind_some, nI_1]
          exact ih (C - k3) (by omega) k3 a3 (j + 1) m1 m2 ι4 κ4 A' (Nat.le_refl _) e6 (by omega) (by omega) (by omega)
        · rw [e1, e2, Option.bind_some, Option.bind_some]
          dsimp only
          rw [if_pos rfl, if_neg hn43, show m_X1_add 6 0 ι3 = some ι4 from e3, show m_X7_tells 6 κ3 = some κ3 from e4, Option.bind_some, Option.bind_some]
          exact Or.inr ⟨ι4, κ3, f, s, d_sstop (by omega), m_sstop (by omega) (Flt_6 e5), e5, e6, e7⟩
      · rw [show m_X4_isSign (nI k1) 45 ι1 = some (0, ι1) from (d_isSign hT hk sgn_42.2.2.1).2 r, Option.bind_some]
        dsimp only
        rw [if_pos rfl, if_neg (fun w => r (by have := (bq_eq (c := 45) hbb (by omega)).mp w; exact ⟨(Pos_lt hI.1).mpr this.1, this.2⟩))]
        exact Or.inl ⟨ι1, _, k1, p k1, A, rfl, rfl, LI_here hI⟩
theorem j_sum {Ud : Int32 → iS → Option (Int32 × iS)} {Um : iS → Option iS} {ι κ : iS} {k a : Nat} {F : List (Nat × Nat)} {dep T m : Nat} (HU : ∀ ι κ k a F, ExP b n C p e ι κ k a F dep T → ExJ b n C p e ι κ k a F dep T m (Ud (nI dep) ι) (Um κ)) (h0 : ExP b n C p e ι κ k a F dep T) : ExJ b n C p e ι κ k a F dep T (m + 1 + 1) (m_X3_readSum Ud (nI dep) ι) (m_X7_sum Um κ) := by
  have hb := Pos_a h0.1
  unfold m_X3_readSum m_X7_sum
  rcases ExJ_LI (j_product HU h0) with ⟨ι', κ', k', a', G, e1, e2, e3⟩ | ⟨ι', κ', f, s, e1, e2, e3, e4, e5⟩
  · rw [e1, e2, Option.bind_some, Option.bind_some]
    dsimp only
    exact j_sloop HU h0 (C - k') k' a' 0 aF aF ι' κ' G (Nat.le_refl _) (LI_up e3 (by omega)) (by have := e3.2.2.1; omega) (by unfold aF; omega) (by unfold aF; omega)
  · rw [e1, e2, Option.bind_some, Option.bind_some]
    dsimp only
    exact Or.inr ⟨ι', κ', f, s, d_sstop (by unfold aF; omega), m_sstop (by unfold aF; omega) (Flt_6 e3), e3, e4, e5⟩
end SU
