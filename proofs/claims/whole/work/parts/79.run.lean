theorem Stk_c {ι : iS} {c : Nat} {st : List Int64} (h : Stk (gJ ι c) st) (v : Int64) : Stk (gJ (pJ ι c st.length v) c) (v :: st) :=
  ⟨by rw [gJ_pJ, if_pos ⟨rfl, rfl⟩], Stk_cg st (fun i hi => by rw [gJ_pJ, if_neg (by omega)]) h⟩
def J23 (ι ι' : iS) : Prop := gI ι' = gI ι ∧ gP ι' = gP ι ∧ ∀ o k, o ≠ 23 → gJ ι' o k = gJ ι o k
theorem J23.rf (ι : iS) : J23 ι ι := ⟨rfl, rfl, fun _ _ _ => rfl⟩
theorem J23.tr {a b c : iS} (h1 : J23 a b) (h2 : J23 b c) : J23 a c := ⟨h2.1.trans h1.1, h2.2.1.trans h1.2.1, fun o k q => (h2.2.2 o k q).trans (h1.2.2 o k q)⟩
theorem J23.pJ {a b : iS} (h : J23 a b) (k : Nat) (v : Int64) : J23 a (pJ b 23 k v) := ⟨h.1, h.2.1, fun o y q => by rw [gJ_pJ, if_neg (fun z => q z.1)]; exact h.2.2 o y q⟩
theorem k6 {a c : Nat} (ha : a < 8) (hc : c < 128) : (nI (a * 128 + c) >>> ((7 : Int32) &&& 31)) = nI a ∧ (nI (a * 128 + c) &&& 127) = nI c := by
  constructor
  · rw [pk_shrN (by omega) ((7 : Int32) &&& 31) 7 (by decide)]
    congr 1
    omega
  · rw [pk_andN (n := a * 128 + c) (by omega) 7 (by decide)]
    congr 1
    omega
theorem hold_eq (x : Int64) : (if (if x < (1000000 : Int64) then x else (1000000 : Int64)) < (-1000000 : Int64) then (-1000000 : Int64) else (if x < (1000000 : Int64) then x else (1000000 : Int64))) = hold x := by
  have e1 : (1000000 : Int64).toInt = 1000000 := by decide
  have e2 : (-1000000 : Int64).toInt = -1000000 := by decide
  unfold hold
  by_cases h1 : x < 1000000
  · rw [if_pos h1, if_pos (Int64.le_of_lt h1)]
    by_cases h2 : x < -1000000
    · rw [if_pos h2, if_neg (fun q => Int64.not_lt.mpr q h2)]
    · rw [if_neg h2, if_pos (Int64.not_lt.mp h2)]
  · rw [if_neg h1, if_neg (by decide)]
    by_cases h3 : x ≤ 1000000
    · have hx : x = 1000000 := Int64.toInt_inj.mp (by
        rw [Int64.lt_iff_toInt_lt, e1] at h1
        rw [Int64.le_iff_toInt_le, e1] at h3
        rw [e1]; omega)
      rw [if_pos h3, hx, if_pos (by decide)]
    · rw [if_neg h3]
theorem d_join {q : Nat} (hq : 4 < q ∧ q < 8) (a c : Int64) (ι : iS) : m_X1_joined (nI q) a c ι = some (rJoin q a c, ι) := by
  unfold m_X1_joined rJoin
  rw [hold_eq, hold_eq, hold_eq]
  rcases (show q = 5 ∨ q = 6 ∨ q = 7 by omega) with rfl | rfl | rfl
  · rw [if_pos (show nI 5 = 5 from rfl)]; rfl
  · rw [if_neg (by decide), if_pos (show nI 6 = 6 from rfl)]; rfl
  · rw [if_neg (by decide), if_neg (by decide)]; rfl
theorem d_trait {ι : iS} {r : Nat → Int32} {T P p : Nat} (h : DV ι r T P) (hp : p < P) (g : Int32) {q : Nat × Nat} (hq : okQ T q) (h1 : 1 ≤ q.1) (h4 : q.1 < 4) : m_X1_ofTrait (nI q.1) (nI q.2) 12 (nI p) g ι = some (rLeaf r p g q, ι) := by
  have hq2 := hq.2.2 h1 h4
  have hT := h.1
  have hP := h.2.1
  unfold m_X1_ofTrait rLeaf
  rw [if_neg (show ¬ q.1 = 0 by omega)]
  rcases (show q.1 = 1 ∨ q.1 = 2 ∨ q.1 = 3 by omega) with z | z | z
  · rw [z, if_pos (show nI 1 = 1 from rfl), if_pos rfl, d_val (by omega) (by omega), Option.bind_some, show gI ι (12 + 1) (5 * p + q.2) = r (9 + 5 * p + q.2) from (h.2.2.2.1 p hp q.2 hq2).1]
  · rw [z, if_neg (by decide), if_pos (show nI 2 = 2 from rfl), if_neg (by decide), if_pos rfl, d_diff h hp hq2, Option.bind_some]
  · rw [z, if_neg (show ¬ nI 3 = 1 by decide), if_neg (show ¬ nI 3 = 2 by decide), if_neg (show ¬ 3 = 1 by decide), if_neg (show ¬ 3 = 2 by decide), if_pos (aIn_nI (by omega) (by omega)), nI_clamp (by omega), show gI ι (12 + 3) q.2 = r (94 + q.2) from (h.2.2.2.2 q.2 (by omega)).2.1]
set_option maxHeartbeats 2000000 in
theorem d_run {r : Nat → Int32} {T P p : Nat} (hp : p < P) (g : Int32) : ∀ (F : List (Nat × Nat)) (j m : Nat) (st : List Int64) (ι : iS), DV ι r T P → (∀ q ∈ F, okQ T q) → (∀ i, i < F.length → gI ι 22 (j + i) = enc6 (F.getD i (0, 0))) → gI ι 21 2 = nI (j + F.length) → j + F.length ≤ 500 → rHgt F st.length = some 1 → st.length ≤ 16 → Stk (gJ ι 23) st → F.length < m → ∃ ι', l_X1_run_6 12 m (nI p) g (nI st.length) (nI j) ι = some ((F.foldl (rStep r p g) st).headD 0, ι') ∧ J23 ι ι' := by
  intro F
  induction F with
  | nil =>
    intro j m st ι hV hok hs hc hle hh h16 hS hm
    obtain ⟨m, rfl⟩ : ∃ y, m = y + 1 := ⟨m - 1, by omega⟩
    have hl : st.length = 1 := Option.some.inj hh
    match st, hl, hS with
    | [a], _, hS =>
      refine ⟨ι, ?_, J23.rf ι⟩
      rw [l_X1_run_6, hc, if_pos (show nI (j + ([] : List (Nat × Nat)).length) ≤ nI j from Int32.le_refl _), show gJ ι 23 0 = a from hS.1]
      rfl
  | cons q F ih =>
    intro j m st ι hV hok hs hc hle hh h16 hS hm
    obtain ⟨m, rfl⟩ : ∃ y, m = y + 1 := ⟨m - 1, by omega⟩
    rw [List.length_cons] at hc hle hm
    have hq := hok q List.mem_cons_self
    have hq8 := hq.1.1
    have hok' : ∀ q ∈ F, okQ T q := fun q h => hok q (List.mem_cons_of_mem _ h)
    have hT := hV.1
    have h22 : gI ι 22 j = nI (q.1 * 128 + q.2) := hs 0 (by rw [List.length_cons]; omega)
    have hs' : ∀ i, i < F.length → gI ι 22 (j + 1 + i) = enc6 (F.getD i (0, 0)) := fun i hi => by
      have := hs (i + 1) (by rw [List.length_cons]; omega)
      rw [show j + 1 + i = j + (i + 1) by omega]
      exact this
    have hc' : gI ι 21 2 = nI (j + 1 + F.length) := by rw [hc]; congr 1; omega
    rw [List.foldl_cons]
    by_cases h4 : q.1 < 4
    · have hq2 : q.2 < 128 := by
        by_cases z : q.1 = 0
        · have := hq.2.1 z; omega
        · have := hq.2.2 (by omega) h4; omega
      obtain ⟨eK, eO⟩ := k6 hq8 hq2
      rw [rHgt, if_pos h4] at hh
      have h16' : st.length < 16 := by
        rcases Nat.lt_or_ge st.length 16 with z | z
        · exact z
        · rw [if_neg (by omega)] at hh; cases hh
      rw [if_pos h16'] at hh
      obtain ⟨ι', e1, e2⟩ := ih (j + 1) m (rLeaf r p g q :: st) (pJ ι 23 st.length (rLeaf r p g q)) hV hok' hs' hc' (by omega) hh (by rw [List.length_cons]; omega) (Stk_c hS _) (by omega)
      refine ⟨ι', ?_, ((J23.rf ι).pJ _ _).tr e2⟩
      have e3 : rStep r p g st q = rLeaf r p g q :: st := by unfold rStep; rw [if_pos h4]
      rw [e3]
      refine Eq.trans ?_ e1
      rw [List.length_cons, l_X1_run_6, hc, if_neg (nI_ge (by omega) (by omega)), if_pos (aIn_nI (by omega) (by omega)), if_pos (aIn_nI (by omega) (by omega)), nI_clamp (n := j) (by omega), h22, eK, eO, nI_1, nI_1]
      by_cases z : q.1 = 0
      · rw [if_pos (show nI q.1 = 0 by rw [z]; rfl), if_neg (show ¬ (16 : Int32) ≤ nI st.length from nI_ge (a := st.length) (b := 16) (by omega) (by omega)), if_pos (aIn_nI (by omega) (by omega)), nI_clamp (by omega), show (nI q.2).toInt64 = rLeaf r p g q by unfold rLeaf; rw [if_pos z]]
      · have hq5 := hq.2.2 (by omega) h4
        rw [if_neg (nI_ne0 (n := q.1) (by omega) (by omega)), if_neg (show ¬ (4 : Int32) ≤ nI q.1 from nI_ge (a := q.1) (b := 4) (by omega) (by omega)), if_neg (show ¬ (16 : Int32) ≤ nI st.length from nI_ge (a := st.length) (b := 16) (by omega) (by omega)), if_neg (show ¬ (5 : Int32) ≤ nI q.2 from nI_ge (a := q.2) (b := 5) (by omega) (by omega)), d_trait hV hp g hq (by omega) h4, Option.bind_some, if_pos (aIn_nI (by omega) (by omega)), nI_clamp (by omega)]
    · rw [rHgt, if_neg h4] at hh
      have hq0 : q.2 = 0 := hq.1.2 (by omega)
      obtain ⟨eK, eO⟩ := k6 (c := q.2) hq8 (by omega)
      by_cases h44 : q.1 = 4
      · rw [if_pos h44] at hh
        have h1 : 1 ≤ st.length := by
          rcases Nat.lt_or_ge st.length 1 with z | z
          · rw [if_neg (by omega)] at hh; cases hh
          · exact z
        rw [if_pos h1] at hh
        match st, h1, hh, h16, hS with
        | a :: s, h1, hh, h16, hS =>
          rw [List.length_cons] at hh h16
          obtain ⟨ι', e1, e2⟩ := ih (j + 1) m (-a :: s) (pJ ι 23 s.length (-a)) hV hok' hs' hc' (by omega) hh h16 (Stk_c hS.2 _) (by omega)
          refine ⟨ι', ?_, ((J23.rf ι).pJ _ _).tr e2⟩
          have e3 : rStep r p g (a :: s) q = -a :: s := by unfold rStep; rw [if_neg h4, if_pos h44]
          rw [e3]
          refine Eq.trans ?_ e1
          have ha : gJ ι 23 s.length = a := hS.1
          rw [List.length_cons, List.length_cons, l_X1_run_6, hc, if_neg (nI_ge (by omega) (by omega)), if_pos (aIn_nI (by omega) (by omega)), if_pos (aIn_nI (by omega) (by omega)), nI_clamp (n := j) (by omega), h22, eK, eO, nI_1, if_neg (nI_ne0 (n := q.1) (by omega) (by omega)), if_pos (show (4 : Int32) ≤ nI q.1 from nI_le (a := 4) (b := q.1) (by omega) (by omega)), if_pos (show nI q.1 = 4 by rw [h44]; rfl), if_neg (show ¬ nI (s.length + 1) < 1 from nI_nlt (a := s.length + 1) (b := 1) (by omega) (by omega)), nI_pred, if_pos (aIn_nI (by omega) (by omega)), if_pos (aIn_nI (by omega) (by omega)), nI_clamp (by omega), ha]
      · rw [if_neg h44] at hh
        have h1 : 2 ≤ st.length := by
          rcases Nat.lt_or_ge st.length 2 with z | z
          · rw [if_neg (by omega)] at hh; cases hh
          · exact z
        rw [if_pos h1] at hh
        match st, h1, hh, h16, hS with
        | c :: a :: s, h1, hh, h16, hS =>
          rw [List.length_cons, List.length_cons] at hh h16
          obtain ⟨ι', e1, e2⟩ := ih (j + 1) m (rJoin q.1 a c :: s) (pJ ι 23 s.length (rJoin q.1 a c)) hV hok' hs' hc' (by omega) hh (by rw [List.length_cons]; omega) (Stk_c hS.2.2 _) (by omega)
          refine ⟨ι', ?_, ((J23.rf ι).pJ _ _).tr e2⟩
          have e3 : rStep r p g (c :: a :: s) q = rJoin q.1 a c :: s := by unfold rStep; rw [if_neg h4, if_neg h44]
          rw [e3]
          refine Eq.trans ?_ e1
          have hc1 : gJ ι 23 (s.length + 1) = c := hS.1
          have ha : gJ ι 23 s.length = a := hS.2.1
          rw [List.length_cons, List.length_cons, List.length_cons, l_X1_run_6, hc, if_neg (nI_ge (by omega) (by omega)), if_pos (aIn_nI (by omega) (by omega)), if_pos (aIn_nI (by omega) (by omega)), nI_clamp (n := j) (by omega), h22, eK, eO, nI_1, if_neg (nI_ne0 (n := q.1) (by omega) (by omega)), if_pos (show (4 : Int32) ≤ nI q.1 from nI_le (a := 4) (b := q.1) (by omega) (by omega)), if_neg (show ¬ nI q.1 = 4 from fun z => by have := (nI_eq (a := q.1) (b := 4) (by omega) (by omega)).mp z; omega), if_neg (show ¬ nI q.1 ≤ 4 from nI_ge (a := 4) (b := q.1) (by omega) (by omega)), if_neg (show ¬ nI (s.length + 1 + 1) < 2 from nI_nlt (a := s.length + 1 + 1) (b := 2) (by omega) (by omega)), pk_m1, nI_pred, if_pos (aIn_nI (by omega) (by omega)), if_pos (aIn_nI (by omega) (by omega)), nI_clamp (by omega), nI_clamp (by omega), hc1, ha, d_join (by omega), Option.bind_some, if_pos (aIn_nI (by omega) (by omega))]
