/-! WHAT LIES BESIDE THE HEAP AT THE LAW'S START: out of what the Statement gives -/
def eT (i : Nat) : Term := .string "LineupDesk$Reader" ([82, 94, 99, 104, 112, 124, 126, 128, 130, 181, 183, 185].getD i 0)
def eM (i : Nat) : Term := .string "LineupDeskModel" ([168, 151, 153, 142, 162, 154, 156, 158, 160, 123, 129, 131].getD i 0)
def eX (i : Nat) : Term := .string "LineupDesk" ([212, 217, 219, 223, 228].getD i 0)
def eS (j : Nat) : Term := .static "LineupDesk" (aSn j) "[I"
def eW (t : Term) (len : Nat) (bs : List Int32) : List Cond := [.exactly t "java/lang/String", .eq (.field t "java/lang/String" "coder" "B") (.int 0), .arrayOf (.field t "java/lang/String" "value" "[B") .byte, .eq (.length (.field t "java/lang/String" "value" "[B")) (.int (Int32.ofNat len))] ++ (List.range len).map (fun j => .eq (.elem (.field t "java/lang/String" "value" "[B") (.int (Int32.ofNat j))) (.int (bs.getD j 0)))
def eG : List Cond := flatC (Jvm.Cond.and given_1 narrow_1)
theorem env_1 : ∀ i, i < 12 → ∀ w ∈ eW (eT i) (aLen.getD i 0) (aByt.getD i []), w ∈ eG := by decide +kernel
theorem env_2 : ∀ i, i < 12 → Cond.eq (eT i) (eM i) ∈ eG := by decide +kernel
theorem env_3 : ∀ i, i < 5 → Cond.exactly (eX i) "java/lang/String" ∈ eG := by decide +kernel
theorem env_4 : ∀ j, j < 3 → Cond.arrayOf (eS j) .int ∈ eG ∧ Cond.eq (.length (eS j)) (.int (Int32.ofNat 4)) ∈ eG ∧ ∀ i, i < 4 → Cond.eq (.elem (eS j) (.int (Int32.ofNat i))) (.int (aSt j i)) ∈ eG := by decide +kernel
theorem env_5 : ∀ q ∈ aNcs, Cond.not (.castable q.1 q.2) ∈ eG := by decide +kernel
theorem env_6 : Cond.isRef (.static Bundle.tN "UNASSIGNED_STACK" Bundle.steD) ∈ eG ∧ Cond.isRef (.static Bundle.tN "SUPPRESSED_SENTINEL" Bundle.listD) ∈ eG ∧ Cond.eq (.static "java/lang/String" "COMPACT_STRINGS" "Z") (.int 1) ∈ eG ∧ Cond.isRef (.static "jdk/internal/util/Preconditions" "SIOOBE_FORMATTER" "Ljava/util/function/BiFunction;") ∈ eG := by decide +kernel
theorem eT_1 {w : Cond} (i : Nat) (h : tables_1_1[i]? = some w) : w ∈ lw_tbl := List.mem_append_right _ (List.mem_append_left _ (List.mem_of_getElem? h))
theorem env_t : ∀ w ∈ aNest ++ aNestF.map (fun q => Cond.fieldLinkNest q.1 q.2.1 "LineupDesk" q.2.2 "[I" "LineupDesk") ++ [0, 1, 2].map (fun j => Cond.laysStatic "LineupDesk" (aSn j) "[I") ++ aLdc.map (fun q => Cond.stringRef q.1 q.2.1 q.2.2.1) ++ aDc.map Cond.declares ++ aXs.map (fun x => Cond.castable x x) ++ [.laysStatic Bundle.tN "UNASSIGNED_STACK" Bundle.steD, .laysStatic Bundle.tN "SUPPRESSED_SENTINEL" Bundle.listD, .laysStatic "java/lang/String" "COMPACT_STRINGS" "Z", .laysStatic "jdk/internal/util/Preconditions" "SIOOBE_FORMATTER" "Ljava/util/function/BiFunction;", .initialized "LineupDesk", .initialized Bundle.tN, .initialized "java/lang/String", .initialized "jdk/internal/util/Preconditions", .arrayOver (.object "LineupDesk$Lineup"), .arrayOver (.array .int)], w ∈ tables_1 := by decide +kernel
theorem eqR {args : Array Value} {s : State} {t1 t2 : Term} {a : Nat} (h : (Cond.eq t1 t2).before args s = true) (h1 : t1.eval args s none [] s = some (.ref a)) : t2.eval args s none [] s = some (.ref a) := by
  simp only [Cond.before, Cond.holds, Cond.value, h1] at h
  cases h2 : t2.eval args s none [] s with
  | none => simp [h2] at h
  | some v => cases v <;> simp_all
theorem env_ac {args : Array Value} {s : State} {ty : FieldType} (h : (Cond.arrayClass ty).before args s = true) : ∃ cA : ClassId, ArrOfT s cA ty ∧ s.vm.findClass ("[" ++ ty.toString) = some cA := by
  obtain ⟨c, k, comp, h1, h2, h3⟩ := Cond.arrayClass_spec h
  exact ⟨c, fun n z => ⟨fun k h => (by cases h), k, h2, comp, h3⟩, h1⟩
theorem env_ao {s : State} {C : String} (h : va_AO C s) : ∃ cA : ClassId, ArrOfT s cA (.object C) ∧ va_RA s cA (.object C) := by
  obtain ⟨comp, c, k, h1, h2, h3, h4, h5⟩ := Cond.arrayOver_spec h
  exact ⟨c, fun n z => ⟨fun k h => (by cases h), k, h3, comp, h4⟩, k, comp, h3, h4, h1, h5⟩
theorem env_aoa {s : State} (h : va_AOA .int s) : ∃ cA : ClassId, ArrOfT s cA (.array .int) ∧ va_RA s cA (.array .int) := by
  unfold va_AOA at h
  simp only [Cond.before, Cond.holds, Cond.value, beq_iff_eq] at h
  obtain ⟨comp, h1, h⟩ := Option.bind_eq_some_iff.mp h
  obtain ⟨c, h2, h⟩ := Option.bind_eq_some_iff.mp h
  obtain ⟨k, h3, h⟩ := Option.map_eq_some_iff.mp h
  cases hk : k.kind with
  | array comp2 ty =>
    simp only [hk, Bool.and_eq_true, decide_eq_true_eq] at h
    obtain ⟨e1, e2⟩ := h
    subst e1
    exact ⟨c, fun n z => ⟨fun k h => (by cases h), k, h3, comp2, hk⟩, e2⟩
  | _ => simp [hk] at h
theorem env_K {s : State} {args : Array Value} (hts : ∀ w ∈ aTs, w.before args s = true) (hY : aY s) : ∃ (D : va_G) (dA : Nat → ClassId), va_K D vwCl (aTy dA) s := by
  obtain ⟨c0, i0, k0⟩ := u_known (C := RX0) (T := TX0) (N := 6) hts wU_X0 (hts _ wN_X0)
  obtain ⟨c1, i1, k1⟩ := u_known (C := RX1) (T := TX1) (N := 3) hts wU_X1 (hts _ wN_X1)
  obtain ⟨c2, i2, k2⟩ := u_known (C := RX2) (T := TX2) (N := 11) hts wU_X2 (hts _ wN_X2)
  obtain ⟨c3, i3, k3⟩ := u_known (C := RX3) (T := TX3) (N := 7) hts wU_X3 (hts _ wN_X3)
  obtain ⟨c4, i4, k4⟩ := u_known (C := RX4) (T := TX4) (N := 6) hts wU_X4 (hts _ wN_X4)
  obtain ⟨c5, i5, k5⟩ := u_known (C := RX5) (T := TX5) (N := 5) hts wU_X5 (hts _ wN_X5)
  obtain ⟨c6, i6, k6⟩ := u_known (C := RX6) (T := TX6) (N := 11) hts wU_X6 (hts _ wN_X6)
  obtain ⟨c7, i7, k7⟩ := u_known (C := RX7) (T := TX7) (N := 20) hts wU_X7 (hts _ wN_X7)
  obtain ⟨a8, p8⟩ := env_ac (hts _ wA_8)
  obtain ⟨a9, p9⟩ := env_ac (hts _ wA_9)
  obtain ⟨a10, p10⟩ := env_ac (hts _ wA_10)
  obtain ⟨a11, p11⟩ := env_ao hY.1
  obtain ⟨a12, p12⟩ := env_aoa hY.2
  refine ⟨(fun k => [c0, c1, c2, c3, c4, c5, c6, c7].getD k c0, fun k => [i0, i1, i2, i3, i4, i5, i6, i7].getD k i0), fun k => [a8, a9, a10, a11, a12].getD (k - 8) a8, ?_, ?_⟩
  · intro k q hq
    match k, hq with
    | 0, hq => cases hq; exact k0
    | 1, hq => cases hq; exact k1
    | 2, hq => cases hq; exact k2
    | 3, hq => cases hq; exact k3
    | 4, hq => cases hq; exact k4
    | 5, hq => cases hq; exact k5
    | 6, hq => cases hq; exact k6
    | 7, hq => cases hq; exact k7
    | k + 8, hq => simp [vwCl] at hq
  · intro k q hq
    match k, hq with
    | 0, hq => cases hq; exact p8
    | 1, hq => cases hq; exact p9
    | 2, hq => cases hq; exact p10
    | 3, hq => cases hq; exact p11
    | 4, hq => cases hq; exact p12
    | k + 5, hq => simp [aTy] at hq
/-! the strings: two of them at one address have one text -/
theorem env_inj : ∀ i, i < 12 → ∀ j, j < 12 → aLen.getD i 0 = aLen.getD j 0 → (∀ k, k < aLen.getD i 0 → (aByt.getD i []).getD k 0 = (aByt.getD j []).getD k 0) → i = j := by decide +kernel
theorem env_len : ∀ i, i < 12 → aLen.getD i 0 < 8 := by decide +kernel
theorem va_OF.fn {o n d : String} {v w : Value} {t : Nat} {A : Nat → Prop} {U : State} {H : Heap} (h1 : va_OF o n d v t A U H) (h2 : va_OF o n d w t A U H) : v = w := by
  obtain ⟨cf, k, i, f, cell, a1, a2, a3, a4, a5, a6⟩ := h1
  obtain ⟨cf', k', i', f', cell', b1, b2, b3, b4, b5, b6⟩ := h2
  cases a1.symm.trans b1
  cases a3.symm.trans b3
  exact Option.some.inj (a5.symm.trans b5)
theorem env_S {s : State} {args : Array Value} (hg : ∀ w ∈ eG, w.before args s = true) {A : Nat → Prop} (hA : ∀ a : Nat, a < s.heap.size → ¬ A a) : ∃ adK adV : Nat → Nat, vk_S 12 aLen aByt adK adV A s s.heap ∧ ∀ i, i < 12 → (eT i).eval args s none [] s = some (.ref (adK i)) := by
  have h0 : ∀ i : Nat, ∃ q : Nat × Nat, i < 12 → (eT i).eval args s none [] s = some (.ref q.1) ∧ va_O "java/lang/String" q.1 A s s.heap ∧ va_OF "java/lang/String" "coder" "B" (.int 0) q.1 A s s.heap ∧ va_OF "java/lang/String" "value" "[B" (.ref q.2) q.1 A s s.heap ∧ va_T .byte q.2 (aLen.getD i 0) (fun j => .int ((aByt.getD i []).getD j 0)) A s s.heap := by
    intro i
    by_cases hi : i < 12
    · have hw : ∀ w ∈ eW (eT i) (aLen.getD i 0) (aByt.getD i []), w.before args s = true := fun w h => hg w (env_1 i hi w h)
      have hl : aLen.getD i 0 < 2 ^ 31 := Nat.lt_trans (env_len i hi) (by decide)
      obtain ⟨adK, adV, ⟨h, -⟩, he⟩ := vk_Sof (args := args) (s := s) (N := 1) (tm := fun _ => eT i) (len := [aLen.getD i 0]) (byt := [aByt.getD i []]) (A := A)
        (fun k hk => by have : k = 0 := by omega
                        subst this; exact hl)
        (fun k hk => hw _ (by unfold eW; exact List.mem_append_left _ (by simp)))
        (fun k hk => hw _ (by unfold eW; exact List.mem_append_left _ (by simp)))
        (fun k hk => hw _ (by unfold eW; exact List.mem_append_left _ (by simp)))
        (fun k hk => by have : k = 0 := by omega
                        subst this; exact hw _ (by unfold eW; exact List.mem_append_left _ (by simp)))
        (fun k hk j hj => by have : k = 0 := by omega
                             subst this; exact hw _ (by unfold eW; exact List.mem_append_right _ (List.mem_map.mpr ⟨j, List.mem_range.mpr hj, rfl⟩)))
        (fun i j hi hj hij => by omega) hA
      exact ⟨(adK 0, adV 0), fun _ => ⟨he 0 (by decide), h 0 (by decide)⟩⟩
    · exact ⟨(0, 0), fun h => absurd h hi⟩
  obtain ⟨q, hq⟩ := Classical.axiomOfChoice h0
  refine ⟨fun i => (q i).1, fun i => (q i).2, ⟨fun i hi => (hq i hi).2, fun i j hi hj e => ?_⟩, fun i hi => (hq i hi).1⟩
  obtain ⟨-, -, -, f1, T1⟩ := hq i hi
  obtain ⟨-, -, -, f2, T2⟩ := hq j hj
  have e : (q i).1 = (q j).1 := e
  rw [e] at f1
  have e2 : (q i).2 = (q j).2 := Value.ref.inj (f1.fn f2)
  rw [e2] at T1
  obtain ⟨c1, a1, -, -, -, a5, a6, -⟩ := T1
  obtain ⟨c2, b1, -, -, -, b5, b6, -⟩ := T2
  cases a1.symm.trans b1
  have el : aLen.getD i 0 = aLen.getD j 0 := by
    have := a5.symm.trans b5
    have h1 := env_len i hi
    have h2 := env_len j hj
    have h3 := congrArg Int32.toNatClampNeg this
    rw [Int32.toNatClampNeg_ofNat_of_lt (by omega), Int32.toNatClampNeg_ofNat_of_lt (by omega)] at h3
    exact h3
  exact env_inj i hi j hj el (fun k hk => Value.int.inj (Option.some.inj ((a6 k hk).symm.trans (b6 k (el ▸ hk)))))
theorem env_T {s : State} {args : Array Value} (hg : ∀ w ∈ eG, w.before args s = true) (ht : ∀ w ∈ tables_1, w.before args s = true) {A : Nat → Prop} (hA : ∀ a : Nat, a < s.heap.size → ¬ A a) : ∃ adT : Nat → Nat, ∀ j, j < 3 → va_Z "LineupDesk" (aSn j) "[I" (.ref (adT j)) A s s.heap ∧ va_T .int (adT j) 4 (fun i => .int (aSt j i)) A s s.heap := by
  have h0 : ∀ j : Nat, ∃ a : Nat, j < 3 → va_Z "LineupDesk" (aSn j) "[I" (.ref a) A s s.heap ∧ va_T .int a 4 (fun i => .int (aSt j i)) A s s.heap := by
    intro j
    by_cases hj : j < 3
    · obtain ⟨t, h1, h2⟩ := va_Tof (f := fun i => .int (aSt j i)) (A := A) (N := 4) (by decide) (hg _ (env_4 j hj).1) (va_eqt (hg _ (env_4 j hj).2.1)) (fun i hi => va_eqt (hg _ ((env_4 j hj).2.2 i hi))) hA
      refine ⟨t, fun _ => ⟨va_Zof (ht _ (env_t _ ?_)) (ht _ (env_t _ ?_)) h1 hA, h2⟩⟩
      · simp only [List.mem_append, List.mem_map]
        refine Or.inl (Or.inl (Or.inl (Or.inl (Or.inr ⟨j, ?_, rfl⟩))))
        rcases (show j = 0 ∨ j = 1 ∨ j = 2 by omega) with rfl | rfl | rfl <;> simp
      · refine List.mem_append_right _ ?_
        simp
    · exact ⟨0, fun h => absurd h hj⟩
  obtain ⟨q, hq⟩ := Classical.axiomOfChoice h0
  exact ⟨q, hq⟩
theorem env_ldc : ∀ q ∈ aLdc, (q.2.2.2 < 1000012 ∧ (Term.string q.1 q.2.1 = eT (q.2.2.2 - 1000000) ∨ Term.string q.1 q.2.1 = eM (q.2.2.2 - 1000000))) ∨ (1000012 ≤ q.2.2.2 ∧ q.2.2.2 < 1000017 ∧ Term.string q.1 q.2.1 = eX (q.2.2.2 - 1000012)) := by decide +kernel
theorem env_ldc2 : ∀ q ∈ aLdc, 1000000 ≤ q.2.2.2 := by decide
theorem env_E {s : State} {args : Array Value} (hg : ∀ w ∈ eG, w.before args s = true) (ht : ∀ w ∈ tables_1, w.before args s = true) {A : Nat → Prop} (hA : ∀ a : Nat, a < s.heap.size → ¬ A a) : ∃ ad adV : Nat → Nat, aE ad adV A s := by
  obtain ⟨adK, adV, hS, hK⟩ := env_S hg hA
  obtain ⟨adT, hT⟩ := env_T hg ht hA
  have hx0 : ∀ i : Nat, ∃ a : Nat, i < 5 → (eX i).eval args s none [] s = some (.ref a) := by
    intro i
    by_cases hi : i < 5
    · obtain ⟨a, c, cA, kA, q1, q⟩ := Cond.exactly_spec (args := args) (first := s) (o := none) (s := s) (idx := []) (t := eX i) (cls := "java/lang/String") (hg _ (env_3 i hi))
      exact ⟨a, fun _ => q1⟩
    · exact ⟨0, fun h => absurd h hi⟩
  obtain ⟨adX, hX⟩ := Classical.axiomOfChoice hx0
  have tw : ∀ w, w ∈ tables_1 → w.onTables = true → va_Nw w s := fun w h1 h2 => va_Nw.of h2 (ht w h1)
  let ad : Nat → Nat := fun x => if x < 1000012 then adK (x - 1000000) else if x < 1000017 then adX (x - 1000012) else if x < 3000000 then adT (x - 2000000) else adV (x - 3000000)
  have e1 : ∀ k, k < 12 → ad (1000000 + k) = adK k := fun k hk => by
    show (if _ then _ else _) = _
    rw [if_pos (by omega), Nat.add_sub_cancel_left]
  have e2 : ∀ k, k < 3 → ad (2000000 + k) = adT k := fun k hk => by
    show (if _ then _ else _) = _
    rw [if_neg (by omega), if_neg (by omega), if_pos (by omega), Nat.add_sub_cancel_left]
  have e3 : ∀ k, ad (3000000 + k) = adV k := fun k => by
    show (if _ then _ else _) = _
    rw [if_neg (by omega), if_neg (by omega), if_neg (by omega), Nat.add_sub_cancel_left]
  refine ⟨ad, adV, ⟨fun w hw => tw w (env_t w ?_) ?_, fun q hq => tw _ (env_t _ ?_) rfl⟩, fun j hj => ?_, ⟨fun i hi => ?_, fun i j hi hj e => ?_⟩, fun q hq => ?_, ⟨vx_Zqof (ht _ (env_t _ ?_)) (ht _ (env_t _ ?_)) (hg _ env_6.1) hA, vx_Zqof (ht _ (env_t _ ?_)) (ht _ (env_t _ ?_)) (hg _ env_6.2.1) hA⟩, ⟨va_Zof (ht _ (env_t _ ?_)) (ht _ (env_t _ ?_)) (va_eqi (hg _ env_6.2.2.1)) hA, va_Zqof (ht _ (env_t _ ?_)) (ht _ (env_t _ ?_)) (hg _ env_6.2.2.2) hA⟩, fun q hq => tw _ (env_t _ ?_) rfl, fun x hx => tw _ (env_t _ ?_) rfl, fun q hq => va_Nc.of (hg _ (env_5 q hq))⟩
  · simp only [List.mem_append]
    exact Or.inl (Or.inl (Or.inl (Or.inl (Or.inl (Or.inl hw)))))
  · simp only [aNest, List.mem_cons, List.not_mem_nil, or_false] at hw
    rcases hw with rfl | rfl | rfl | rfl | rfl | rfl | rfl | rfl <;> rfl
  · simp only [List.mem_append, List.mem_map]
    exact Or.inl (Or.inl (Or.inl (Or.inl (Or.inl (Or.inr ⟨q, hq, rfl⟩)))))
  · rw [e2 j hj]
    exact hT j hj
  · show va_O "java/lang/String" (ad (1000000 + i)) A s s.heap ∧ va_OF "java/lang/String" "coder" "B" (.int 0) (ad (1000000 + i)) A s s.heap ∧ va_OF "java/lang/String" "value" "[B" (.ref (ad (3000000 + i))) (ad (1000000 + i)) A s s.heap ∧ va_T .byte (ad (3000000 + i)) (aLen.getD i 0) (fun j => .int ((aByt.getD i []).getD j 0)) A s s.heap
    rw [e1 i hi, e3 i]
    exact hS.1 i hi
  · have e : ad (1000000 + i) = ad (1000000 + j) := e
    rw [e1 i hi, e1 j hj] at e
    exact hS.2 i j hi hj e
  · have hsr : (Cond.stringRef q.1 q.2.1 q.2.2.1).before args s = true := ht _ (env_t _ (by
      simp only [List.mem_append, List.mem_map]
      exact Or.inl (Or.inl (Or.inl (Or.inr ⟨q, hq, rfl⟩)))))
    refine vk_R.of hsr ?_
    have h2 := env_ldc2 q hq
    rcases env_ldc q hq with ⟨h3, h4⟩ | ⟨h3, h5, h4⟩
    · have hi : q.2.2.2 - 1000000 < 12 := by omega
      have hd : ad q.2.2.2 = adK (q.2.2.2 - 1000000) := if_pos h3
      rw [hd]
      rcases h4 with h4 | h4
      · rw [h4]; exact hK _ hi
      · rw [h4]; exact eqR (hg _ (env_2 _ hi)) (hK _ hi)
    · have hi : q.2.2.2 - 1000012 < 5 := by omega
      have hd : ad q.2.2.2 = adX (q.2.2.2 - 1000012) := (if_neg (by omega)).trans (if_pos h5)
      rw [hd, h4]
      exact hX _ hi
  all_goals first
    | (refine List.mem_append_right _ ?_; simp; done)
    | (simp only [List.mem_append, List.mem_map]; exact Or.inl (Or.inl (Or.inr ⟨_, by assumption, rfl⟩)))
    | (simp only [List.mem_append, List.mem_map]; exact Or.inl (Or.inr ⟨_, by assumption, rfl⟩))
