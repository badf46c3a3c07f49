/-! the class looks for the fairest set -/
def sqf (m : Nat → Nat) : Nat → Nat := fun k => m k * m k
def fA (m : Nat → Nat) (P t : Nat) : Nat := tot m P t * tot m P t
def fB (m : Nat → Nat) (P t : Nat) : Nat := max 1 (tot (sqf m) P t)
theorem fB_pos {m : Nat → Nat} {P : Nat} : ∀ t, 0 < fB m P t := fun t => by unfold fB; omega
theorem sh_31 : ∀ k, k < 16 → ((nI k &&& 31).toBitVec.smod 32).toNat = k := by decide
theorem nI_or (a b : Nat) : nI a ||| nI b = nI (a ||| b) := by
  apply Int32.toBitVec_inj.mp
  show BitVec.ofNat 32 a ||| BitVec.ofNat 32 b = BitVec.ofNat 32 (a ||| b)
  exact (BitVec.ofNat_or).symm
theorem or_set {s k : Nat} (hs : s < 2 ^ k) (hk : k < 16) : nI s ||| ((1 : Int32) <<< (nI k &&& 31)) = nI (s + 2 ^ k) := by
  have e1 : (1 : Int32) <<< (nI k &&& 31) = nI (1 * 2 ^ k) := pk_shlN (n := 1) (nI k &&& 31) k (sh_31 k hk) (by
    have : 2 ^ k ≤ 2 ^ 16 := Nat.pow_le_pow_right (by omega) (by omega)
    omega)
  rw [e1, nI_or]
  have e2 := Nat.two_pow_add_eq_or_of_lt hs 1
  rw [Nat.or_comm, Nat.mul_one] at e2
  rw [Nat.one_mul, ← e2, Nat.add_comm]
theorem bit_nI {t p : Nat} (ht : t < 2 ^ 31) (hp : p < 16) : (nI t >>> (nI p &&& 31)) &&& 1 = nI (bit p t) := by
  rw [pk_shrN ht (nI p &&& 31) p (sh_31 p hp)]
  exact pk_andN (n := t / 2 ^ p) (by have := Nat.div_le_self t (2 ^ p); omega) 1 (by decide)
def Bd (m : Nat → Nat) (P : Nat) (κ : iS) (X : Nat → Prop) : Prop := (gI κ 35 3 = 0 ∧ ∀ t, ¬ X t) ∨ (gI κ 35 3 = 1 ∧ ∃ s, fst' (fA m P) (fB m P) X s ∧ s < 65536 ∧ gI κ 35 0 = nI s ∧ gJ κ 35 1 = lN (tot m P s) ∧ gJ κ 35 2 = lN (fB m P s))
def CF (κ κ' : iS) : Prop := (∀ y k, y ≠ 35 → gI κ' y k = gI κ y k) ∧ gI κ' 35 4 = gI κ 35 4 ∧ (∀ y k, y ≠ 35 → gJ κ' y k = gJ κ y k) ∧ gP κ' = gP κ
theorem CF.rf (κ : iS) : CF κ κ := ⟨fun _ _ _ => rfl, rfl, fun _ _ _ => rfl, rfl⟩
theorem CF.tr {a b c : iS} (h1 : CF a b) (h2 : CF b c) : CF a c := ⟨fun y k q => (h2.1 y k q).trans (h1.1 y k q), h2.2.1.trans h1.2.1, fun y k q => (h2.2.2.1 y k q).trans (h1.2.2.1 y k q), h2.2.2.2.trans h1.2.2.2⟩
theorem Bd_iff {m : Nat → Nat} {P : Nat} {κ : iS} {X Y : Nat → Prop} (h : ∀ t, Y t ↔ X t) (hB : Bd m P κ X) : Bd m P κ Y := by
  rcases hB with ⟨h1, h2⟩ | ⟨h1, s, h2, h3⟩
  · exact Or.inl ⟨h1, fun t ht => h2 t ((h t).mp ht)⟩
  · exact Or.inr ⟨h1, s, fst_iff h h2, h3⟩
theorem m_bounds {m : Nat → Nat} {P : Nat} (hP : 1 ≤ P ∧ P ≤ 16) (hm : ∀ k, k < P → m k ≤ 99) (t : Nat) : tot m P t ≤ 1584 ∧ tot (sqf m) P t ≤ 156816 := by
  have h1 := tot_le (f := m) (t := t) (B := 99) hP.1 hm
  have h2 := tot_le (f := sqf m) (t := t) (B := 9801) hP.1 (fun k hk => by
    have := hm k hk
    calc m k * m k ≤ 99 * 99 := Nat.mul_le_mul this this
      _ = 9801 := rfl)
  omega
theorem m_bounds2 {m : Nat → Nat} {P : Nat} (hP : 1 ≤ P ∧ P ≤ 16) (hm : ∀ k, k < P → m k ≤ 99) (s t : Nat) : fA m P t ≤ 2509056 ∧ fB m P t ≤ 156816 ∧ fA m P t * fB m P s ≤ 2509056 * 156816 := by
  obtain ⟨h1, -⟩ := m_bounds hP hm t
  obtain ⟨-, h2⟩ := m_bounds hP hm s
  obtain ⟨-, h3⟩ := m_bounds hP hm t
  have e1 : fA m P t ≤ 2509056 := by
    unfold fA
    calc tot m P t * tot m P t ≤ 1584 * 1584 := Nat.mul_le_mul h1 h1
      _ = 2509056 := rfl
  have e2 : fB m P s ≤ 156816 := by unfold fB; omega
  exact ⟨e1, by unfold fB; omega, Nat.mul_le_mul e1 e2⟩
theorem d_weigh {m : Nat → Nat} {P t : Nat} {κ : iS} {X : Nat → Prop} (hP : 1 ≤ P ∧ P ≤ 16) (hm : ∀ k, k < P → m k ≤ 99) (ht : t < 65536) (hB : Bd m P κ X) : ∃ κ', m_X0_weigh (nI t) (lN (tot m P t)) (lN (tot (sqf m) P t)) κ = some κ' ∧ Bd m P κ' (fun u => X u ∨ u = t) ∧ CF κ κ' := by
  obtain ⟨κ', hκ⟩ : ∃ κ', κ' = pJ (pJ (pI (pI κ 35 3 1) 35 0 (nI t)) 35 1 (lN (tot m P t))) 35 2 (lN (fB m P t)) := ⟨_, rfl⟩
  have hcf : CF κ κ' := by
    rw [hκ]
    refine ⟨fun y k q => ?_, ?_, fun y k q => ?_, rfl⟩
    · rw [gI_pJ, gI_pJ, gI_p2 _ _ (by omega), gI_p2 _ _ (by omega)]
    · rw [gI_pJ, gI_pJ, gI_p2 _ _ (by omega), gI_p2 _ _ (by omega)]
    · rw [gJ_pJ, if_neg (by omega), gJ_pJ, if_neg (by omega), gJ_pI, gJ_pI]
  have hnew : fst' (fA m P) (fB m P) (fun u => X u ∨ u = t) t → Bd m P κ' (fun u => X u ∨ u = t) := fun h => by
    refine Or.inr ⟨?_, t, h, ht, ?_, ?_, ?_⟩
    · rw [hκ, gI_pJ, gI_pJ, gI_p2 _ _ (by omega), gI_p1]
    · rw [hκ, gI_pJ, gI_pJ, gI_p1]
    · rw [hκ, gJ_pJ, if_neg (by omega), gJ_pJ, if_pos ⟨rfl, rfl⟩]
    · rw [hκ, gJ_pJ, if_pos ⟨rfl, rfl⟩]
  have hmx : (if lN (tot (sqf m) P t) < (1 : Int64) then (1 : Int64) else lN (tot (sqf m) P t)) = lN (fB m P t) := by
    have hb := (m_bounds hP hm t).2
    unfold fB
    by_cases h : tot (sqf m) P t < 1
    · rw [if_pos (show lN (tot (sqf m) P t) < (1 : Int64) from (pk_lLT (a := tot (sqf m) P t) (b := 1) (by omega) (by omega)).mpr h), show max 1 (tot (sqf m) P t) = 1 by omega]
      rfl
    · rw [if_neg (show ¬ lN (tot (sqf m) P t) < (1 : Int64) from fun q => h ((pk_lLT (a := tot (sqf m) P t) (b := 1) (by omega) (by omega)).mp q)), show max 1 (tot (sqf m) P t) = tot (sqf m) P t by omega]
  unfold m_X0_weigh
  rw [hmx, ← hκ]
  rcases hB with ⟨h1, h2⟩ | ⟨h1, s, h2, hs, h3, h4, h5⟩
  · refine ⟨κ', by rw [if_pos h1], hnew ⟨Or.inr rfl, fun u hu => Or.inl (hu.resolve_left (h2 u))⟩, hcf⟩
  · have hb1 := m_bounds2 hP hm s t
    have hb2 := m_bounds2 hP hm t s
    rw [if_neg (by rw [h1]; exact i10), h5, h4, h3, lN_mul, lN_mul, lN_mul, lN_mul]
    rw [show tot m P t * tot m P t * fB m P s = fA m P t * fB m P s from rfl, show tot m P s * tot m P s * fB m P t = fA m P s * fB m P t from rfl]
    by_cases hbt : bt (fA m P) (fB m P) t s
    · refine ⟨κ', ?_, hnew (fst_new fB_pos h2 (fun u => Iff.rfl) hbt), hcf⟩
      rcases hbt with q | ⟨q1, q2⟩
      · rw [if_pos ((lg_cmp_gt _ _).mpr ((pk_lLT (by omega) (by omega)).mpr q))]
      · rw [if_neg (fun z => by have := (pk_lLT (by omega) (by omega)).mp ((lg_cmp_gt _ _).mp z); omega), if_pos ((lg_cmp_eq _ _).mpr (by rw [q1])), if_neg (nI_ge q2 (by omega))]
    · refine ⟨κ, ?_, Or.inr ⟨h1, s, fst_old h2 (fun u => Iff.rfl) hbt, hs, h3, h4, h5⟩, CF.rf κ⟩
      unfold bt at hbt
      obtain ⟨n1, n2⟩ := not_or.mp hbt
      rw [if_neg (fun z => n1 ((pk_lLT (by omega) (by omega)).mp ((lg_cmp_gt _ _).mp z)))]
      by_cases q : fA m P t * fB m P s = fA m P s * fB m P t
      · rw [if_pos ((lg_cmp_eq _ _).mpr (by rw [q])), if_pos (nI_le (Nat.not_lt.mp fun z => n2 ⟨q.symm, z⟩) (by omega))]
      · rw [if_neg (fun z => q ((pk_lEQ (by omega) (by omega)).mp ((lg_cmp_eq _ _).mp z)))]
theorem d_add {m : Nat → Nat} {P : Nat} (hP : 1 ≤ P ∧ P ≤ 16) (hm : ∀ k, k < P → m k ≤ 99) : ∀ left dd a set κ X, left < dd → set < 2 ^ a → 1 ≤ a → a ≤ P → left ≤ 20 → Bd m P κ X → gI κ 35 4 = nI P → (∀ k, k < P → gI κ 36 k = nI (m k)) → ∃ κ', m_X0_addFillers dd (nI a) (nI left) (nI set) (lN (tot m P set)) (lN (tot (sqf m) P set)) κ = some κ' ∧ Bd m P κ' (fun t => X t ∨ Kd P a left set t) ∧ CF κ κ' := by
  intro left
  induction left with
  | zero =>
    intro dd a set κ X hd hs h1 haP hl hB h4 hmk
    obtain ⟨dd, rfl⟩ : ∃ q, dd = q + 1 := ⟨dd - 1, by omega⟩
    have h16 : 2 ^ a ≤ 2 ^ 16 := Nat.pow_le_pow_right (by omega) (by omega)
    obtain ⟨κ', e1, e2, e3⟩ := d_weigh (t := set) hP hm (by omega) hB
    refine ⟨κ', ?_, Bd_iff (fun t => by rw [Kd_0 haP hs]) e2, e3⟩
    rw [m_X0_addFillers, if_neg (by decide), e1]
    rfl
  | succ left ih =>
    intro dd a set κ X hd hs h1 haP hl hB h4 hmk
    obtain ⟨dd, rfl⟩ : ∃ q, dd = q + 1 := ⟨dd - 1, by omega⟩
    have loop : ∀ e k n κ X, k + e = 17 → e < n → a ≤ k → k ≤ P → Bd m P κ X → gI κ 35 4 = nI P → (∀ k, k < P → gI κ 36 k = nI (m k)) → ∃ κ', l_X0_addFillers_17 (m_X0_addFillers dd) n (nI a) (nI (left + 1)) (nI set) (lN (tot m P set)) (lN (tot (sqf m) P set)) (nI k) κ = some κ' ∧ Bd m P κ' (fun t => X t ∨ Kd P k (left + 1) set t) ∧ CF κ κ' := by
      intro e
      induction e with
      | zero => intro k n κ X hk; omega
      | succ e ihe =>
        intro k n κ X hk hn hak hkP hB h4 hmk
        obtain ⟨n, rfl⟩ : ∃ q, n = q + 1 := ⟨n - 1, by omega⟩
        have hsk : set < 2 ^ k := Nat.lt_of_lt_of_le hs (Nat.pow_le_pow_right (by omega) hak)
        rw [l_X0_addFillers_17, h4, nI_add]
        by_cases hstop : P < k + (left + 1)
        · refine ⟨κ, by rw [if_pos (nI_lt hstop (by omega))], Bd_iff (fun t => ⟨fun h => h.resolve_right (Kd_n hstop (by omega)), Or.inl⟩) hB, CF.rf κ⟩
        · have hkP' : k < P := by omega
          have hmk9 := hm k hkP'
          have hs2 : set + 2 ^ k < 2 ^ (k + 1) := by rw [Nat.pow_succ]; omega
          obtain ⟨κ1, c1, c2, c3⟩ := ih dd (k + 1) (set + 2 ^ k) κ X (by omega) hs2 (by omega) (by omega) (by omega) hB h4 hmk
          obtain ⟨κ2, d1, d2, d3⟩ := ihe (k + 1) n κ1 (fun t => X t ∨ Kd P (k + 1) left (set + 2 ^ k) t) (by omega) (by omega) (by omega) (by omega) c2 (c3.2.1.trans h4) (fun j hj => (c3.1 _ _ (by omega)).trans (hmk j hj))
          refine ⟨κ2, ?_, Bd_iff (fun t => ?_) d2, c3.tr d3⟩
          · rw [if_neg (nI_nlt (by omega) (by omega)), if_pos (aIn_nI (by omega) (by omega)), nI_clamp (by omega), hmk k hkP', nI_1, nI_pred, or_set hsk (by omega), nI_l (by omega), lN_mul, lN_add, lN_add, ← tot_add (f := m) hsk (by omega) hkP', show tot (sqf m) P set + m k * m k = tot (sqf m) P (set + 2 ^ k) from (tot_add (f := sqf m) hsk (by omega) hkP').symm, c1, Option.bind_some]
            exact d1
          · rw [Kd_s hkP' hsk]
            exact or_assoc.symm
    obtain ⟨κ', e1, e2, e3⟩ := loop (17 - a) a aF κ X (by omega) (by unfold aF; omega) (Nat.le_refl a) haP hB h4 hmk
    refine ⟨κ', ?_, e2, e3⟩
    rw [m_X0_addFillers, if_pos (show (0 : Int32) < nI (left + 1) from nI_lt (a := 0) (b := left + 1) (by omega) (by omega))]
    exact e1
theorem d_choose {m : Nat → Nat} {ι : iS} {P n : Nat} (hP : 1 ≤ P ∧ P ≤ 16) (hm : ∀ k, k < P → m k ≤ 99) (h1 : gI ι 2 1 = nI P) (h9 : ∀ k, k < P → gI ι 9 k = nI (m k)) (hn : n ≤ 8) : ∃ κ, m_X0_chooseFrom 2 (nI n) ι = some κ ∧ Bd m P κ (fun t => Kd P 1 n 0 t) ∧ (∀ y k, y ≠ 35 → y ≠ 36 → gI κ y k = gI ι y k) ∧ (∀ y k, y ≠ 35 → gJ κ y k = gJ ι y k) ∧ gP κ = gP ι := by
  unfold m_X0_chooseFrom
  refine cpy_step (a := pI (pI ι 35 3 (0 : Int32)) 35 4 (gI (pI ι 35 3 (0 : Int32)) 2 1)) (x := 2 + 7) (Q := fun κ => Bd m P κ (fun t => Kd P 1 n 0 t) ∧ (∀ y k, y ≠ 35 → y ≠ 36 → gI κ y k = gI ι y k) ∧ (∀ y k, y ≠ 35 → gJ κ y k = gJ ι y k) ∧ gP κ = gP ι) (fun b f1 f2 f3 => ?_)
  have hb36 : ∀ k, k < P → gI b 36 k = nI (m k) := fun k hk => by
    rw [f1, if_pos ⟨rfl, by omega⟩, gI_p2 _ _ (by omega), gI_p2 _ _ (by omega)]
    exact h9 k hk
  have hb4 : gI b 35 4 = nI P := by rw [f1, if_neg (by omega), gI_p1, gI_p2 _ _ (by omega), h1]
  have hb3 : gI b 35 3 = 0 := by rw [f1, if_neg (by omega), gI_p2 _ _ (by omega), gI_p1]
  obtain ⟨κ, e1, e2, e3⟩ := d_add (m := m) (P := P) hP hm n 20 1 0 b (fun _ => False) (by omega) (by omega) (by omega) hP.1 (by omega) (Or.inl ⟨hb3, fun _ h => h⟩) hb4 hb36
  have hm0 := hm 0 (by omega)
  refine ⟨κ, ?_, Bd_iff (fun t => by simp) e2, fun y k q1 q2 => ?_, fun y k q => ?_, by rw [e3.2.2.2, f3]; rfl⟩
  · rw [hb36 0 (by omega), nI_l (by omega), lN_mul]
    rw [tot_0, tot_0] at e1
    rw [show m_X0_addFillers 20 1 (nI n) 0 (lN (m 0)) (lN (m 0 * m 0)) b = some κ from e1]
    rfl
  · rw [e3.1 y k q1, f1, if_neg (by omega), gI_p2 _ _ (by omega), gI_p2 _ _ (by omega)]
  · rw [e3.2.2.1 y k q, f2]
    rfl
