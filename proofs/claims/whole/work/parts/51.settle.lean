/-! settling: the class's, from a row on; the reference's, round by round -/
theorem ps_kc_congr {g g' : ps_G} {k : Nat} (h5 : ∀ j, j < k → g 5 j = g' 5 j) (h1 : ∀ j, j ≤ k → g 1 j = g' 1 j) (h2 : ∀ j, j ≤ k → g 2 j = g' 2 j) (h3 : ∀ j, j ≤ k → g 3 j = g' 3 j) : ps_kc g k = ps_kc g' k := by
  funext d
  refine ps_cn_congr (fun j hj => ?_)
  simp only [ps_kb, ps_one, ps_in, h5 j hj, h1 j (by omega), h2 j (by omega), h3 j (by omega), h1 k (by omega), h2 k (by omega), h3 k (by omega)]
theorem ps_s1_56 {g : ps_G} {k j : Nat} (h : j ≠ k) : ps_s1 g k 5 j = g 5 j ∧ ps_s1 g k 6 j = g 6 j := by
  constructor
  · show va_up (va_up g 5 _) 6 _ 5 j = _
    rw [va_up_ne _ _ (by decide), va_up_self, pk_un h]
  · show va_up (va_up g 5 _) 6 _ 6 j = _
    rw [va_up_self, pk_un h]
theorem ps_s1_at (g : ps_G) (k : Nat) : ps_s1 g k 5 k = nI (ps_dn (ps_kc g k)) ∧ ps_s1 g k 6 k = nI (ps_kc g k (ps_dn (ps_kc g k))) := by
  constructor
  · show va_up (va_up g 5 _) 6 _ 5 k = _
    rw [va_up_ne _ _ (by decide), va_up_self, pk_us]
  · show va_up (va_up g 5 _) 6 _ 6 k = _
    rw [va_up_self, pk_us]
theorem ps_s1_ot {g : ps_G} {k i : Nat} (h5 : i ≠ 5) (h6 : i ≠ 6) : ps_s1 g k i = g i := by
  show va_up (va_up g 5 _) 6 _ i = _
  rw [va_up_ne _ _ h6, va_up_ne _ _ h5]
theorem ps_sF_ot {g : ps_G} {k i : Nat} (h5 : i ≠ 5) (h6 : i ≠ 6) : ∀ m, ps_sF g k m i = g i
  | 0 => rfl
  | m + 1 => by
    show ps_s1 (ps_sF g k m) (k + m) i = _
    rw [ps_s1_ot h5 h6, ps_sF_ot h5 h6 m]
theorem ps_sF_out {g : ps_G} {k j : Nat} : ∀ m, (j < k ∨ k + m ≤ j) → ps_sF g k m 5 j = g 5 j ∧ ps_sF g k m 6 j = g 6 j
  | 0, _ => ⟨rfl, rfl⟩
  | m + 1, h => by
    have ih := ps_sF_out (g := g) (k := k) (j := j) m (by omega)
    have h1 := ps_s1_56 (g := ps_sF g k m) (k := k + m) (j := j) (by omega)
    exact ⟨h1.1.trans ih.1, h1.2.trans ih.2⟩
theorem ps_sF_in {g : ps_G} {k : Nat} : ∀ m j, k ≤ j → j < k + m → ps_sF g k m 5 j = nI (ps_dn (ps_kc (ps_sF g k m) j)) ∧ ps_sF g k m 6 j = nI (ps_kc (ps_sF g k m) j (ps_dn (ps_kc (ps_sF g k m) j)))
  | 0, j, h1, h2 => by omega
  | m + 1, j, h1, h2 => by
    have hk : ps_kc (ps_sF g k (m + 1)) j = ps_kc (ps_sF g k m) j := by
      refine ps_kc_congr (fun q hq => ?_) (fun q _ => ?_) (fun q _ => ?_) (fun q _ => ?_)
      · exact (ps_s1_56 (g := ps_sF g k m) (k := k + m) (j := q) (by omega)).1
      · rw [ps_sF_ot (by decide) (by decide), ps_sF_ot (by decide) (by decide)]
      · rw [ps_sF_ot (by decide) (by decide), ps_sF_ot (by decide) (by decide)]
      · rw [ps_sF_ot (by decide) (by decide), ps_sF_ot (by decide) (by decide)]
    rw [hk]
    by_cases e : j = k + m
    · subst e
      exact ps_s1_at (ps_sF g k m) (k + m)
    · have ih := ps_sF_in (g := g) (k := k) m j h1 (by omega)
      have h3 := ps_s1_56 (g := ps_sF g k m) (k := k + m) (j := j) e
      exact ⟨h3.1.trans ih.1, h3.2.trans ih.2⟩
/-- settled from k on, with the rows before k settled: all n rows are -/
theorem ps_sF_all {g : ps_G} {k m : Nat} (h : ∀ j, j < k → g 5 j = nI (ps_dn (ps_kc g j)) ∧ g 6 j = nI (ps_kc g j (ps_dn (ps_kc g j)))) : ∀ j, j < k + m → ps_sF g k m 5 j = nI (ps_dn (ps_kc (ps_sF g k m) j)) ∧ ps_sF g k m 6 j = nI (ps_kc (ps_sF g k m) j (ps_dn (ps_kc (ps_sF g k m) j))) := by
  intro j hj
  by_cases e : k ≤ j
  · exact ps_sF_in m j e hj
  · have hk : ps_kc (ps_sF g k m) j = ps_kc g j := by
      refine ps_kc_congr (fun q hq => ?_) (fun q _ => ?_) (fun q _ => ?_) (fun q _ => ?_)
      · exact (ps_sF_out m (by omega)).1
      · rw [ps_sF_ot (by decide) (by decide)]
      · rw [ps_sF_ot (by decide) (by decide)]
      · rw [ps_sF_ot (by decide) (by decide)]
    have h1 := ps_sF_out (g := g) (k := k) (j := j) m (by omega)
    rw [hk]
    exact ⟨h1.1.trans (h j (by omega)).1, h1.2.trans (h j (by omega)).2⟩
/-! the reference's rounds -/
theorem ps_gr_max {f : ps_G} : ∀ {n k : Nat}, ps_gr f n = some k → f 8 k = 0 ∧ ∀ j, j < n → f 8 j = 0 → ps_rk (f 0 j) ≤ ps_rk (f 0 k)
  | 0, k, h => by simp [ps_gr] at h
  | n + 1, k, h => by
    by_cases e : f 8 n = 0 ∧ (∀ b, ps_gr f n = some b → ps_rk (f 0 b) < ps_rk (f 0 n))
    · rw [ps_gr_t e.1 e.2] at h
      cases h
      refine ⟨e.1, fun j hj h0 => ?_⟩
      by_cases ej : j = n
      · subst ej; exact Nat.le_refl _
      · cases hg : ps_gr f n with
        | none => exact absurd h0 (ps_gr_none hg j (by omega))
        | some b =>
          have h1 := (ps_gr_max hg).2 j (by omega) h0
          have h2 := e.2 b hg
          omega
    · rw [ps_gr_f e] at h
      have ih := ps_gr_max h
      refine ⟨ih.1, fun j hj h0 => ?_⟩
      by_cases ej : j = n
      · subst ej
        have h2 : ¬ ∀ b, ps_gr f j = some b → ps_rk (f 0 b) < ps_rk (f 0 j) := fun h3 => e ⟨h0, h3⟩
        have h3 : ¬ ps_rk (f 0 k) < ps_rk (f 0 j) := fun h4 => h2 (fun b hb => by rw [h] at hb; cases hb; exact h4)
        omega
      · exact ih.2 j (by omega) h0
theorem ps_t1_ot {f : ps_G} {mn i : Nat} (h3 : i ≠ 3) (h8 : i ≠ 8) : ps_t1 f mn i = f i := by
  cases hg : ps_gr f mn with
  | none => unfold ps_t1; rw [hg]
  | some k => rw [ps_t1_some hg rfl, va_up_ne _ _ h8, va_up_ne _ _ h3]
theorem ps_tN_ot {f : ps_G} {mn i : Nat} (h3 : i ≠ 3) (h8 : i ≠ 8) : ∀ r, ps_tN f mn r i = f i
  | 0 => rfl
  | r + 1 => by
    show ps_t1 (ps_tN f mn r) mn i = _
    rw [ps_t1_ot h3 h8, ps_tN_ot h3 h8 r]
theorem ps_cn_upd1 {f : Nat → Int32} {k : Nat} (h0 : f k = 0) : ∀ n, k < n → ps_cn (fun j => decide (¬ upd f k 1 j = 0)) n = ps_cn (fun j => decide (¬ f j = 0)) n + 1
  | 0, h => by omega
  | n + 1, h => by
    rw [ps_cnS, ps_cnS]
    by_cases e : k = n
    · subst e
      have h1 : ps_cn (fun j => decide (¬ upd f k 1 j = 0)) k = ps_cn (fun j => decide (¬ f j = 0)) k := ps_cn_congr (fun j hj => by rw [pk_un (by omega)])
      rw [h1, pk_us, h0]
      rfl
    · have e2 : upd f k 1 n = f n := pk_un (fun q => e q.symm)
      rw [ps_cn_upd1 h0 n (by omega), e2]
      omega
/-- what the rounds keep -/
def ps_TI (f : ps_G) (mn r : Nat) : Prop := ps_cn (fun j => decide (¬ f 8 j = 0)) mn = r ∧ (∀ j k, j < mn → k < mn → ¬ f 8 k = 0 → ps_rk (f 0 k) < ps_rk (f 0 j) → ¬ f 8 j = 0) ∧ (∀ k, k < mn → ¬ f 8 k = 0 → f 3 k = nI (ps_dn (fun d => ps_cn (fun j => (decide (f 3 j = nI d) && ps_mo (f 1 j) (f 1 k) (nI d)) && decide (ps_rk (f 0 k) < ps_rk (f 0 j))) mn)))
theorem ps_TI_step {f : ps_G} {mn r k : Nat} (hds : ∀ j k, j < mn → k < mn → f 0 j = f 0 k → j = k) (h : ps_TI f mn r) (hg : ps_gr f mn = some k) : ps_TI (ps_t1 f mn) mn (r + 1) := by
  obtain ⟨hc, hup, hd⟩ := h
  obtain ⟨h0, hmax⟩ := ps_gr_max hg
  have hk := ps_gr_lt hg
  have hiff : ∀ j, j < mn → (¬ f 8 j = 0 ↔ ps_rk (f 0 k) < ps_rk (f 0 j)) := by
    intro j hj
    constructor
    · intro h1
      by_cases h2 : ps_rk (f 0 j) < ps_rk (f 0 k)
      · exact absurd h0 (hup k j hk hj h1 h2)
      · by_cases h3 : ps_rk (f 0 j) = ps_rk (f 0 k)
        · have := hds j k hj hk (ps_rk_inj h3)
          subst this
          exact absurd h0 h1
        · omega
    · intro h1 h2
      have := hmax j hj h2
      omega
  rw [ps_t1_some hg rfl]
  generalize hsd : ps_sd f mn k = sd
  have e8 : va_up (va_up f 3 (upd (f 3) k (nI sd))) 8 (upd (f 8) k 1) 8 = upd (f 8) k 1 := va_up_self _ _ _
  have e3 : va_up (va_up f 3 (upd (f 3) k (nI sd))) 8 (upd (f 8) k 1) 3 = upd (f 3) k (nI sd) := by rw [va_up_ne _ _ (by decide), va_up_self]
  have e0 : va_up (va_up f 3 (upd (f 3) k (nI sd))) 8 (upd (f 8) k 1) 0 = f 0 := by rw [va_up_ne _ _ (by decide), va_up_ne _ _ (by decide)]
  have e1 : va_up (va_up f 3 (upd (f 3) k (nI sd))) 8 (upd (f 8) k 1) 1 = f 1 := by rw [va_up_ne _ _ (by decide), va_up_ne _ _ (by decide)]
  unfold ps_TI
  rw [e8, e3, e0, e1]
  refine ⟨?_, ?_, ?_⟩
  · rw [ps_cn_upd1 h0 mn hk, hc]
  · intro j q hj hq h1 h2
    by_cases ej : j = k
    · subst ej; rw [pk_us]; decide
    · rw [pk_un ej]
      by_cases eq : q = k
      · subst eq
        exact (hiff j hj).mpr h2
      · rw [pk_un eq] at h1
        exact hup j q hj hq h1 h2
  · intro q hq h1
    by_cases eq : q = k
    · subst eq
      rw [pk_us, ← hsd]
      have e : (fun d => ps_cn (ps_kp f (f 1 q) (nI d)) mn) = (fun d => ps_cn (fun j => (decide (upd (f 3) q (nI (ps_sd f mn q)) j = nI d) && ps_mo (f 1 j) (f 1 q) (nI d)) && decide (ps_rk (f 0 q) < ps_rk (f 0 j))) mn) := by
        funext d
        refine ps_cn_congr (fun j hj => ?_)
        by_cases ej : j = q
        · subst ej
          simp [ps_kp, h0]
        · rw [pk_un ej]
          by_cases h3 : f 8 j = 0
          · have : ¬ ps_rk (f 0 q) < ps_rk (f 0 j) := fun h4 => (hiff j hj).mpr h4 h3
            simp [ps_kp, h3, this]
          · have := (hiff j hj).mp h3
            simp [ps_kp, h3, this]
      exact congrArg (fun t => nI (ps_dn t)) e
    · rw [pk_un eq] at h1 ⊢
      rw [hd q hq h1]
      have hqk := (hiff q hq).mp h1
      have e : (fun d => ps_cn (fun j => (decide (f 3 j = nI d) && ps_mo (f 1 j) (f 1 q) (nI d)) && decide (ps_rk (f 0 q) < ps_rk (f 0 j))) mn) = (fun d => ps_cn (fun j => (decide (upd (f 3) k (nI sd) j = nI d) && ps_mo (f 1 j) (f 1 q) (nI d)) && decide (ps_rk (f 0 q) < ps_rk (f 0 j))) mn) := by
        funext d
        refine ps_cn_congr (fun j hj => ?_)
        by_cases ej : j = k
        · subst ej
          have : ¬ ps_rk (f 0 q) < ps_rk (f 0 j) := by omega
          simp [this]
        · rw [pk_un ej]
      rw [e]
theorem ps_TI_all {f : ps_G} {mn : Nat} (h0 : ∀ k, k < mn → f 8 k = 0) (hds : ∀ j k, j < mn → k < mn → f 0 j = f 0 k → j = k) : ∀ r, r ≤ mn → ps_TI (ps_tN f mn r) mn r
  | 0, _ => by
    refine ⟨ps_cn_zero mn (fun k hk => ?_), fun j k _ hk h => absurd (h0 k hk) h, fun k hk h => absurd (h0 k hk) h⟩
    show decide (¬ f 8 k = 0) = false
    simp [h0 k hk]
  | r + 1, hr => by
    obtain ⟨k, hg⟩ := ps_tN_some f mn h0 (r := r) (by omega)
    refine ps_TI_step (k := k) (fun j k hj hk e => hds j k hj hk ?_) (ps_TI_all h0 hds r (by omega)) hg
    rw [ps_tN_ot (by decide) (by decide)] at e
    exact e
theorem ps_cn_every {P : Nat → Bool} {n : Nat} (h : ps_cn P n = n) : ∀ k, k < n → P k = true := by
  have h1 : (List.range n).countP P = (List.range n).length := by rw [List.length_range]; exact h
  intro k hk
  exact List.countP_eq_length.mp h1 k (List.mem_range.mpr hk)
theorem ps_st_ot {f : ps_G} {mn i : Nat} (h3 : i ≠ 3) (h8 : i ≠ 8) : ps_st f mn i = f i := by
  unfold ps_st
  rw [ps_tN_ot h3 h8, va_up_ne _ _ h8]
/-- what the reference's settling leaves: the depths as the greater ranks leave them, all done -/
theorem ps_st_De {f : ps_G} {mn : Nat} (hds : ∀ j k, j < mn → k < mn → f 0 j = f 0 k → j = k) : ps_De (ps_ml (ps_rm (ps_st f mn 0) (ps_st f mn 1) (ps_st f mn 2) (ps_st f mn 3)) mn) ∧ ∀ k, k < mn → ¬ ps_st f mn 8 k = 0 := by
  have h0 := ps_d0_8 f mn
  have hds' : ∀ j k, j < mn → k < mn → va_up f 8 (ps_d0 f mn) 0 j = va_up f 8 (ps_d0 f mn) 0 k → j = k := by
    intro j k hj hk e
    rw [va_up_ne _ _ (by decide)] at e
    exact hds j k hj hk e
  obtain ⟨hc, -, hd⟩ := ps_TI_all h0 hds' mn (Nat.le_refl _)
  have hall : ∀ k, k < mn → ¬ ps_st f mn 8 k = 0 := fun k hk => by
    show ¬ ps_tN (va_up f 8 (ps_d0 f mn)) mn mn 8 k = 0
    simpa using ps_cn_every hc k hk
  refine ⟨?_, hall⟩
  intro r hr
  obtain ⟨k, hk, rfl⟩ := ps_ml_mem.mp hr
  have h1 := hd k hk (hall k hk)
  refine h1.trans ?_
  congr 2
  funext d
  exact ps_cn_ml (fun j hj => rfl)
