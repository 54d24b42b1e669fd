/-! rows put in, taken out, copied: the class's and the reference's -/
theorem ps_cn_mono {P : Nat → Bool} : ∀ n, (∀ j k, j < k → k < n → P k = true → P j = true) → ∀ j, j < n → (P j = true ↔ j < ps_cn P n)
  | 0, _, j, hj => by omega
  | n + 1, h, j, hj => by
    have ih := ps_cn_mono n (fun j k h1 h2 => h j k h1 (by omega))
    cases e : P n with
    | true =>
      have hall : ∀ k, k < n → P k = true := fun k hk => h k n hk (by omega) e
      rw [ps_cnT e, ps_cn_full n hall]
      refine ⟨fun _ => hj, fun _ => ?_⟩
      by_cases ej : j = n
      · rw [ej]; exact e
      · exact hall j (by omega)
    | false =>
      rw [ps_cnF e]
      by_cases ej : j = n
      · subst ej
        have := ps_cn_le P j
        rw [e]
        exact ⟨fun h => absurd h (by decide), fun h => by omega⟩
      · exact ih j (by omega)
theorem ps_JT_congr {n : Nat} {g g' : ps_G} (h : ps_JT n g) (e : ∀ i, i ≤ 6 → i ≠ 4 → ∀ j, j < n → g' i j = g i j) : ps_JT n g' := by
  obtain ⟨h1, h2, h3, h4⟩ := h
  refine ⟨h1, fun k hk => ?_, fun j k hj hk => ?_, fun k hk => ?_⟩
  · rw [e 1 (by decide) (by decide) k hk, e 2 (by decide) (by decide) k hk, e 3 (by decide) (by decide) k hk]
    exact h2 k hk
  · rw [e 0 (by decide) (by decide) k hk, e 0 (by decide) (by decide) j (by omega)]
    exact h3 j k hj hk
  · have hc : ps_kc g' k = ps_kc g k := ps_kc_congr (fun j hj => e 5 (by decide) (by decide) j (by omega)) (fun j hj => e 1 (by decide) (by decide) j (by omega)) (fun j hj => e 2 (by decide) (by decide) j (by omega)) (fun j hj => e 3 (by decide) (by decide) j (by omega))
    rw [hc, e 5 (by decide) (by decide) k hk, e 6 (by decide) (by decide) k hk]
    exact h4 k hk
theorem ps_rc_congr {n : Nat} {g g' : ps_G} (e : ∀ i, i ≤ 5 → ∀ j, j < n → g' i j = g i j) : ps_ml (ps_rc g') n = ps_ml (ps_rc g) n := by
  refine ps_ml_congr (fun k hk => ?_)
  simp only [ps_rc, e 0 (by decide) k hk, e 1 (by decide) k hk, e 2 (by decide) k hk, e 3 (by decide) k hk, e 4 (by decide) k hk, e 5 (by decide) k hk]
theorem ps_cp_at {g o : ps_G} {n i j : Nat} (hi : i ≤ 6) (hj : j < n) : ps_cp g o n i j = o i j := by
  have hc : ∀ x y : Nat → Int32, va_cpy x y 0 0 n j = x j := fun x y => by
    rw [pk_cpy_in (by omega) (by omega)]
    congr 1
    omega
  rcases (by omega : i = 0 ∨ i = 1 ∨ i = 2 ∨ i = 3 ∨ i = 4 ∨ i = 5 ∨ i = 6) with rfl | rfl | rfl | rfl | rfl | rfl | rfl <;> simp [ps_cp, va_up, hc]
/-- the rows with a new point at K, before the settling -/
def ps_iP (g : ps_G) (n K : Nat) (id x y z v : Int32) : ps_G := ps_put (ps_mv g K (K + 1) (n - K)) K id x y z v
theorem ps_iP_hi {g : ps_G} {n K i : Nat} {id x y z v : Int32} (h : 5 ≤ i) : ps_iP g n K id x y z v i = g i := by
  simp only [ps_iP, ps_put, ps_mv, va_up]
  simp only [if_neg (by omega : ¬ i = 4), if_neg (by omega : ¬ i = 3), if_neg (by omega : ¬ i = 2), if_neg (by omega : ¬ i = 1), if_neg (by omega : ¬ i = 0)]
theorem ps_iP_row {h : Nat → Int32} {K n : Nat} {a : Int32} : (∀ j, j < K → upd (va_cpy h h K (K + 1) (n - K)) K a j = h j) ∧ upd (va_cpy h h K (K + 1) (n - K)) K a K = a ∧ (∀ j, K ≤ j → j < n → upd (va_cpy h h K (K + 1) (n - K)) K a (j + 1) = h j) := by
  refine ⟨fun j hj => ?_, pk_us, fun j h1 h2 => ?_⟩
  · rw [pk_un (by omega), pk_cpy_out (by omega)]
  · rw [pk_un (by omega), pk_cpy_in (by omega) (by omega)]
    congr 1
    omega
theorem ps_iP_lt {g : ps_G} {n K : Nat} {id x y z v : Int32} {i j : Nat} (hj : j < K) : ps_iP g n K id x y z v i j = g i j := by
  by_cases h : 5 ≤ i
  · rw [ps_iP_hi h]
  · rcases (by omega : i = 0 ∨ i = 1 ∨ i = 2 ∨ i = 3 ∨ i = 4) with rfl | rfl | rfl | rfl | rfl <;> (simp only [ps_iP, ps_put, ps_mv, va_up]; exact ps_iP_row.1 j hj)
theorem ps_iP_gt {g : ps_G} {n K : Nat} {id x y z v : Int32} {i j : Nat} (hi : i ≤ 4) (h1 : K ≤ j) (h2 : j < n) : ps_iP g n K id x y z v i (j + 1) = g i j := by
  rcases (by omega : i = 0 ∨ i = 1 ∨ i = 2 ∨ i = 3 ∨ i = 4) with rfl | rfl | rfl | rfl | rfl <;> (simp only [ps_iP, ps_put, ps_mv, va_up]; exact ps_iP_row.2.2 j h1 h2)
theorem ps_iP_eq {g : ps_G} {n K : Nat} {id x y z v : Int32} : ps_iP g n K id x y z v 0 K = id ∧ ps_iP g n K id x y z v 1 K = x ∧ ps_iP g n K id x y z v 2 K = y ∧ ps_iP g n K id x y z v 3 K = z ∧ ps_iP g n K id x y z v 4 K = v := by
  refine ⟨?_, ?_, ?_, ?_, ?_⟩ <;> (simp only [ps_iP, ps_put, ps_mv, va_up]; exact ps_iP_row.2.1)
theorem ps_ig_def (g : ps_G) (n : Nat) (id x y z v : Int32) : ps_ig g n id x y z v = ps_sF (ps_iP g n (ps_cn (ps_ab g (ps_rk id)) n) id x y z v) (ps_cn (ps_ab g (ps_rk id)) n) (n + 1 - ps_cn (ps_ab g (ps_rk id)) n) := rfl
theorem ps_JT_add {n : Nat} {g : ps_G} {id x y z v : Int32} (h : ps_JT n g) (hn : n < 48) (hx : ps_co x = true) (hy : ps_co y = true) (hz : ps_co z = true) (hf : ps_fi (g 0) id n = none) :
    ps_JT (n + 1) (ps_ig g n id x y z v) ∧ (ps_ml (fun k => ps_bs (ps_rc (ps_ig g n id x y z v) k)) (n + 1)).Perm ((id, x, y, z, v) :: ps_ml (fun k => ps_bs (ps_rc g k)) n) ∧ ps_cn (ps_ab g (ps_rk id)) n < n + 1 ∧ ps_ig g n id x y z v 0 (ps_cn (ps_ab g (ps_rk id)) n) = id := by
  obtain ⟨h1, h2, h3, h4⟩ := h
  have hK : ps_cn (ps_ab g (ps_rk id)) n ≤ n := ps_cn_le _ _
  have hpos : ∀ j, j < n → (ps_rk id < ps_rk (g 0 j) ↔ j < ps_cn (ps_ab g (ps_rk id)) n) := by
    intro j hj
    have := ps_cn_mono (P := ps_ab g (ps_rk id)) n (fun j k hjk hk hP => by
      have h5 := h3 j k hjk hk
      simp only [ps_ab, decide_eq_true_eq] at hP ⊢
      omega) j hj
    rw [← this]
    simp [ps_ab]
  have hne : ∀ j, j < n → ps_rk (g 0 j) ≠ ps_rk id := fun j hj e => ps_fi_spec0 hf j hj (ps_rk_inj e)
  rw [ps_ig_def]
  generalize ps_cn (ps_ab g (ps_rk id)) n = K at hK hpos ⊢
  have e0 : ∀ i, i ≤ 4 → ps_sF (ps_iP g n K id x y z v) K (n + 1 - K) i = ps_iP g n K id x y z v i := fun i hi => ps_sF_ot (by omega) (by omega) _
  refine ⟨⟨by omega, fun k hk => ?_, fun j k hj hk => ?_, ?_⟩, ?_, by omega, ?_⟩
  · rw [e0 1 (by decide), e0 2 (by decide), e0 3 (by decide)]
    by_cases c1 : k < K
    · rw [ps_iP_lt c1, ps_iP_lt c1, ps_iP_lt c1]
      exact h2 k (by omega)
    · by_cases c2 : k = K
      · subst c2
        rw [ps_iP_eq.2.1, ps_iP_eq.2.2.1, ps_iP_eq.2.2.2.1]
        exact ⟨hx, hy, hz⟩
      · obtain ⟨q, rfl⟩ : ∃ q, k = q + 1 := ⟨k - 1, by omega⟩
        rw [ps_iP_gt (by decide) (by omega) (by omega), ps_iP_gt (by decide) (by omega) (by omega), ps_iP_gt (by decide) (by omega) (by omega)]
        exact h2 q (by omega)
  · rw [e0 0 (by decide)]
    by_cases c1 : k < K
    · rw [ps_iP_lt c1, ps_iP_lt (by omega)]
      exact h3 j k hj (by omega)
    · by_cases c2 : k = K
      · subst c2
        rw [ps_iP_eq.1, ps_iP_lt hj]
        exact (hpos j (by omega)).mpr hj
      · obtain ⟨q, rfl⟩ : ∃ q, k = q + 1 := ⟨k - 1, by omega⟩
        rw [ps_iP_gt (by decide) (by omega) (by omega)]
        by_cases c3 : j < K
        · rw [ps_iP_lt c3]
          exact h3 j q (by omega) (by omega)
        · by_cases c4 : j = K
          · subst c4
            rw [ps_iP_eq.1]
            have h5 := hpos q (by omega)
            have h6 := hne q (by omega)
            omega
          · obtain ⟨w, rfl⟩ : ∃ w, j = w + 1 := ⟨j - 1, by omega⟩
            rw [ps_iP_gt (by decide) (by omega) (by omega)]
            exact h3 w q (by omega) (by omega)
  · have h5 := ps_sF_all (g := ps_iP g n K id x y z v) (k := K) (m := n + 1 - K) (fun j hj => by
      have hc : ps_kc (ps_iP g n K id x y z v) j = ps_kc g j := ps_kc_congr (fun q hq => ps_iP_lt (by omega)) (fun q hq => ps_iP_lt (by omega)) (fun q hq => ps_iP_lt (by omega)) (fun q hq => ps_iP_lt (by omega))
      rw [hc, ps_iP_lt hj, ps_iP_lt hj]
      exact h4 j (by omega))
    rw [show K + (n + 1 - K) = n + 1 by omega] at h5
    exact h5
  · have h5 := ps_ml_shift (fun k => ps_bs (ps_rc (ps_sF (ps_iP g n K id x y z v) K (n + 1 - K)) k)) K n hK
    refine h5.symm.trans ?_
    have e1 : ps_bs (ps_rc (ps_sF (ps_iP g n K id x y z v) K (n + 1 - K)) K) = (id, x, y, z, v) := by
      simp only [ps_bs, ps_rc, e0 0 (by decide), e0 1 (by decide), e0 2 (by decide), e0 3 (by decide), e0 4 (by decide), ps_iP_eq.1, ps_iP_eq.2.1, ps_iP_eq.2.2.1, ps_iP_eq.2.2.2.1, ps_iP_eq.2.2.2.2]
    rw [e1]
    refine List.Perm.cons _ (List.Perm.of_eq (ps_ml_congr (fun j hj => ?_)))
    by_cases c1 : j < K
    · rw [if_pos c1]
      simp only [ps_bs, ps_rc, e0 0 (by decide), e0 1 (by decide), e0 2 (by decide), e0 3 (by decide), e0 4 (by decide), ps_iP_lt c1]
    · rw [if_neg c1]
      simp only [ps_bs, ps_rc, e0 0 (by decide), e0 1 (by decide), e0 2 (by decide), e0 3 (by decide), e0 4 (by decide)]
      rw [ps_iP_gt (by decide) (by omega) hj, ps_iP_gt (by decide) (by omega) hj, ps_iP_gt (by decide) (by omega) hj, ps_iP_gt (by decide) (by omega) hj, ps_iP_gt (by decide) (by omega) hj]
  · rw [e0 0 (by decide)]
    exact ps_iP_eq.1
theorem ps_mv_lo {g : ps_G} {fr to ln i j : Nat} (h : j < to) : ps_mv g fr to ln i j = g i j := by
  simp only [ps_mv, va_up]
  repeat' split
  all_goals (try subst_vars)
  all_goals first | rfl | exact pk_cpy_out (Or.inl h)
theorem ps_mv_in {g : ps_G} {k n i j : Nat} (hi : i ≤ 4) (h1 : k ≤ j) (h2 : j < n - 1) : ps_mv g (k + 1) k (n - (k + 1)) i j = g i (j + 1) := by
  have hc : ∀ x : Nat → Int32, va_cpy x x (k + 1) k (n - (k + 1)) j = x (j + 1) := fun x => by
    rw [pk_cpy_in (by omega) (by omega)]
    congr 1
    omega
  rcases (by omega : i = 0 ∨ i = 1 ∨ i = 2 ∨ i = 3 ∨ i = 4) with rfl | rfl | rfl | rfl | rfl <;> simp [ps_mv, va_up, hc]
theorem ps_JT_del {n k : Nat} {g : ps_G} (h : ps_JT n g) (hk : k < n) :
    ps_JT (n - 1) (ps_dg g n k) ∧ (ps_bs (ps_rc g k) :: ps_ml (fun q => ps_bs (ps_rc (ps_dg g n k) q)) (n - 1)).Perm (ps_ml (fun q => ps_bs (ps_rc g q)) n) := by
  obtain ⟨h1, h2, h3, h4⟩ := h
  have e0 : ∀ i, i ≤ 4 → ps_dg g n k i = ps_mv g (k + 1) k (n - (k + 1)) i := fun i hi => ps_sF_ot (by omega) (by omega) _
  have hrow : ∀ i, i ≤ 4 → ∀ j, j < n - 1 → ps_dg g n k i j = g i (if j < k then j else j + 1) := by
    intro i hi j hj
    rw [e0 i hi]
    by_cases c : j < k
    · rw [if_pos c, ps_mv_lo c]
    · rw [if_neg c, ps_mv_in hi (by omega) hj]
  refine ⟨⟨by omega, fun q hq => ?_, fun j q hj hq => ?_, ?_⟩, ?_⟩
  · rw [hrow 1 (by decide) q hq, hrow 2 (by decide) q hq, hrow 3 (by decide) q hq]
    exact h2 _ (by split <;> omega)
  · rw [hrow 0 (by decide) q hq, hrow 0 (by decide) j (by omega)]
    exact h3 _ _ (by split <;> split <;> omega) (by split <;> omega)
  · have h5 := ps_sF_all (g := ps_mv g (k + 1) k (n - (k + 1))) (k := k) (m := n - 1 - k) (fun j hj => by
      have hc : ps_kc (ps_mv g (k + 1) k (n - (k + 1))) j = ps_kc g j := ps_kc_congr (fun q hq => ps_mv_lo (by omega)) (fun q hq => ps_mv_lo (by omega)) (fun q hq => ps_mv_lo (by omega)) (fun q hq => ps_mv_lo (by omega))
      rw [hc, ps_mv_lo hj, ps_mv_lo hj]
      exact h4 j (by omega))
    rw [show k + (n - 1 - k) = n - 1 by omega] at h5
    exact h5
  · have h5 := ps_ml_shift (fun q => ps_bs (ps_rc g q)) k (n - 1) (by omega)
    rw [show n - 1 + 1 = n by omega] at h5
    refine (List.Perm.cons _ (List.Perm.of_eq (ps_ml_congr (fun j hj => ?_)))).trans h5
    simp only [ps_bs, ps_rc, hrow 0 (by decide) j hj, hrow 1 (by decide) j hj, hrow 2 (by decide) j hj, hrow 3 (by decide) j hj, hrow 4 (by decide) j hj]
    by_cases c : j < k
    · simp only [if_pos c]
    · simp only [if_neg c]
/-- the class's settled rows and the reference's settled rows, of the same points -/
theorem ps_settled {n m : Nat} {g f : ps_G} (hT : ps_JT n g) (hb : (ps_ml (fun k => ps_bs (ps_rc g k)) n).Perm (ps_ml (fun k => ps_bs (ps_rm (f 0) (f 1) (f 2) (f 3) k)) m)) :
    (ps_ml (ps_rc g) n).Perm (ps_ml (ps_rm (ps_st f m 0) (ps_st f m 1) (ps_st f m 2) (ps_st f m 3)) m) ∧ ∀ k, k < m → ¬ ps_st f m 8 k = 0 := by
  have hd1 := ps_JT_ds hT
  have hb2 : ((ps_ml (ps_rc g) n).map ps_bs).Perm ((ps_ml (ps_rm (ps_st f m 0) (ps_st f m 1) (ps_st f m 2) (ps_st f m 3)) m).map ps_bs) := by
    rw [ps_ml_map, ps_ml_map]
    refine hb.trans (List.Perm.of_eq (ps_ml_congr (fun k hk => ?_)))
    simp only [ps_bs, ps_rm, ps_st_ot (f := f) (mn := m) (i := 0) (by decide) (by decide), ps_st_ot (f := f) (mn := m) (i := 1) (by decide) (by decide), ps_st_ot (f := f) (mn := m) (i := 2) (by decide) (by decide)]
  have tr : ∀ L1 L2 : List ps_R, ps_ds L1 → (L1.map ps_bs).Perm (L2.map ps_bs) → ps_ds L2 := by
    intro L1 L2 h1 h2
    have h3 : (L1.map ps_bs).Pairwise (fun a b => a.1 ≠ b.1) := List.pairwise_map.mpr h1
    have h4 : (L2.map ps_bs).Pairwise (fun a b => a.1 ≠ b.1) := h2.pairwise h3 (fun h e => h e.symm)
    exact (List.pairwise_map (f := ps_bs) (R := fun a b : Int32 × Int32 × Int32 × Int32 × Int32 => a.1 ≠ b.1) (l := L2)).mp h4
  have hd2 := tr _ _ hd1 hb2
  have hix := ps_ds_ix m hd2
  have hst := ps_st_De (f := f) (mn := m) (fun j k hj hk e => by
    rcases Nat.lt_trichotomy j k with c | c | c
    · exact absurd (show ps_st f m 0 j = ps_st f m 0 k by rw [ps_st_ot (by decide) (by decide)]; exact e) (hix j k c hk)
    · exact c
    · exact absurd (show ps_st f m 0 k = ps_st f m 0 j by rw [ps_st_ot (by decide) (by decide)]; exact e.symm) (hix k j c hj))
  exact ⟨ps_De_uniq (ps_JT_De hT) hst.1 hd1 hd2 hb2, hst.2⟩
