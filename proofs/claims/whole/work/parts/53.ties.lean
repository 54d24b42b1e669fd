/-! the invariant of the law's loop, and the calls that keep it -/
def ps_J (n1 n2 : Nat) (g1 g2 : ps_G) (lf le : Nat) (lh : Nat → Int32) (cx cy cz pl pw : Int32) (mn kn : Nat) (co : Int32) (ln : Nat) (wr lt : Int32) (f : ps_G) : Prop :=
  (ps_JT n1 g1 ∧ ps_JM n1 g1 mn (f 0) (f 1) (f 2) (f 3) ∧ ∀ k, k < mn → ¬ f 8 k = 0) ∧ (ps_JT n2 g2 ∧ ps_JM n2 g2 kn (f 4) (f 5) (f 6) (f 7)) ∧ (lf ≤ le ∧ le ≤ 48 ∧ ln = le - lf ∧ ∀ j, j < ln → f 9 j = lh (lf + j)) ∧ (co = ps_pk cx cy cz ∧ ps_co cx = true ∧ ps_co cy = true ∧ ps_co cz = true) ∧ (pl = lt ∧ (lt = -1 ∨ ¬ lt < 0)) ∧ pw = wr
theorem ps_co_of {x : Int32} (h : ps_co x = true) : ∃ a : Nat, a < 16 ∧ x = nI a := by
  simp only [ps_co, Bool.and_eq_true, decide_eq_true_eq] at h
  rcases pk_ix x (n := 16) (by decide) with h1 | h1 | h1
  · exact absurd h1 h.1
  · exact absurd h1 h.2
  · exact h1
theorem ps_inr15 (v : Int32) : ps_inr v 0 15 = ps_co v := by
  have h : (15 : Int32) < v ↔ (16 : Int32) ≤ v := by
    rw [Int32.lt_iff_toInt_lt, Int32.le_iff_toInt_le]
    have h1 : (15 : Int32).toInt = 15 := by decide
    have h2 : (16 : Int32).toInt = 16 := by decide
    rw [h1, h2]
    omega
  simp only [ps_inr, ps_co, h]
theorem ps_ip_co (x y z : Int32) : ps_ip x y z = (ps_co x && ps_co y && ps_co z) := by
  simp only [ps_ip, ps_inr15]
theorem ps_ax_nI {v : Nat} (h : v < 4096) : ps_ax (nI v) 0 = nI (v / 256) ∧ ps_ax (nI v) 1 = nI (v / 16 % 16) ∧ ps_ax (nI v) 2 = nI (v % 16) := by
  have e1 : nI v / 16 = nI (v / 16) := pk_div (a := v) (d := 16) (by omega) (by decide) (by decide)
  refine ⟨?_, ?_, ?_⟩
  · have : ps_ax (nI v) 0 = nI v / 256 := if_pos rfl
    rw [this]
    exact pk_div (a := v) (d := 256) (by omega) (by decide) (by decide)
  · have : ps_ax (nI v) 1 = nI v / 16 - nI v / 16 / 16 * 16 := rfl
    rw [this, e1]
    exact pk_rem (a := v / 16) (d := 16) (by omega) (by decide) (by decide)
  · have : ps_ax (nI v) 2 = nI v - nI v / 16 * 16 := rfl
    rw [this]
    exact pk_rem (a := v) (d := 16) (by omega) (by decide) (by decide)
theorem ps_pk_nI (a b c : Nat) : ps_pk (nI a) (nI b) (nI c) = nI (256 * a + 16 * b + c) := by
  unfold ps_pk
  have e1 : (256 : Int32) * nI a = nI (256 * a) := pk_mul 256 a
  have e2 : (16 : Int32) * nI b = nI (16 * b) := pk_mul 16 b
  rw [e1, e2, nI_add, nI_add]
theorem ps_ax_pk {x y z : Int32} (hx : ps_co x = true) (hy : ps_co y = true) (hz : ps_co z = true) : ps_ax (ps_pk x y z) 0 = x ∧ ps_ax (ps_pk x y z) 1 = y ∧ ps_ax (ps_pk x y z) 2 = z ∧ ∃ v, v < 4096 ∧ ps_pk x y z = nI v := by
  obtain ⟨a, ha, rfl⟩ := ps_co_of hx
  obtain ⟨b, hb, rfl⟩ := ps_co_of hy
  obtain ⟨c, hc, rfl⟩ := ps_co_of hz
  rw [ps_pk_nI]
  obtain ⟨e1, e2, e3⟩ := ps_ax_nI (v := 256 * a + 16 * b + c) (by omega)
  rw [e1, e2, e3]
  refine ⟨?_, ?_, ?_, _, by omega, rfl⟩
  · congr 1; omega
  · congr 1; omega
  · congr 1; omega
theorem ps_JM_bs {n : Nat} {g : ps_G} {m : Nat} {i p c d : Nat → Int32} (h : ps_JM n g m i p c d) : (ps_ml (fun k => ps_bs (ps_rc g k)) n).Perm (ps_ml (fun k => ps_bs (ps_rm i p c d k)) m) := by
  have := h.1.map ps_bs
  rwa [ps_ml_map, ps_ml_map] at this
/-- one record by its id, in both -/
theorem ps_same {n : Nat} {g : ps_G} {m : Nat} {i p c d : Nat → Int32} (hT : ps_JT n g) (h : (ps_ml (ps_rc g) n).Perm (ps_ml (ps_rm i p c d) m)) {k q : Nat} (hk : k < n) (hq : q < m) (e : g 0 k = i q) : ps_rc g k = ps_rm i p c d q :=
  ps_ds_eq (ps_JT_ds hT) (ps_ml_mem.mpr ⟨k, hk, rfl⟩) (h.mem_iff.mpr (ps_ml_mem.mpr ⟨q, hq, rfl⟩)) e
theorem ps_find {n : Nat} {g : ps_G} {m : Nat} {i p c d : Nat → Int32} (hT : ps_JT n g) (hM : ps_JM n g m i p c d) (id : Int32) : (ps_fi (g 0) id n = none ∧ ps_fl i id m = none) ∨ ∃ k q, ps_fi (g 0) id n = some k ∧ ps_fl i id m = some q ∧ k < n ∧ q < m ∧ ps_rc g k = ps_rm i p c d q := by
  cases h : ps_fi (g 0) id n with
  | none =>
    refine Or.inl ⟨rfl, ?_⟩
    cases h2 : ps_fl i id m with
    | none => rfl
    | some q =>
      obtain ⟨hq, e⟩ := ps_fl_spec h2
      obtain ⟨k, hk, e2⟩ := ps_ml_mem.mp (hM.1.mem_iff.mpr (ps_ml_mem.mpr ⟨q, hq, rfl⟩))
      have e3 : g 0 k = i q := congrArg (fun t : ps_R => t.1) e2
      exact absurd (e3.trans e) (ps_fi_spec0 h k hk)
  | some k =>
    obtain ⟨hk, e, -⟩ := ps_fi_spec h
    obtain ⟨q0, hq0, e2⟩ := ps_ml_mem.mp (hM.1.mem_iff.mp (ps_ml_mem.mpr ⟨k, hk, rfl⟩))
    have e3 : i q0 = g 0 k := congrArg (fun t : ps_R => t.1) e2
    cases h2 : ps_fl i id m with
    | none => exact absurd (e3.trans e) (ps_fl_spec0 h2 q0 hq0)
    | some q =>
      obtain ⟨hq, e4⟩ := ps_fl_spec h2
      exact Or.inr ⟨k, q, rfl, rfl, hk, hq, ps_same hT hM.1 hk hq (e.trans e4.symm)⟩
section PSJ
variable {n1 n2 : Nat} {g1 g2 : ps_G} {lf le : Nat} {lh : Nat → Int32} {cx cy cz pl pw : Int32} {mn kn : Nat} {co : Int32} {ln : Nat} {wr lt : Int32} {f : ps_G}
theorem ps_Jadd (h : ps_J n1 n2 g1 g2 lf le lh cx cy cz pl pw mn kn co ln wr lt f) (id x y z v : Int32) :
    (n1 < 48 ∧ ps_co x = true ∧ ps_co y = true ∧ ps_co z = true ∧ ps_fi (g1 0) id n1 = none ∧ mn < 48 ∧ ps_ip x y z = true ∧ ps_fl (f 0) id mn = none ∧ ps_ig g1 n1 id x y z v 5 (ps_cn (ps_ab g1 (ps_rk id)) n1) = ps_st (ps_ma f mn id x y z v) (mn + 1) 3 mn ∧ ps_J (n1 + 1) n2 (ps_ig g1 n1 id x y z v) g2 lf le lh cx cy cz pl pw (mn + 1) kn co ln wr lt (ps_st (ps_ma f mn id x y z v) (mn + 1)))
    ∨ (¬ (ps_co x = true ∧ ps_co y = true ∧ ps_co z = true) ∧ mn ≤ 48 ∧ ps_ip x y z = false)
    ∨ (n1 ≤ 48 ∧ ps_co x = true ∧ ps_co y = true ∧ ps_co z = true ∧ (ps_fi (g1 0) id n1 = none → n1 = 48) ∧ mn ≤ 48 ∧ ps_ip x y z = true ∧ (ps_fl (f 0) id mn = none → mn = 48)) := by
  obtain ⟨⟨hT, hM, hD⟩, hK, hL, hC, hP, hW⟩ := h
  have hlen := ps_JM_len hM
  have h48 := hT.1
  by_cases hc : ps_co x = true ∧ ps_co y = true ∧ ps_co z = true
  · have hip : ps_ip x y z = true := by rw [ps_ip_co]; simp [hc.1, hc.2.1, hc.2.2]
    obtain ⟨hx, hy, hz⟩ := hc
    by_cases hfull : ps_fi (g1 0) id n1 = none → n1 = 48
    · refine Or.inr (Or.inr ⟨h48, hx, hy, hz, hfull, by omega, hip, fun h2 => ?_⟩)
      rcases ps_find hT hM id with h3 | ⟨k, q, h3, h4, -⟩
      · have := hfull h3.1
        omega
      · rw [h4] at h2; cases h2
    · left
      have hf : ps_fi (g1 0) id n1 = none := Classical.byContradiction fun c => hfull fun c2 => absurd c2 c
      have hn : n1 < 48 := Nat.lt_of_not_le fun c => hfull fun _ => by omega
      have hfl : ps_fl (f 0) id mn = none := by
        rcases ps_find hT hM id with h3 | ⟨k, q, h3, h4, -⟩
        · exact h3.2
        · rw [h3] at hf; cases hf
      obtain ⟨hT2, hb, hKn, hK0⟩ := ps_JT_add (v := v) hT hn hx hy hz hf
      obtain ⟨a0, a1, a2, a3⟩ := ps_ax_pk hx hy hz
      have hb2 : (ps_ml (fun k => ps_bs (ps_rc (ps_ig g1 n1 id x y z v) k)) (n1 + 1)).Perm (ps_ml (fun k => ps_bs (ps_rm (ps_ma f mn id x y z v 0) (ps_ma f mn id x y z v 1) (ps_ma f mn id x y z v 2) (ps_ma f mn id x y z v 3) k)) (mn + 1)) := by
        refine hb.trans ((List.Perm.cons _ (ps_JM_bs hM)).trans ?_)
        rw [ps_ml_S]
        have e0 : ps_ma f mn id x y z v 0 = upd (f 0) mn id := by simp [ps_ma, va_up]
        have e1 : ps_ma f mn id x y z v 1 = upd (f 1) mn (ps_pk x y z) := by simp [ps_ma, va_up]
        have e2 : ps_ma f mn id x y z v 2 = upd (f 2) mn v := by simp [ps_ma, va_up]
        have e3 : ps_bs (ps_rm (ps_ma f mn id x y z v 0) (ps_ma f mn id x y z v 1) (ps_ma f mn id x y z v 2) (ps_ma f mn id x y z v 3) mn) = (id, x, y, z, v) := by
          simp only [ps_bs, ps_rm, e0, e1, e2, pk_us, a0, a1, a2]
        rw [e3]
        refine ((List.perm_append_singleton _ _).symm).trans (List.Perm.append_right _ (List.Perm.of_eq (ps_ml_congr (fun k hk => ?_))))
        have hne : k ≠ mn := by omega
        simp only [ps_bs, ps_rm, e0, e1, e2, pk_un hne]
      obtain ⟨hp, hdone⟩ := ps_settled hT2 hb2
      have so : ∀ i, 3 < i → i ≠ 8 → ps_st (ps_ma f mn id x y z v) (mn + 1) i = f i := fun i h3 h8 => by
        rw [ps_st_ot (by omega) h8]
        simp only [ps_ma, va_up, if_neg (by omega : ¬ i = 2), if_neg (by omega : ¬ i = 1), if_neg (by omega : ¬ i = 0)]
      have s0 : ps_st (ps_ma f mn id x y z v) (mn + 1) 0 = upd (f 0) mn id := by
        rw [ps_st_ot (by decide) (by decide)]; simp [ps_ma, va_up]
      have s1 : ps_st (ps_ma f mn id x y z v) (mn + 1) 1 = upd (f 1) mn (ps_pk x y z) := by
        rw [ps_st_ot (by decide) (by decide)]; simp [ps_ma, va_up]
      refine ⟨hn, hx, hy, hz, hf, by omega, hip, hfl, ?_, ⟨hT2, ⟨hp, fun k hk => ?_⟩, hdone⟩, ?_, ?_, hC, hP, hW⟩
      · have := ps_same hT2 hp hKn (Nat.lt_succ_self mn) (by rw [hK0, s0, pk_us])
        exact congrArg ps_rd this
      · rw [s1]
        by_cases e : k = mn
        · rw [e, pk_us]; exact a3
        · rw [pk_un e]; exact hM.2 k (by omega)
      · rw [so 4 (by decide) (by decide), so 5 (by decide) (by decide), so 6 (by decide) (by decide), so 7 (by decide) (by decide)]
        exact hK
      · rw [so 9 (by decide) (by decide)]
        exact hL
  · refine Or.inr (Or.inl ⟨hc, by omega, ?_⟩)
    rw [ps_ip_co]
    cases e1 : ps_co x <;> cases e2 : ps_co y <;> cases e3 : ps_co z <;> simp_all
theorem ps_Jremove (h : ps_J n1 n2 g1 g2 lf le lh cx cy cz pl pw mn kn co ln wr lt f) (id : Int32) :
    (∃ k q, n1 ≤ 48 ∧ ps_fi (g1 0) id n1 = some k ∧ mn ≤ 48 ∧ ps_fl (f 0) id mn = some q ∧ g1 5 k = f 3 q ∧ ps_J (n1 - 1) n2 (ps_dg g1 n1 k) g2 lf le lh cx cy cz pl pw (mn - 1) kn co ln wr lt (ps_st (ps_mr f mn q) (mn - 1)))
    ∨ (n1 ≤ 48 ∧ ps_fi (g1 0) id n1 = none ∧ mn ≤ 48 ∧ ps_fl (f 0) id mn = none) := by
  obtain ⟨⟨hT, hM, hD⟩, hK, hL, hC, hP, hW⟩ := h
  have hlen := ps_JM_len hM
  have h48 := hT.1
  rcases ps_find hT hM id with ⟨h1, h2⟩ | ⟨k, q, h1, h2, hk, hq, hrec⟩
  · exact Or.inr ⟨h48, h1, by omega, h2⟩
  · left
    obtain ⟨hT2, hb⟩ := ps_JT_del hT hk
    have e0 : ps_mr f mn q 0 = upd (f 0) q (f 0 (mn - 1)) := by simp [ps_mr, va_up]
    have e1 : ps_mr f mn q 1 = upd (f 1) q (f 1 (mn - 1)) := by simp [ps_mr, va_up]
    have e2 : ps_mr f mn q 2 = upd (f 2) q (f 2 (mn - 1)) := by simp [ps_mr, va_up]
    have hb2 : (ps_ml (fun j => ps_bs (ps_rc (ps_dg g1 n1 k) j)) (n1 - 1)).Perm (ps_ml (fun j => ps_bs (ps_rm (ps_mr f mn q 0) (ps_mr f mn q 1) (ps_mr f mn q 2) (ps_mr f mn q 3) j)) (mn - 1)) := by
      refine List.Perm.cons_inv (a := ps_bs (ps_rc g1 k)) (hb.trans ((ps_JM_bs hM).trans ?_))
      rw [hrec]
      have hu := ps_ml_upd (F := fun j => ps_bs (ps_rm (f 0) (f 1) (f 2) (f 3) j)) (F' := fun j => ps_bs (ps_rm (ps_mr f mn q 0) (ps_mr f mn q 1) (ps_mr f mn q 2) (ps_mr f mn q 3) j)) (k := q) (a := ps_bs (ps_rm (f 0) (f 1) (f 2) (f 3) (mn - 1))) (by simp only [ps_bs, ps_rm, e0, e1, e2, pk_us]) (fun j hj => by simp only [ps_bs, ps_rm, e0, e1, e2, pk_un hj]) mn hq
      obtain ⟨m, rfl⟩ : ∃ m, mn = m + 1 := ⟨mn - 1, by omega⟩
      rw [show m + 1 - 1 = m by omega] at hu e0 e1 e2 ⊢
      have hlast : ps_bs (ps_rm (ps_mr f (m + 1) q 0) (ps_mr f (m + 1) q 1) (ps_mr f (m + 1) q 2) (ps_mr f (m + 1) q 3) m) = ps_bs (ps_rm (f 0) (f 1) (f 2) (f 3) m) := by
        simp only [ps_bs, ps_rm, e0, e1, e2]
        by_cases e : m = q
        · rw [← e, pk_us, pk_us, pk_us]
        · rw [pk_un e, pk_un e, pk_un e]
      rw [ps_ml_S (fun j => ps_bs (ps_rm (ps_mr f (m + 1) q 0) (ps_mr f (m + 1) q 1) (ps_mr f (m + 1) q 2) (ps_mr f (m + 1) q 3) j)) m, hlast] at hu
      refine List.Perm.cons_inv (hu.trans ?_)
      exact (List.perm_append_singleton (ps_bs (ps_rm (f 0) (f 1) (f 2) (f 3) m)) (ps_bs (ps_rm (f 0) (f 1) (f 2) (f 3) q) :: ps_ml _ m))
    obtain ⟨hp, hdone⟩ := ps_settled hT2 hb2
    have so : ∀ i, 3 < i → i ≠ 8 → ps_st (ps_mr f mn q) (mn - 1) i = f i := fun i h3 h8 => by
      rw [ps_st_ot (by omega) h8]
      simp only [ps_mr, va_up, if_neg (by omega : ¬ i = 2), if_neg (by omega : ¬ i = 1), if_neg (by omega : ¬ i = 0)]
    refine ⟨k, q, h48, h1, by omega, h2, congrArg ps_rd hrec, ⟨hT2, ⟨hp, fun j hj => ?_⟩, hdone⟩, ?_, ?_, hC, hP, hW⟩
    · rw [ps_st_ot (by decide) (by decide), e1]
      by_cases e : j = q
      · rw [e, pk_us]; exact hM.2 _ (by omega)
      · rw [pk_un e]; exact hM.2 j (by omega)
    · rw [so 4 (by decide) (by decide), so 5 (by decide) (by decide), so 6 (by decide) (by decide), so 7 (by decide) (by decide)]
      exact hK
    · rw [so 9 (by decide) (by decide)]
      exact hL
theorem ps_Jrecolour (h : ps_J n1 n2 g1 g2 lf le lh cx cy cz pl pw mn kn co ln wr lt f) (id v : Int32) :
    (∃ k q, n1 ≤ 48 ∧ ps_fi (g1 0) id n1 = some k ∧ mn ≤ 48 ∧ ps_fl (f 0) id mn = some q ∧ g1 4 k = f 2 q ∧ ps_J n1 n2 (va_up g1 4 (upd (g1 4) k v)) g2 lf le lh cx cy cz pl pw mn kn co ln wr lt (va_up f 2 (upd (f 2) q v)))
    ∨ (n1 ≤ 48 ∧ ps_fi (g1 0) id n1 = none ∧ mn ≤ 48 ∧ ps_fl (f 0) id mn = none) := by
  obtain ⟨⟨hT, hM, hD⟩, hK, hL, hC, hP, hW⟩ := h
  have hlen := ps_JM_len hM
  have h48 := hT.1
  rcases ps_find hT hM id with ⟨h1, h2⟩ | ⟨k, q, h1, h2, hk, hq, hrec⟩
  · exact Or.inr ⟨h48, h1, by omega, h2⟩
  · left
    have hr := hrec
    simp only [ps_rc, ps_rm, Prod.mk.injEq] at hr
    obtain ⟨r0, r1, r2, r3, r4, r5⟩ := hr
    have hT2 : ps_JT n1 (va_up g1 4 (upd (g1 4) k v)) := ps_JT_congr hT (fun i _ h4 j _ => by rw [va_up_ne _ _ h4])
    have u1 := ps_ml_upd (F := ps_rc g1) (F' := ps_rc (va_up g1 4 (upd (g1 4) k v))) (k := k) (a := (g1 0 k, g1 1 k, g1 2 k, g1 3 k, v, g1 5 k)) (by simp [ps_rc, va_up, pk_us]) (fun j hj => by simp [ps_rc, va_up, pk_un hj]) n1 hk
    have u2 := ps_ml_upd (F := ps_rm (f 0) (f 1) (f 2) (f 3)) (F' := ps_rm (f 0) (f 1) (upd (f 2) q v) (f 3)) (k := q) (a := (g1 0 k, g1 1 k, g1 2 k, g1 3 k, v, g1 5 k)) (by simp [ps_rm, pk_us, r0, r1, r2, r3, r5]) (fun j hj => by simp [ps_rm, pk_un hj]) mn hq
    have hp : (ps_ml (ps_rc (va_up g1 4 (upd (g1 4) k v))) n1).Perm (ps_ml (ps_rm (f 0) (f 1) (upd (f 2) q v) (f 3)) mn) := by
      refine List.Perm.cons_inv (a := ps_rc g1 k) (u1.symm.trans ((List.Perm.cons _ hM.1).trans ?_))
      rw [hrec]
      exact u2
    refine ⟨k, q, h48, h1, by omega, h2, r4, ⟨hT2, ⟨?_, ?_⟩, ?_⟩, ?_, ?_, hC, hP, hW⟩
    · simpa [va_up] using hp
    · simpa [va_up] using hM.2
    · simpa [va_up] using hD
    · simpa [va_up] using hK
    · simpa [va_up] using hL
theorem ps_Jfield (h : ps_J n1 n2 g1 g2 lf le lh cx cy cz pl pw mn kn co ln wr lt f) (id fd : Int32) :
    (∃ k q, n1 ≤ 48 ∧ ¬ fd < 0 ∧ fd ≤ 4 ∧ ps_fi (g1 0) id n1 = some k ∧ mn ≤ 48 ∧ ps_fl (f 0) id mn = some q ∧ ps_inr fd 0 4 = true ∧ ps_fv g1 k fd = ps_mf f q fd)
    ∨ ((fd < 0 ∨ 4 < fd) ∧ ps_inr fd 0 4 = false)
    ∨ (n1 ≤ 48 ∧ ps_fi (g1 0) id n1 = none ∧ ¬ fd < 0 ∧ fd ≤ 4 ∧ mn ≤ 48 ∧ ps_fl (f 0) id mn = none ∧ ps_inr fd 0 4 = true) := by
  obtain ⟨⟨hT, hM, hD⟩, hK, hL, hC, hP, hW⟩ := h
  have hlen := ps_JM_len hM
  have h48 := hT.1
  by_cases hfd : fd < 0 ∨ 4 < fd
  · refine Or.inr (Or.inl ⟨hfd, ?_⟩)
    rcases hfd with c | c <;> simp [ps_inr, c]
  · have c0 : ¬ fd < 0 := fun c => hfd (Or.inl c)
    have c4 : ¬ 4 < fd := fun c => hfd (Or.inr c)
    have hin : ps_inr fd 0 4 = true := by simp only [ps_inr, c0, c4, not_false_eq_true, decide_true, Bool.and_self]
    rcases ps_find hT hM id with ⟨h1, h2⟩ | ⟨k, q, h1, h2, hk, hq, hrec⟩
    · exact Or.inr (Or.inr ⟨h48, h1, c0, Int32.not_lt.mp c4, by omega, h2, hin⟩)
    · refine Or.inl ⟨k, q, h48, c0, Int32.not_lt.mp c4, h1, by omega, h2, hin, ?_⟩
      have hr := hrec
      simp only [ps_rc, ps_rm, Prod.mk.injEq] at hr
      obtain ⟨r0, r1, r2, r3, r4, r5⟩ := hr
      obtain ⟨j, hj, rfl⟩ := nI_of2 (x := fd) (M := 4) (n := 4) (by decide) c0 (Int32.not_lt.mp c4)
      rcases (by omega : j = 0 ∨ j = 1 ∨ j = 2 ∨ j = 3 ∨ j = 4) with rfl | rfl | rfl | rfl | rfl
      · exact r1
      · exact r2
      · exact r3
      · exact r4
      · exact r5
theorem ps_Jcorner (h : ps_J n1 n2 g1 g2 lf le lh cx cy cz pl pw mn kn co ln wr lt f) (x y z : Int32) :
    (ps_co x = true ∧ ps_co y = true ∧ ps_co z = true ∧ ps_ip x y z = true ∧ ps_J n1 n2 g1 g2 lf le lh x y z pl pw mn kn (ps_pk x y z) ln wr lt f)
    ∨ (¬ (ps_co x = true ∧ ps_co y = true ∧ ps_co z = true) ∧ ps_ip x y z = false) := by
  obtain ⟨h1, hK, hL, hC, hP, hW⟩ := h
  by_cases hc : ps_co x = true ∧ ps_co y = true ∧ ps_co z = true
  · exact Or.inl ⟨hc.1, hc.2.1, hc.2.2, by rw [ps_ip_co]; simp [hc.1, hc.2.1, hc.2.2], h1, hK, hL, ⟨rfl, hc⟩, hP, hW⟩
  · refine Or.inr ⟨hc, ?_⟩
    rw [ps_ip_co]
    cases e1 : ps_co x <;> cases e2 : ps_co y <;> cases e3 : ps_co z <;> simp_all
theorem ps_Jnext (h : ps_J n1 n2 g1 g2 lf le lh cx cy cz pl pw mn kn co ln wr lt f) :
    (lf < le ∧ le ≤ 48 ∧ 0 < ln ∧ ln ≤ 48 ∧ lh lf = f 9 0 ∧ ps_J n1 n2 g1 g2 (lf + 1) le lh cx cy cz pl pw mn kn co (ln - 1) wr lt (va_up f 9 (ps_sh (f 9) (ln - 1))))
    ∨ (le ≤ 48 ∧ le ≤ lf ∧ lf ≤ 48 ∧ ln = 0) := by
  obtain ⟨⟨hT, hM, hD⟩, hK, ⟨l1, l2, l3, l4⟩, hC, hP, hW⟩ := h
  by_cases c : lf < le
  · refine Or.inl ⟨c, l2, by omega, by omega, ?_, ⟨hT, ?_, ?_⟩, ?_, ⟨by omega, l2, by omega, fun j hj => ?_⟩, hC, hP, hW⟩
    · rw [l4 0 (by omega)]
      rfl
    · simpa [va_up] using hM
    · simpa [va_up] using hD
    · simpa [va_up] using hK
    · rw [va_up_self]
      simp only [ps_sh, if_pos hj]
      rw [l4 (j + 1) (by omega)]
      congr 1
      omega
  · exact Or.inr ⟨l2, by omega, by omega, by omega⟩
theorem ps_Jcharge (h : ps_J n1 n2 g1 g2 lf le lh cx cy cz pl pw mn kn co ln wr lt f) (v : Int32) :
    (¬ v < 0 ∧ v ≤ 99 ∧ ps_inr v 0 99 = true ∧ ps_J n1 n2 g1 g2 lf le lh cx cy cz v pw mn kn co ln wr v f)
    ∨ ((v < 0 ∨ 99 < v) ∧ ps_inr v 0 99 = false) := by
  obtain ⟨h1, hK, hL, hC, hP, hW⟩ := h
  by_cases hv : v < 0 ∨ 99 < v
  · refine Or.inr ⟨hv, ?_⟩
    rcases hv with c | c <;> simp [ps_inr, c]
  · have c0 : ¬ v < 0 := fun c => hv (Or.inl c)
    have c4 : ¬ 99 < v := fun c => hv (Or.inr c)
    exact Or.inl ⟨c0, Int32.not_lt.mp c4, by simp only [ps_inr, c0, c4, not_false_eq_true, decide_true, Bool.and_self], h1, hK, hL, hC, ⟨rfl, Or.inr c0⟩, hW⟩
/-- what opening leaves -/
theorem ps_Jback (g : ps_G) (n : Nat) (hJ : ps_JT n g) {kn : Nat} {f : ps_G} (hM : ps_JM n g kn (f 4) (f 5) (f 6) (f 7)) (g0 : ps_G) : ps_JT n (ps_cp g0 g n) ∧ ps_JM n (ps_cp g0 g n) kn (ps_st (ps_oG f kn) kn 0) (ps_st (ps_oG f kn) kn 1) (ps_st (ps_oG f kn) kn 2) (ps_st (ps_oG f kn) kn 3) ∧ (∀ k, k < kn → ¬ ps_st (ps_oG f kn) kn 8 k = 0) ∧ ∀ i, 3 < i → i ≠ 8 → ps_st (ps_oG f kn) kn i = f i := by
  have hT2 : ps_JT n (ps_cp g0 g n) := ps_JT_congr hJ (fun i hi _ j hj => ps_cp_at hi hj)
  have e0 : ∀ k, k < kn → ps_oG f kn 0 k = f 4 k := fun k hk => by simp [ps_oG, va_up, ps_ov, hk]
  have e1 : ∀ k, k < kn → ps_oG f kn 1 k = f 5 k := fun k hk => by simp [ps_oG, va_up, ps_ov, hk]
  have e2 : ∀ k, k < kn → ps_oG f kn 2 k = f 6 k := fun k hk => by simp [ps_oG, va_up, ps_ov, hk]
  have hb : (ps_ml (fun k => ps_bs (ps_rc (ps_cp g0 g n) k)) n).Perm (ps_ml (fun k => ps_bs (ps_rm (ps_oG f kn 0) (ps_oG f kn 1) (ps_oG f kn 2) (ps_oG f kn 3) k)) kn) := by
    refine (List.Perm.of_eq (ps_ml_congr (fun k hk => ?_))).trans ((ps_JM_bs hM).trans (List.Perm.of_eq (ps_ml_congr (fun k hk => ?_))))
    · simp only [ps_bs, ps_rc, ps_cp_at (g := g0) (o := g) (n := n) (i := 0) (by decide) hk, ps_cp_at (g := g0) (o := g) (n := n) (i := 1) (by decide) hk, ps_cp_at (g := g0) (o := g) (n := n) (i := 2) (by decide) hk, ps_cp_at (g := g0) (o := g) (n := n) (i := 3) (by decide) hk, ps_cp_at (g := g0) (o := g) (n := n) (i := 4) (by decide) hk]
    · simp only [ps_bs, ps_rm, e0 k hk, e1 k hk, e2 k hk]
  obtain ⟨hp, hdone⟩ := ps_settled hT2 hb
  refine ⟨hT2, ⟨hp, fun k hk => ?_⟩, hdone, fun i h3 h8 => ?_⟩
  · rw [ps_st_ot (by decide) (by decide), e1 k hk]
    exact hM.2 k hk
  · rw [ps_st_ot (by omega) h8]
    simp only [ps_oG, va_up, if_neg (by omega : ¬ i = 2), if_neg (by omega : ¬ i = 1), if_neg (by omega : ¬ i = 0)]
theorem ps_Jopen (h : ps_J n1 n2 g1 g2 lf le lh cx cy cz pl pw mn kn co ln wr lt f) :
    n2 ≤ 48 ∧ kn ≤ 48 ∧ n2 = kn ∧ ps_J n2 n2 (ps_cp g1 g2 n2) g2 0 0 lh 0 0 0 pl pw kn kn 0 0 wr lt (ps_st (ps_oG f kn) kn) := by
  obtain ⟨h1, ⟨hT, hM⟩, hL, hC, hP, hW⟩ := h
  have hlen := ps_JM_len hM
  have h48 := hT.1
  obtain ⟨b1, b2, b3, so⟩ := ps_Jback g2 n2 hT hM g1
  refine ⟨h48, by omega, hlen, ⟨b1, b2, b3⟩, ?_, ⟨by omega, by omega, rfl, fun j hj => by omega⟩, ⟨by decide, by decide, by decide, by decide⟩, hP, hW⟩
  rw [so 4 (by decide) (by decide), so 5 (by decide) (by decide), so 6 (by decide) (by decide), so 7 (by decide) (by decide)]
  exact ⟨hT, hM⟩
end PSJ
