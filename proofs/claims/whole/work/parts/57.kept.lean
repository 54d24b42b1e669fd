/-! kept -/
theorem ps_shl_all : ∀ j : Fin 5, ∀ a : Fin 16, a.val < 2 ^ j.val → ps_co (nI a.val <<< ((4 - nI j.val) &&& 31)) = true ∧ ps_cb (nI j.val) (nI a.val <<< ((4 - nI j.val) &&& 31)) = nI a.val := by decide +kernel
theorem ps_side_all : ∀ j : Fin 5, (1 : Int32) <<< (nI j.val &&& 31) = nI (2 ^ j.val) := by decide +kernel
theorem ps_ci_inr {j : Nat} (hj : j < 5) (v : Int32) : ps_inr v 0 (((1 : Int32) <<< (nI j &&& 31)) - 1) = ps_ci (nI j) v := by
  have hs := ps_side_all ⟨j, hj⟩
  have hs : (1 : Int32) <<< (nI j &&& 31) = nI (2 ^ j) := hs
  have hp : 0 < 2 ^ j := Nat.two_pow_pos j
  have hp2 : 2 ^ j ≤ 2 ^ 4 := Nat.pow_le_pow_right (by decide) (by omega)
  unfold ps_inr ps_ci
  rw [hs, ps_dec hp]
  have h : nI (2 ^ j - 1) < v ↔ nI (2 ^ j) ≤ v := by
    rw [Int32.lt_iff_toInt_lt, Int32.le_iff_toInt_le, nI_toInt (by omega), nI_toInt (by omega)]
    omega
  simp only [h]
theorem ps_ci_of {j : Nat} (hj : j < 5) {v : Int32} (h : ps_ci (nI j) v = true) : ps_co (v <<< ((4 - nI j) &&& 31)) = true ∧ ps_cb (nI j) (v <<< ((4 - nI j) &&& 31)) = v := by
  have hs : (1 : Int32) <<< (nI j &&& 31) = nI (2 ^ j) := ps_side_all ⟨j, hj⟩
  have hp2 : 2 ^ j ≤ 2 ^ 4 := Nat.pow_le_pow_right (by decide) (by omega)
  simp only [ps_ci, hs, Bool.and_eq_true, decide_eq_true_eq] at h
  rcases pk_ix v (n := 2 ^ j) (by omega) with c | c | ⟨a, ha, rfl⟩
  · exact absurd c h.1
  · exact absurd c h.2
  · exact ps_shl_all ⟨j, hj⟩ ⟨a, by omega⟩ ha
def ps_iC (d x y z : Int32) (r : ps_R) : Bool := decide (ps_cb d r.2.1 = x) && decide (ps_cb d r.2.2.1 = y) && decide (ps_cb d r.2.2.2.1 = z)
/-- the record stands at the place i of the node -/
def ps_Mt (L : List ps_R) (d x y z i : Int32) (r : ps_R) : Bool := decide (ps_rd r = d) && ps_iC d x y z r && decide (nI (L.countP (fun s => (decide (ps_rd s = d) && ps_iC d x y z s) && ps_gt r s)) = i)
theorem ps_fk_Mt {n : Nat} {g : ps_G} (hT : ps_JT n g) {k : Nat} (hk : k < n) (d x y z i : Int32) : ps_fk g d x y z i k = ps_Mt (ps_ml (ps_rc g) n) d x y z i (ps_rc g k) := by
  by_cases h : (decide (g 5 k = d) && ps_iC d x y z (ps_rc g k)) = true
  · have e1 : ps_fk g d x y z i k = decide (g 6 k = i) := by
      show ((decide (g 6 k = i) && decide (g 5 k = d)) && ps_iC d x y z (ps_rc g k)) = _
      rw [Bool.and_assoc, h, Bool.and_true]
    have e2 : ps_Mt (ps_ml (ps_rc g) n) d x y z i (ps_rc g k) = decide (nI ((ps_ml (ps_rc g) n).countP (fun s => (decide (ps_rd s = d) && ps_iC d x y z s) && ps_gt (ps_rc g k) s)) = i) := by
      show ((decide (g 5 k = d) && ps_iC d x y z (ps_rc g k)) && _) = _
      rw [h, Bool.true_and]
    rw [e1, e2]
    simp only [Bool.and_eq_true, decide_eq_true_eq, ps_iC] at h
    obtain ⟨hd, ⟨hx, hy⟩, hz⟩ := h
    obtain ⟨e5, e6⟩ := hT.2.2.2 k hk
    rw [e6, ps_kc_De hT.2.2.1 hk]
    have e7 : nI (ps_dn (ps_kc g k)) = d := e5.symm.trans hd
    rw [e7]
    congr 3
    congr 1
    funext s
    congr 2
    unfold ps_rs ps_iC
    rw [hx, hy, hz]
  · have h2 : (decide (g 5 k = d) && ps_iC d x y z (ps_rc g k)) = false := by
      cases e : (decide (g 5 k = d) && ps_iC d x y z (ps_rc g k)) with
      | true => exact absurd e h
      | false => rfl
    have e1 : ps_fk g d x y z i k = false := by
      show ((decide (g 6 k = i) && decide (g 5 k = d)) && ps_iC d x y z (ps_rc g k)) = _
      rw [Bool.and_assoc, h2, Bool.and_false]
    have e2 : ps_Mt (ps_ml (ps_rc g) n) d x y z i (ps_rc g k) = false := by
      show ((decide (g 5 k = d) && ps_iC d x y z (ps_rc g k)) && _) = _
      rw [h2, Bool.false_and]
    rw [e1, e2]
theorem ps_Mt_uniq {n : Nat} {g : ps_G} (hT : ps_JT n g) {d x y z i : Int32} {k q : Nat} (hk : k < n) (hq : q < n) (h1 : ps_Mt (ps_ml (ps_rc g) n) d x y z i (ps_rc g k) = true) (h2 : ps_Mt (ps_ml (ps_rc g) n) d x y z i (ps_rc g q) = true) : g 0 k = g 0 q := by
  have h48 := hT.1
  have key : ∀ k q, k < n → q < n → ps_Mt (ps_ml (ps_rc g) n) d x y z i (ps_rc g k) = true → ps_Mt (ps_ml (ps_rc g) n) d x y z i (ps_rc g q) = true → ¬ ps_rk (g 0 k) < ps_rk (g 0 q) := by
    intro k q hk hq h1 h2 hlt
    simp only [ps_Mt, Bool.and_eq_true, decide_eq_true_eq] at h1 h2
    have c1 : ∀ w, (ps_ml (ps_rc g) n).countP (fun s => (decide (ps_rd s = d) && ps_iC d x y z s) && ps_gt (ps_rc g w) s) = ps_cn (fun j => (decide (g 5 j = d) && ps_iC d x y z (ps_rc g j)) && ps_gt (ps_rc g w) (ps_rc g j)) n := fun w => (ps_cn_ml (F := ps_rc g) (Q := fun s => (decide (ps_rd s = d) && ps_iC d x y z s) && ps_gt (ps_rc g w) s) (fun _ _ => rfl)).symm
    rw [c1] at h1 h2
    have l1 := ps_cn_le (fun j => (decide (g 5 j = d) && ps_iC d x y z (ps_rc g j)) && ps_gt (ps_rc g k) (ps_rc g j)) n
    have l2 := ps_cn_le (fun j => (decide (g 5 j = d) && ps_iC d x y z (ps_rc g j)) && ps_gt (ps_rc g q) (ps_rc g j)) n
    have e := (nI_eq (by omega) (by omega)).mp (h1.2.trans h2.2.symm)
    have hd : g 5 q = d := h2.1.1
    have hi : ps_iC d x y z (ps_rc g q) = true := h2.1.2
    have := ps_cn_lt (P := fun j => (decide (g 5 j = d) && ps_iC d x y z (ps_rc g j)) && ps_gt (ps_rc g q) (ps_rc g j)) (Q := fun j => (decide (g 5 j = d) && ps_iC d x y z (ps_rc g j)) && ps_gt (ps_rc g k) (ps_rc g j)) (a := q) (by simp [ps_gt]) (by simp only [hd, hi, decide_true, Bool.true_and, ps_gt]; exact decide_eq_true hlt) n hq (fun j hj h => by
      simp only [Bool.and_eq_true, decide_eq_true_eq, ps_gt] at h ⊢
      refine ⟨h.1, ?_⟩
      have h3 : ps_rk (g 0 q) < ps_rk (g 0 j) := h.2
      show ps_rk (g 0 k) < ps_rk (g 0 j)
      omega)
    omega
  have a1 := key k q hk hq h1 h2
  have a2 := key q k hq hk h2 h1
  exact ps_rk_inj (by omega)
section PSS
variable {n1 n2 : Nat} {g1 g2 : ps_G} {lf le : Nat} {lh : Nat → Int32} {cx cy cz pl pw : Int32} {mn kn : Nat} {co : Int32} {ln : Nat} {wr lt : Int32} {f : ps_G}
theorem ps_Jkept (h : ps_J n1 n2 g1 g2 lf le lh cx cy cz pl pw mn kn co ln wr lt f) (d x y z i : Int32) :
    (∃ k q, n1 ≤ 48 ∧ ps_cu d x y z = true ∧ ps_fp (ps_fk g1 d x y z i) n1 = some k ∧ mn ≤ 48 ∧ ps_inr d 0 4 = true ∧ ps_inr x 0 (((1 : Int32) <<< (d &&& 31)) - 1) = true ∧ ps_inr y 0 (((1 : Int32) <<< (d &&& 31)) - 1) = true ∧ ps_inr z 0 (((1 : Int32) <<< (d &&& 31)) - 1) = true ∧ ps_fp (ps_kz f mn (ps_pk (x <<< ((4 - d) &&& 31)) (y <<< ((4 - d) &&& 31)) (z <<< ((4 - d) &&& 31))) d i) mn = some q ∧ g1 0 k = f 0 q)
    ∨ (ps_cu d x y z = false ∧ ¬ (ps_inr d 0 4 = true ∧ ps_inr x 0 (((1 : Int32) <<< (d &&& 31)) - 1) = true ∧ ps_inr y 0 (((1 : Int32) <<< (d &&& 31)) - 1) = true ∧ ps_inr z 0 (((1 : Int32) <<< (d &&& 31)) - 1) = true))
    ∨ (n1 ≤ 48 ∧ ps_cu d x y z = true ∧ ps_fp (ps_fk g1 d x y z i) n1 = none ∧ mn ≤ 48 ∧ ps_inr d 0 4 = true ∧ ps_inr x 0 (((1 : Int32) <<< (d &&& 31)) - 1) = true ∧ ps_inr y 0 (((1 : Int32) <<< (d &&& 31)) - 1) = true ∧ ps_inr z 0 (((1 : Int32) <<< (d &&& 31)) - 1) = true ∧ ps_fp (ps_kz f mn (ps_pk (x <<< ((4 - d) &&& 31)) (y <<< ((4 - d) &&& 31)) (z <<< ((4 - d) &&& 31))) d i) mn = none) := by
  obtain ⟨⟨hT, hM, hD⟩, hK, hL, hC, hP, hW⟩ := h
  have hlen := ps_JM_len hM
  have h48 := hT.1
  cases hd : ps_de d with
  | false =>
    refine Or.inr (Or.inl ⟨by simp [ps_cu, hd], fun hh => ?_⟩)
    have := hh.1
    rw [ps_inr4, hd] at this
    cases this
  | true =>
    have hd2 := hd
    simp only [ps_de, Bool.and_eq_true, decide_eq_true_eq] at hd2
    obtain ⟨j, hj, rfl⟩ := nI_of2 (x := d) (M := 4) (n := 4) (by decide) hd2.1 (Int32.not_lt.mp hd2.2)
    rw [ps_ci_inr (by omega), ps_ci_inr (by omega), ps_ci_inr (by omega)]
    cases hcu : ps_cu (nI j) x y z with
    | false =>
      refine Or.inr (Or.inl ⟨rfl, fun hh => ?_⟩)
      simp [ps_cu, hd, hh.2.1, hh.2.2.1, hh.2.2.2] at hcu
    | true =>
      have hc := hcu
      simp only [ps_cu, Bool.and_eq_true] at hc
      obtain ⟨⟨⟨-, hx⟩, hy⟩, hz⟩ := hc
      obtain ⟨x1, x2⟩ := ps_ci_of (by omega : j < 5) hx
      obtain ⟨y1, y2⟩ := ps_ci_of (by omega : j < 5) hy
      obtain ⟨z1, z2⟩ := ps_ci_of (by omega : j < 5) hz
      obtain ⟨a0, a1, a2, -⟩ := ps_ax_pk x1 y1 z1
      generalize hpe : ps_pk (x <<< ((4 - nI j) &&& 31)) (y <<< ((4 - nI j) &&& 31)) (z <<< ((4 - nI j) &&& 31)) = p at a0 a1 a2 ⊢
      have hmo : ∀ a, ps_mo (f 1 a) p (nI j) = ps_iC (nI j) x y z (ps_rm (f 0) (f 1) (f 2) (f 3) a) := fun a => by
        unfold ps_mo ps_iC
        rw [a0, a1, a2, x2, y2, z2]
        rfl
      have hkz : ∀ a, a < mn → ps_kz f mn p (nI j) i a = ps_Mt (ps_ml (ps_rc g1) n1) (nI j) x y z i (ps_rm (f 0) (f 1) (f 2) (f 3) a) := by
        intro a ha
        unfold ps_kz ps_Mt
        rw [hmo, hM.1.countP_eq]
        have e : ps_cn (ps_kq f p (nI j) a) mn = (ps_ml (ps_rm (f 0) (f 1) (f 2) (f 3)) mn).countP (fun s => (decide (ps_rd s = nI j) && ps_iC (nI j) x y z s) && ps_gt (ps_rm (f 0) (f 1) (f 2) (f 3) a) s) := ps_cn_ml (fun b hb => by
          unfold ps_kq
          rw [hmo]
          rfl)
        rw [e]
        rfl
      cases h1 : ps_fp (ps_fk g1 (nI j) x y z i) n1 with
      | some k =>
        obtain ⟨hk, hm, -⟩ := ps_fp_spec h1
        rw [ps_fk_Mt hT hk] at hm
        obtain ⟨q0, hq0, eq0⟩ := ps_ml_mem.mp (hM.1.mem_iff.mp (ps_ml_mem.mpr ⟨k, hk, rfl⟩))
        cases h2 : ps_fp (ps_kz f mn p (nI j) i) mn with
        | none =>
          have := ps_fp_spec0 h2 q0 hq0
          rw [hkz q0 hq0, eq0, hm] at this
          cases this
        | some q =>
          obtain ⟨hq, hmq, -⟩ := ps_fp_spec h2
          rw [hkz q hq] at hmq
          obtain ⟨k2, hk2, ek2⟩ := ps_ml_mem.mp (hM.1.mem_iff.mpr (ps_ml_mem.mpr ⟨q, hq, rfl⟩))
          rw [← ek2] at hmq
          have e3 := ps_Mt_uniq hT hk hk2 hm hmq
          have e4 : g1 0 k2 = f 0 q := congrArg (fun t : ps_R => t.1) ek2
          exact Or.inl ⟨k, q, h48, rfl, rfl, by omega, hd, hx, hy, hz, rfl, e3.trans e4⟩
      | none =>
        refine Or.inr (Or.inr ⟨h48, rfl, rfl, by omega, hd, hx, hy, hz, ?_⟩)
        cases h2 : ps_fp (ps_kz f mn p (nI j) i) mn with
        | none => rfl
        | some q =>
          obtain ⟨hq, hmq, -⟩ := ps_fp_spec h2
          rw [hkz q hq] at hmq
          obtain ⟨k2, hk2, ek2⟩ := ps_ml_mem.mp (hM.1.mem_iff.mpr (ps_ml_mem.mpr ⟨q, hq, rfl⟩))
          rw [← ek2, ← ps_fk_Mt hT hk2, ps_fp_spec0 h1 k2 hk2] at hmq
          cases hmq
end PSS
