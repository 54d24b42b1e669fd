/-! count and box -/
theorem ps_bw_bt (v x y : Int32) : ps_bw v x y = ps_bt x v y := by
  unfold ps_bw ps_bt
  by_cases h : x ≤ y
  · rw [if_pos h, if_neg (Int32.not_lt.mpr h)]
    by_cases h2 : x < y
    · rw [if_pos h2]
    · have : x = y := Int32.le_antisymm h (Int32.not_lt.mp h2)
      rw [if_neg h2, this]
  · have h2 : y < x := Int32.not_le.mp h
    rw [if_neg h, if_pos h2, if_neg (fun h3 => Int32.lt_irrefl (Int32.lt_trans h2 h3))]
def ps_rb (cx cy cz x y z : Int32) (r : ps_R) : Bool := ps_bt cx r.2.1 x && ps_bt cy r.2.2.1 y && ps_bt cz r.2.2.2.1 z
theorem ps_iq_rb {f : ps_G} {cx cy cz x y z : Int32} (h1 : ps_co cx = true) (h2 : ps_co cy = true) (h3 : ps_co cz = true) (hx : ps_co x = true) (hy : ps_co y = true) (hz : ps_co z = true) (k : Nat) : ps_all (ps_iq f (ps_pk cx cy cz) (ps_pk x y z) k) 3 = ps_rb cx cy cz x y z (ps_rm (f 0) (f 1) (f 2) (f 3) k) := by
  obtain ⟨a0, a1, a2, -⟩ := ps_ax_pk h1 h2 h3
  obtain ⟨b0, b1, b2, -⟩ := ps_ax_pk hx hy hz
  have e0 : ps_iq f (ps_pk cx cy cz) (ps_pk x y z) k 0 = ps_bt cx (ps_ax (f 1 k) 0) x := by
    show ps_bw (ps_ax (f 1 k) 0) (ps_ax (ps_pk cx cy cz) 0) (ps_ax (ps_pk x y z) 0) = _
    rw [ps_bw_bt, a0, b0]
  have e1 : ps_iq f (ps_pk cx cy cz) (ps_pk x y z) k 1 = ps_bt cy (ps_ax (f 1 k) 1) y := by
    show ps_bw (ps_ax (f 1 k) 1) (ps_ax (ps_pk cx cy cz) 1) (ps_ax (ps_pk x y z) 1) = _
    rw [ps_bw_bt, a1, b1]
  have e2 : ps_iq f (ps_pk cx cy cz) (ps_pk x y z) k 2 = ps_bt cz (ps_ax (f 1 k) 2) z := by
    show ps_bw (ps_ax (f 1 k) 2) (ps_ax (ps_pk cx cy cz) 2) (ps_ax (ps_pk x y z) 2) = _
    rw [ps_bw_bt, a2, b2]
  show (((true && ps_iq f (ps_pk cx cy cz) (ps_pk x y z) k 0) && ps_iq f (ps_pk cx cy cz) (ps_pk x y z) k 1) && ps_iq f (ps_pk cx cy cz) (ps_pk x y z) k 2) = _
  rw [e0, e1, e2, Bool.true_and]
  rfl
/-- the ids that a box lists, sorted -/
theorem ps_li_spec (id : Int32) : ∀ (a : Nat) (h : Nat → Int32), (∀ j, a < j → ps_li id a h j = h j) ∧ (ps_ml (ps_li id a h) (a + 1)).Perm (id :: ps_ml h a) ∧ ((ps_ml h a).Pairwise (· ≤ ·) → (ps_ml (ps_li id a h) (a + 1)).Pairwise (· ≤ ·))
  | 0, h => by
    refine ⟨fun j hj => pk_un (by omega), ?_, fun _ => ?_⟩
    · rw [ps_ml_S]
      have : ps_li id 0 h 0 = id := pk_us
      rw [this]
      exact List.Perm.refl _
    · rw [ps_ml_S]
      exact List.pairwise_singleton _ _
  | a + 1, h => by
    by_cases c : id < h a
    · rw [ps_li_t c]
      obtain ⟨i1, i2, i3⟩ := ps_li_spec id a (upd h (a + 1) (h a))
      have e1 : ps_ml (upd h (a + 1) (h a)) a = ps_ml h a := ps_ml_congr (fun j hj => pk_un (by omega))
      rw [e1] at i2 i3
      have e2 : ps_li id a (upd h (a + 1) (h a)) (a + 1) = h a := (i1 (a + 1) (by omega)).trans pk_us
      refine ⟨fun j hj => (i1 j (by omega)).trans (pk_un (by omega)), ?_, fun hs => ?_⟩
      · rw [ps_ml_S, e2, ps_ml_S h a]
        exact i2.append_right [h a]
      · rw [ps_ml_S, List.pairwise_append] at hs
        rw [ps_ml_S, List.pairwise_append]
        refine ⟨i3 hs.1, List.pairwise_singleton _ _, fun x hx y hy => ?_⟩
        rw [List.mem_singleton.mp hy, e2]
        rcases List.mem_cons.mp (i2.mem_iff.mp hx) with ex | hx2
        · rw [ex]; exact Int32.le_of_lt c
        · exact hs.2.2 x hx2 (h a) (List.mem_singleton.mpr rfl)
    · rw [ps_li_f c]
      have e1 : ps_ml (upd h (a + 1) id) (a + 1) = ps_ml h (a + 1) := ps_ml_congr (fun j hj => pk_un (by omega))
      refine ⟨fun j hj => pk_un (by omega), ?_, fun hs => ?_⟩
      · rw [ps_ml_S, e1, pk_us]
        exact List.perm_append_singleton _ _
      · rw [ps_ml_S, e1, pk_us, List.pairwise_append]
        refine ⟨hs, List.pairwise_singleton _ _, fun x hx y hy => ?_⟩
        rw [List.mem_singleton.mp hy]
        rw [ps_ml_S] at hs hx
        have hle : h a ≤ id := Int32.not_lt.mp c
        rcases List.mem_append.mp hx with hx2 | hx2
        · exact Int32.le_trans ((List.pairwise_append.mp hs).2.2 x hx2 (h a) (List.mem_singleton.mpr rfl)) hle
        · rw [List.mem_singleton.mp hx2]; exact hle
/-- the ids of the first k rows that P takes -/
def ps_tk (h : Nat → Int32) (P : Nat → Bool) (k : Nat) : List Int32 := ((List.range k).filter P).map h
theorem ps_bx_spec (g : ps_G) (P : Nat → Bool) (lh : Nat → Int32) : ∀ k, (ps_ml (ps_bx g P lh k).2 (ps_bx g P lh k).1).Perm (ps_tk (g 0) P k) ∧ (ps_ml (ps_bx g P lh k).2 (ps_bx g P lh k).1).Pairwise (· ≤ ·)
  | 0 => ⟨List.Perm.refl _, List.Pairwise.nil⟩
  | k + 1 => by
    obtain ⟨i1, i2⟩ := ps_bx_spec g P lh k
    cases e : P k with
    | true =>
      rw [ps_bx_t e]
      obtain ⟨j1, j2, j3⟩ := ps_li_spec (g 0 k) (ps_bx g P lh k).1 (ps_bx g P lh k).2
      refine ⟨j2.trans ((List.Perm.cons _ i1).trans ?_), j3 i2⟩
      have : ps_tk (g 0) P (k + 1) = ps_tk (g 0) P k ++ [g 0 k] := by
        simp [ps_tk, List.range_succ, List.filter_append, e]
      rw [this]
      exact (List.perm_append_singleton _ _).symm
    | false =>
      rw [ps_bx_f e]
      have : ps_tk (g 0) P (k + 1) = ps_tk (g 0) P k := by
        simp [ps_tk, List.range_succ, List.filter_append, e]
      rw [this]
      exact ⟨i1, i2⟩
theorem ps_tk_ml {F : Nat → ps_R} {h : Nat → Int32} {P : Nat → Bool} {Q : ps_R → Bool} (n : Nat) (h1 : ∀ k, k < n → h k = (F k).1) (h2 : ∀ k, k < n → P k = Q (F k)) : ps_tk h P n = ((ps_ml F n).filter Q).map (fun r => r.1) := by
  unfold ps_tk ps_ml
  rw [List.filter_map, List.map_map]
  have e1 : (List.range n).filter P = (List.range n).filter (Q ∘ F) := List.filter_congr (fun k hk => h2 k (List.mem_range.mp hk))
  rw [e1]
  exact List.map_congr_left (fun k hk => h1 k (List.mem_range.mp (List.mem_filter.mp hk).1))
theorem ps_ml_inj {α : Type} {F G : Nat → α} : ∀ {n m : Nat}, ps_ml F n = ps_ml G m → n = m ∧ ∀ j, j < n → F j = G j := by
  intro n m h
  have hl := congrArg List.length h
  rw [ps_ml_len, ps_ml_len] at hl
  subst hl
  refine ⟨rfl, fun j hj => ?_⟩
  have h2 := congrArg (fun l => l[j]?) h
  simpa [ps_ml, hj] using h2
section PSK
variable {n1 n2 : Nat} {g1 g2 : ps_G} {lf le : Nat} {lh : Nat → Int32} {cx cy cz pl pw : Int32} {mn kn : Nat} {co : Int32} {ln : Nat} {wr lt : Int32} {f : ps_G}
theorem ps_Jcount (h : ps_J n1 n2 g1 g2 lf le lh cx cy cz pl pw mn kn co ln wr lt f) (x y z : Int32) :
    (n1 ≤ 48 ∧ ps_co x = true ∧ ps_co y = true ∧ ps_co z = true ∧ mn ≤ 48 ∧ ps_ip x y z = true ∧ ps_cn (ps_ib g1 cx cy cz x y z) n1 = ps_cn (fun k => ps_all (ps_iq f co (ps_pk x y z) k) 3) mn)
    ∨ (¬ (ps_co x = true ∧ ps_co y = true ∧ ps_co z = true) ∧ ps_ip x y z = false) := by
  obtain ⟨⟨hT, hM, hD⟩, hK, hL, hC, hP, hW⟩ := h
  have hlen := ps_JM_len hM
  have h48 := hT.1
  by_cases hc : ps_co x = true ∧ ps_co y = true ∧ ps_co z = true
  · have hip : ps_ip x y z = true := by rw [ps_ip_co]; simp [hc.1, hc.2.1, hc.2.2]
    obtain ⟨hx, hy, hz⟩ := hc
    refine Or.inl ⟨h48, hx, hy, hz, by omega, hip, ?_⟩
    obtain ⟨rfl, c1, c2, c3⟩ := hC
    have e1 : ps_cn (ps_ib g1 cx cy cz x y z) n1 = (ps_ml (ps_rc g1) n1).countP (ps_rb cx cy cz x y z) := ps_cn_ml (fun k hk => rfl)
    have e2 : ps_cn (fun k => ps_all (ps_iq f (ps_pk cx cy cz) (ps_pk x y z) k) 3) mn = (ps_ml (ps_rm (f 0) (f 1) (f 2) (f 3)) mn).countP (ps_rb cx cy cz x y z) := ps_cn_ml (fun k hk => ps_iq_rb c1 c2 c3 hx hy hz k)
    rw [e1, e2]
    exact hM.1.countP_eq _
  · refine Or.inr ⟨hc, ?_⟩
    rw [ps_ip_co]
    cases e1 : ps_co x <;> cases e2 : ps_co y <;> cases e3 : ps_co z <;> simp_all
theorem ps_inr4 (d : Int32) : ps_inr d 0 4 = ps_de d := rfl
theorem ps_Jbox (h : ps_J n1 n2 g1 g2 lf le lh cx cy cz pl pw mn kn co ln wr lt f) (x y z d : Int32) :
    (n1 ≤ 48 ∧ ps_co x = true ∧ ps_co y = true ∧ ps_co z = true ∧ ps_de d = true ∧ mn ≤ 48 ∧ ps_ip x y z = true ∧ ps_inr d 0 4 = true ∧ (ps_bx g1 (ps_bq g1 cx cy cz x y z d) lh n1).1 = (ps_bx f (ps_mb f co (ps_pk x y z) d) (f 9) mn).1 ∧ ps_J n1 n2 g1 g2 0 (ps_bx g1 (ps_bq g1 cx cy cz x y z d) lh n1).1 (ps_bx g1 (ps_bq g1 cx cy cz x y z d) lh n1).2 cx cy cz pl pw mn kn co (ps_bx f (ps_mb f co (ps_pk x y z) d) (f 9) mn).1 wr lt (va_up f 9 (ps_bx f (ps_mb f co (ps_pk x y z) d) (f 9) mn).2))
    ∨ (¬ (ps_co x = true ∧ ps_co y = true ∧ ps_co z = true) ∧ (ps_ip x y z = true → ps_inr d 0 4 = false))
    ∨ (ps_co x = true ∧ ps_co y = true ∧ ps_co z = true ∧ ps_de d = false ∧ (ps_ip x y z = true → ps_inr d 0 4 = false)) := by
  obtain ⟨⟨hT, hM, hD⟩, hK, hL, hC, hP, hW⟩ := h
  have hlen := ps_JM_len hM
  have h48 := hT.1
  by_cases hc : ps_co x = true ∧ ps_co y = true ∧ ps_co z = true
  · have hip : ps_ip x y z = true := by rw [ps_ip_co]; simp [hc.1, hc.2.1, hc.2.2]
    obtain ⟨hx, hy, hz⟩ := hc
    cases hd : ps_de d with
    | false => exact Or.inr (Or.inr ⟨hx, hy, hz, rfl, fun _ => hd⟩)
    | true =>
      left
      have hC2 := hC
      obtain ⟨rfl, c1, c2, c3⟩ := hC
      obtain ⟨p1, s1⟩ := ps_bx_spec g1 (ps_bq g1 cx cy cz x y z d) lh n1
      obtain ⟨p2, s2⟩ := ps_bx_spec f (ps_mb f (ps_pk cx cy cz) (ps_pk x y z) d) (f 9) mn
      have t1 := ps_tk_ml (F := ps_rc g1) (h := g1 0) (P := ps_bq g1 cx cy cz x y z d) (Q := fun r => decide (¬ d < ps_rd r) && ps_rb cx cy cz x y z r) n1 (fun k hk => rfl) (fun k hk => rfl)
      have t2 := ps_tk_ml (F := ps_rm (f 0) (f 1) (f 2) (f 3)) (h := f 0) (P := ps_mb f (ps_pk cx cy cz) (ps_pk x y z) d) (Q := fun r => decide (¬ d < ps_rd r) && ps_rb cx cy cz x y z r) mn (fun k hk => rfl) (fun k hk => by
        show (ps_all (ps_iq f (ps_pk cx cy cz) (ps_pk x y z) k) 3 && decide (¬ d < f 3 k)) = _
        rw [ps_iq_rb c1 c2 c3 hx hy hz k, Bool.and_comm]
        rfl)
      have hp : (ps_tk (g1 0) (ps_bq g1 cx cy cz x y z d) n1).Perm (ps_tk (f 0) (ps_mb f (ps_pk cx cy cz) (ps_pk x y z) d) mn) := by
        rw [t1, t2]
        exact (hM.1.filter _).map _
      have he := List.Perm.eq_of_pairwise (le := fun a b : Int32 => a ≤ b) (fun a b _ _ h1 h2 => Int32.le_antisymm h1 h2) s1 s2 (p1.trans (hp.trans p2.symm))
      obtain ⟨e1, e2⟩ := ps_ml_inj he
      have hle := ps_bx_le g1 (ps_bq g1 cx cy cz x y z d) lh n1
      refine ⟨h48, hx, hy, hz, rfl, by omega, hip, hd, e1, ⟨hT, ?_, ?_⟩, ?_, ⟨by omega, by omega, by omega, fun j hj => ?_⟩, hC2, hP, hW⟩
      · simpa [va_up] using hM
      · simpa [va_up] using hD
      · simpa [va_up] using hK
      · rw [va_up_self, Nat.zero_add]
        exact (e2 j (by omega)).symm
  · refine Or.inr (Or.inl ⟨hc, fun h2 => ?_⟩)
    rw [ps_ip_co] at h2
    exact absurd (by simpa [and_assoc] using h2) hc
end PSK
