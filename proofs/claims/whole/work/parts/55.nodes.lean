/-! nodes and pages: counted over the class's rows, summed over the reference's first rows -/
abbrev ps_N4 : Type := Int32 × Int32 × Int32 × Int32
/-- a record's node -/
def ps_nk (a : ps_R) : ps_N4 := (ps_rd a, ps_cb (ps_rd a) a.2.1, ps_cb (ps_rd a) a.2.2.1, ps_cb (ps_rd a) a.2.2.2.1)
theorem ps_nk_eq (a b : ps_R) : (decide (ps_rd b = ps_rd a) && ps_rs (ps_rd a) b a) = decide (ps_nk b = ps_nk a) := by
  rw [Bool.eq_iff_iff]
  simp only [ps_nk, ps_rs, Bool.and_eq_true, decide_eq_true_eq, Prod.mk.injEq]
  constructor
  · rintro ⟨h, ⟨h1, h2⟩, h3⟩
    rw [h]
    exact ⟨rfl, h1, h2, h3⟩
  · rintro ⟨h, h1, h2, h3⟩
    rw [h] at h1 h2 h3
    exact ⟨h, ⟨h1, h2⟩, h3⟩
/-- over the list: where the earlier ones of the same node number as h says -/
def ps_pF (w : ps_N4 → Bool) (h : Nat → Bool) : List ps_N4 → Nat
  | [] => 0
  | a :: L => ps_pF w h L + (if (w a && h (L.countP (fun b => decide (b = a)))) = true then 1 else 0)
theorem ps_pF_perm {w : ps_N4 → Bool} {h : Nat → Bool} {L L' : List ps_N4} (p : L.Perm L') : ps_pF w h L = ps_pF w h L' := by
  induction p with
  | nil => rfl
  | cons x p ih =>
    show ps_pF w h _ + _ = ps_pF w h _ + _
    rw [ih, p.countP_eq]
  | swap x y L =>
    by_cases e : x = y
    · rw [e]
    · have e2 : ¬ y = x := fun q => e q.symm
      show ps_pF w h L + _ + _ = ps_pF w h L + _ + _
      rw [List.countP_cons, List.countP_cons]
      simp only [e, e2, decide_false, Bool.false_eq_true, if_false, Nat.add_zero]
      omega
  | trans _ _ i1 i2 => rw [i1, i2]
theorem ps_pF_ml {w : ps_N4 → Bool} {h : Nat → Bool} (F : Nat → ps_N4) : ∀ n, ps_pF w h (ps_ml F n) = ps_cn (fun k => w (F k) && h (ps_cn (fun j => decide (F j = F k)) k)) n
  | 0 => rfl
  | n + 1 => by
    rw [ps_ml_S, ps_pF_perm (List.perm_append_singleton _ _), ps_cnS, ← ps_pF_ml F n]
    show ps_pF w h (ps_ml F n) + _ = _
    rw [← ps_cn_ml (F := F) (P := fun j => decide (F j = F n)) (fun _ _ => rfl)]
theorem ps_all_cn {P : Nat → Bool} : ∀ n, ps_all (fun q => !P q) n = decide (ps_cn P n = 0)
  | 0 => rfl
  | n + 1 => by
    show (ps_all (fun q => !P q) n && !P n) = _
    rw [ps_all_cn n, ps_cnS]
    cases e : P n with
    | true => simp
    | false => simp
theorem ps_tp_congr {F F' : Nat → Bool} {C C' : Nat → Nat} : ∀ n, (∀ k, k < n → F k = F' k) → (∀ k, k < n → F k = true → C k = C' k) → ps_tp F C n = ps_tp F' C' n
  | 0, _, _ => rfl
  | n + 1, h1, h2 => by
    have ih := ps_tp_congr n (fun k hk => h1 k (by omega)) (fun k hk => h2 k (by omega))
    cases e : F n with
    | true => rw [ps_tp_t e, ps_tp_t (by rw [← h1 n (by omega)]; exact e), ih, h2 n (by omega) e]
    | false => rw [ps_tp_f e, ps_tp_f (by rw [← h1 n (by omega)]; exact e), ih]
/-- one more row: the sum over the first rows of its node -/
theorem ps_tp_more {w : ps_N4 → Bool} (F : Nat → ps_N4) (n : Nat) : ∀ m, ps_tp (fun k => w (F k) && decide (ps_cn (fun j => decide (F j = F k)) k = 0)) (fun k => ps_cn (fun j => decide (F j = F k)) (n + 1)) m = ps_tp (fun k => w (F k) && decide (ps_cn (fun j => decide (F j = F k)) k = 0)) (fun k => ps_cn (fun j => decide (F j = F k)) n) m + (if w (F n) = true ∧ ps_cn (fun j => decide (F j = F n)) m ≠ 0 ∧ ps_cn (fun j => decide (F j = F n)) n % 6 = 0 then 1 else 0)
  | 0 => by
    simp [ps_tp, ps_cn0]
  | m + 1 => by
    have ih := ps_tp_more (w := w) F n m
    have hS : ∀ a, ps_cn (fun j => decide (F j = a)) (n + 1) = ps_cn (fun j => decide (F j = a)) n + (if F n = a then 1 else 0) := fun a => by
      rw [ps_cnS]; simp
    have hM : ∀ a, ps_cn (fun j => decide (F j = a)) (m + 1) = ps_cn (fun j => decide (F j = a)) m + (if F m = a then 1 else 0) := fun a => by
      rw [ps_cnS]; simp
    by_cases hw : w (F m) = true
    · by_cases h0 : ps_cn (fun j => decide (F j = F m)) m = 0
      · have hF : (w (F m) && decide (ps_cn (fun j => decide (F j = F m)) m = 0)) = true := by simp [hw, h0]
        rw [ps_tp_t (F := fun k => w (F k) && decide (ps_cn (fun j => decide (F j = F k)) k = 0)) hF, ps_tp_t (F := fun k => w (F k) && decide (ps_cn (fun j => decide (F j = F k)) k = 0)) hF, ih]
        simp only [hS]
        by_cases e : F m = F n
        · rw [e] at h0 hw
          have hm1 : ps_cn (fun j => decide (F j = F n)) (m + 1) = 1 := by rw [hM, h0, if_pos e]
          rw [e, if_pos rfl, hm1, h0]
          generalize ps_cn (fun j => decide (F j = F n)) n = c
          simp only [hw, ne_eq, true_and, not_true_eq_false, false_and, if_false]
          split <;> omega
        · have e2 : ¬ F n = F m := fun q => e q.symm
          rw [if_neg e2, hM, if_neg e]
          simp only [Nat.add_zero]
          omega
      · have hF : (w (F m) && decide (ps_cn (fun j => decide (F j = F m)) m = 0)) = false := by simp [h0]
        rw [ps_tp_f (F := fun k => w (F k) && decide (ps_cn (fun j => decide (F j = F k)) k = 0)) hF, ps_tp_f (F := fun k => w (F k) && decide (ps_cn (fun j => decide (F j = F k)) k = 0)) hF, ih, hM]
        by_cases e : F m = F n
        · rw [e] at h0
          rw [if_pos e]
          have a1 : ps_cn (fun j => decide (F j = F n)) m ≠ 0 := h0
          have a2 : ps_cn (fun j => decide (F j = F n)) m + 1 ≠ 0 := by omega
          simp only [a1, a2, ne_eq, not_false_eq_true, true_and]
        · rw [if_neg e, Nat.add_zero]
    · have hF : (w (F m) && decide (ps_cn (fun j => decide (F j = F m)) m = 0)) = false := by simp [hw]
      rw [ps_tp_f (F := fun k => w (F k) && decide (ps_cn (fun j => decide (F j = F k)) k = 0)) hF, ps_tp_f (F := fun k => w (F k) && decide (ps_cn (fun j => decide (F j = F k)) k = 0)) hF, ih, hM]
      by_cases e : F m = F n
      · rw [e] at hw
        simp only [hw, false_and, if_false, Bool.false_eq_true]
      · rw [if_neg e, Nat.add_zero]
theorem ps_tp_pF {w : ps_N4 → Bool} (F : Nat → ps_N4) : ∀ n, ps_tp (fun k => w (F k) && decide (ps_cn (fun j => decide (F j = F k)) k = 0)) (fun k => ps_cn (fun j => decide (F j = F k)) n) n = ps_pF w (fun c => decide (c % 6 = 0)) (ps_ml F n)
  | 0 => rfl
  | n + 1 => by
    have ih := ps_tp_pF (w := w) F n
    rw [ps_pF_ml] at ih ⊢
    have hS : ps_cn (fun j => decide (F j = F n)) (n + 1) = ps_cn (fun j => decide (F j = F n)) n + 1 := by
      rw [ps_cnS]; simp
    rw [ps_cnS]
    have hmore := ps_tp_more (w := w) F n n
    cases hF : (w (F n) && decide (ps_cn (fun j => decide (F j = F n)) n = 0)) with
    | true =>
      rw [ps_tp_t (F := fun k => w (F k) && decide (ps_cn (fun j => decide (F j = F k)) k = 0)) hF, hmore, ih]
      simp only [Bool.and_eq_true, decide_eq_true_eq] at hF
      obtain ⟨hw, h0⟩ := hF
      rw [hS, h0]
      simp [hw]
    | false =>
      rw [ps_tp_f (F := fun k => w (F k) && decide (ps_cn (fun j => decide (F j = F k)) k = 0)) hF, hmore, ih]
      simp only [Bool.and_eq_false_iff, decide_eq_false_iff_not] at hF
      rcases hF with hw | h0
      · simp [hw]
      · simp only [Bool.and_eq_true, decide_eq_true_eq]
        have a1 : ps_cn (fun j => decide (F j = F n)) n ≠ 0 := h0
        simp only [a1, ne_eq, not_false_eq_true, true_and]
/-- the class's places -/
theorem ps_JT_pl {n : Nat} {g : ps_G} (h : ps_JT n g) {k : Nat} (hk : k < n) : g 6 k = nI (ps_cn (fun j => decide (ps_nk (ps_rc g j) = ps_nk (ps_rc g k))) k) := by
  obtain ⟨e5, e6⟩ := h.2.2.2 k hk
  rw [e6]
  congr 1
  generalize ps_dn (ps_kc g k) = dn at e5 e6 ⊢
  refine ps_cn_congr (fun j hj => ?_)
  rw [← ps_nk_eq]
  show ps_kb g (nI dn) k j = _
  rw [← e5]
  rfl
theorem ps_JT_cn {n : Nat} {g : ps_G} (hT : ps_JT n g) (w : ps_N4 → Bool) {h' : Int32 → Bool} {h : Nat → Bool} (hh : ∀ c, c < 48 → h' (nI c) = h c) : ps_cn (fun k => w (ps_nk (ps_rc g k)) && h' (g 6 k)) n = ps_pF w h (ps_ml (fun k => ps_nk (ps_rc g k)) n) := by
  rw [ps_pF_ml]
  refine ps_cn_congr (fun k hk => ?_)
  rw [ps_JT_pl hT hk, hh _ (by have := ps_cn_le (fun j => decide (ps_nk (ps_rc g j) = ps_nk (ps_rc g k))) k; have := hT.1; omega)]
theorem ps_bp_nI {c : Nat} (h : c < 48) : ps_bp (nI c) = decide (c % 6 = 0) := by
  unfold ps_bp
  have e : nI c - nI c / 6 * 6 = nI (c % 6) := pk_rem (a := c) (d := 6) (by omega) (by decide) (by decide)
  rw [e]
  have e2 : nI (c % 6) = 0 ↔ c % 6 = 0 := nI_eq (b := 0) (by omega) (by decide)
  simp only [e2]
theorem ps_pl0 {c : Nat} (h : c < 48) : decide (nI c = 0) = decide (c = 0) := by
  have e2 : nI c = 0 ↔ c = 0 := nI_eq (b := 0) (by omega) (by decide)
  simp only [e2]
theorem ps_JM_nk {n : Nat} {g : ps_G} {m : Nat} {i p c d : Nat → Int32} (h : ps_JM n g m i p c d) : (ps_ml (fun k => ps_nk (ps_rc g k)) n).Perm (ps_ml (fun k => ps_nk (ps_rm i p c d k)) m) := by
  have := h.1.map ps_nk
  rwa [ps_ml_map, ps_ml_map] at this
theorem ps_nodes {n : Nat} {g : ps_G} {m : Nat} {i p c d : Nat → Int32} (hT : ps_JT n g) (hM : ps_JM n g m i p c d) : ps_cn (fun k => decide (g 6 k = 0)) n = ps_cn (fun k => ps_all (ps_nf d p k) k) m := by
  have h1 := ps_JT_cn hT (fun _ => true) (h' := fun v => decide (v = 0)) (h := fun c => decide (c = 0)) (fun c hc => ps_pl0 hc)
  rw [ps_pF_perm (ps_JM_nk hM), ps_pF_ml] at h1
  refine (ps_cn_congr (fun k hk => ?_)).trans (h1.trans (ps_cn_congr (fun k hk => ?_)))
  · rw [Bool.true_and]
  · rw [Bool.true_and, ← ps_all_cn]
    congr 1
    funext q
    rw [← ps_nk_eq]
    rfl
theorem ps_first {d p i c : Nat → Int32} (k : Nat) : ps_all (ps_nf d p k) k = decide (ps_cn (fun j => decide (ps_nk (ps_rm i p c d j) = ps_nk (ps_rm i p c d k))) k = 0) := by
  rw [← ps_all_cn]
  congr 1
  funext q
  rw [← ps_nk_eq]
  rfl
theorem ps_pages {n : Nat} {g : ps_G} {m : Nat} {i p c d : Nat → Int32} (hT : ps_JT n g) (hM : ps_JM n g m i p c d) : ps_cn (fun k => ps_bp (g 6 k)) n = ps_tp (fun k => ps_all (ps_nf d p k) k) (fun k => ps_cn (ps_tq d p k) m) m := by
  have h1 := ps_JT_cn hT (fun _ => true) (h' := ps_bp) (h := fun c => decide (c % 6 = 0)) (fun c hc => ps_bp_nI hc)
  rw [ps_pF_perm (ps_JM_nk hM), ← ps_tp_pF] at h1
  refine (ps_cn_congr (fun k hk => ?_)).trans (h1.trans (ps_tp_congr m (fun k hk => ?_) (fun k hk _ => ?_)))
  · rw [Bool.true_and]
  · rw [Bool.true_and, ps_first (i := i) (c := c)]
  · refine ps_cn_congr (fun j hj => ?_)
    rw [← ps_nk_eq]
    rfl
section PSL
variable {n1 n2 : Nat} {g1 g2 : ps_G} {lf le : Nat} {lh : Nat → Int32} {cx cy cz pl pw : Int32} {mn kn : Nat} {co : Int32} {ln : Nat} {wr lt : Int32} {f : ps_G}
theorem ps_Jstate (h : ps_J n1 n2 g1 g2 lf le lh cx cy cz pl pw mn kn co ln wr lt f) (w : Int32) : n1 ≤ 48 ∧ n2 ≤ 48 ∧ lf ≤ le ∧ le ≤ 48 ∧ mn ≤ 48 ∧ kn ≤ 48 ∧ ps_sv n1 n2 g1 g2 lf le pw w = ps_sv2 f mn kn ln wr w := by
  obtain ⟨⟨hT, hM, hD⟩, ⟨hT2, hM2⟩, ⟨l1, l2, l3, l4⟩, hC, hP, hW⟩ := h
  have hlen := ps_JM_len hM
  have hlen2 := ps_JM_len hM2
  have h48 := hT.1
  have h482 := hT2.1
  refine ⟨h48, h482, l1, l2, by omega, by omega, ?_⟩
  unfold ps_sv ps_sv2
  rw [ps_nodes hT hM, ← ps_pages hT2 hM2, hW, l3, ps_64 (by have := ps_cn_le (fun k => ps_bp (g2 6 k)) n2; omega), hlen, hlen2]
end PSL
