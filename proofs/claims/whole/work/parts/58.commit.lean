/-! commit -/
abbrev ps_G1 (g1 : ps_G) (n1 : Nat) (g2 : ps_G) (n2 : Nat) : ps_G := va_up g1 7 (ps_mk g1 n2 g2 n1)
abbrev ps_G2 (g1 : ps_G) (n1 : Nat) (g2 : ps_G) (n2 : Nat) : ps_G := va_up g2 7 (ps_mk g2 n1 (va_up g1 7 (ps_mk g1 n2 g2 n1)) n2)
theorem ps_al_mem {n : Nat} {g : ps_G} (hT : ps_JT n g) (o : ps_G) (k : Nat) : ps_al g n o k = decide (ps_rc o k ∈ ps_ml (ps_rc g) n) := by
  cases h : ps_fi (g 0) (o 0 k) n with
  | none =>
    rw [ps_al_0 h]
    symm
    rw [decide_eq_false_iff_not]
    intro hm
    obtain ⟨w, hw, e⟩ := ps_ml_mem.mp hm
    exact ps_fi_spec0 h w hw (congrArg (fun t : ps_R => t.1) e)
  | some w =>
    obtain ⟨hw, e0, -⟩ := ps_fi_spec h
    rw [ps_al_S h, Bool.eq_iff_iff]
    simp only [Bool.and_eq_true, decide_eq_true_eq]
    constructor
    · rintro ⟨⟨⟨⟨h1, h2⟩, h3⟩, h4⟩, h5⟩
      exact ps_ml_mem.mpr ⟨w, hw, by simp only [ps_rc, e0, h1, h2, h3, h4, h5]⟩
    · intro hm
      have e : ps_rc g w = ps_rc o k := ps_ds_eq (ps_JT_ds hT) (ps_ml_mem.mpr ⟨w, hw, rfl⟩) hm e0
      simp only [ps_rc, Prod.mk.injEq] at e
      exact ⟨⟨⟨⟨e.2.1, e.2.2.1⟩, e.2.2.2.1⟩, e.2.2.2.2.1⟩, e.2.2.2.2.2⟩
theorem ps_ex_iff {Q : Nat → Bool} : ∀ n, ps_ex Q n = true ↔ ∃ q, q < n ∧ Q q = true
  | 0 => by simp [ps_ex]
  | n + 1 => by
    show (ps_ex Q n || Q n) = true ↔ _
    rw [Bool.or_eq_true, ps_ex_iff n]
    constructor
    · rintro (⟨q, hq, e⟩ | e)
      · exact ⟨q, by omega, e⟩
      · exact ⟨n, by omega, e⟩
    · rintro ⟨q, hq, e⟩
      by_cases c : q = n
      · subst c; exact Or.inr e
      · exact Or.inl ⟨q, by omega, e⟩
theorem ps_all_iff {Q : Nat → Bool} : ∀ n, ps_all Q n = true ↔ ∀ q, q < n → Q q = true
  | 0 => by simp [ps_all]
  | n + 1 => by
    show (ps_all Q n && Q n) = true ↔ _
    rw [Bool.and_eq_true, ps_all_iff n]
    constructor
    · rintro ⟨h1, h2⟩ q hq
      by_cases c : q = n
      · subst c; exact h2
      · exact h1 q (by omega)
    · intro h
      exact ⟨fun q hq => h q (by omega), h n (by omega)⟩
theorem ps_any_ff {P : Nat → Bool} {n : Nat} : ps_any P n = false ↔ ∀ k, k < n → P k = false := by
  constructor
  · intro h k hk
    cases e : P k with
    | false => rfl
    | true => rw [ps_any_t hk e] at h; cases h
  · exact ps_any_f
theorem ps_place_eq {v w : Nat} (hv : v < 4096) (hw : w < 4096) (h0 : ps_ax (nI v) 0 = ps_ax (nI w) 0) (h1 : ps_ax (nI v) 1 = ps_ax (nI w) 1) (h2 : ps_ax (nI v) 2 = ps_ax (nI w) 2) : nI v = nI w := by
  obtain ⟨a0, a1, a2⟩ := ps_ax_nI hv
  obtain ⟨b0, b1, b2⟩ := ps_ax_nI hw
  rw [a0, b0] at h0
  rw [a1, b1] at h1
  rw [a2, b2] at h2
  have e0 := (nI_eq (by omega) (by omega)).mp h0
  have e1 := (nI_eq (by omega) (by omega)).mp h1
  have e2 := (nI_eq (by omega) (by omega)).mp h2
  congr 1
  omega
/-- the records of a subtree -/
def ps_S (v : ps_N4) (r : ps_R) : Bool := decide (v.1 ≤ ps_rd r) && (decide (ps_cb v.1 r.2.1 = v.2.1) && decide (ps_cb v.1 r.2.2.1 = v.2.2.1) && decide (ps_cb v.1 r.2.2.2.1 = v.2.2.2))
/-- both lists keep the same of S -/
def ps_cA (A B : List ps_R) (S : ps_R → Bool) : Bool := A.all (fun r => !S r || decide (r ∈ B)) && B.all (fun r => !S r || decide (r ∈ A))
theorem ps_cA_iff {A B : List ps_R} {S : ps_R → Bool} : ps_cA A B S = true ↔ (∀ r, r ∈ A → S r = true → r ∈ B) ∧ (∀ r, r ∈ B → S r = true → r ∈ A) := by
  have one : ∀ X Y : List ps_R, X.all (fun r => !S r || decide (r ∈ Y)) = true ↔ ∀ r, r ∈ X → S r = true → r ∈ Y := by
    intro X Y
    rw [List.all_eq_true]
    constructor
    · intro h r hr hs
      have := h r hr
      rw [hs] at this
      simpa using this
    · intro h r hr
      cases e : S r with
      | false => rfl
      | true => simpa using h r hr e
  unfold ps_cA
  rw [Bool.and_eq_true, one, one]
theorem ps_same_count {A B : List ps_R} (hA : A.Nodup) (hB : B.Nodup) {S : ps_R → Bool} (h : ∀ r, r ∈ A → S r = true → r ∈ B) : A.countP S = B.countP S ↔ ∀ r, r ∈ B → S r = true → r ∈ A := by
  rw [List.countP_eq_length_filter, List.countP_eq_length_filter]
  have hsub : A.filter S ⊆ B.filter S := fun r hr => by
    rw [List.mem_filter] at hr ⊢
    exact ⟨h r hr.1 hr.2, hr.2⟩
  constructor
  · intro hl r hr hs
    refine Classical.byContradiction fun hn => ?_
    have hnd : (r :: A.filter S).Nodup := List.nodup_cons.mpr ⟨fun hm => hn (List.mem_filter.mp hm).1, hA.filter _⟩
    have hle := List.Nodup.length_le_of_subset hnd (fun q hq => by
      rcases List.mem_cons.mp hq with e | hq2
      · rw [e]; exact List.mem_filter.mpr ⟨hr, hs⟩
      · exact hsub hq2)
    rw [List.length_cons] at hle
    omega
  · intro h2
    have l1 := List.Nodup.length_le_of_subset (hA.filter S) hsub
    have l2 := List.Nodup.length_le_of_subset (hB.filter S) (fun r hr => by
      rw [List.mem_filter] at hr ⊢
      exact ⟨h2 r hr.1 hr.2, hr.2⟩)
    omega
theorem ps_dn_le (c : Nat → Nat) : ps_dn c ≤ 4 := by
  unfold ps_dn
  repeat' split
  all_goals omega
theorem ps_JT_dep {n : Nat} {g : ps_G} (h : ps_JT n g) {r : ps_R} (hr : r ∈ ps_ml (ps_rc g) n) : 0 ≤ ps_rd r := by
  obtain ⟨k, hk, rfl⟩ := ps_ml_mem.mp hr
  show 0 ≤ g 5 k
  rw [(h.2.2.2 k hk).1]
  have := ps_dn_le (ps_kc g k)
  exact nI_pos' (by omega)
theorem ps_cb0_all : ∀ a : Fin 16, ps_cb 0 (nI a.val) = 0 := by decide +kernel
theorem ps_S0 {r : ps_R} (hd : 0 ≤ ps_rd r) (hr : ps_ok r) : ps_S (0, ps_cb 0 (ps_ax 0 0), ps_cb 0 (ps_ax 0 1), ps_cb 0 (ps_ax 0 2)) r = true := by
  have c0 : ∀ v, ps_co v = true → ps_cb 0 v = 0 := fun v hv => by
    obtain ⟨a, ha, rfl⟩ := ps_co_of hv
    exact ps_cb0_all ⟨a, ha⟩
  have e0 : ps_cb 0 (ps_ax 0 0) = 0 := by decide
  have e1 : ps_cb 0 (ps_ax 0 1) = 0 := by decide
  have e2 : ps_cb 0 (ps_ax 0 2) = 0 := by decide
  simp only [ps_S, e0, e1, e2, c0 _ hr.1, c0 _ hr.2.1, c0 _ hr.2.2, hd, decide_true, Bool.and_self]
theorem ps_cA_congr {A B : List ps_R} {S S' : ps_R → Bool} (hA : ∀ r, r ∈ A → S r = S' r) (hB : ∀ r, r ∈ B → S r = S' r) : ps_cA A B S = ps_cA A B S' := by
  rw [Bool.eq_iff_iff, ps_cA_iff, ps_cA_iff]
  constructor
  · rintro ⟨h1, h2⟩
    exact ⟨fun r hr hs => h1 r hr (by rw [hA r hr]; exact hs), fun r hr hs => h2 r hr (by rw [hB r hr]; exact hs)⟩
  · rintro ⟨h1, h2⟩
    exact ⟨fun r hr hs => h1 r hr (by rw [← hA r hr]; exact hs), fun r hr hs => h2 r hr (by rw [← hB r hr]; exact hs)⟩
section PST
variable {n1 n2 : Nat} {g1 g2 : ps_G} {mn kn : Nat} {f : ps_G}
theorem ps_G1_ot (i : Nat) (h : i ≠ 7) : ps_G1 g1 n1 g2 n2 i = g1 i := va_up_ne _ _ h
theorem ps_G2_ot (i : Nat) (h : i ≠ 7) : ps_G2 g1 n1 g2 n2 i = g2 i := va_up_ne _ _ h
theorem ps_rc_up (g : ps_G) (v : Nat → Int32) : ps_rc (va_up g 7 v) = ps_rc g := by
  funext k
  simp [ps_rc, va_up]
theorem ps_JT_up {n : Nat} {g : ps_G} (h : ps_JT n g) (v : Nat → Int32) : ps_JT n (va_up g 7 v) := ps_JT_congr h (fun i hi _ j _ => by rw [va_up_ne _ _ (by omega)])
/-- the reference's clean -/
theorem ps_cl_cA (hT : ps_JT n1 g1) (hM : ps_JM n1 g1 mn (f 0) (f 1) (f 2) (f 3)) (hT2 : ps_JT n2 g2) (hM2 : ps_JM n2 g2 kn (f 4) (f 5) (f 6) (f 7)) (p d : Int32) : ps_cl f mn kn p d = ps_cA (ps_ml (ps_rc g1) n1) (ps_ml (ps_rc g2) n2) (ps_S (d, ps_cb d (ps_ax p 0), ps_cb d (ps_ax p 1), ps_cb d (ps_ax p 2))) := by
  have k1 : ∀ k, ps_c1 f p d k = ps_S (d, ps_cb d (ps_ax p 0), ps_cb d (ps_ax p 1), ps_cb d (ps_ax p 2)) (ps_rm (f 0) (f 1) (f 2) (f 3) k) := fun k => by
    unfold ps_c1 ps_S
    simp only [Int32.not_lt]
    rfl
  have k2 : ∀ k, ps_c2 f p d k = ps_S (d, ps_cb d (ps_ax p 0), ps_cb d (ps_ax p 1), ps_cb d (ps_ax p 2)) (ps_rm (f 4) (f 5) (f 6) (f 7) k) := fun k => by
    unfold ps_c2 ps_S
    simp only [Int32.not_lt]
    rfl
  generalize ps_S (d, ps_cb d (ps_ax p 0), ps_cb d (ps_ax p 1), ps_cb d (ps_ax p 2)) = S at k1 k2 ⊢
  have hcq : ∀ k, k < mn → (ps_ex (ps_cq f k) kn = true ↔ ps_rm (f 0) (f 1) (f 2) (f 3) k ∈ ps_ml (ps_rc g2) n2) := by
    intro k hk
    rw [ps_ex_iff, hM2.1.mem_iff, ps_ml_mem]
    constructor
    · rintro ⟨q, hq, e⟩
      simp only [ps_cq, Bool.and_eq_true, decide_eq_true_eq] at e
      exact ⟨q, hq, by simp only [ps_rm, e.1.1.1, e.1.1.2, e.1.2, e.2]⟩
    · rintro ⟨q, hq, e⟩
      refine ⟨q, hq, ?_⟩
      simp only [ps_rm, Prod.mk.injEq] at e
      obtain ⟨v, hv, ev⟩ := hM2.2 q hq
      obtain ⟨w, hw, ew⟩ := hM.2 k hk
      have ep : f 5 q = f 1 k := by
        rw [ev, ew]
        rw [ev, ew] at e
        exact ps_place_eq hv hw e.2.1 e.2.2.1 e.2.2.2.1
      simp only [ps_cq, e.1, ep, e.2.2.2.2.1, e.2.2.2.2.2, decide_true, Bool.and_self]
  have c1 : ps_cn (ps_c1 f p d) mn = (ps_ml (ps_rc g1) n1).countP S := by
    rw [hM.1.countP_eq]
    exact ps_cn_ml (fun k _ => k1 k)
  have c2 : ps_cn (ps_c2 f p d) kn = (ps_ml (ps_rc g2) n2).countP S := by
    rw [hM2.1.countP_eq]
    exact ps_cn_ml (fun k _ => k2 k)
  have hin : ps_all (ps_sm f kn p d) mn = true ↔ ∀ r, r ∈ ps_ml (ps_rc g1) n1 → S r = true → r ∈ ps_ml (ps_rc g2) n2 := by
    rw [ps_all_iff]
    constructor
    · intro h r hr hs
      obtain ⟨k, hk, rfl⟩ := ps_ml_mem.mp (hM.1.mem_iff.mp hr)
      have h2 := h k hk
      unfold ps_sm at h2
      rw [k1, hs] at h2
      exact (hcq k hk).mp (by simpa using h2)
    · intro h k hk
      unfold ps_sm
      rw [k1]
      cases e : S (ps_rm (f 0) (f 1) (f 2) (f 3) k) with
      | false => rfl
      | true =>
        have := (hcq k hk).mpr (h _ (hM.1.mem_iff.mpr (ps_ml_mem.mpr ⟨k, hk, rfl⟩)) e)
        rw [this]
        rfl
  rw [Bool.eq_iff_iff, ps_cA_iff]
  unfold ps_cl
  rw [Bool.and_eq_true, hin, decide_eq_true_eq, c1, c2]
  constructor
  · rintro ⟨h1, h2⟩
    exact ⟨h1, (ps_same_count (ps_ds_nodup (ps_JT_ds hT)) (ps_ds_nodup (ps_JT_ds hT2)) h1).mp h2⟩
  · rintro ⟨h1, h2⟩
    exact ⟨h1, (ps_same_count (ps_ds_nodup (ps_JT_ds hT)) (ps_ds_nodup (ps_JT_ds hT2)) h1).mpr h2⟩
/-- a tree's marks, over a subtree -/
theorem ps_hc_all {n : Nat} {g : ps_G} {B : List ps_R} {d cx cy cz : Int32} (h7 : ∀ k, k < n → g 7 k = ps_bi (!decide (ps_rc g k ∈ B))) : (!ps_hc g n d cx cy cz) = (ps_ml (ps_rc g) n).all (fun r => !ps_S (d, cx, cy, cz) r || decide (r ∈ B)) := by
  have hp : ∀ k, k < n → ps_hp g d cx cy cz k = (!decide (ps_rc g k ∈ B) && ps_S (d, cx, cy, cz) (ps_rc g k)) := fun k hk => by
    unfold ps_hp
    rw [h7 k hk, Bool.and_assoc]
    congr 1
    cases decide (ps_rc g k ∈ B) <;> decide
  rw [Bool.eq_iff_iff, Bool.not_eq_true', List.all_eq_true]
  unfold ps_hc
  rw [ps_any_ff]
  constructor
  · intro h r hr
    obtain ⟨k, hk, rfl⟩ := ps_ml_mem.mp hr
    have := h k hk
    rw [hp k hk] at this
    revert this
    cases decide (ps_rc g k ∈ B) <;> cases ps_S (d, cx, cy, cz) (ps_rc g k) <;> simp
  · intro h k hk
    have := h _ (ps_ml_mem.mpr ⟨k, hk, rfl⟩)
    rw [hp k hk]
    revert this
    cases decide (ps_rc g k ∈ B) <;> cases ps_S (d, cx, cy, cz) (ps_rc g k) <;> simp
theorem ps_nc_cA (hT : ps_JT n1 g1) (hT2 : ps_JT n2 g2) (k : Nat) : ps_nc (ps_G1 g1 n1 g2 n2) n1 (ps_G2 g1 n1 g2 n2) n2 k = ps_cA (ps_ml (ps_rc g1) n1) (ps_ml (ps_rc g2) n2) (ps_S (ps_nk (ps_rc g1 k))) := by
  have a1 : ∀ k, k < n1 → ps_G1 g1 n1 g2 n2 7 k = ps_bi (!decide (ps_rc (ps_G1 g1 n1 g2 n2) k ∈ ps_ml (ps_rc g2) n2)) := fun k hk => by
    rw [ps_rc_up, ← ps_al_mem hT2]
    show va_up g1 7 _ 7 k = _
    rw [va_up_self]
    simp only [ps_mk, if_pos hk]
  have a2 : ∀ k, k < n2 → ps_G2 g1 n1 g2 n2 7 k = ps_bi (!decide (ps_rc (ps_G2 g1 n1 g2 n2) k ∈ ps_ml (ps_rc g1) n1)) := fun k hk => by
    have e := ps_al_mem (ps_JT_up hT (ps_mk g1 n2 g2 n1)) g2 k
    rw [ps_rc_up] at e
    rw [ps_rc_up, ← e]
    show va_up g2 7 _ 7 k = _
    rw [va_up_self]
    simp only [ps_mk, if_pos hk]
  unfold ps_nc
  rw [ps_hc_all a1, ps_hc_all a2, ps_rc_up, ps_rc_up]
  rfl
/-- the pages to write -/
theorem ps_np (hT : ps_JT n1 g1) (hM : ps_JM n1 g1 mn (f 0) (f 1) (f 2) (f 3)) (hD : ∀ k, k < mn → ¬ f 8 k = 0) (hT2 : ps_JT n2 g2) (hM2 : ps_JM n2 g2 kn (f 4) (f 5) (f 6) (f 7)) : ps_cn (ps_pw (ps_G1 g1 n1 g2 n2) n1 (ps_G2 g1 n1 g2 n2) n2) n1 = ps_tp (ps_wq f mn kn) (ps_wc f mn) mn := by
  have h1 := ps_JT_cn hT (fun v => !ps_cA (ps_ml (ps_rc g1) n1) (ps_ml (ps_rc g2) n2) (ps_S v)) (h' := ps_bp) (h := fun c => decide (c % 6 = 0)) (fun c hc => ps_bp_nI hc)
  rw [ps_pF_perm (ps_JM_nk hM), ← ps_tp_pF] at h1
  refine (ps_cn_congr (fun k hk => ?_)).trans (h1.trans (ps_tp_congr mn (fun k hk => ?_) (fun k hk _ => ?_)))
  · unfold ps_pw
    rw [ps_nc_cA hT hT2, ps_G1_ot 6 (by decide), Bool.and_comm]
  · unfold ps_wq
    rw [ps_cl_cA hT hM hT2 hM2, Bool.and_comm, ps_first (i := f 0) (c := f 2)]
    rfl
  · refine ps_cn_congr (fun j hj => ?_)
    rw [← ps_nk_eq]
    unfold ps_kp
    have := hD j hj
    simp only [this, not_false_eq_true, decide_true, Bool.true_and]
    rfl
theorem ps_chg (hT : ps_JT n1 g1) (hM : ps_JM n1 g1 mn (f 0) (f 1) (f 2) (f 3)) (hT2 : ps_JT n2 g2) (hM2 : ps_JM n2 g2 kn (f 4) (f 5) (f 6) (f 7)) : ps_cl f mn kn 0 0 = true ↔ ps_cn (fun k => !ps_al g2 n2 g1 k) n1 + ps_cn (fun k => !ps_al (ps_G1 g1 n1 g2 n2) n1 g2 k) n2 = 0 := by
  rw [ps_cl_cA hT hM hT2 hM2, ps_cA_congr (S' := fun _ => true) (fun r hr => ps_S0 (ps_JT_dep hT hr) (ps_JT_ok hT hr)) (fun r hr => ps_S0 (ps_JT_dep hT2 hr) (ps_JT_ok hT2 hr)), ps_cA_iff]
  have z : ∀ (P : Nat → Bool) (n : Nat), ps_cn (fun k => !P k) n = 0 ↔ ∀ k, k < n → P k = true := by
    intro P n
    constructor
    · intro h
      have := (ps_all_iff n).mp (show ps_all (fun k => !!P k) n = true by rw [ps_all_cn (P := fun k => !P k) n]; simp [h])
      intro k hk
      simpa using this k hk
    · intro h
      exact ps_cn_zero n (fun k hk => by rw [h k hk]; rfl)
  have e1 := z (ps_al g2 n2 g1) n1
  have e2 := z (ps_al (ps_G1 g1 n1 g2 n2) n1 g2) n2
  have m1 : ∀ k, ps_al g2 n2 g1 k = true ↔ ps_rc g1 k ∈ ps_ml (ps_rc g2) n2 := fun k => by rw [ps_al_mem hT2]; simp
  have m2 : ∀ k, ps_al (ps_G1 g1 n1 g2 n2) n1 g2 k = true ↔ ps_rc g2 k ∈ ps_ml (ps_rc g1) n1 := fun k => by
    rw [ps_al_mem (ps_JT_up hT _), ps_rc_up]; simp
  constructor
  · rintro ⟨h1, h2⟩
    have a1 := e1.mpr (fun k hk => (m1 k).mpr (h1 _ (ps_ml_mem.mpr ⟨k, hk, rfl⟩) rfl))
    have a2 := e2.mpr (fun k hk => (m2 k).mpr (h2 _ (ps_ml_mem.mpr ⟨k, hk, rfl⟩) rfl))
    rw [a1, a2]
  · intro h
    have a1 := e1.mp (by omega)
    have a2 := e2.mp (by omega)
    refine ⟨fun r hr _ => ?_, fun r hr _ => ?_⟩
    · obtain ⟨k, hk, rfl⟩ := ps_ml_mem.mp hr
      exact (m1 k).mp (a1 k hk)
    · obtain ⟨k, hk, rfl⟩ := ps_ml_mem.mp hr
      exact (m2 k).mp (a2 k hk)
end PST
section PSU
variable {n1 n2 : Nat} {g1 g2 : ps_G} {lf le : Nat} {lh : Nat → Int32} {cx cy cz pl pw : Int32} {mn kn : Nat} {co : Int32} {ln : Nat} {wr lt : Int32} {f : ps_G}
theorem ps_Jcommit (h : ps_J n1 n2 g1 g2 lf le lh cx cy cz pl pw mn kn co ln wr lt f) :
    n1 ≤ 48 ∧ n2 ≤ 48 ∧ mn ≤ 48 ∧ kn ≤ 48 ∧
    ((ps_cn (fun k => !ps_al g2 n2 g1 k) n1 + ps_cn (fun k => !ps_al (ps_G1 g1 n1 g2 n2) n1 g2 k) n2 = 0 ∧ ps_cl f mn kn 0 0 = true ∧ ps_J n1 n2 (ps_G1 g1 n1 g2 n2) (ps_G2 g1 n1 g2 n2) lf le lh cx cy cz pl pw mn kn co ln wr lt f)
    ∨ (0 < ps_cn (fun k => !ps_al g2 n2 g1 k) n1 + ps_cn (fun k => !ps_al (ps_G1 g1 n1 g2 n2) n1 g2 k) n2 ∧ 64 - ps_cn (fun k => ps_bp (g2 6 k)) n2 < ps_cn (ps_pw (ps_G1 g1 n1 g2 n2) n1 (ps_G2 g1 n1 g2 n2) n2) n1 ∧ ps_cl f mn kn 0 0 = false ∧ (¬ nI (ps_tp (ps_wq f mn kn) (ps_wc f mn) mn) ≤ 64 - nI (ps_tp (fun k => ps_all (ps_nf (f 7) (f 5) k) k) (fun k => ps_cn (ps_tq (f 7) (f 5) k) kn) kn)) ∧ ps_J n1 n2 (ps_G1 g1 n1 g2 n2) (ps_G2 g1 n1 g2 n2) lf le lh cx cy cz pl pw mn kn co ln wr lt f)
    ∨ (0 < ps_cn (fun k => !ps_al g2 n2 g1 k) n1 + ps_cn (fun k => !ps_al (ps_G1 g1 n1 g2 n2) n1 g2 k) n2 ∧ ps_cn (ps_pw (ps_G1 g1 n1 g2 n2) n1 (ps_G2 g1 n1 g2 n2) n2) n1 ≤ 64 - ps_cn (fun k => ps_bp (g2 6 k)) n2 ∧ (pl = -1 ∨ nI (ps_cn (ps_pw (ps_G1 g1 n1 g2 n2) n1 (ps_G2 g1 n1 g2 n2) n2) n1 + 1) ≤ pl) ∧ ps_cl f mn kn 0 0 = false ∧ nI (ps_tp (ps_wq f mn kn) (ps_wc f mn) mn) ≤ 64 - nI (ps_tp (fun k => ps_all (ps_nf (f 7) (f 5) k) k) (fun k => ps_cn (ps_tq (f 7) (f 5) k) kn) kn) ∧ (lt < 0 ∨ nI (ps_tp (ps_wq f mn kn) (ps_wc f mn) mn + 1) ≤ lt) ∧ nI (ps_cn (ps_pw (ps_G1 g1 n1 g2 n2) n1 (ps_G2 g1 n1 g2 n2) n2) n1 + 1) = nI (ps_tp (ps_wq f mn kn) (ps_wc f mn) mn + 1) ∧ ps_J n1 n1 (ps_G1 g1 n1 g2 n2) (ps_cp (ps_G2 g1 n1 g2 n2) (ps_G1 g1 n1 g2 n2) n1) lf le lh cx cy cz (ps_pl pl (nI (ps_cn (ps_pw (ps_G1 g1 n1 g2 n2) n1 (ps_G2 g1 n1 g2 n2) n2) n1 + 1))) (pw + nI (ps_cn (ps_pw (ps_G1 g1 n1 g2 n2) n1 (ps_G2 g1 n1 g2 n2) n2) n1 + 1)) mn mn co ln (wr + nI (ps_tp (ps_wq f mn kn) (ps_wc f mn) mn) + 1) (if lt < 0 then lt else lt - nI (ps_tp (ps_wq f mn kn) (ps_wc f mn) mn) - 1) (ps_kG f mn))
    ∨ (0 < ps_cn (fun k => !ps_al g2 n2 g1 k) n1 + ps_cn (fun k => !ps_al (ps_G1 g1 n1 g2 n2) n1 g2 k) n2 ∧ ps_cn (ps_pw (ps_G1 g1 n1 g2 n2) n1 (ps_G2 g1 n1 g2 n2) n2) n1 ≤ 64 - ps_cn (fun k => ps_bp (g2 6 k)) n2 ∧ ¬ pl = -1 ∧ ¬ nI (ps_cn (ps_pw (ps_G1 g1 n1 g2 n2) n1 (ps_G2 g1 n1 g2 n2) n2) n1 + 1) ≤ pl ∧ ps_cl f mn kn 0 0 = false ∧ nI (ps_tp (ps_wq f mn kn) (ps_wc f mn) mn) ≤ 64 - nI (ps_tp (fun k => ps_all (ps_nf (f 7) (f 5) k) k) (fun k => ps_cn (ps_tq (f 7) (f 5) k) kn) kn) ∧ ¬ lt < 0 ∧ (¬ nI (ps_tp (ps_wq f mn kn) (ps_wc f mn) mn + 1) ≤ lt) ∧ ps_J n2 n2 (ps_cp (ps_G1 g1 n1 g2 n2) (ps_G2 g1 n1 g2 n2) n2) (ps_G2 g1 n1 g2 n2) 0 0 lh 0 0 0 (-1) (pw + pl) kn kn 0 0 (wr + lt) (-1) (ps_st (ps_oG f kn) kn))) := by
  obtain ⟨⟨hT, hM, hD⟩, ⟨hT2, hM2⟩, hL, hC, ⟨hP, hP2⟩, hW⟩ := h
  have hlen := ps_JM_len hM
  have hlen2 := ps_JM_len hM2
  have h48 := hT.1
  have h482 := hT2.1
  have hnp := ps_np hT hM hD hT2 hM2
  have hfr := ps_pages hT2 hM2
  have hcl := ps_chg hT hM hT2 hM2
  have hle := ps_cn_le (ps_pw (ps_G1 g1 n1 g2 n2) n1 (ps_G2 g1 n1 g2 n2) n2) n1
  have hle2 := ps_cn_le (fun k => ps_bp (g2 6 k)) n2
  have hT1' : ps_JT n1 (ps_G1 g1 n1 g2 n2) := ps_JT_up hT _
  have hT2' : ps_JT n2 (ps_G2 g1 n1 g2 n2) := ps_JT_up hT2 _
  have hM1' : ps_JM n1 (ps_G1 g1 n1 g2 n2) mn (f 0) (f 1) (f 2) (f 3) := by
    unfold ps_JM; rw [ps_rc_up]; exact hM
  have hM2' : ps_JM n2 (ps_G2 g1 n1 g2 n2) kn (f 4) (f 5) (f 6) (f 7) := by
    unfold ps_JM; rw [ps_rc_up]; exact hM2
  refine ⟨h48, h482, by omega, by omega, ?_⟩
  rw [← hnp, ← hfr]
  generalize hNP : ps_cn (ps_pw (ps_G1 g1 n1 g2 n2) n1 (ps_G2 g1 n1 g2 n2) n2) n1 = NP at hle ⊢
  generalize hTP : ps_cn (fun k => ps_bp (g2 6 k)) n2 = TP at hle2 ⊢
  rw [ps_64 (by omega), nI_leI (by omega) (by omega)]
  by_cases c0 : ps_cn (fun k => !ps_al g2 n2 g1 k) n1 + ps_cn (fun k => !ps_al (ps_G1 g1 n1 g2 n2) n1 g2 k) n2 = 0
  · exact Or.inl ⟨c0, hcl.mpr c0, ⟨hT1', hM1', hD⟩, ⟨hT2', hM2'⟩, hL, hC, ⟨hP, hP2⟩, hW⟩
  · have hc1 : 0 < ps_cn (fun k => !ps_al g2 n2 g1 k) n1 + ps_cn (fun k => !ps_al (ps_G1 g1 n1 g2 n2) n1 g2 k) n2 := by omega
    have hclf : ps_cl f mn kn 0 0 = false := by
      cases e : ps_cl f mn kn 0 0 with
      | false => rfl
      | true => exact absurd (hcl.mp e) c0
    by_cases c1 : 64 - TP < NP
    · exact Or.inr (Or.inl ⟨hc1, c1, hclf, by omega, ⟨hT1', hM1', hD⟩, ⟨hT2', hM2'⟩, hL, hC, ⟨hP, hP2⟩, hW⟩)
    · have hneg : lt < 0 ↔ lt = -1 := by
        constructor
        · intro h
          rcases hP2 with e | e
          · exact e
          · exact absurd h e
        · intro h
          rw [h]; decide
      by_cases c2 : pl = -1 ∨ nI (NP + 1) ≤ pl
      · refine Or.inr (Or.inr (Or.inl ⟨hc1, by omega, c2, hclf, by omega, ?_, rfl, ⟨hT1', ?_, ?_⟩, ⟨?_, ?_⟩, ?_, hC, ?_, ?_⟩))
        · rcases c2 with e | e
          · exact Or.inl (hneg.mpr (hP.symm.trans e))
          · exact Or.inr (by rw [← hP]; exact e)
        · simpa [ps_kG, va_up] using hM1'
        · simpa [ps_kG, va_up] using hD
        · exact ps_JT_congr hT (fun i hi _ j hj => by rw [ps_cp_at hi hj, ps_G1_ot i (by omega)])
        · refine ⟨?_, fun k hk => ?_⟩
          · rw [ps_rc_congr (g := g1) (fun i hi j hj => by rw [ps_cp_at (by omega) hj, ps_G1_ot i (by omega)])]
            refine hM.1.trans (List.Perm.of_eq (ps_ml_congr (fun k hk => ?_)))
            simp [ps_rm, ps_kG, va_up, ps_ov, hk]
          · have e : ps_kG f mn 5 k = f 1 k := by simp [ps_kG, va_up, ps_ov, hk]
            rw [e]
            exact hM.2 k hk
        · simpa [ps_kG, va_up] using hL
        · by_cases e : lt = -1
          · have e2 : pl = -1 := hP.trans e
            have e3 : lt < 0 := hneg.mpr e
            rw [if_pos e3]
            unfold ps_pl
            rw [if_pos e2]
            exact ⟨hP, Or.inl e⟩
          · have e2 : ¬ pl = -1 := fun q => e (hP.symm.trans q)
            have e3 : ¬ lt < 0 := fun q => e (hneg.mp q)
            rw [if_neg e3]
            unfold ps_pl
            rw [if_neg e2, hP]
            have e4 : lt - nI NP - 1 = lt - nI (NP + 1) := by rw [← nI_1, Int32.sub_sub]
            rw [e4]
            refine ⟨rfl, Or.inr ?_⟩
            obtain ⟨t, ht, rfl⟩ := nI_of e3
            have c3 : nI (NP + 1) ≤ nI t := by rw [← hP]; exact c2.resolve_left e2
            have c4 := (nI_leI (by omega) ht).mp c3
            rw [pk_sub c4]
            exact nI_pos (by omega)
        · rw [hW, Int32.add_assoc, nI_1]
      · have e2 : ¬ pl = -1 := fun q => c2 (Or.inl q)
        have e3 : ¬ nI (NP + 1) ≤ pl := fun q => c2 (Or.inr q)
        obtain ⟨b1, b2, b3, so⟩ := ps_Jback (ps_G2 g1 n1 g2 n2) n2 hT2' hM2' (ps_G1 g1 n1 g2 n2)
        refine Or.inr (Or.inr (Or.inr ⟨hc1, by omega, e2, e3, hclf, by omega, fun q => e2 (hP.trans (hneg.mp q)), by rw [← hP]; exact e3, ⟨b1, b2, b3⟩, ?_, ⟨by omega, by omega, rfl, fun j hj => by omega⟩, ⟨by decide, by decide, by decide, by decide⟩, ⟨rfl, Or.inl rfl⟩, by rw [hW, hP]⟩))
        rw [so 4 (by decide) (by decide), so 5 (by decide) (by decide), so 6 (by decide) (by decide), so 7 (by decide) (by decide)]
        exact ⟨hT2', hM2'⟩
/-- the start -/
theorem ps_J0 (g1 g2 f : ps_G) (lh : Nat → Int32) : ps_J 0 0 g1 g2 0 0 lh 0 0 0 (-1) 0 0 0 0 0 0 (-1) f :=
  ⟨⟨⟨by omega, fun k hk => by omega, fun j k hj hk => by omega, fun k hk => by omega⟩, ⟨List.Perm.refl _, fun k hk => by omega⟩, fun k hk => by omega⟩, ⟨⟨by omega, fun k hk => by omega, fun j k hj hk => by omega, fun k hk => by omega⟩, ⟨List.Perm.refl _, fun k hk => by omega⟩⟩, ⟨by omega, by omega, rfl, fun j hj => by omega⟩, ⟨by decide, by decide, by decide, by decide⟩, ⟨rfl, Or.inl rfl⟩, rfl⟩
end PSU
