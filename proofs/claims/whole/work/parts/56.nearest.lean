/-! nearest: the k-th key from below -/
def ps_sq (a b : Nat) : Nat := if b ≤ a then (a - b) * (a - b) else (b - a) * (b - a)
theorem ps_sq_all : ∀ a b : Fin 16, (nI a.val - nI b.val) * (nI a.val - nI b.val) = nI (ps_sq a.val b.val) ∧ ps_sq a.val b.val ≤ 225 := by decide +kernel
theorem ps_sq_co {v x : Int32} (hv : ps_co v = true) (hx : ps_co x = true) : ∃ d : Nat, d ≤ 225 ∧ (v - x) * (v - x) = nI d := by
  obtain ⟨a, ha, rfl⟩ := ps_co_of hv
  obtain ⟨b, hb, rfl⟩ := ps_co_of hx
  have h := ps_sq_all ⟨a, ha⟩ ⟨b, hb⟩
  exact ⟨_, h.2, h.1⟩
def ps_Di (x y z : Int32) (r : ps_R) : Int32 := (r.2.1 - x) * (r.2.1 - x) + (r.2.2.1 - y) * (r.2.2.1 - y) + (r.2.2.2.1 - z) * (r.2.2.2.1 - z)
def ps_ok (r : ps_R) : Prop := ps_co r.2.1 = true ∧ ps_co r.2.2.1 = true ∧ ps_co r.2.2.2.1 = true
theorem ps_Di_co {x y z : Int32} (hx : ps_co x = true) (hy : ps_co y = true) (hz : ps_co z = true) {r : ps_R} (hr : ps_ok r) : ∃ d : Nat, d ≤ 675 ∧ ps_Di x y z r = nI d := by
  obtain ⟨a, ha, ea⟩ := ps_sq_co hr.1 hx
  obtain ⟨b, hb, eb⟩ := ps_sq_co hr.2.1 hy
  obtain ⟨c, hc, ec⟩ := ps_sq_co hr.2.2 hz
  refine ⟨a + b + c, by omega, ?_⟩
  unfold ps_Di
  rw [ea, eb, ec, nI_add, nI_add]
/-- the key, as a whole number -/
def ps_ky (x y z : Int32) (r : ps_R) : Int := (ps_Di x y z r).toInt * 4294967296 + r.1.toInt
theorem ps_i32_rng (v : Int32) : -2147483648 ≤ v.toInt ∧ v.toInt < 2147483648 := by
  have h1 := Int32.le_toInt v
  have h2 := Int32.toInt_lt v
  omega
theorem ps_dk_ky {g : ps_G} {x y z : Int32} (hx : ps_co x = true) (hy : ps_co y = true) (hz : ps_co z = true) {k : Nat} (hr : ps_ok (ps_rc g k)) : (ps_dk g x y z k).toInt = ps_ky x y z (ps_rc g k) := by
  obtain ⟨d, hd, ed⟩ := ps_Di_co hx hy hz hr
  have e1 : ps_dk g x y z k = (ps_Di x y z (ps_rc g k)).toInt64 * 4294967296 + (g 0 k).toInt64 := rfl
  have h1 := ps_i32_rng (g 0 k)
  have h2 : (nI d).toInt = (d : Int) := nI_toInt (by omega)
  have h3 : (4294967296 : Int64).toInt = 4294967296 := by decide
  rw [e1, ps_ky, ed, Int64.toInt_add, Int64.toInt_mul, Int32.toInt_toInt64, Int32.toInt_toInt64, h2, h3]
  have e2 : ((d : Int) * 4294967296).bmod (2 ^ 64) = (d : Int) * 4294967296 := Int.bmod_eq_of_le (by omega) (by omega)
  have e3 : (ps_rc g k).1 = g 0 k := rfl
  rw [e2, e3]
  exact Int.bmod_eq_of_le (by omega) (by omega)
theorem ps_dk_id (g : ps_G) (x y z : Int32) (k : Nat) : (ps_dk g x y z k).toInt32 = g 0 k := by
  have e1 : ps_dk g x y z k = (ps_Di x y z (ps_rc g k)).toInt64 * 4294967296 + (g 0 k).toInt64 := rfl
  have e2 : (4294967296 : Int64).toInt32 = 0 := by decide
  rw [e1, Int64.toInt32_add, Int64.toInt32_mul, e2, Int32.mul_zero, Int32.zero_add, Int32.toInt32_toInt64]
theorem ps_lk_spec {f : Nat → Int64} {b : Int64} : ∀ n, (∀ i, i < n → f i < 9223372036854775807) → (ps_lk f b n = 9223372036854775807 ∧ ∀ i, i < n → ¬ b < f i) ∨ (∃ j, j < n ∧ ps_lk f b n = f j ∧ b < f j ∧ ∀ i, i < n → b < f i → f j ≤ f i)
  | 0, _ => Or.inl ⟨rfl, fun i hi => by omega⟩
  | n + 1, h => by
    have ih := ps_lk_spec (f := f) (b := b) n (fun i hi => h i (by omega))
    by_cases c : b < f n ∧ f n < ps_lk f b n
    · have e : ps_lk f b (n + 1) = f n := if_pos c
      refine Or.inr ⟨n, by omega, e, c.1, fun i hi hb => ?_⟩
      by_cases ei : i = n
      · rw [ei]; exact Int64.le_refl _
      · rcases ih with ⟨-, h2⟩ | ⟨j, hj, e2, -, h3⟩
        · exact absurd hb (h2 i (by omega))
        · have h4 := h3 i (by omega) hb
          rw [← e2] at h4
          exact Int64.le_trans (Int64.le_of_lt c.2) h4
    · have e : ps_lk f b (n + 1) = ps_lk f b n := if_neg c
      rw [e]
      rcases ih with ⟨h1, h2⟩ | ⟨j, hj, e2, h4, h3⟩
      · refine Or.inl ⟨h1, fun i hi hb => ?_⟩
        by_cases ei : i = n
        · subst ei
          exact c ⟨hb, by rw [h1]; exact h i hi⟩
        · exact h2 i (by omega) hb
      · refine Or.inr ⟨j, by omega, e2, h4, fun i hi hb => ?_⟩
        by_cases ei : i = n
        · subst ei
          have h5 : ¬ f i < ps_lk f b i := fun q => c ⟨hb, q⟩
          rw [e2] at h5
          exact Int64.not_lt.mp h5
        · exact h3 i (by omega) hb
theorem ps_cn_or1 {P : Nat → Bool} {j : Nat} (hP : P j = false) : ∀ n, j < n → ps_cn (fun i => P i || decide (i = j)) n = ps_cn P n + 1
  | 0, h => by omega
  | n + 1, h => by
    rw [ps_cnS, ps_cnS]
    by_cases e : j = n
    · subst e
      have e1 : ps_cn (fun i => P i || decide (i = j)) j = ps_cn P j := ps_cn_congr (fun i hi => by
        have : ¬ i = j := by omega
        simp [this])
      rw [e1]
      simp [hP]
    · rw [ps_cn_or1 hP n (by omega)]
      have : ¬ n = j := fun q => e q.symm
      simp only [this, decide_false, Bool.or_false]
      omega
theorem ps_ik_spec {f : Nat → Int64} {n : Nat} (hmax : ∀ i, i < n → f i < 9223372036854775807) (hmin : ∀ i, i < n → -9223372036854775808 < f i) (hinj : ∀ i j, i < n → j < n → f i = f j → i = j) : ∀ k, k ≤ n → ps_cn (fun i => decide (f i ≤ ps_ik f n k)) n = k ∧ (0 < k → ∃ j, j < n ∧ ps_ik f n k = f j)
  | 0, _ => by
    refine ⟨ps_cn_zero n (fun i hi => ?_), fun h => by omega⟩
    have : ¬ f i ≤ ps_ik f n 0 := Int64.not_le.mpr (hmin i hi)
    simp [this]
  | k + 1, hk => by
    obtain ⟨hc, -⟩ := ps_ik_spec hmax hmin hinj k (by omega)
    have hex : ¬ ∀ i, i < n → ¬ ps_ik f n k < f i := fun hall => by
      have := ps_cn_full (P := fun i => decide (f i ≤ ps_ik f n k)) n (fun i hi => by simpa using Int64.not_lt.mp (hall i hi))
      omega
    rcases ps_lk_spec (f := f) (b := ps_ik f n k) n hmax with ⟨-, h2⟩ | ⟨j, hj, e2, h4, h3⟩
    · exact absurd h2 hex
    · have e : ps_ik f n (k + 1) = f j := e2
      refine ⟨?_, fun _ => ⟨j, hj, e⟩⟩
      rw [e]
      have hnot : ¬ f j ≤ ps_ik f n k := Int64.not_le.mpr h4
      rw [← hc, ← ps_cn_or1 (P := fun i => decide (f i ≤ ps_ik f n k)) (j := j) (by simp [hnot]) n hj]
      refine ps_cn_congr (fun i hi => ?_)
      rw [Bool.eq_iff_iff]
      simp only [decide_eq_true_eq, Bool.or_eq_true]
      constructor
      · intro h5
        by_cases h6 : f i ≤ ps_ik f n k
        · exact Or.inl h6
        · exact Or.inr (hinj i j hi hj (Int64.le_antisymm h5 (h3 i hi (Int64.not_le.mp h6))))
      · rintro (h5 | h5)
        · exact Int64.le_trans h5 (Int64.le_of_lt h4)
        · rw [h5]; exact Int64.le_refl _
theorem ps_kth {f : Nat → Int64} {n : Nat} (hmax : ∀ i, i < n → f i < 9223372036854775807) (hmin : ∀ i, i < n → -9223372036854775808 < f i) (hinj : ∀ i j, i < n → j < n → f i = f j → i = j) {k : Nat} (h1 : 1 ≤ k) (hk : k ≤ n) : ∃ j, j < n ∧ ps_ik f n k = f j ∧ ps_cn (fun i => decide (f i < f j)) n = k - 1 := by
  obtain ⟨hc, hj⟩ := ps_ik_spec hmax hmin hinj k hk
  obtain ⟨j, hj, e⟩ := hj (by omega)
  refine ⟨j, hj, e, ?_⟩
  have h2 := ps_cn_or1 (P := fun i => decide (f i < f j)) (j := j) (by simp [Int64.lt_irrefl]) n hj
  have h3 : ps_cn (fun i => decide (f i < f j) || decide (i = j)) n = k := by
    rw [← hc, e]
    refine ps_cn_congr (fun i hi => ?_)
    rw [Bool.eq_iff_iff]
    simp only [decide_eq_true_eq, Bool.or_eq_true]
    constructor
    · rintro (h5 | h5)
      · exact Int64.le_of_lt h5
      · rw [h5]; exact Int64.le_refl _
    · intro h5
      by_cases h6 : f i < f j
      · exact Or.inl h6
      · exact Or.inr (hinj i j hi hj (Int64.le_antisymm h5 (Int64.not_lt.mp h6)))
  omega
theorem ps_cn_lt {P Q : Nat → Bool} {a : Nat} (hP : P a = false) (hQ : Q a = true) : ∀ n, a < n → (∀ i, i < n → P i = true → Q i = true) → ps_cn P n < ps_cn Q n := by
  have hle : ∀ n, (∀ i, i < n → P i = true → Q i = true) → ps_cn P n ≤ ps_cn Q n := by
    intro n
    induction n with
    | zero => intro _; exact Nat.le_refl _
    | succ n ih =>
      intro h
      have := ih (fun i hi => h i (by omega))
      rw [ps_cnS, ps_cnS]
      cases e : P n with
      | false => simp only [Bool.false_eq_true, if_false]; omega
      | true => rw [h n (by omega) e]; omega
  intro n
  induction n with
  | zero => intro h; omega
  | succ n ih =>
    intro ha h
    rw [ps_cnS, ps_cnS]
    by_cases e : a = n
    · subst e
      have := hle a (fun i hi => h i (by omega))
      rw [hP, hQ]
      simp only [Bool.false_eq_true, if_false, if_true]
      omega
    · have := ih (by omega) (fun i hi => h i (by omega))
      cases e2 : P n with
      | false => simp only [Bool.false_eq_true, if_false]; omega
      | true => rw [h n (by omega) e2]; omega
theorem ps_nr_spec {f : ps_G} {mn : Nat} {p k v : Int32} : ∀ n, (∀ a, a < n → nI (ps_cn (ps_nb f p a) mn) = k - 1 → f 0 a = v) → (∃ a, a < n ∧ nI (ps_cn (ps_nb f p a) mn) = k - 1) → ps_nr f mn p k n = v
  | 0, _, ⟨a, ha, _⟩ => by omega
  | n + 1, h1, h2 => by
    by_cases c : nI (ps_cn (ps_nb f p n) mn) = k - 1
    · rw [ps_nr_t c]
      exact h1 n (by omega) c
    · rw [ps_nr_f c]
      refine ps_nr_spec n (fun a ha => h1 a (by omega)) ?_
      obtain ⟨a, ha, e⟩ := h2
      refine ⟨a, ?_, e⟩
      by_cases ea : a = n
      · subst ea; exact absurd e c
      · omega
theorem ps_JT_ok {n : Nat} {g : ps_G} (h : ps_JT n g) {r : ps_R} (hr : r ∈ ps_ml (ps_rc g) n) : ps_ok r := by
  obtain ⟨k, hk, rfl⟩ := ps_ml_mem.mp hr
  exact h.2.1 k hk
theorem ps_nb_ky {f : ps_G} {x y z : Int32} (hx : ps_co x = true) (hy : ps_co y = true) (hz : ps_co z = true) {a b : Nat} (ha : ps_ok (ps_rm (f 0) (f 1) (f 2) (f 3) a)) (hb : ps_ok (ps_rm (f 0) (f 1) (f 2) (f 3) b)) : ps_nb f (ps_pk x y z) a b = decide (ps_ky x y z (ps_rm (f 0) (f 1) (f 2) (f 3) b) < ps_ky x y z (ps_rm (f 0) (f 1) (f 2) (f 3) a)) := by
  obtain ⟨a0, a1, a2, -⟩ := ps_ax_pk hx hy hz
  have hdd : ∀ k, ps_dd (f 1 k) (ps_pk x y z) 3 = ps_Di x y z (ps_rm (f 0) (f 1) (f 2) (f 3) k) := by
    intro k
    show (0 + (ps_ax (f 1 k) 0 - ps_ax (ps_pk x y z) 0) * (ps_ax (f 1 k) 0 - ps_ax (ps_pk x y z) 0) + (ps_ax (f 1 k) 1 - ps_ax (ps_pk x y z) 1) * (ps_ax (f 1 k) 1 - ps_ax (ps_pk x y z) 1)) + (ps_ax (f 1 k) 2 - ps_ax (ps_pk x y z) 2) * (ps_ax (f 1 k) 2 - ps_ax (ps_pk x y z) 2) = _
    rw [a0, a1, a2, Int32.zero_add]
    rfl
  obtain ⟨da, hda, ea⟩ := ps_Di_co hx hy hz ha
  obtain ⟨db, hdb, eb⟩ := ps_Di_co hx hy hz hb
  have r1 := ps_i32_rng (f 0 a)
  have r2 := ps_i32_rng (f 0 b)
  unfold ps_nb ps_ky
  rw [hdd, hdd, ea, eb, nI_toInt (by omega : da < 2 ^ 31), nI_toInt (by omega : db < 2 ^ 31)]
  have hs := pk_sub_toInt (a := db) (b := da) (by omega) (by omega)
  have e1 : nI db - nI da < 0 ↔ (db : Int) - da < 0 := by
    rw [Int32.lt_iff_toInt_lt, hs]
    exact Iff.rfl
  have e2 : nI db - nI da = 0 ↔ (db : Int) - da = 0 := by
    rw [← Int32.toInt_inj, hs]
    exact Iff.rfl
  have e3 : (ps_rm (f 0) (f 1) (f 2) (f 3) a).1 = f 0 a := rfl
  have e4 : (ps_rm (f 0) (f 1) (f 2) (f 3) b).1 = f 0 b := rfl
  rw [Bool.eq_iff_iff]
  simp only [Bool.or_eq_true, Bool.and_eq_true, decide_eq_true_eq, e1, e2, e3, e4, Int32.lt_iff_toInt_lt]
  omega
section PSQ
variable {n1 n2 : Nat} {g1 g2 : ps_G} {lf le : Nat} {lh : Nat → Int32} {cx cy cz pl pw : Int32} {mn kn : Nat} {co : Int32} {ln : Nat} {wr lt : Int32} {f : ps_G}
theorem ps_Jnearest (h : ps_J n1 n2 g1 g2 lf le lh cx cy cz pl pw mn kn co ln wr lt f) (x y z k9 : Int32) :
    (∃ k, k9 = nI k ∧ n1 ≤ 48 ∧ ps_co x = true ∧ ps_co y = true ∧ ps_co z = true ∧ 1 ≤ k ∧ k ≤ n1 ∧ mn ≤ 48 ∧ ps_ip x y z = true ∧ ¬ k9 < 1 ∧ k9 ≤ nI mn ∧ (ps_ik (ps_dk g1 x y z) n1 k).toInt32 = ps_nr f mn (ps_pk x y z) k9 mn)
    ∨ (¬ (ps_co x = true ∧ ps_co y = true ∧ ps_co z = true) ∧ (ps_ip x y z = true → k9 < 1))
    ∨ (ps_co x = true ∧ ps_co y = true ∧ ps_co z = true ∧ k9 < 1 ∧ (ps_ip x y z = true → k9 < 1))
    ∨ (ps_co x = true ∧ ps_co y = true ∧ ps_co z = true ∧ ¬ k9 < 1 ∧ nI n1 < k9 ∧ ps_ip x y z = true ∧ ¬ k9 ≤ nI mn) := by
  obtain ⟨⟨hT, hM, hD⟩, hK, hL, hC, hP, hW⟩ := h
  have hlen := ps_JM_len hM
  have h48 := hT.1
  by_cases hc : ps_co x = true ∧ ps_co y = true ∧ ps_co z = true
  · have hip : ps_ip x y z = true := by rw [ps_ip_co]; simp [hc.1, hc.2.1, hc.2.2]
    obtain ⟨hx, hy, hz⟩ := hc
    by_cases hk1 : k9 < 1
    · exact Or.inr (Or.inr (Or.inl ⟨hx, hy, hz, hk1, fun _ => hk1⟩))
    · by_cases hk2 : nI n1 < k9
      · refine Or.inr (Or.inr (Or.inr ⟨hx, hy, hz, hk1, hk2, hip, ?_⟩))
        rw [← hlen]
        exact Int32.not_le.mpr hk2
      · left
        have hge : 1 ≤ k9.toInt := by
          have h1 := Int32.not_lt.mp hk1
          have h2 := Int32.le_iff_toInt_le.mp h1
          have h3 : (1 : Int32).toInt = 1 := by decide
          omega
        have h0 : ¬ k9 < 0 := fun c => by
          have h2 := Int32.lt_iff_toInt_lt.mp c
          have h3 : (0 : Int32).toInt = 0 := by decide
          omega
        obtain ⟨k, hk, rfl⟩ := nI_of2 (x := k9) (M := nI n1) (n := n1) (nI_toInt (by omega)) h0 (Int32.not_lt.mp hk2)
        have hkk : 1 ≤ k := by
          rw [nI_toInt (by omega)] at hge
          omega
        refine ⟨k, rfl, h48, hx, hy, hz, hkk, hk, by omega, hip, hk1, by rw [← hlen]; exact Int32.not_lt.mp hk2, ?_⟩
        have hok1 : ∀ i, i < n1 → ps_ok (ps_rc g1 i) := fun i hi => hT.2.1 i hi
        have hok2 : ∀ i, i < mn → ps_ok (ps_rm (f 0) (f 1) (f 2) (f 3) i) := fun i hi => ps_JT_ok hT (hM.1.mem_iff.mpr (ps_ml_mem.mpr ⟨i, hi, rfl⟩))
        have hrng : ∀ r, ps_ok r → -9223372036854775808 < ps_ky x y z r ∧ ps_ky x y z r < 9223372036854775807 := by
          intro r hr
          obtain ⟨d, hd, ed⟩ := ps_Di_co hx hy hz hr
          have r1 := ps_i32_rng r.1
          unfold ps_ky
          rw [ed, nI_toInt (by omega)]
          omega
        have hkid : ∀ r s, ps_ok r → ps_ok s → ps_ky x y z r = ps_ky x y z s → r.1 = s.1 := by
          intro r s hr hs e
          obtain ⟨d, hd, ed⟩ := ps_Di_co hx hy hz hr
          obtain ⟨d', hd', ed'⟩ := ps_Di_co hx hy hz hs
          have r1 := ps_i32_rng r.1
          have r2 := ps_i32_rng s.1
          unfold ps_ky at e
          rw [ed, ed', nI_toInt (by omega), nI_toInt (by omega)] at e
          exact Int32.toInt_inj.mp (by omega)
        have m1 : (9223372036854775807 : Int64).toInt = 9223372036854775807 := by decide
        have m2 : (-9223372036854775808 : Int64).toInt = -9223372036854775808 := by decide
        obtain ⟨j, hj, e1, e2⟩ := ps_kth (f := ps_dk g1 x y z) (n := n1) (fun i hi => by
            rw [Int64.lt_iff_toInt_lt, ps_dk_ky hx hy hz (hok1 i hi), m1]
            exact (hrng _ (hok1 i hi)).2) (fun i hi => by
            rw [Int64.lt_iff_toInt_lt, ps_dk_ky hx hy hz (hok1 i hi), m2]
            exact (hrng _ (hok1 i hi)).1) (fun i j hi hj e => by
            have e' := congrArg Int64.toInt e
            rw [ps_dk_ky hx hy hz (hok1 i hi), ps_dk_ky hx hy hz (hok1 j hj)] at e'
            have e3 : g1 0 i = g1 0 j := hkid _ _ (hok1 i hi) (hok1 j hj) e'
            rcases Nat.lt_trichotomy i j with c | c | c
            · have := hT.2.2.1 i j c hj
              rw [e3] at this; omega
            · exact c
            · have := hT.2.2.1 j i c hi
              rw [e3] at this; omega) hkk hk
        rw [e1, ps_dk_id]
        obtain ⟨a0, ha0, ea0⟩ := ps_ml_mem.mp (hM.1.mem_iff.mp (ps_ml_mem.mpr ⟨j, hj, rfl⟩))
        have hcnt : ∀ a, a < mn → ps_cn (ps_nb f (ps_pk x y z) a) mn = (ps_ml (ps_rm (f 0) (f 1) (f 2) (f 3)) mn).countP (fun s => decide (ps_ky x y z s < ps_ky x y z (ps_rm (f 0) (f 1) (f 2) (f 3) a))) := fun a ha => ps_cn_ml (fun b hb => ps_nb_ky hx hy hz (hok2 a ha) (hok2 b hb))
        have hc0 : ps_cn (ps_nb f (ps_pk x y z) a0) mn = k - 1 := by
          rw [hcnt a0 ha0, ea0, ← hM.1.countP_eq, ← e2]
          symm
          refine ps_cn_ml (fun i hi => ?_)
          rw [Bool.eq_iff_iff]
          simp only [decide_eq_true_eq]
          rw [Int64.lt_iff_toInt_lt, ps_dk_ky hx hy hz (hok1 i hi), ps_dk_ky hx hy hz (hok1 j hj)]
        have hkm : nI k - 1 = nI (k - 1) := ps_dec (by omega)
        symm
        refine ps_nr_spec mn (fun a ha hca => ?_) ⟨a0, ha0, by rw [hc0, hkm]⟩
        have hle := ps_cn_le (ps_nb f (ps_pk x y z) a) mn
        rw [hkm] at hca
        have hca : ps_cn (ps_nb f (ps_pk x y z) a) mn = k - 1 := (nI_eq (by omega) (by omega)).mp hca
        have hid : (ps_rm (f 0) (f 1) (f 2) (f 3) a).1 = (ps_rm (f 0) (f 1) (f 2) (f 3) a0).1 := by
          refine hkid _ _ (hok2 a ha) (hok2 a0 ha0) ?_
          rcases Int.lt_trichotomy (ps_ky x y z (ps_rm (f 0) (f 1) (f 2) (f 3) a)) (ps_ky x y z (ps_rm (f 0) (f 1) (f 2) (f 3) a0)) with c | c | c
          · have := ps_cn_lt (P := ps_nb f (ps_pk x y z) a) (Q := ps_nb f (ps_pk x y z) a0) (a := a) (by rw [ps_nb_ky hx hy hz (hok2 a ha) (hok2 a ha)]; simp) (by rw [ps_nb_ky hx hy hz (hok2 a0 ha0) (hok2 a ha)]; simpa using c) mn ha (fun i hi h1 => by
              rw [ps_nb_ky hx hy hz (hok2 a ha) (hok2 i hi)] at h1
              rw [ps_nb_ky hx hy hz (hok2 a0 ha0) (hok2 i hi)]
              simp only [decide_eq_true_eq] at h1 ⊢
              omega)
            omega
          · exact c
          · have := ps_cn_lt (P := ps_nb f (ps_pk x y z) a0) (Q := ps_nb f (ps_pk x y z) a) (a := a0) (by rw [ps_nb_ky hx hy hz (hok2 a0 ha0) (hok2 a0 ha0)]; simp) (by rw [ps_nb_ky hx hy hz (hok2 a ha) (hok2 a0 ha0)]; simpa using c) mn ha0 (fun i hi h1 => by
              rw [ps_nb_ky hx hy hz (hok2 a0 ha0) (hok2 i hi)] at h1
              rw [ps_nb_ky hx hy hz (hok2 a ha) (hok2 i hi)]
              simp only [decide_eq_true_eq] at h1 ⊢
              omega)
            omega
        have e5 : (ps_rm (f 0) (f 1) (f 2) (f 3) a0).1 = g1 0 j := by rw [ea0]; rfl
        exact hid.trans e5
  · refine Or.inr (Or.inl ⟨hc, fun h2 => ?_⟩)
    rw [ps_ip_co] at h2
    exact absurd (by simpa [and_assoc] using h2) hc
end PSQ
