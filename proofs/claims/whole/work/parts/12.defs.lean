/-! what the class's methods answer, as functions of its rows: g 0 ids, 1 xs, 2 ys, 3 zs, 4 colours, 5 depths, 6 places, 7 changed -/
def ps_bi (b : Bool) : Int32 := if b = true then 1 else 0
theorem ps_bi_t {b : Bool} (h : b = true) : (1 : Int32) = ps_bi b := by rw [h]; rfl
theorem ps_bi_f {b : Bool} (h : b = false) : (0 : Int32) = ps_bi b := by rw [h]; rfl
theorem ps_bi0 {b : Bool} : ps_bi b = 0 ↔ b = false := by cases b <;> decide
theorem ps_bi1 {b : Bool} : ¬ ps_bi b = 0 ↔ b = true := by cases b <;> decide
/-- the first place of a value -/
def ps_fi (f : Nat → Int32) (x : Int32) (n : Nat) : Option Nat := (List.range n).find? (fun j => f j == x)
def ps_fr (r : Option Nat) : Int32 := match r with
  | none => -1
  | some k => nI k
theorem ps_fi_some {f : Nat → Int32} {x : Int32} {n k : Nat} (hk : k < n) (h : f k = x) (h0 : ∀ j, j < k → f j ≠ x) : ps_fi f x n = some k := by
  unfold ps_fi
  rw [List.find?_range_eq_some]
  refine ⟨by simpa using h, by simpa using hk, fun j hj => ?_⟩
  simpa using h0 j hj
theorem ps_fi_none {f : Nat → Int32} {x : Int32} {n : Nat} (h0 : ∀ j, j < n → f j ≠ x) : ps_fi f x n = none := by
  unfold ps_fi
  rw [List.find?_eq_none]
  intro j hj
  simpa using h0 j (List.mem_range.mp hj)
theorem ps_fi_spec {f : Nat → Int32} {x : Int32} {n k : Nat} (h : ps_fi f x n = some k) : k < n ∧ f k = x ∧ ∀ j, j < k → f j ≠ x := by
  unfold ps_fi at h
  rw [List.find?_range_eq_some] at h
  obtain ⟨h1, h2, h3⟩ := h
  refine ⟨by simpa using h2, by simpa using h1, fun j hj => ?_⟩
  simpa using h3 j hj
theorem ps_fi_spec0 {f : Nat → Int32} {x : Int32} {n : Nat} (h : ps_fi f x n = none) : ∀ j, j < n → f j ≠ x := by
  unfold ps_fi at h
  rw [List.find?_eq_none] at h
  intro j hj
  simpa using h j (List.mem_range.mpr hj)
/-- some number below n -/
def ps_any (P : Nat → Bool) (n : Nat) : Bool := (List.range n).any P
theorem ps_any_t {P : Nat → Bool} {n k : Nat} (hk : k < n) (h : P k = true) : ps_any P n = true := by
  unfold ps_any
  rw [List.any_eq_true]
  exact ⟨k, List.mem_range.mpr hk, h⟩
theorem ps_any_f {P : Nat → Bool} {n : Nat} (h : ∀ j, j < n → P j = false) : ps_any P n = false := by
  unfold ps_any
  rw [List.any_eq_false]
  intro j hj
  rw [h j (List.mem_range.mp hj)]
  decide
/-- the cube of a coordinate at a depth -/
def ps_cb (d v : Int32) : Int32 := v >>> ((4 - d) &&& 31)
abbrev ps_G : Type := Nat → Nat → Int32
def ps_in (g : ps_G) (d cx cy cz : Int32) (k : Nat) : Bool := decide (ps_cb d (g 1 k) = cx) && decide (ps_cb d (g 2 k) = cy) && decide (ps_cb d (g 3 k) = cz)
/-- j lies in k's cube at the depth d -/
def ps_one (g : ps_G) (d : Int32) (k j : Nat) : Bool := ps_in g d (ps_cb d (g 1 k)) (ps_cb d (g 2 k)) (ps_cb d (g 3 k)) j
/-- j is kept at the depth d in k's cube -/
def ps_kb (g : ps_G) (d : Int32) (k j : Nat) : Bool := decide (g 5 j = d) && ps_one g d k j
def ps_kc (g : ps_G) (k dn : Nat) : Nat := ps_cn (ps_kb g (nI dn) k) k
/-- the least depth with room, or the last -/
def ps_dn (c : Nat → Nat) : Nat := if c 0 < 3 then 0 else if c 1 < 3 then 1 else if c 2 < 3 then 2 else if c 3 < 3 then 3 else 4
/-- one row settled -/
def ps_s1 (g : ps_G) (k : Nat) : ps_G := va_up (va_up g 5 (upd (g 5) k (nI (ps_dn (ps_kc g k))))) 6 (upd (g 6) k (nI (ps_kc g k (ps_dn (ps_kc g k)))))
/-- rows i .. i + m - 1 settled -/
def ps_sF (g : ps_G) (i : Nat) : Nat → ps_G
  | 0 => g
  | m + 1 => ps_s1 (ps_sF g i m) (i + m)
/-- the five rows of the points moved -/
def ps_mv (g : ps_G) (fr to ln : Nat) : ps_G := va_up (va_up (va_up (va_up (va_up g 0 (va_cpy (g 0) (g 0) fr to ln)) 1 (va_cpy (g 1) (g 1) fr to ln)) 2 (va_cpy (g 2) (g 2) fr to ln)) 3 (va_cpy (g 3) (g 3) fr to ln)) 4 (va_cpy (g 4) (g 4) fr to ln)
def ps_put (g : ps_G) (k : Nat) (id x y z c : Int32) : ps_G := va_up (va_up (va_up (va_up (va_up g 0 (upd (g 0) k id)) 1 (upd (g 1) k x)) 2 (upd (g 2) k y)) 3 (upd (g 3) k z)) 4 (upd (g 4) k c)
def ps_ab (g : ps_G) (rk : Nat) (j : Nat) : Bool := decide (rk < ps_rk (g 0 j))
/-- the other tree's seven rows over the own -/
def ps_cp (g o : ps_G) (n : Nat) : ps_G := va_up (va_up (va_up (va_up (va_up (va_up (va_up g 0 (va_cpy (o 0) (g 0) 0 0 n)) 1 (va_cpy (o 1) (g 1) 0 0 n)) 2 (va_cpy (o 2) (g 2) 0 0 n)) 3 (va_cpy (o 3) (g 3) 0 0 n)) 4 (va_cpy (o 4) (g 4) 0 0 n)) 5 (va_cpy (o 5) (g 5) 0 0 n)) 6 (va_cpy (o 6) (g 6) 0 0 n)
/-- a page begins at this place -/
def ps_bp (v : Int32) : Bool := decide (v - v / 6 * 6 = 0)
/-- this tree (g, n) keeps row k of the other (o) alike -/
def ps_al (g : ps_G) (n : Nat) (o : ps_G) (k : Nat) : Bool := match ps_fi (g 0) (o 0 k) n with
  | none => false
  | some w => decide (g 1 w = o 1 k) && decide (g 2 w = o 2 k) && decide (g 3 w = o 3 k) && decide (g 4 w = o 4 k) && decide (g 5 w = o 5 k)
def ps_hp (g : ps_G) (d cx cy cz : Int32) (k : Nat) : Bool := decide (¬ g 7 k = 0) && decide (d ≤ g 5 k) && ps_in g d cx cy cz k
def ps_hc (g : ps_G) (n : Nat) (d cx cy cz : Int32) : Bool := ps_any (ps_hp g d cx cy cz) n
/-- row k's node is clean in this tree (g, n) and the other (o, n') -/
def ps_nc (g : ps_G) (n : Nat) (o : ps_G) (n' k : Nat) : Bool := !ps_hc g n (g 5 k) (ps_cb (g 5 k) (g 1 k)) (ps_cb (g 5 k) (g 2 k)) (ps_cb (g 5 k) (g 3 k)) && !ps_hc o n' (g 5 k) (ps_cb (g 5 k) (g 1 k)) (ps_cb (g 5 k) (g 2 k)) (ps_cb (g 5 k) (g 3 k))
def ps_pw (g : ps_G) (n : Nat) (o : ps_G) (n' k : Nat) : Bool := ps_bp (g 6 k) && !ps_nc g n o n' k
/-- changed, with the first k marked -/
def ps_mk (g : ps_G) (n' : Nat) (o : ps_G) (k : Nat) : Nat → Int32 := fun j => if j < k then ps_bi (!ps_al o n' g j) else g 7 j
theorem ps_mk0 (g : ps_G) (n' : Nat) (o : ps_G) : ps_mk g n' o 0 = g 7 := by
  funext j
  simp [ps_mk]
theorem ps_mkS (g : ps_G) (n' : Nat) (o : ps_G) (k : Nat) : upd (ps_mk g n' o k) k (ps_bi (!ps_al o n' g k)) = ps_mk g n' o (k + 1) := by
  funext j
  by_cases h : j = k
  · subst h
    rw [pk_us]
    simp [ps_mk]
  · rw [pk_un h]
    simp only [ps_mk]
    by_cases h2 : j < k
    · rw [if_pos h2, if_pos (by omega)]
    · rw [if_neg h2, if_neg (by omega)]
/-- the distance's key, as the bytecode makes it -/
def ps_dk (g : ps_G) (x y z : Int32) (k : Nat) : Int64 := ((g 1 k - x) * (g 1 k - x) + (g 2 k - y) * (g 2 k - y) + (g 3 k - z) * (g 3 k - z)).toInt64 * 4294967296 + (g 0 k).toInt64
/-- the least of the first n keys above a bound -/
def ps_lk (f : Nat → Int64) (b : Int64) : Nat → Int64
  | 0 => 9223372036854775807
  | n + 1 => if b < f n ∧ f n < ps_lk f b n then f n else ps_lk f b n
def ps_ik (f : Nat → Int64) (n : Nat) : Nat → Int64
  | 0 => -9223372036854775808
  | k + 1 => ps_lk f (ps_ik f n k) n
def ps_co (v : Int32) : Bool := decide (¬ v < 0) && decide (¬ (16 : Int32) ≤ v)
def ps_de (v : Int32) : Bool := decide (¬ v < 0) && decide (¬ (4 : Int32) < v)
def ps_ci (d v : Int32) : Bool := decide (¬ v < 0) && decide (¬ ((1 : Int32) <<< (d &&& 31)) ≤ v)
def ps_cu (d x y z : Int32) : Bool := ps_de d && ps_ci d x && ps_ci d y && ps_ci d z
def ps_bt (x v y : Int32) : Bool := decide (¬ v < (if y < x then y else x)) && decide (¬ (if x < y then y else x) < v)
def ps_hn : Nat → Int32 → Int32
  | 0, v => v
  | n + 1, v => ps_h1 (ps_hn n v)
theorem ps_rkS {k : Nat} {v : Int32} (hk : k ≤ 3) (h : 3 ≤ k) : (ps_hn k v).toInt64 &&& 4294967295 = lN (ps_rk v) := by
  have e : k = 3 := by omega
  subst e
  exact ps_mask _
/-- the first place where P holds -/
def ps_fp (P : Nat → Bool) (n : Nat) : Option Nat := (List.range n).find? P
theorem ps_fp_some {P : Nat → Bool} {n k : Nat} (hk : k < n) (h : P k = true) (h0 : ∀ j, j < k → P j = false) : ps_fp P n = some k := by
  unfold ps_fp
  rw [List.find?_range_eq_some]
  refine ⟨h, by simpa using hk, fun j hj => ?_⟩
  simpa using h0 j hj
theorem ps_fp_none {P : Nat → Bool} {n : Nat} (h0 : ∀ j, j < n → P j = false) : ps_fp P n = none := by
  unfold ps_fp
  rw [List.find?_eq_none]
  intro j hj
  simpa using h0 j (List.mem_range.mp hj)
def ps_fk (g : ps_G) (d cx cy cz pl : Int32) (k : Nat) : Bool := decide (g 6 k = pl) && decide (g 5 k = d) && ps_in g d cx cy cz k
theorem ps_ab_t {g : ps_G} {rk k : Nat} (hrk : rk < 2 ^ 32) (h : ¬ lg_cmp (lN (ps_rk (g 0 k))) (lN rk) ≤ 0) : ps_ab g rk k = true := by
  rw [lg_cmp_le, pk_lLE (Nat.lt_trans (ps_rk_lt _) (by decide)) (Nat.lt_trans hrk (by decide))] at h
  simp only [ps_ab, decide_eq_true_eq]
  omega
theorem ps_ab_f {g : ps_G} {rk k : Nat} (hrk : rk < 2 ^ 32) (h : lg_cmp (lN (ps_rk (g 0 k))) (lN rk) ≤ 0) : ps_ab g rk k = false := by
  rw [lg_cmp_le, pk_lLE (Nat.lt_trans (ps_rk_lt _) (by decide)) (Nat.lt_trans hrk (by decide))] at h
  simp only [ps_ab, decide_eq_false_iff_not]
  omega
theorem ps_lk_1 {f : Nat → Int64} {b : Int64} {k : Nat} (h : lg_cmp (f k) b ≤ 0) : ps_lk f b (k + 1) = ps_lk f b k := by
  rw [lg_cmp_le] at h
  show (if b < f k ∧ f k < ps_lk f b k then f k else ps_lk f b k) = ps_lk f b k
  rw [if_neg]
  intro h2
  exact absurd h2.1 (Int64.not_lt.mpr h)
theorem ps_lk_2 {f : Nat → Int64} {b : Int64} {k : Nat} (h : 0 ≤ lg_cmp (f k) (ps_lk f b k)) : ps_lk f b (k + 1) = ps_lk f b k := by
  rw [lg_cmp_ge] at h
  show (if b < f k ∧ f k < ps_lk f b k then f k else ps_lk f b k) = ps_lk f b k
  rw [if_neg]
  intro h2
  exact absurd h2.2 (Int64.not_lt.mpr h)
theorem ps_lk_3 {f : Nat → Int64} {b : Int64} {k : Nat} (h1 : ¬ lg_cmp (f k) b ≤ 0) (h2 : ¬ 0 ≤ lg_cmp (f k) (ps_lk f b k)) : ps_lk f b (k + 1) = f k := by
  rw [lg_cmp_le] at h1
  rw [lg_cmp_ge] at h2
  show (if b < f k ∧ f k < ps_lk f b k then f k else ps_lk f b k) = f k
  rw [if_pos ⟨Int64.not_le.mp h1, Int64.not_le.mp h2⟩]
theorem ps_al_0 {g g' : ps_G} {n k : Nat} (h : ps_fi (g 0) (g' 0 k) n = none) : ps_al g n g' k = false := by
  simp [ps_al, h]
theorem ps_al_S {g g' : ps_G} {n k w : Nat} (h : ps_fi (g 0) (g' 0 k) n = some w) : ps_al g n g' k = (decide (g 1 w = g' 1 k) && decide (g 2 w = g' 2 k) && decide (g 3 w = g' 3 k) && decide (g 4 w = g' 4 k) && decide (g 5 w = g' 5 k)) := by
  simp [ps_al, h]
theorem ps_fr_m1 {r : Option Nat} (h : ∀ w, r = some w → w < 2 ^ 31) : ps_fr r = -1 ↔ r = none := by
  cases r with
  | none => simp [ps_fr]
  | some w =>
    simp only [ps_fr, reduceCtorEq, iff_false]
    intro e
    have h1 := nI_toInt (h w rfl)
    rw [e] at h1
    have h2 : (-1 : Int32).toInt = -1 := by decide
    omega
theorem ps_nI_m1 {w : Nat} (h : w < 2 ^ 31) : ¬ nI w = -1 := by
  intro e
  have h1 := nI_toInt h
  rw [e] at h1
  have h2 : (-1 : Int32).toInt = -1 := by decide
  omega
