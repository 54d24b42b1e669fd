/-! the tie between the class's rows and the reference's: lists of records (id, x, y, z, colour, depth) -/
abbrev ps_R : Type := Int32 × Int32 × Int32 × Int32 × Int32 × Int32
def ps_ml {α : Type} (F : Nat → α) (n : Nat) : List α := (List.range n).map F
theorem ps_ml_S {α : Type} (F : Nat → α) (n : Nat) : ps_ml F (n + 1) = ps_ml F n ++ [F n] := by
  simp [ps_ml, List.range_succ]
theorem ps_ml_len {α : Type} (F : Nat → α) (n : Nat) : (ps_ml F n).length = n := by simp [ps_ml]
theorem ps_ml_mem {α : Type} {F : Nat → α} {n : Nat} {a : α} : a ∈ ps_ml F n ↔ ∃ k, k < n ∧ F k = a := by
  simp [ps_ml]
theorem ps_ml_congr {α : Type} {F G : Nat → α} {n : Nat} (h : ∀ k, k < n → F k = G k) : ps_ml F n = ps_ml G n := by
  unfold ps_ml
  exact List.map_congr_left (fun k hk => h k (List.mem_range.mp hk))
theorem ps_ml_map {α β : Type} (F : Nat → α) (h : α → β) (n : Nat) : (ps_ml F n).map h = ps_ml (fun k => h (F k)) n := by
  simp [ps_ml, Function.comp_def]
theorem ps_cn_ml {α : Type} {F : Nat → α} {P : Nat → Bool} {Q : α → Bool} {n : Nat} (h : ∀ k, k < n → P k = Q (F k)) : ps_cn P n = (ps_ml F n).countP Q := by
  unfold ps_ml
  rw [List.countP_map]
  exact ps_cn_congr (Q := Q ∘ F) h
theorem ps_ml_shift {α : Type} (F : Nat → α) (k : Nat) : ∀ m, k ≤ m → (F k :: ps_ml (fun j => if j < k then F j else F (j + 1)) m).Perm (ps_ml F (m + 1)) := by
  have key : ∀ d, (F k :: ps_ml (fun j => if j < k then F j else F (j + 1)) (k + d)).Perm (ps_ml F (k + d + 1)) := by
    intro d
    induction d with
    | zero =>
      rw [Nat.add_zero, ps_ml_S, ps_ml_congr (F := fun j => if j < k then F j else F (j + 1)) (G := F) (fun j hj => if_pos hj)]
      exact (List.perm_append_singleton _ _).symm
    | succ d ih =>
      rw [← Nat.add_assoc, ps_ml_S _ (k + d + 1), ps_ml_S _ (k + d), if_neg (by omega : ¬ k + d < k)]
      exact ih.append_right [F (k + d + 1)]
  intro m hm
  obtain ⟨d, rfl⟩ : ∃ d, m = k + d := ⟨m - k, by omega⟩
  exact key d
theorem ps_ml_upd {α : Type} {F F' : Nat → α} {k : Nat} {a : α} (hk' : F' k = a) (h : ∀ j, j ≠ k → F' j = F j) : ∀ n, k < n → (a :: ps_ml F n).Perm (F k :: ps_ml F' n)
  | 0, hk => by omega
  | n + 1, hk => by
    rw [ps_ml_S, ps_ml_S]
    by_cases e : k = n
    · subst e
      rw [hk', ps_ml_congr (F := F') (G := F) (fun j hj => h j (by omega))]
      have h1 : (a :: (ps_ml F k ++ [F k])).Perm (a :: F k :: ps_ml F k) := (List.perm_append_singleton _ _).cons a
      have h2 : (F k :: (ps_ml F k ++ [a])).Perm (F k :: a :: ps_ml F k) := (List.perm_append_singleton _ _).cons (F k)
      exact h1.trans ((List.Perm.swap _ _ _).trans h2.symm)
    · rw [h n (fun q => e q.symm)]
      exact (ps_ml_upd hk' h n (by omega)).append_right [F n]
/-- no two records of one id -/
def ps_ds (L : List ps_R) : Prop := L.Pairwise (fun a b => a.1 ≠ b.1)
theorem ps_ds_perm {L L' : List ps_R} (h : L.Perm L') (hd : ps_ds L) : ps_ds L' := h.pairwise hd (fun h e => h e.symm)
theorem ps_ds_nodup {L : List ps_R} (h : ps_ds L) : L.Nodup := h.imp (fun hab e => hab (by rw [e]))
theorem ps_ds_eq {L : List ps_R} (h : ps_ds L) {a b : ps_R} (ha : a ∈ L) (hb : b ∈ L) (e : a.1 = b.1) : a = b := by
  induction h with
  | nil => cases ha
  | cons h1 h2 ih =>
    rcases List.mem_cons.mp ha with ea | ha2
    · rcases List.mem_cons.mp hb with eb | hb2
      · rw [ea, eb]
      · rw [ea] at e
        exact absurd e (h1 _ hb2)
    · rcases List.mem_cons.mp hb with eb | hb2
      · rw [eb] at e
        exact absurd e.symm (h1 _ ha2)
      · exact ih ha2 hb2
theorem ps_ds_ml {F : Nat → ps_R} : ∀ n, (∀ j k, j < k → k < n → (F j).1 ≠ (F k).1) → ps_ds (ps_ml F n)
  | 0, _ => List.Pairwise.nil
  | n + 1, h => by
    unfold ps_ds
    rw [ps_ml_S, List.pairwise_append]
    refine ⟨ps_ds_ml n (fun j k h1 h2 => h j k h1 (by omega)), List.pairwise_singleton _ _, fun a ha b hb => ?_⟩
    obtain ⟨j, hj, rfl⟩ := ps_ml_mem.mp ha
    rw [List.mem_singleton.mp hb]
    exact h j n hj (by omega)
theorem ps_ds_ix {F : Nat → ps_R} : ∀ n, ps_ds (ps_ml F n) → ∀ j k, j < k → k < n → (F j).1 ≠ (F k).1
  | 0, _, _, _, _, _ => by omega
  | n + 1, h, j, k, h1, h2 => by
    unfold ps_ds at h
    rw [ps_ml_S, List.pairwise_append] at h
    by_cases e : k = n
    · subst e
      exact h.2.2 _ (ps_ml_mem.mpr ⟨j, h1, rfl⟩) _ (List.mem_singleton.mpr rfl)
    · exact ps_ds_ix n h.1 j k h1 (by omega)
abbrev ps_rd (a : ps_R) : Int32 := a.2.2.2.2.2
/-- without the depth -/
def ps_bs (a : ps_R) : Int32 × Int32 × Int32 × Int32 × Int32 := (a.1, a.2.1, a.2.2.1, a.2.2.2.1, a.2.2.2.2.1)
def ps_rs (d : Int32) (a b : ps_R) : Bool := decide (ps_cb d a.2.1 = ps_cb d b.2.1) && decide (ps_cb d a.2.2.1 = ps_cb d b.2.2.1) && decide (ps_cb d a.2.2.2.1 = ps_cb d b.2.2.2.1)
/-- s has the greater rank -/
def ps_gt (r s : ps_R) : Bool := decide (ps_rk r.1 < ps_rk s.1)
/-- a record's depth is what the records of greater rank leave it -/
def ps_De (L : List ps_R) : Prop := ∀ r ∈ L, ps_rd r = nI (ps_dn (fun d => L.countP (fun s => (decide (ps_rd s = nI d) && ps_rs (nI d) s r) && ps_gt r s)))
theorem ps_De_uniq {L1 L2 : List ps_R} (h1 : ps_De L1) (h2 : ps_De L2) (d1 : ps_ds L1) (d2 : ps_ds L2) (hb : (L1.map ps_bs).Perm (L2.map ps_bs)) : L1.Perm L2 := by
  have key : ∀ N : Nat, ∀ r1 ∈ L1, ∀ r2 ∈ L2, ps_bs r1 = ps_bs r2 → 2 ^ 32 - ps_rk r1.1 ≤ N → r1 = r2 := by
    intro N
    induction N with
    | zero =>
      intro r1 _ r2 _ _ h
      have := ps_rk_lt r1.1
      omega
    | succ N ih =>
      intro r1 m1 r2 m2 e h
      have hA : (L1.filter (ps_gt r1)).Perm (L2.filter (ps_gt r1)) := by
        refine (List.perm_ext_iff_of_nodup ((ps_ds_nodup d1).filter _) ((ps_ds_nodup d2).filter _)).mpr (fun a => ?_)
        simp only [List.mem_filter]
        constructor
        · rintro ⟨ha, hg⟩
          obtain ⟨b, hb2, eb⟩ := List.mem_map.mp (hb.mem_iff.mp (List.mem_map_of_mem (f := ps_bs) ha))
          have hg2 : ps_rk r1.1 < ps_rk a.1 := by simpa [ps_gt] using hg
          have e3 := ih a ha b hb2 eb.symm (by have := ps_rk_lt a.1; omega)
          subst e3
          exact ⟨hb2, hg⟩
        · rintro ⟨ha, hg⟩
          obtain ⟨b, hb2, eb⟩ := List.mem_map.mp (hb.mem_iff.mpr (List.mem_map_of_mem (f := ps_bs) ha))
          have hg2 : ps_rk r1.1 < ps_rk a.1 := by simpa [ps_gt] using hg
          have e4 : b.1 = a.1 := congrArg (fun t : Int32 × Int32 × Int32 × Int32 × Int32 => t.1) eb
          have e3 := ih b hb2 a ha eb (by rw [e4]; have := ps_rk_lt a.1; omega)
          subst e3
          exact ⟨hb2, hg⟩
      have e1 := h1 r1 m1
      have e2 := h2 r2 m2
      clear m1 m2
      obtain ⟨i, x, y, z, c, da⟩ := r1
      obtain ⟨i', x', y', z', c', db⟩ := r2
      simp only [ps_bs, Prod.mk.injEq] at e
      obtain ⟨rfl, rfl, rfl, rfl, rfl⟩ := e
      have ec : (fun d => L1.countP (fun s => (decide (ps_rd s = nI d) && ps_rs (nI d) s (i, x, y, z, c, da)) && ps_gt (i, x, y, z, c, da) s)) = (fun d => L2.countP (fun s => (decide (ps_rd s = nI d) && ps_rs (nI d) s (i, x, y, z, c, db)) && ps_gt (i, x, y, z, c, db) s)) := by
        funext d
        have a1 := List.countP_filter (p := fun s => (decide (ps_rd s = nI d) && ps_rs (nI d) s (i, x, y, z, c, da))) (q := ps_gt (i, x, y, z, c, da)) (l := L1)
        have a2 := List.countP_filter (p := fun s => (decide (ps_rd s = nI d) && ps_rs (nI d) s (i, x, y, z, c, da))) (q := ps_gt (i, x, y, z, c, da)) (l := L2)
        exact a1.symm.trans ((hA.countP_eq _).trans a2)
      rw [ec] at e1
      have e5 : da = db := e1.trans e2.symm
      rw [e5]
  refine (List.perm_ext_iff_of_nodup (ps_ds_nodup d1) (ps_ds_nodup d2)).mpr (fun a => ?_)
  constructor
  · intro ha
    obtain ⟨b, hb2, eb⟩ := List.mem_map.mp (hb.mem_iff.mp (List.mem_map_of_mem (f := ps_bs) ha))
    have e3 := key _ a ha b hb2 eb.symm (Nat.le_refl _)
    rw [e3]; exact hb2
  · intro ha
    obtain ⟨b, hb2, eb⟩ := List.mem_map.mp (hb.mem_iff.mpr (List.mem_map_of_mem (f := ps_bs) ha))
    have e3 := key _ b hb2 a ha eb (Nat.le_refl _)
    rw [← e3]; exact hb2
def ps_rc (g : ps_G) (k : Nat) : ps_R := (g 0 k, g 1 k, g 2 k, g 3 k, g 4 k, g 5 k)
def ps_rm (i p c d : Nat → Int32) (k : Nat) : ps_R := (i k, ps_ax (p k) 0, ps_ax (p k) 1, ps_ax (p k) 2, c k, d k)
/-- what a tree of n points is -/
def ps_JT (n : Nat) (g : ps_G) : Prop := n ≤ 48 ∧ (∀ k, k < n → ps_co (g 1 k) = true ∧ ps_co (g 2 k) = true ∧ ps_co (g 3 k) = true) ∧ (∀ j k, j < k → k < n → ps_rk (g 0 k) < ps_rk (g 0 j)) ∧ (∀ k, k < n → g 5 k = nI (ps_dn (ps_kc g k)) ∧ g 6 k = nI (ps_kc g k (ps_dn (ps_kc g k))))
/-- the reference's rows hold the same points -/
def ps_JM (n : Nat) (g : ps_G) (m : Nat) (i p c d : Nat → Int32) : Prop := (ps_ml (ps_rc g) n).Perm (ps_ml (ps_rm i p c d) m) ∧ (∀ k, k < m → ∃ v, v < 4096 ∧ p k = nI v)
theorem ps_JM_len {n : Nat} {g : ps_G} {m : Nat} {i p c d : Nat → Int32} (h : ps_JM n g m i p c d) : n = m := by
  have := h.1.length_eq
  rwa [ps_ml_len, ps_ml_len] at this
theorem ps_JT_ds {n : Nat} {g : ps_G} (h : ps_JT n g) : ps_ds (ps_ml (ps_rc g) n) := by
  refine ps_ds_ml n (fun j k h1 h2 e => ?_)
  have := h.2.2.1 j k h1 h2
  have e : g 0 j = g 0 k := e
  rw [e] at this
  omega
theorem ps_cn_cut {P Q : Nat → Bool} {k n : Nat} (hk : k ≤ n) (h1 : ∀ j, j < k → P j = Q j) (h2 : ∀ j, k ≤ j → j < n → Q j = false) : ps_cn P k = ps_cn Q n := by
  obtain ⟨d, rfl⟩ : ∃ d, n = k + d := ⟨n - k, by omega⟩
  clear hk
  induction d with
  | zero => exact ps_cn_congr h1
  | succ d ih =>
    rw [← Nat.add_assoc, ps_cnF (h2 (k + d) (by omega) (by omega))]
    exact ih (fun j h3 h4 => h2 j h3 (by omega))
/-- a row's count of the earlier ones, as a count over all -/
theorem ps_kc_De {n : Nat} {g : ps_G} (hs : ∀ j k, j < k → k < n → ps_rk (g 0 k) < ps_rk (g 0 j)) {k : Nat} (hk : k < n) (d : Nat) : ps_kc g k d = (ps_ml (ps_rc g) n).countP (fun s => (decide (ps_rd s = nI d) && ps_rs (nI d) s (ps_rc g k)) && ps_gt (ps_rc g k) s) := by
  rw [← ps_cn_ml (P := fun j => ps_kb g (nI d) k j && decide (ps_rk (g 0 k) < ps_rk (g 0 j))) (fun _ _ => rfl)]
  refine ps_cn_cut (Nat.le_of_lt hk) (fun j hj => ?_) (fun j h1 h2 => ?_)
  · have := hs j k hj hk
    simp [this]
  · have : ¬ ps_rk (g 0 k) < ps_rk (g 0 j) := by
      by_cases e : j = k
      · subst e; omega
      · have := hs k j (by omega) h2
        omega
    simp [this]
theorem ps_JT_De {n : Nat} {g : ps_G} (h : ps_JT n g) : ps_De (ps_ml (ps_rc g) n) := by
  intro r hr
  obtain ⟨k, hk, rfl⟩ := ps_ml_mem.mp hr
  show g 5 k = _
  rw [(h.2.2.2 k hk).1]
  have e : ps_kc g k = (fun d => (ps_ml (ps_rc g) n).countP (fun s => (decide (ps_rd s = nI d) && ps_rs (nI d) s (ps_rc g k)) && ps_gt (ps_rc g k) s)) := by
    funext d
    exact ps_kc_De h.2.2.1 hk d
  rw [← e]
