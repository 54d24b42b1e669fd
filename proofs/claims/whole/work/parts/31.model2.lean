/-! contracts: the reference's longer readers. By wip/model2.py. -/
/-- the done marks, cleared below k -/
def ps_d0 (f : ps_G) (k : Nat) : Nat → Int32 := fun j => if j < k then 0 else f 8 j
theorem ps_d0_0 (f : ps_G) : f = va_up f 8 (ps_d0 f 0) := by
  have e : ps_d0 f 0 = f 8 := by funext j; simp [ps_d0]
  rw [e, ps_up_self]
theorem ps_d0_S (f : ps_G) (k : Nat) : upd (ps_d0 f k) k 0 = ps_d0 f (k + 1) := by
  funext j
  by_cases h : j = k
  · subst h; rw [pk_us]; simp [ps_d0]
  · rw [pk_un h]
    simp only [ps_d0]
    by_cases h2 : j < k
    · rw [if_pos h2, if_pos (by omega)]
    · rw [if_neg h2, if_neg (by omega)]
def ps_sd (f : ps_G) (mn k : Nat) : Nat := ps_dn (fun d => ps_cn (ps_kp f (f 1 k) (nI d)) mn)
/-- one round of the reference's settling -/
def ps_t1 (f : ps_G) (mn : Nat) : ps_G := match ps_gr f mn with
  | none => f
  | some k => va_up (va_up f 3 (upd (f 3) k (nI (ps_sd f mn k)))) 8 (upd (f 8) k 1)
def ps_tN (f : ps_G) (mn : Nat) : Nat → ps_G
  | 0 => f
  | r + 1 => ps_t1 (ps_tN f mn r) mn
def ps_st (f : ps_G) (mn : Nat) : ps_G := ps_tN (va_up f 8 (ps_d0 f mn)) mn mn
theorem ps_t1_some {f : ps_G} {mn k d : Nat} (hg : ps_gr f mn = some k) (hd : ps_sd f mn k = d) : ps_t1 f mn = va_up (va_up f 3 (upd (f 3) k (nI d))) 8 (upd (f 8) k 1) := by
  unfold ps_t1
  rw [hg, ← hd]
theorem ps_gr_none {f : ps_G} : ∀ {n : Nat}, ps_gr f n = none → ∀ j, j < n → ¬ f 8 j = 0
  | 0, _, j, hj => by omega
  | n + 1, h, j, hj => by
    by_cases e : f 8 n = 0 ∧ (∀ b, ps_gr f n = some b → ps_rk (f 0 b) < ps_rk (f 0 n))
    · rw [ps_gr_t e.1 e.2] at h
      cases h
    · rw [ps_gr_f e] at h
      by_cases hjn : j = n
      · subst hjn
        intro h0
        exact e ⟨h0, fun b hb => by rw [h] at hb; cases hb⟩
      · exact ps_gr_none h j (by omega)
theorem ps_cn_upd {f : Nat → Int32} {k : Nat} {x : Int32} (n : Nat) : ps_cn (fun j => decide (¬ upd f k x j = 0)) n ≤ ps_cn (fun j => decide (¬ f j = 0)) n + (if k < n then 1 else 0) := by
  induction n with
  | zero => simp [ps_cn0]
  | succ n ih =>
    rw [ps_cnS, ps_cnS]
    by_cases h : k = n
    · subst h
      rw [if_neg (Nat.lt_irrefl _)] at ih
      rw [if_pos (Nat.lt_succ_self _)]
      split <;> split <;> omega
    · have e : upd f k x n = f n := pk_un (fun e => h e.symm)
      rw [e]
      by_cases h2 : k < n
      · rw [if_pos h2] at ih
        have h3 : k < n + 1 := by omega
        simp only [h3, if_true]
        omega
      · rw [if_neg h2] at ih
        have h3 : ¬ k < n + 1 := by omega
        simp only [h3, if_false]
        omega
theorem ps_cn_zero {P : Nat → Bool} (n : Nat) (h : ∀ k, k < n → P k = false) : ps_cn P n = 0 := by
  induction n with
  | zero => rfl
  | succ n ih => rw [ps_cnF (h n (by omega)), ih (fun k hk => h k (by omega))]
theorem ps_cn_full {P : Nat → Bool} (n : Nat) (h : ∀ k, k < n → P k = true) : ps_cn P n = n := by
  induction n with
  | zero => rfl
  | succ n ih => rw [ps_cnT (h n (by omega)), ih (fun k hk => h k (by omega))]
theorem ps_tN_done (f : ps_G) (mn : Nat) (h0 : ∀ k, k < mn → f 8 k = 0) : ∀ r, ps_cn (fun j => decide (¬ ps_tN f mn r 8 j = 0)) mn ≤ r
  | 0 => by
    rw [ps_cn_zero mn (fun k hk => by simp [ps_tN, h0 k hk])]
    exact Nat.le_refl _
  | r + 1 => by
    have ih := ps_tN_done f mn h0 r
    show ps_cn (fun j => decide (¬ ps_t1 (ps_tN f mn r) mn 8 j = 0)) mn ≤ r + 1
    cases hg : ps_gr (ps_tN f mn r) mn with
    | none =>
      have e : ps_t1 (ps_tN f mn r) mn = ps_tN f mn r := by unfold ps_t1; rw [hg]
      rw [e]; omega
    | some k =>
      rw [ps_t1_some hg rfl]
      have h := ps_cn_upd (f := ps_tN f mn r 8) (k := k) (x := 1) mn
      have e : va_up (va_up (ps_tN f mn r) 3 (upd (ps_tN f mn r 3) k (nI (ps_sd (ps_tN f mn r) mn k)))) 8 (upd (ps_tN f mn r 8) k 1) 8 = upd (ps_tN f mn r 8) k 1 := va_up_self _ _ _
      rw [e]
      split at h <;> omega
theorem ps_tN_some (f : ps_G) (mn : Nat) (h0 : ∀ k, k < mn → f 8 k = 0) {r : Nat} (hr : r < mn) : ∃ k, ps_gr (ps_tN f mn r) mn = some k := by
  cases hg : ps_gr (ps_tN f mn r) mn with
  | some k => exact ⟨k, rfl⟩
  | none =>
    have h1 := ps_gr_none hg
    have h2 := ps_cn_full (P := fun j => decide (¬ ps_tN f mn r 8 j = 0)) mn (fun k hk => by simpa using h1 k hk)
    have h3 := ps_tN_done f mn h0 r
    omega
theorem ps_d0_8 (f : ps_G) (mn : Nat) : ∀ k, k < mn → va_up f 8 (ps_d0 f mn) 8 k = 0 := by
  intro k hk
  rw [va_up_self]
  simp [ps_d0, hk]
/-- a row shifted down by one below k -/
def ps_sh (h : Nat → Int32) (k : Nat) : Nat → Int32 := fun j => if j < k then h (j + 1) else h j
theorem ps_sh_0 (h : Nat → Int32) : ps_sh h 0 = h := by funext j; simp [ps_sh]
theorem ps_sh_S (h : Nat → Int32) (k : Nat) : upd (ps_sh h k) k (ps_sh h k (k + 1)) = ps_sh h (k + 1) := by
  funext j
  by_cases e : j = k
  · subst e; rw [pk_us]; simp [ps_sh, show ¬ j + 1 < j by omega]
  · rw [pk_un e]
    simp only [ps_sh]
    by_cases h2 : j < k
    · rw [if_pos h2, if_pos (by omega)]
    · rw [if_neg h2, if_neg (by omega)]
/-- a row over another below k -/
def ps_ov (x y : Nat → Int32) (k : Nat) : Nat → Int32 := fun j => if j < k then x j else y j
theorem ps_ov_0 (x y : Nat → Int32) : ps_ov x y 0 = y := by funext j; simp [ps_ov]
theorem ps_ov_S (x y : Nat → Int32) (k : Nat) : upd (ps_ov x y k) k (x k) = ps_ov x y (k + 1) := by
  funext j
  by_cases e : j = k
  · subst e; rw [pk_us]; simp [ps_ov]
  · rw [pk_un e]
    simp only [ps_ov]
    by_cases h2 : j < k
    · rw [if_pos h2, if_pos (by omega)]
    · rw [if_neg h2, if_neg (by omega)]
/-- the reference's rows behind opening, k of them copied -/
def ps_oG (f : ps_G) (k : Nat) : ps_G := va_up (va_up (va_up f 0 (ps_ov (f 4) (f 0) k)) 1 (ps_ov (f 5) (f 1) k)) 2 (ps_ov (f 6) (f 2) k)
def ps_kG (f : ps_G) (k : Nat) : ps_G := va_up (va_up (va_up (va_up f 4 (ps_ov (f 0) (f 4) k)) 5 (ps_ov (f 1) (f 5) k)) 6 (ps_ov (f 2) (f 6) k)) 7 (ps_ov (f 3) (f 7) k)
theorem ps_oG_0 (f : ps_G) : f = ps_oG f 0 := by
  simp only [ps_oG, ps_ov_0]
  funext i
  by_cases h2 : i = 2
  · subst h2; rw [va_up_self]
  · rw [va_up_ne _ _ h2]
    by_cases h1 : i = 1
    · subst h1; rw [va_up_self]
    · rw [va_up_ne _ _ h1]
      by_cases h0 : i = 0
      · subst h0; rw [va_up_self]
      · rw [va_up_ne _ _ h0]
theorem ps_kG_0 (f : ps_G) : f = ps_kG f 0 := by
  simp only [ps_kG, ps_ov_0]
  funext i
  by_cases h2 : i = 7
  · subst h2; rw [va_up_self]
  · rw [va_up_ne _ _ h2]
    by_cases h1 : i = 6
    · subst h1; rw [va_up_self]
    · rw [va_up_ne _ _ h1]
      by_cases h0 : i = 5
      · subst h0; rw [va_up_self]
      · rw [va_up_ne _ _ h0]
        by_cases h4 : i = 4
        · subst h4; rw [va_up_self]
        · rw [va_up_ne _ _ h4]
theorem ps_oG_S (f : ps_G) (k : Nat) : va_up (va_up (va_up (ps_oG f k) 0 (upd (ps_ov (f 4) (f 0) k) k (f 4 k))) 1 (upd (ps_ov (f 5) (f 1) k) k (f 5 k))) 2 (upd (ps_ov (f 6) (f 2) k) k (f 6 k)) = ps_oG f (k + 1) := by
  rw [ps_ov_S, ps_ov_S, ps_ov_S]
  funext i
  simp only [ps_oG, va_up]
  split <;> (try rfl)
  split <;> (try rfl)
  split <;> rfl
theorem ps_kG_S (f : ps_G) (k : Nat) : va_up (va_up (va_up (va_up (ps_kG f k) 4 (upd (ps_ov (f 0) (f 4) k) k (f 0 k))) 5 (upd (ps_ov (f 1) (f 5) k) k (f 1 k))) 6 (upd (ps_ov (f 2) (f 6) k) k (f 2 k))) 7 (upd (ps_ov (f 3) (f 7) k) k (f 3 k)) = ps_kG f (k + 1) := by
  rw [ps_ov_S, ps_ov_S, ps_ov_S, ps_ov_S]
  funext i
  simp only [ps_kG, va_up]
  split <;> (try rfl)
  split <;> (try rfl)
  split <;> (try rfl)
  split <;> rfl
def ps_mb (f : ps_G) (co p d : Int32) (k : Nat) : Bool := ps_all (ps_iq f co p k) 3 && decide (¬ d < f 3 k)
def ps_nb (f : ps_G) (p : Int32) (x y : Nat) : Bool := decide (ps_dd (f 1 y) p 3 - ps_dd (f 1 x) p 3 < 0) || (decide (ps_dd (f 1 y) p 3 - ps_dd (f 1 x) p 3 = 0) && decide (f 0 y < f 0 x))
def ps_nr (f : ps_G) (mn : Nat) (p k : Int32) : Nat → Int32
  | 0 => 0
  | x + 1 => if nI (ps_cn (ps_nb f p x) mn) = k - 1 then f 0 x else ps_nr f mn p k x
theorem ps_nr_t {f : ps_G} {mn x : Nat} {p k : Int32} (h : nI (ps_cn (ps_nb f p x) mn) = k - 1) : ps_nr f mn p k (x + 1) = f 0 x := by simp [ps_nr, h]
theorem ps_nr_f {f : ps_G} {mn x : Nat} {p k : Int32} (h : ¬ nI (ps_cn (ps_nb f p x) mn) = k - 1) : ps_nr f mn p k (x + 1) = ps_nr f mn p k x := by simp [ps_nr, h]
def ps_kq (f : ps_G) (p d : Int32) (x y : Nat) : Bool := decide (f 3 y = d) && ps_mo (f 1 y) p d && decide (ps_rk (f 0 x) < ps_rk (f 0 y))
def ps_kz (f : ps_G) (mn : Nat) (p d i : Int32) (x : Nat) : Bool := decide (f 3 x = d) && ps_mo (f 1 x) p d && decide (nI (ps_cn (ps_kq f p d x) mn) = i)
def ps_sv2 (f : ps_G) (mn kn ln : Nat) (wr w : Int32) : Int32 :=
  if w = 0 then nI mn else if w = 1 then nI (ps_cn (fun k => ps_all (ps_nf (f 3) (f 1) k) k) mn) else if w = 2 then 64 - nI (ps_tp (fun k => ps_all (ps_nf (f 7) (f 5) k) k) (fun k => ps_cn (ps_tq (f 7) (f 5) k) kn) kn) else if w = 3 then wr else if w = 4 then nI ln else if w = 5 then nI kn else -1
set_option maxHeartbeats 4000000 in
set_option maxRecDepth 100000 in
theorem mX3_takenPages (l : Launch) (dC : Nat → ClassId) (dI : Nat → Nat → Nat) (cI cZ : ClassId) (w0 : Nat) (b0 : Nat → Nat) (th : Int32) (mn kn : Nat) (co : Int32) (ln : Nat) (wr lt : Int32) (f : ps_G) (hkn : kn ≤ 48) : Met l yX3_takenPages (.code yX3_takenPages cX3_takenPages 5 (some .int) :: ps_T) ({ frames := 3, cells := 0, slots := 0, locals := 67 }) (ps_pc (dC, dI) (ps_ty cI cZ) (ps_mdW cI cZ w0 b0 th mn kn co ln wr lt f) [.ref w0]) (vp_Si (fun r => r = nI (ps_tp (fun k => ps_all (ps_nf (f 7) (f 5) k) k) (fun k => ps_cn (ps_tq (f 7) (f 5) k) kn) kn))) 0 0 (fun _ => False) := by
  refine Met.ofW (cc := cX3_takenPages) (maxL := 5) (ret := (some .int)) (by decide) rfl ?_
  intro p e s m args below meth c s₁ B hml hv
  obtain ⟨rfl, hN, hP, hK⟩ := hv
  have hx := B.exec
  have hb := B.bytes
  have hr := B.returns
  have hlocks := B.notSynchronized
  have hT : ∀ w ∈ ps_T, w.before ([.ref w0] : List Value).toArray s = true := fun w h => atoms_spec (ws := (.code yX3_takenPages cX3_takenPages 5 (some .int) :: ps_T)) B.pre w (List.mem_cons_of_mem _ h)
  have hown : s.vm.findClass RX3 = some m.cls := findClass_of_methodNamed B.named
  have hl := lv_entry ([.ref w0]) (n := 5) (Nat.le_of_ble_eq_true rfl)
  rw [lg_entry_eq]
  generalize (lg_sl ([.ref w0]) ++ List.replicate (5 - (lg_sl ([.ref w0])).length) Slot.unset).toArray = ls at hl ⊢
  have hl : lv_has ls 5 [(0, .ref w0)] := hl
  refine lv_iconst (v := 0) hx hb dX3_takenPages_0 (by decide) ?_
  refine lv_istore_n (lv' := [(1, .int 0), (0, .ref w0)]) hx hb dX3_takenPages_1 rfl hl (by decide) rfl (fun ls hl => ?_)
  refine lv_iconst (v := 0) hx hb dX3_takenPages_2 (by decide) ?_
  refine lv_istore_n (lv' := [(2, .int 0), (1, .int 0), (0, .ref w0)]) hx hb dX3_takenPages_3 rfl hl (by decide) rfl (fun ls hl => ?_)
  have hl : lv_has ls 5 [(2, .int (nI 0)), (1, .int (nI (ps_tp (fun k => ps_all (ps_nf (f 7) (f 5) k) k) (fun k => ps_cn (ps_tq (f 7) (f 5) k) kn) 0))), (0, .ref w0)] := hl
  refine ps_loopS (α := Nat) (fun k => kn - k) (fun k ls => (k ≤ kn) ∧ lv_has ls 5 [(0, .ref w0), (1, .int (nI (ps_tp (fun k => ps_all (ps_nf (f 7) (f 5) k) k) (fun k => ps_cn (ps_tq (f 7) (f 5) k) kn) k))), (2, .int (nI k))]) ?_ 0 ls ⟨by omega, lv_sub hl [2, 1, 0] rfl⟩
  intro k ls ih4 hI
  obtain ⟨hk, hl⟩ := hI
  refine lv_iload_n hx hb dX3_takenPages_4 rfl (lv_at hl 2 rfl) ?_
  refine lv_aload_n hx hb dX3_takenPages_5 rfl (lv_at hl 0 rfl) ?_
  refine va_get (D := (dC, dI)) (ci := 3) (v := .int (nI kn)) (C := RX3) (T := TX3) (N := 17) hx hb hT inX3 hown hK hP 0 rfl rfl 6 (by decide) (hT _ tw_fl_X3_109) (fun _ h9 => h9) rfl dX3_takenPages_6 ?_
  refine ps_icmp_ge (tgt := 106) (a := k) (b := kn) hx hb dX3_takenPages_9 rfl (by omega) (by omega) (fun h9 => ?_) (fun h9 => ?_)
  · skip
    refine lv_iload_n hx hb dX3_takenPages_106 rfl (lv_at hl 1 rfl) ?_
    exact W.iret (v := nI (ps_tp (fun k => ps_all (ps_nf (f 7) (f 5) k) k) (fun k => ps_cn (ps_tq (f 7) (f 5) k) kn) k)) hx hb hr (fun t ht hW => ⟨nI (ps_tp (fun k => ps_all (ps_nf (f 7) (f 5) k) k) (fun k => ps_cn (ps_tq (f 7) (f 5) k) kn) k), rfl, by rw [show k = kn by omega], ht⟩) (fun q h => by cases h) dX3_takenPages_107
  · skip
    refine lv_iconst (v := 0) hx hb dX3_takenPages_12 (by decide) ?_
    refine lv_istore_n (lv' := [(3, .int 0), (0, .ref w0), (1, .int (nI (ps_tp (fun k => ps_all (ps_nf (f 7) (f 5) k) k) (fun k => ps_cn (ps_tq (f 7) (f 5) k) kn) k))), (2, .int (nI k))]) hx hb dX3_takenPages_13 rfl hl (by decide) rfl (fun ls hl => ?_)
    refine lv_iconst (v := 0) hx hb dX3_takenPages_14 (by decide) ?_
    refine lv_istore (lv' := [(4, .int 0), (3, .int 0), (0, .ref w0), (1, .int (nI (ps_tp (fun k => ps_all (ps_nf (f 7) (f 5) k) k) (fun k => ps_cn (ps_tq (f 7) (f 5) k) kn) k))), (2, .int (nI k))]) hx hb dX3_takenPages_15 hl (by decide) rfl (fun ls hl => ?_)
    have hl : lv_has ls 5 [(4, .int (nI 0)), (3, .int (nI (ps_cn (ps_tq (f 7) (f 5) k) 0))), (0, .ref w0), (1, .int (nI (ps_tp (fun k => ps_all (ps_nf (f 7) (f 5) k) k) (fun k => ps_cn (ps_tq (f 7) (f 5) k) kn) k))), (2, .int (nI k))] := hl
    refine ps_loopS (α := Nat) (fun j => kn - j) (fun j ls => (j ≤ kn) ∧ lv_has ls 5 [(0, .ref w0), (1, .int (nI (ps_tp (fun k => ps_all (ps_nf (f 7) (f 5) k) k) (fun k => ps_cn (ps_tq (f 7) (f 5) k) kn) k))), (2, .int (nI k)), (3, .int (nI (ps_cn (ps_tq (f 7) (f 5) k) j))), (4, .int (nI j))]) ?_ 0 ls ⟨by omega, lv_sub hl [2, 3, 4, 1, 0] rfl⟩
    intro j ls ih17 hI
    obtain ⟨hj, hl⟩ := hI
    refine lv_iload hx hb dX3_takenPages_17 (lv_at hl 4 rfl) ?_
    refine lv_aload_n hx hb dX3_takenPages_19 rfl (lv_at hl 0 rfl) ?_
    refine va_get (D := (dC, dI)) (ci := 3) (v := .int (nI kn)) (C := RX3) (T := TX3) (N := 17) hx hb hT inX3 hown hK hP 0 rfl rfl 6 (by decide) (hT _ tw_fl_X3_109) (fun _ h9 => h9) rfl dX3_takenPages_20 ?_
    refine ps_icmp_ge (tgt := 81) (a := j) (b := kn) hx hb dX3_takenPages_23 rfl (by omega) (by omega) (fun h23 => ?_) (fun h23 => ?_)
    · skip
      have ej : j = kn := by omega
      · skip
        rw [ej] at hl
        refine lv_aload_n hx hb dX3_takenPages_81 rfl (lv_at hl 0 rfl) ?_
        refine lv_iload_n hx hb dX3_takenPages_82 rfl (lv_at hl 2 rfl) ?_
        refine vp_callSi (va_Run.run (va_runV (C := RX3) (As := [.int (nI k)]) (rest := []) ⟨hx, hb, hml, hown, hT⟩ (mX3_isFirstKept l dC dI cI cZ w0 b0 th mn kn co ln wr lt f k (by omega)) (cwV 1 hT (ps_gV tw_ml_X3_112 tw_im_X3_isFirstKept tw_se_X3_isFirstKept tw_in_X3 tw_co_X3_isFirstKept) rfl rfl rfl ⟨rfl, by decide, by decide, by decide +kernel⟩ ⟨Nat.le_of_ble_eq_true rfl, Nat.le_of_ble_eq_true rfl⟩) (ps_preV (ci := 3) (q0 := 0) hN hP hK rfl rfl) rfl rfl hl.1 rfl (lv_room (Nat.le_of_ble_eq_true rfl)) dX3_takenPages_83 ⟨Nat.le_of_ble_eq_true rfl, Nat.le_of_ble_eq_true rfl⟩)) (fun r hr => ?_)
        obtain rfl : r = ps_bi (ps_all (ps_nf (f 7) (f 5) k) k) := hr
        refine ps_ifb_eq (tgt := 98) hx hb dX3_takenPages_86 rfl (fun h86 => ?_) (fun h86 => ?_)
        · skip
          refine lv_iload_n hx hb dX3_takenPages_98 rfl (lv_at hl 1 rfl) ?_
          refine lv_topi (fun y9 hy9 => ?_)
          obtain rfl : y9 = nI (ps_tp (fun k => ps_all (ps_nf (f 7) (f 5) k) k) (fun k => ps_cn (ps_tq (f 7) (f 5) k) kn) (k + 1)) := hy9.trans (by rw [ps_tp_f (F := fun k => ps_all (ps_nf (f 7) (f 5) k) k) (C := fun k => ps_cn (ps_tq (f 7) (f 5) k) kn) h86])
          refine lv_istore_n (lv' := [(1, .int (nI (ps_tp (fun k => ps_all (ps_nf (f 7) (f 5) k) k) (fun k => ps_cn (ps_tq (f 7) (f 5) k) kn) (k + 1)))), (0, .ref w0), (2, .int (nI k)), (3, .int (nI (ps_cn (ps_tq (f 7) (f 5) k) kn))), (4, .int (nI kn))]) hx hb dX3_takenPages_99 rfl hl (by decide) rfl (fun ls hl => ?_)
          refine lv_iinc (k := 2) (v := nI (k + 1)) (lv' := [(2, .int (nI (k + 1))), (1, .int (nI (ps_tp (fun k => ps_all (ps_nf (f 7) (f 5) k) k) (fun k => ps_cn (ps_tq (f 7) (f 5) k) kn) (k + 1)))), (0, .ref w0), (3, .int (nI (ps_cn (ps_tq (f 7) (f 5) k) kn))), (4, .int (nI kn))]) hx hb dX3_takenPages_100 hl rfl (ps_inc _) (by decide) rfl (fun ls hl => ?_)
          refine lv_goto (tgt := 4) hx hb dX3_takenPages_103 rfl ?_
          exact ih4 ((k + 1)) ls (by omega) ⟨by omega, lv_sub hl [2, 1, 0] rfl⟩
        · skip
          refine lv_iload_n hx hb dX3_takenPages_89 rfl (lv_at hl 1 rfl) ?_
          refine lv_iload_n hx hb dX3_takenPages_90 rfl (lv_at hl 3 rfl) ?_
          refine vp_callSi (va_Run.run (va_runS (As := [.int (nI (ps_cn (ps_tq (f 7) (f 5) k) kn))]) (rest := [.int (nI (ps_tp (fun k => ps_all (ps_nf (f 7) (f 5) k) k) (fun k => ps_cn (ps_tq (f 7) (f 5) k) kn) k))]) ⟨hx, hb, hml, hown, hT⟩ (mX3_pagesFor l (ps_cn (ps_tq (f 7) (f 5) k) kn) (Nat.lt_of_le_of_lt (ps_cn_le _ _) (by omega))) (va_cwS 1 hT (ps_gS tw_ml_X3_116 tw_st_X3_pagesFor tw_in_X3 tw_co_X3_pagesFor) rfl rfl rfl ⟨by decide, by decide, by decide +kernel⟩ ⟨Nat.le_of_ble_eq_true rfl, Nat.le_of_ble_eq_true rfl⟩) preEq rfl rfl hl.1 rfl (lv_room (Nat.le_of_ble_eq_true rfl)) dX3_takenPages_91 ⟨Nat.le_of_ble_eq_true rfl, Nat.le_of_ble_eq_true rfl⟩)) (fun r hr => ?_)
          obtain rfl : r = nI (((ps_cn (ps_tq (f 7) (f 5) k) kn) + 5) / 6) := hr
          refine lv_iadd hx hb dX3_takenPages_94 ?_
          refine lv_topi (fun y9 hy9 => ?_)
          obtain rfl : y9 = nI (ps_tp (fun k => ps_all (ps_nf (f 7) (f 5) k) k) (fun k => ps_cn (ps_tq (f 7) (f 5) k) kn) (k + 1)) := hy9.trans ((nI_add _ _).trans (by rw [ps_tp_t (F := fun k => ps_all (ps_nf (f 7) (f 5) k) k) (C := fun k => ps_cn (ps_tq (f 7) (f 5) k) kn) h86]))
          refine lv_goto (tgt := 99) hx hb dX3_takenPages_95 rfl ?_
          refine lv_istore_n (lv' := [(1, .int (nI (ps_tp (fun k => ps_all (ps_nf (f 7) (f 5) k) k) (fun k => ps_cn (ps_tq (f 7) (f 5) k) kn) (k + 1)))), (0, .ref w0), (2, .int (nI k)), (3, .int (nI (ps_cn (ps_tq (f 7) (f 5) k) kn))), (4, .int (nI kn))]) hx hb dX3_takenPages_99 rfl hl (by decide) rfl (fun ls hl => ?_)
          refine lv_iinc (k := 2) (v := nI (k + 1)) (lv' := [(2, .int (nI (k + 1))), (1, .int (nI (ps_tp (fun k => ps_all (ps_nf (f 7) (f 5) k) k) (fun k => ps_cn (ps_tq (f 7) (f 5) k) kn) (k + 1)))), (0, .ref w0), (3, .int (nI (ps_cn (ps_tq (f 7) (f 5) k) kn))), (4, .int (nI kn))]) hx hb dX3_takenPages_100 hl rfl (ps_inc _) (by decide) rfl (fun ls hl => ?_)
          refine lv_goto (tgt := 4) hx hb dX3_takenPages_103 rfl ?_
          exact ih4 ((k + 1)) ls (by omega) ⟨by omega, lv_sub hl [2, 1, 0] rfl⟩
    · skip
      refine lv_aload_n hx hb dX3_takenPages_26 rfl (lv_at hl 0 rfl) ?_
      refine va_get (D := (dC, dI)) (ci := 3) (v := .ref (b0 7)) (C := RX3) (T := TX3) (N := 17) hx hb hT inX3 hown hK hP 0 rfl rfl 10 (by decide) (hT _ tw_fl_X3_31) (fun _ h9 => h9) rfl dX3_takenPages_27 ?_
      refine lv_iload hx hb dX3_takenPages_30 (lv_at hl 4 rfl) ?_
      refine ps_iald (k := j) (f := f 7) hx hb hK hP 8 0 rfl rfl (by omega) (by decide) dX3_takenPages_32 ?_
      refine lv_aload_n hx hb dX3_takenPages_33 rfl (lv_at hl 0 rfl) ?_
      refine va_get (D := (dC, dI)) (ci := 3) (v := .ref (b0 7)) (C := RX3) (T := TX3) (N := 17) hx hb hT inX3 hown hK hP 0 rfl rfl 10 (by decide) (hT _ tw_fl_X3_31) (fun _ h9 => h9) rfl dX3_takenPages_34 ?_
      refine lv_iload_n hx hb dX3_takenPages_37 rfl (lv_at hl 2 rfl) ?_
      refine ps_iald (k := k) (f := f 7) hx hb hK hP 8 0 rfl rfl (by omega) (by decide) dX3_takenPages_38 ?_
      refine lv_icmp_ne (tgt := 73) hx hb dX3_takenPages_39 rfl (fun h39 => ?_) (fun h39 => ?_)
      · skip
        have hc : ps_tq (f 7) (f 5) k j = false := by simp [ps_tq, h39]
        refine lv_iload_n hx hb dX3_takenPages_73 rfl (lv_at hl 3 rfl) ?_
        refine lv_istore_n (lv' := [(3, .int (nI (ps_cn (ps_tq (f 7) (f 5) k) j))), (0, .ref w0), (1, .int (nI (ps_tp (fun k => ps_all (ps_nf (f 7) (f 5) k) k) (fun k => ps_cn (ps_tq (f 7) (f 5) k) kn) k))), (2, .int (nI k)), (4, .int (nI j))]) hx hb dX3_takenPages_74 rfl hl (by decide) rfl (fun ls hl => ?_)
        refine lv_iinc (k := 4) (v := nI (j + 1)) (lv' := [(4, .int (nI (j + 1))), (3, .int (nI (ps_cn (ps_tq (f 7) (f 5) k) j))), (0, .ref w0), (1, .int (nI (ps_tp (fun k => ps_all (ps_nf (f 7) (f 5) k) k) (fun k => ps_cn (ps_tq (f 7) (f 5) k) kn) k))), (2, .int (nI k))]) hx hb dX3_takenPages_75 hl rfl (ps_inc _) (by decide) rfl (fun ls hl => ?_)
        refine lv_goto (tgt := 17) hx hb dX3_takenPages_78 rfl ?_
        first | rw [← ps_cnT hc] at hl | rw [← ps_cnF hc] at hl
        exact ih17 ((j + 1)) ls (by omega) ⟨by omega, lv_sub hl [2, 3, 4, 1, 0] rfl⟩
      · skip
        refine lv_aload_n hx hb dX3_takenPages_42 rfl (lv_at hl 0 rfl) ?_
        refine va_get (D := (dC, dI)) (ci := 3) (v := .ref (b0 5)) (C := RX3) (T := TX3) (N := 17) hx hb hT inX3 hown hK hP 0 rfl rfl 8 (by decide) (hT _ tw_fl_X3_25) (fun _ h9 => h9) rfl dX3_takenPages_43 ?_
        refine lv_iload hx hb dX3_takenPages_46 (lv_at hl 4 rfl) ?_
        refine ps_iald (k := j) (f := f 5) hx hb hK hP 6 0 rfl rfl (by omega) (by decide) dX3_takenPages_48 ?_
        refine lv_aload_n hx hb dX3_takenPages_49 rfl (lv_at hl 0 rfl) ?_
        refine va_get (D := (dC, dI)) (ci := 3) (v := .ref (b0 5)) (C := RX3) (T := TX3) (N := 17) hx hb hT inX3 hown hK hP 0 rfl rfl 8 (by decide) (hT _ tw_fl_X3_25) (fun _ h9 => h9) rfl dX3_takenPages_50 ?_
        refine lv_iload_n hx hb dX3_takenPages_53 rfl (lv_at hl 2 rfl) ?_
        refine ps_iald (k := k) (f := f 5) hx hb hK hP 6 0 rfl rfl (by omega) (by decide) dX3_takenPages_54 ?_
        refine lv_aload_n hx hb dX3_takenPages_55 rfl (lv_at hl 0 rfl) ?_
        refine va_get (D := (dC, dI)) (ci := 3) (v := .ref (b0 7)) (C := RX3) (T := TX3) (N := 17) hx hb hT inX3 hown hK hP 0 rfl rfl 10 (by decide) (hT _ tw_fl_X3_31) (fun _ h9 => h9) rfl dX3_takenPages_56 ?_
        refine lv_iload_n hx hb dX3_takenPages_59 rfl (lv_at hl 2 rfl) ?_
        refine ps_iald (k := k) (f := f 7) hx hb hK hP 8 0 rfl rfl (by omega) (by decide) dX3_takenPages_60 ?_
        refine vp_callSi (va_Run.run (va_runS (As := [.int (f 5 j), .int (f 5 k), .int (f 7 k)]) (rest := []) ⟨hx, hb, hml, hown, hT⟩ (mX3_isOne l (f 5 j) (f 5 k) (f 7 k)) (va_cwS 3 hT (ps_gS tw_ml_X3_66 tw_st_X3_isOne tw_in_X3 tw_co_X3_isOne) rfl rfl rfl ⟨by decide, by decide, by decide +kernel⟩ ⟨Nat.le_of_ble_eq_true rfl, Nat.le_of_ble_eq_true rfl⟩) preEq rfl rfl hl.1 rfl (lv_room (Nat.le_of_ble_eq_true rfl)) dX3_takenPages_61 ⟨Nat.le_of_ble_eq_true rfl, Nat.le_of_ble_eq_true rfl⟩)) (fun r hr => ?_)
        obtain rfl : r = ps_bi (ps_mo (f 5 j) (f 5 k) (f 7 k)) := hr
        refine ps_ifb_eq (tgt := 73) hx hb dX3_takenPages_64 rfl (fun h64 => ?_) (fun h64 => ?_)
        · skip
          have hc : ps_tq (f 7) (f 5) k j = false := by simp [ps_tq, h64]
          refine lv_iload_n hx hb dX3_takenPages_73 rfl (lv_at hl 3 rfl) ?_
          refine lv_istore_n (lv' := [(3, .int (nI (ps_cn (ps_tq (f 7) (f 5) k) j))), (0, .ref w0), (1, .int (nI (ps_tp (fun k => ps_all (ps_nf (f 7) (f 5) k) k) (fun k => ps_cn (ps_tq (f 7) (f 5) k) kn) k))), (2, .int (nI k)), (4, .int (nI j))]) hx hb dX3_takenPages_74 rfl hl (by decide) rfl (fun ls hl => ?_)
          refine lv_iinc (k := 4) (v := nI (j + 1)) (lv' := [(4, .int (nI (j + 1))), (3, .int (nI (ps_cn (ps_tq (f 7) (f 5) k) j))), (0, .ref w0), (1, .int (nI (ps_tp (fun k => ps_all (ps_nf (f 7) (f 5) k) k) (fun k => ps_cn (ps_tq (f 7) (f 5) k) kn) k))), (2, .int (nI k))]) hx hb dX3_takenPages_75 hl rfl (ps_inc _) (by decide) rfl (fun ls hl => ?_)
          refine lv_goto (tgt := 17) hx hb dX3_takenPages_78 rfl ?_
          first | rw [← ps_cnT hc] at hl | rw [← ps_cnF hc] at hl
          exact ih17 ((j + 1)) ls (by omega) ⟨by omega, lv_sub hl [2, 3, 4, 1, 0] rfl⟩
        · skip
          have hc : ps_tq (f 7) (f 5) k j = true := by simp [ps_tq, h39, h64]
          refine lv_iload_n hx hb dX3_takenPages_67 rfl (lv_at hl 3 rfl) ?_
          refine lv_iconst (v := 1) hx hb dX3_takenPages_68 (by decide) ?_
          refine lv_iadd hx hb dX3_takenPages_69 ?_
          rw [nI_1]
          refine lv_goto (tgt := 74) hx hb dX3_takenPages_70 rfl ?_
          refine lv_istore_n (lv' := [(3, .int (nI ((ps_cn (ps_tq (f 7) (f 5) k) j) + 1))), (0, .ref w0), (1, .int (nI (ps_tp (fun k => ps_all (ps_nf (f 7) (f 5) k) k) (fun k => ps_cn (ps_tq (f 7) (f 5) k) kn) k))), (2, .int (nI k)), (4, .int (nI j))]) hx hb dX3_takenPages_74 rfl hl (by decide) rfl (fun ls hl => ?_)
          refine lv_iinc (k := 4) (v := nI (j + 1)) (lv' := [(4, .int (nI (j + 1))), (3, .int (nI ((ps_cn (ps_tq (f 7) (f 5) k) j) + 1))), (0, .ref w0), (1, .int (nI (ps_tp (fun k => ps_all (ps_nf (f 7) (f 5) k) k) (fun k => ps_cn (ps_tq (f 7) (f 5) k) kn) k))), (2, .int (nI k))]) hx hb dX3_takenPages_75 hl rfl (ps_inc _) (by decide) rfl (fun ls hl => ?_)
          refine lv_goto (tgt := 17) hx hb dX3_takenPages_78 rfl ?_
          first | rw [← ps_cnT hc] at hl | rw [← ps_cnF hc] at hl
          exact ih17 ((j + 1)) ls (by omega) ⟨by omega, lv_sub hl [2, 3, 4, 1, 0] rfl⟩
set_option maxHeartbeats 4000000 in
set_option maxRecDepth 100000 in
theorem mX3_isClean (l : Launch) (dC : Nat → ClassId) (dI : Nat → Nat → Nat) (cI cZ : ClassId) (w0 : Nat) (b0 : Nat → Nat) (th : Int32) (mn kn : Nat) (co : Int32) (ln : Nat) (wr lt : Int32) (f : ps_G) (hmn : mn ≤ 48) (hkn : kn ≤ 48) (p9 d : Int32) : Met l yX3_isClean (.code yX3_isClean cX3_isClean 6 (some .boolean) :: ps_T) ({ frames := 2, cells := 0, slots := 0, locals := 44 }) (ps_pc (dC, dI) (ps_ty cI cZ) (ps_mdW cI cZ w0 b0 th mn kn co ln wr lt f) [.ref w0, .int p9, .int d]) (vp_Si (fun r => r = ps_bi (ps_cl f mn kn p9 d))) 0 0 (fun _ => False) := by
  refine Met.ofW (cc := cX3_isClean) (maxL := 6) (ret := (some .boolean)) (by decide) rfl ?_
  intro p e s m args below meth c s₁ B hml hv
  obtain ⟨rfl, hN, hP, hK⟩ := hv
  have hx := B.exec
  have hb := B.bytes
  have hr := B.returns
  have hlocks := B.notSynchronized
  have hT : ∀ w ∈ ps_T, w.before ([.ref w0, .int p9, .int d] : List Value).toArray s = true := fun w h => atoms_spec (ws := (.code yX3_isClean cX3_isClean 6 (some .boolean) :: ps_T)) B.pre w (List.mem_cons_of_mem _ h)
  have hown : s.vm.findClass RX3 = some m.cls := findClass_of_methodNamed B.named
  have hl := lv_entry ([.ref w0, .int p9, .int d]) (n := 6) (Nat.le_of_ble_eq_true rfl)
  rw [lg_entry_eq]
  generalize (lg_sl ([.ref w0, .int p9, .int d]) ++ List.replicate (6 - (lg_sl ([.ref w0, .int p9, .int d])).length) Slot.unset).toArray = ls at hl ⊢
  have hl : lv_has ls 6 [(0, .ref w0), (1, .int p9), (2, .int d)] := hl
  refine lv_iconst (v := 0) hx hb dX3_isClean_0 (by decide) ?_
  refine lv_istore_n (lv' := [(3, .int 0), (0, .ref w0), (1, .int p9), (2, .int d)]) hx hb dX3_isClean_1 rfl hl (by decide) rfl (fun ls hl => ?_)
  refine lv_iconst (v := 1) hx hb dX3_isClean_2 (by decide) ?_
  refine lv_istore (lv' := [(4, .int 1), (3, .int 0), (0, .ref w0), (1, .int p9), (2, .int d)]) hx hb dX3_isClean_3 hl (by decide) rfl (fun ls hl => ?_)
  refine lv_iconst (v := 0) hx hb dX3_isClean_5 (by decide) ?_
  refine lv_istore (lv' := [(5, .int 0), (4, .int 1), (3, .int 0), (0, .ref w0), (1, .int p9), (2, .int d)]) hx hb dX3_isClean_6 hl (by decide) rfl (fun ls hl => ?_)
  have hl : lv_has ls 6 [(5, .int (nI 0)), (4, .int (ps_bi (ps_all (ps_sm f kn p9 d) 0))), (3, .int (nI (ps_cn (ps_c1 f p9 d) 0))), (0, .ref w0), (1, .int p9), (2, .int d)] := hl
  refine ps_loopS (α := Nat) (fun k => mn - k) (fun k ls => (k ≤ mn) ∧ lv_has ls 6 [(0, .ref w0), (1, .int p9), (2, .int d), (3, .int (nI (ps_cn (ps_c1 f p9 d) k))), (4, .int (ps_bi (ps_all (ps_sm f kn p9 d) k))), (5, .int (nI k))]) ?_ 0 ls ⟨by omega, lv_sub hl [3, 4, 5, 2, 1, 0] rfl⟩
  intro k ls ih8 hI
  obtain ⟨hk, hl⟩ := hI
  refine lv_iload hx hb dX3_isClean_8 (lv_at hl 5 rfl) ?_
  refine lv_aload_n hx hb dX3_isClean_10 rfl (lv_at hl 0 rfl) ?_
  refine va_get (D := (dC, dI)) (ci := 3) (v := .int (nI mn)) (C := RX3) (T := TX3) (N := 17) hx hb hT inX3 hown hK hP 0 rfl rfl 1 (by decide) (hT _ tw_fl_X3_59) (fun _ h9 => h9) rfl dX3_isClean_11 ?_
  refine ps_icmp_ge (tgt := 73) (a := k) (b := mn) hx hb dX3_isClean_14 rfl (by omega) (by omega) (fun h14 => ?_) (fun h14 => ?_)
  · skip
    have ej : k = mn := by omega
    · skip
      rw [ej] at hl
      refine lv_iconst (v := 0) hx hb dX3_isClean_73 (by decide) ?_
      refine lv_istore (lv' := [(5, .int 0), (0, .ref w0), (1, .int p9), (2, .int d), (3, .int (nI (ps_cn (ps_c1 f p9 d) mn))), (4, .int (ps_bi (ps_all (ps_sm f kn p9 d) mn)))]) hx hb dX3_isClean_74 hl (by decide) rfl (fun ls hl => ?_)
      have e0 : nI (ps_cn (ps_c1 f p9 d) mn) = nI (ps_cn (ps_c1 f p9 d) mn) - nI (ps_cn (ps_c2 f p9 d) 0) := (Int32.sub_zero _).symm
      rw [e0] at hl
      have hl : lv_has ls 6 [(5, .int (nI 0)), (0, .ref w0), (1, .int p9), (2, .int d), (3, .int (nI (ps_cn (ps_c1 f p9 d) mn) - nI (ps_cn (ps_c2 f p9 d) 0))), (4, .int (ps_bi (ps_all (ps_sm f kn p9 d) mn)))] := hl
      refine ps_loopS (α := Nat) (fun j => kn - j) (fun j ls => (j ≤ kn) ∧ lv_has ls 6 [(0, .ref w0), (1, .int p9), (2, .int d), (3, .int (nI (ps_cn (ps_c1 f p9 d) mn) - nI (ps_cn (ps_c2 f p9 d) j))), (4, .int (ps_bi (ps_all (ps_sm f kn p9 d) mn))), (5, .int (nI j))]) ?_ 0 ls ⟨by omega, lv_sub hl [1, 2, 3, 4, 5, 0] rfl⟩
      intro j ls ih76 hI
      obtain ⟨hj, hl⟩ := hI
      refine lv_iload hx hb dX3_isClean_76 (lv_at hl 5 rfl) ?_
      refine lv_aload_n hx hb dX3_isClean_78 rfl (lv_at hl 0 rfl) ?_
      refine va_get (D := (dC, dI)) (ci := 3) (v := .int (nI kn)) (C := RX3) (T := TX3) (N := 17) hx hb hT inX3 hown hK hP 0 rfl rfl 6 (by decide) (hT _ tw_fl_X3_109) (fun _ h9 => h9) rfl dX3_isClean_79 ?_
      refine ps_icmp_ge (tgt := 125) (a := j) (b := kn) hx hb dX3_isClean_82 rfl (by omega) (by omega) (fun h82 => ?_) (fun h82 => ?_)
      · skip
        have ej2 : j = kn := by omega
        have hq1 := ps_cn_le (ps_c1 f p9 d) mn
        have hq2 := ps_cn_le (ps_c2 f p9 d) j
        refine lv_iload hx hb dX3_isClean_125 (lv_at hl 4 rfl) ?_
        refine ps_ifb_eq (tgt := 138) hx hb dX3_isClean_127 rfl (fun h127 => ?_) (fun h127 => ?_)
        · skip
          have hres : (0 : Int32) = ps_bi (ps_cl f mn kn p9 d) := ps_bi_f (by simp [ps_cl, h127])
          refine lv_iconst (v := 0) hx hb dX3_isClean_138 (by decide) ?_
          exact W.zret (v := 0) hx hb hr (rfl) (fun t ht hW => ⟨0, rfl, hres, ht⟩) (fun q h => by cases h) dX3_isClean_139
        · skip
          refine lv_iload_n hx hb dX3_isClean_130 rfl (lv_at hl 3 rfl) ?_
          refine lv_if_ne (tgt := 138) hx hb dX3_isClean_131 rfl (fun h131 => ?_) (fun h131 => ?_)
          · skip
            rw [ps_sub0 (by omega) (by omega), ej2] at h131
            have hres : (0 : Int32) = ps_bi (ps_cl f mn kn p9 d) := ps_bi_f (by simp [ps_cl, h131])
            refine lv_iconst (v := 0) hx hb dX3_isClean_138 (by decide) ?_
            exact W.zret (v := 0) hx hb hr (rfl) (fun t ht hW => ⟨0, rfl, hres, ht⟩) (fun q h => by cases h) dX3_isClean_139
          · skip
            rw [ps_sub0 (by omega) (by omega), ej2] at h131
            have hres : (1 : Int32) = ps_bi (ps_cl f mn kn p9 d) := ps_bi_t (by simp [ps_cl, h127, h131])
            refine lv_iconst (v := 1) hx hb dX3_isClean_134 (by decide) ?_
            refine lv_goto (tgt := 139) hx hb dX3_isClean_135 rfl ?_
            exact W.zret (v := 1) hx hb hr (rfl) (fun t ht hW => ⟨1, rfl, hres, ht⟩) (fun q h => by cases h) dX3_isClean_139
      · skip
        refine lv_aload_n hx hb dX3_isClean_85 rfl (lv_at hl 0 rfl) ?_
        refine va_get (D := (dC, dI)) (ci := 3) (v := .ref (b0 7)) (C := RX3) (T := TX3) (N := 17) hx hb hT inX3 hown hK hP 0 rfl rfl 10 (by decide) (hT _ tw_fl_X3_31) (fun _ h9 => h9) rfl dX3_isClean_86 ?_
        refine lv_iload hx hb dX3_isClean_89 (lv_at hl 5 rfl) ?_
        refine ps_iald (k := j) (f := f 7) hx hb hK hP 8 0 rfl rfl (by omega) (by decide) dX3_isClean_91 ?_
        refine lv_iload_n hx hb dX3_isClean_92 rfl (lv_at hl 2 rfl) ?_
        refine lv_icmp_lt (tgt := 117) hx hb dX3_isClean_93 rfl (fun h93 => ?_) (fun h93 => ?_)
        · skip
          have hc : ps_c2 f p9 d j = false := by simp [ps_c2, h93]
          refine lv_iload_n hx hb dX3_isClean_117 rfl (lv_at hl 3 rfl) ?_
          refine lv_topi (fun y9 hy9 => ?_)
          obtain rfl : y9 = nI (ps_cn (ps_c1 f p9 d) mn) - nI (ps_cn (ps_c2 f p9 d) (j + 1)) := hy9.trans (by rw [ps_cnF hc])
          refine lv_istore_n (lv' := [(3, .int (nI (ps_cn (ps_c1 f p9 d) mn) - nI (ps_cn (ps_c2 f p9 d) (j + 1)))), (0, .ref w0), (1, .int p9), (2, .int d), (4, .int (ps_bi (ps_all (ps_sm f kn p9 d) mn))), (5, .int (nI j))]) hx hb dX3_isClean_118 rfl hl (by decide) rfl (fun ls hl => ?_)
          refine lv_iinc (k := 5) (v := nI (j + 1)) (lv' := [(5, .int (nI (j + 1))), (3, .int (nI (ps_cn (ps_c1 f p9 d) mn) - nI (ps_cn (ps_c2 f p9 d) (j + 1)))), (0, .ref w0), (1, .int p9), (2, .int d), (4, .int (ps_bi (ps_all (ps_sm f kn p9 d) mn)))]) hx hb dX3_isClean_119 hl rfl (ps_inc _) (by decide) rfl (fun ls hl => ?_)
          refine lv_goto (tgt := 76) hx hb dX3_isClean_122 rfl ?_
          exact ih76 ((j + 1)) ls (by omega) ⟨by omega, lv_sub hl [2, 3, 4, 1, 5, 0] rfl⟩
        · skip
          refine lv_aload_n hx hb dX3_isClean_96 rfl (lv_at hl 0 rfl) ?_
          refine va_get (D := (dC, dI)) (ci := 3) (v := .ref (b0 5)) (C := RX3) (T := TX3) (N := 17) hx hb hT inX3 hown hK hP 0 rfl rfl 8 (by decide) (hT _ tw_fl_X3_25) (fun _ h9 => h9) rfl dX3_isClean_97 ?_
          refine lv_iload hx hb dX3_isClean_100 (lv_at hl 5 rfl) ?_
          refine ps_iald (k := j) (f := f 5) hx hb hK hP 6 0 rfl rfl (by omega) (by decide) dX3_isClean_102 ?_
          refine lv_iload_n hx hb dX3_isClean_103 rfl (lv_at hl 1 rfl) ?_
          refine lv_iload_n hx hb dX3_isClean_104 rfl (lv_at hl 2 rfl) ?_
          refine vp_callSi (va_Run.run (va_runS (As := [.int (f 5 j), .int p9, .int d]) (rest := []) ⟨hx, hb, hml, hown, hT⟩ (mX3_isOne l (f 5 j) p9 d) (va_cwS 3 hT (ps_gS tw_ml_X3_66 tw_st_X3_isOne tw_in_X3 tw_co_X3_isOne) rfl rfl rfl ⟨by decide, by decide, by decide +kernel⟩ ⟨Nat.le_of_ble_eq_true rfl, Nat.le_of_ble_eq_true rfl⟩) preEq rfl rfl hl.1 rfl (lv_room (Nat.le_of_ble_eq_true rfl)) dX3_isClean_105 ⟨Nat.le_of_ble_eq_true rfl, Nat.le_of_ble_eq_true rfl⟩)) (fun r hr => ?_)
          obtain rfl : r = ps_bi (ps_mo (f 5 j) p9 d) := hr
          refine ps_ifb_eq (tgt := 117) hx hb dX3_isClean_108 rfl (fun h108 => ?_) (fun h108 => ?_)
          · skip
            have hc : ps_c2 f p9 d j = false := by simp [ps_c2, h108]
            refine lv_iload_n hx hb dX3_isClean_117 rfl (lv_at hl 3 rfl) ?_
            refine lv_topi (fun y9 hy9 => ?_)
            obtain rfl : y9 = nI (ps_cn (ps_c1 f p9 d) mn) - nI (ps_cn (ps_c2 f p9 d) (j + 1)) := hy9.trans (by rw [ps_cnF hc])
            refine lv_istore_n (lv' := [(3, .int (nI (ps_cn (ps_c1 f p9 d) mn) - nI (ps_cn (ps_c2 f p9 d) (j + 1)))), (0, .ref w0), (1, .int p9), (2, .int d), (4, .int (ps_bi (ps_all (ps_sm f kn p9 d) mn))), (5, .int (nI j))]) hx hb dX3_isClean_118 rfl hl (by decide) rfl (fun ls hl => ?_)
            refine lv_iinc (k := 5) (v := nI (j + 1)) (lv' := [(5, .int (nI (j + 1))), (3, .int (nI (ps_cn (ps_c1 f p9 d) mn) - nI (ps_cn (ps_c2 f p9 d) (j + 1)))), (0, .ref w0), (1, .int p9), (2, .int d), (4, .int (ps_bi (ps_all (ps_sm f kn p9 d) mn)))]) hx hb dX3_isClean_119 hl rfl (ps_inc _) (by decide) rfl (fun ls hl => ?_)
            refine lv_goto (tgt := 76) hx hb dX3_isClean_122 rfl ?_
            exact ih76 ((j + 1)) ls (by omega) ⟨by omega, lv_sub hl [2, 3, 4, 1, 5, 0] rfl⟩
          · skip
            have hc : ps_c2 f p9 d j = true := by simp [ps_c2, Int32.not_lt.mp h93, h108]
            refine lv_iload_n hx hb dX3_isClean_111 rfl (lv_at hl 3 rfl) ?_
            refine lv_iconst (v := 1) hx hb dX3_isClean_112 (by decide) ?_
            refine lv_isub hx hb dX3_isClean_113 ?_
            refine lv_topi (fun y9 hy9 => ?_)
            obtain rfl : y9 = nI (ps_cn (ps_c1 f p9 d) mn) - nI (ps_cn (ps_c2 f p9 d) (j + 1)) := hy9.trans ((ps_subs _ _).trans (by rw [ps_cnT hc]))
            refine lv_goto (tgt := 118) hx hb dX3_isClean_114 rfl ?_
            refine lv_istore_n (lv' := [(3, .int (nI (ps_cn (ps_c1 f p9 d) mn) - nI (ps_cn (ps_c2 f p9 d) (j + 1)))), (0, .ref w0), (1, .int p9), (2, .int d), (4, .int (ps_bi (ps_all (ps_sm f kn p9 d) mn))), (5, .int (nI j))]) hx hb dX3_isClean_118 rfl hl (by decide) rfl (fun ls hl => ?_)
            refine lv_iinc (k := 5) (v := nI (j + 1)) (lv' := [(5, .int (nI (j + 1))), (3, .int (nI (ps_cn (ps_c1 f p9 d) mn) - nI (ps_cn (ps_c2 f p9 d) (j + 1)))), (0, .ref w0), (1, .int p9), (2, .int d), (4, .int (ps_bi (ps_all (ps_sm f kn p9 d) mn)))]) hx hb dX3_isClean_119 hl rfl (ps_inc _) (by decide) rfl (fun ls hl => ?_)
            refine lv_goto (tgt := 76) hx hb dX3_isClean_122 rfl ?_
            exact ih76 ((j + 1)) ls (by omega) ⟨by omega, lv_sub hl [2, 3, 4, 1, 5, 0] rfl⟩
  · skip
    refine lv_aload_n hx hb dX3_isClean_17 rfl (lv_at hl 0 rfl) ?_
    refine va_get (D := (dC, dI)) (ci := 3) (v := .ref (b0 3)) (C := RX3) (T := TX3) (N := 17) hx hb hT inX3 hown hK hP 0 rfl rfl 5 (by decide) (hT _ tw_fl_X3_19) (fun _ h9 => h9) rfl dX3_isClean_18 ?_
    refine lv_iload hx hb dX3_isClean_21 (lv_at hl 5 rfl) ?_
    refine ps_iald (k := k) (f := f 3) hx hb hK hP 4 0 rfl rfl (by omega) (by decide) dX3_isClean_23 ?_
    refine lv_iload_n hx hb dX3_isClean_24 rfl (lv_at hl 2 rfl) ?_
    refine lv_icmp_lt (tgt := 67) hx hb dX3_isClean_25 rfl (fun h25 => ?_) (fun h25 => ?_)
    · skip
      have hc : ps_c1 f p9 d k = false := by simp [ps_c1, h25]
      have e4 : ps_all (ps_sm f kn p9 d) k = ps_all (ps_sm f kn p9 d) (k + 1) := by simp [ps_all, ps_sm, hc]
      refine lv_iinc (k := 5) (v := nI (k + 1)) (lv' := [(5, .int (nI (k + 1))), (0, .ref w0), (1, .int p9), (2, .int d), (3, .int (nI (ps_cn (ps_c1 f p9 d) k))), (4, .int (ps_bi (ps_all (ps_sm f kn p9 d) k)))]) hx hb dX3_isClean_67 hl rfl (ps_inc _) (by decide) rfl (fun ls hl => ?_)
      refine lv_goto (tgt := 8) hx hb dX3_isClean_70 rfl ?_
      first | rw [← ps_cnT hc] at hl | rw [← ps_cnF hc, e4] at hl
      exact ih8 ((k + 1)) ls (by omega) ⟨by omega, lv_sub hl [1, 2, 3, 4, 5, 0] rfl⟩
    · skip
      refine lv_aload_n hx hb dX3_isClean_28 rfl (lv_at hl 0 rfl) ?_
      refine va_get (D := (dC, dI)) (ci := 3) (v := .ref (b0 1)) (C := RX3) (T := TX3) (N := 17) hx hb hT inX3 hown hK hP 0 rfl rfl 3 (by decide) (hT _ tw_fl_X3_13) (fun _ h9 => h9) rfl dX3_isClean_29 ?_
      refine lv_iload hx hb dX3_isClean_32 (lv_at hl 5 rfl) ?_
      refine ps_iald (k := k) (f := f 1) hx hb hK hP 2 0 rfl rfl (by omega) (by decide) dX3_isClean_34 ?_
      refine lv_iload_n hx hb dX3_isClean_35 rfl (lv_at hl 1 rfl) ?_
      refine lv_iload_n hx hb dX3_isClean_36 rfl (lv_at hl 2 rfl) ?_
      refine vp_callSi (va_Run.run (va_runS (As := [.int (f 1 k), .int p9, .int d]) (rest := []) ⟨hx, hb, hml, hown, hT⟩ (mX3_isOne l (f 1 k) p9 d) (va_cwS 3 hT (ps_gS tw_ml_X3_66 tw_st_X3_isOne tw_in_X3 tw_co_X3_isOne) rfl rfl rfl ⟨by decide, by decide, by decide +kernel⟩ ⟨Nat.le_of_ble_eq_true rfl, Nat.le_of_ble_eq_true rfl⟩) preEq rfl rfl hl.1 rfl (lv_room (Nat.le_of_ble_eq_true rfl)) dX3_isClean_37 ⟨Nat.le_of_ble_eq_true rfl, Nat.le_of_ble_eq_true rfl⟩)) (fun r hr => ?_)
      obtain rfl : r = ps_bi (ps_mo (f 1 k) p9 d) := hr
      refine ps_ifb_eq (tgt := 67) hx hb dX3_isClean_40 rfl (fun h40 => ?_) (fun h40 => ?_)
      · skip
        have hc : ps_c1 f p9 d k = false := by simp [ps_c1, h40]
        have e4 : ps_all (ps_sm f kn p9 d) k = ps_all (ps_sm f kn p9 d) (k + 1) := by simp [ps_all, ps_sm, hc]
        refine lv_iinc (k := 5) (v := nI (k + 1)) (lv' := [(5, .int (nI (k + 1))), (0, .ref w0), (1, .int p9), (2, .int d), (3, .int (nI (ps_cn (ps_c1 f p9 d) k))), (4, .int (ps_bi (ps_all (ps_sm f kn p9 d) k)))]) hx hb dX3_isClean_67 hl rfl (ps_inc _) (by decide) rfl (fun ls hl => ?_)
        refine lv_goto (tgt := 8) hx hb dX3_isClean_70 rfl ?_
        first | rw [← ps_cnT hc] at hl | rw [← ps_cnF hc, e4] at hl
        exact ih8 ((k + 1)) ls (by omega) ⟨by omega, lv_sub hl [1, 2, 3, 4, 5, 0] rfl⟩
      · skip
        have hc : ps_c1 f p9 d k = true := by simp [ps_c1, Int32.not_lt.mp h25, h40]
        refine lv_iinc (k := 3) (v := nI ((ps_cn (ps_c1 f p9 d) k) + 1)) (lv' := [(3, .int (nI ((ps_cn (ps_c1 f p9 d) k) + 1))), (0, .ref w0), (1, .int p9), (2, .int d), (4, .int (ps_bi (ps_all (ps_sm f kn p9 d) k))), (5, .int (nI k))]) hx hb dX3_isClean_43 hl rfl (ps_inc _) (by decide) rfl (fun ls hl => ?_)
        refine lv_iload hx hb dX3_isClean_46 (lv_at hl 4 rfl) ?_
        refine ps_ifb_eq (tgt := 64) hx hb dX3_isClean_48 rfl (fun h48 => ?_) (fun h48 => ?_)
        · skip
          refine lv_iconst (v := 0) hx hb dX3_isClean_64 (by decide) ?_
          refine lv_topi (fun y9 hy9 => ?_)
          obtain rfl : y9 = ps_bi (ps_all (ps_sm f kn p9 d) (k + 1)) := hy9.trans (ps_bi_f (by first | (simp [ps_all, h48]; done) | simp [ps_all, ps_sm, hc, h57]))
          refine lv_istore (lv' := [(4, .int (ps_bi (ps_all (ps_sm f kn p9 d) (k + 1)))), (3, .int (nI ((ps_cn (ps_c1 f p9 d) k) + 1))), (0, .ref w0), (1, .int p9), (2, .int d), (5, .int (nI k))]) hx hb dX3_isClean_65 hl (by decide) rfl (fun ls hl => ?_)
          refine lv_iinc (k := 5) (v := nI (k + 1)) (lv' := [(5, .int (nI (k + 1))), (4, .int (ps_bi (ps_all (ps_sm f kn p9 d) (k + 1)))), (3, .int (nI ((ps_cn (ps_c1 f p9 d) k) + 1))), (0, .ref w0), (1, .int p9), (2, .int d)]) hx hb dX3_isClean_67 hl rfl (ps_inc _) (by decide) rfl (fun ls hl => ?_)
          refine lv_goto (tgt := 8) hx hb dX3_isClean_70 rfl ?_
          first | rw [← ps_cnT hc] at hl | rw [← ps_cnF hc, e4] at hl
          exact ih8 ((k + 1)) ls (by omega) ⟨by omega, lv_sub hl [3, 4, 5, 2, 1, 0] rfl⟩
        · skip
          refine lv_aload_n hx hb dX3_isClean_51 rfl (lv_at hl 1 rfl) ?_
          refine lv_iload hx hb dX3_isClean_52 (lv_at hl 5 rfl) ?_
          refine vp_callSi (va_Run.run (va_runV (C := RX3) (As := [.int (nI k)]) (rest := []) ⟨hx, hb, hml, hown, hT⟩ (mX3_isCommitted l dC dI cI cZ w0 b0 th mn kn co ln wr lt f (hkn) k (by omega)) (cwV 1 hT (ps_gV tw_ml_X3_119 tw_im_X3_isCommitted tw_se_X3_isCommitted tw_in_X3 tw_co_X3_isCommitted) rfl rfl rfl ⟨rfl, by decide, by decide, by decide +kernel⟩ ⟨Nat.le_of_ble_eq_true rfl, Nat.le_of_ble_eq_true rfl⟩) (ps_preV (ci := 3) (q0 := 0) hN hP hK rfl rfl) rfl rfl hl.1 rfl (lv_room (Nat.le_of_ble_eq_true rfl)) dX3_isClean_54 ⟨Nat.le_of_ble_eq_true rfl, Nat.le_of_ble_eq_true rfl⟩)) (fun r hr => ?_)
          obtain rfl : r = ps_bi (ps_ex (ps_cq f k) kn) := hr
          refine ps_ifb_eq (tgt := 64) hx hb dX3_isClean_57 rfl (fun h57 => ?_) (fun h57 => ?_)
          · skip
            refine lv_iconst (v := 0) hx hb dX3_isClean_64 (by decide) ?_
            refine lv_topi (fun y9 hy9 => ?_)
            obtain rfl : y9 = ps_bi (ps_all (ps_sm f kn p9 d) (k + 1)) := hy9.trans (ps_bi_f (by first | (simp [ps_all, h48]; done) | simp [ps_all, ps_sm, hc, h57]))
            refine lv_istore (lv' := [(4, .int (ps_bi (ps_all (ps_sm f kn p9 d) (k + 1)))), (3, .int (nI ((ps_cn (ps_c1 f p9 d) k) + 1))), (0, .ref w0), (1, .int p9), (2, .int d), (5, .int (nI k))]) hx hb dX3_isClean_65 hl (by decide) rfl (fun ls hl => ?_)
            refine lv_iinc (k := 5) (v := nI (k + 1)) (lv' := [(5, .int (nI (k + 1))), (4, .int (ps_bi (ps_all (ps_sm f kn p9 d) (k + 1)))), (3, .int (nI ((ps_cn (ps_c1 f p9 d) k) + 1))), (0, .ref w0), (1, .int p9), (2, .int d)]) hx hb dX3_isClean_67 hl rfl (ps_inc _) (by decide) rfl (fun ls hl => ?_)
            refine lv_goto (tgt := 8) hx hb dX3_isClean_70 rfl ?_
            first | rw [← ps_cnT hc] at hl | rw [← ps_cnF hc, e4] at hl
            exact ih8 ((k + 1)) ls (by omega) ⟨by omega, lv_sub hl [3, 4, 5, 2, 1, 0] rfl⟩
          · skip
            refine lv_iconst (v := 1) hx hb dX3_isClean_60 (by decide) ?_
            refine lv_topi (fun y9 hy9 => ?_)
            obtain rfl : y9 = ps_bi (ps_all (ps_sm f kn p9 d) (k + 1)) := hy9.trans (ps_bi_t (by simp [ps_all, ps_sm, h48, h57]))
            refine lv_goto (tgt := 65) hx hb dX3_isClean_61 rfl ?_
            refine lv_istore (lv' := [(4, .int (ps_bi (ps_all (ps_sm f kn p9 d) (k + 1)))), (3, .int (nI ((ps_cn (ps_c1 f p9 d) k) + 1))), (0, .ref w0), (1, .int p9), (2, .int d), (5, .int (nI k))]) hx hb dX3_isClean_65 hl (by decide) rfl (fun ls hl => ?_)
            refine lv_iinc (k := 5) (v := nI (k + 1)) (lv' := [(5, .int (nI (k + 1))), (4, .int (ps_bi (ps_all (ps_sm f kn p9 d) (k + 1)))), (3, .int (nI ((ps_cn (ps_c1 f p9 d) k) + 1))), (0, .ref w0), (1, .int p9), (2, .int d)]) hx hb dX3_isClean_67 hl rfl (ps_inc _) (by decide) rfl (fun ls hl => ?_)
            refine lv_goto (tgt := 8) hx hb dX3_isClean_70 rfl ?_
            first | rw [← ps_cnT hc] at hl | rw [← ps_cnF hc, e4] at hl
            exact ih8 ((k + 1)) ls (by omega) ⟨by omega, lv_sub hl [3, 4, 5, 2, 1, 0] rfl⟩
set_option maxHeartbeats 4000000 in
set_option maxRecDepth 100000 in
theorem mX3_pagesToWrite (l : Launch) (dC : Nat → ClassId) (dI : Nat → Nat → Nat) (cI cZ : ClassId) (w0 : Nat) (b0 : Nat → Nat) (th : Int32) (mn kn : Nat) (co : Int32) (ln : Nat) (wr lt : Int32) (f : ps_G) (hmn : mn ≤ 48) (hkn : kn ≤ 48) : Met l yX3_pagesToWrite (.code yX3_pagesToWrite cX3_pagesToWrite 4 (some .int) :: ps_T) ({ frames := 3, cells := 0, slots := 0, locals := 69 }) (ps_pc (dC, dI) (ps_ty cI cZ) (ps_mdW cI cZ w0 b0 th mn kn co ln wr lt f) [.ref w0]) (vp_Si (fun r => r = nI (ps_tp (ps_wq f mn kn) (ps_wc f mn) mn))) 0 0 (fun _ => False) := by
  refine Met.ofW (cc := cX3_pagesToWrite) (maxL := 4) (ret := (some .int)) (by decide) rfl ?_
  intro p e s m args below meth c s₁ B hml hv
  obtain ⟨rfl, hN, hP, hK⟩ := hv
  have hx := B.exec
  have hb := B.bytes
  have hr := B.returns
  have hlocks := B.notSynchronized
  have hT : ∀ w ∈ ps_T, w.before ([.ref w0] : List Value).toArray s = true := fun w h => atoms_spec (ws := (.code yX3_pagesToWrite cX3_pagesToWrite 4 (some .int) :: ps_T)) B.pre w (List.mem_cons_of_mem _ h)
  have hown : s.vm.findClass RX3 = some m.cls := findClass_of_methodNamed B.named
  have hl := lv_entry ([.ref w0]) (n := 4) (Nat.le_of_ble_eq_true rfl)
  rw [lg_entry_eq]
  generalize (lg_sl ([.ref w0]) ++ List.replicate (4 - (lg_sl ([.ref w0])).length) Slot.unset).toArray = ls at hl ⊢
  have hl : lv_has ls 4 [(0, .ref w0)] := hl
  refine lv_iconst (v := 0) hx hb dX3_pagesToWrite_0 (by decide) ?_
  refine lv_istore_n (lv' := [(1, .int 0), (0, .ref w0)]) hx hb dX3_pagesToWrite_1 rfl hl (by decide) rfl (fun ls hl => ?_)
  refine lv_iconst (v := 0) hx hb dX3_pagesToWrite_2 (by decide) ?_
  refine lv_istore_n (lv' := [(2, .int 0), (1, .int 0), (0, .ref w0)]) hx hb dX3_pagesToWrite_3 rfl hl (by decide) rfl (fun ls hl => ?_)
  have hl : lv_has ls 4 [(2, .int (nI 0)), (1, .int (nI (ps_tp (ps_wq f mn kn) (ps_wc f mn) 0))), (0, .ref w0)] := hl
  refine ps_loopS (α := Nat) (fun k => mn - k) (fun k ls => (k ≤ mn) ∧ lv_has ls 4 [(0, .ref w0), (1, .int (nI (ps_tp (ps_wq f mn kn) (ps_wc f mn) k))), (2, .int (nI k))]) ?_ 0 ls ⟨by omega, lv_sub hl [2, 1, 0] rfl⟩
  intro k ls ih4 hI
  obtain ⟨hk, hl⟩ := hI
  refine lv_iload_n hx hb dX3_pagesToWrite_4 rfl (lv_at hl 2 rfl) ?_
  refine lv_aload_n hx hb dX3_pagesToWrite_5 rfl (lv_at hl 0 rfl) ?_
  refine va_get (D := (dC, dI)) (ci := 3) (v := .int (nI mn)) (C := RX3) (T := TX3) (N := 17) hx hb hT inX3 hown hK hP 0 rfl rfl 1 (by decide) (hT _ tw_fl_X3_59) (fun _ h9 => h9) rfl dX3_pagesToWrite_6 ?_
  refine ps_icmp_ge (tgt := 81) (a := k) (b := mn) hx hb dX3_pagesToWrite_9 rfl (by omega) (by omega) (fun h9 => ?_) (fun h9 => ?_)
  · skip
    refine lv_iload_n hx hb dX3_pagesToWrite_81 rfl (lv_at hl 1 rfl) ?_
    exact W.iret (v := nI (ps_tp (ps_wq f mn kn) (ps_wc f mn) k)) hx hb hr (fun t ht hW => ⟨nI (ps_tp (ps_wq f mn kn) (ps_wc f mn) k), rfl, by rw [show k = mn by omega], ht⟩) (fun q h => by cases h) dX3_pagesToWrite_82
  · skip
    refine lv_aload_n hx hb dX3_pagesToWrite_12 rfl (lv_at hl 0 rfl) ?_
    refine lv_iload_n hx hb dX3_pagesToWrite_13 rfl (lv_at hl 2 rfl) ?_
    refine vp_callSi (va_Run.run (va_runV (C := RX3) (As := [.int (nI k)]) (rest := []) ⟨hx, hb, hml, hown, hT⟩ (mX3_isFirst l dC dI cI cZ w0 b0 th mn kn co ln wr lt f k (by omega)) (cwV 1 hT (ps_gV tw_ml_X3_122 tw_im_X3_isFirst tw_se_X3_isFirst tw_in_X3 tw_co_X3_isFirst) rfl rfl rfl ⟨rfl, by decide, by decide, by decide +kernel⟩ ⟨Nat.le_of_ble_eq_true rfl, Nat.le_of_ble_eq_true rfl⟩) (ps_preV (ci := 3) (q0 := 0) hN hP hK rfl rfl) rfl rfl hl.1 rfl (lv_room (Nat.le_of_ble_eq_true rfl)) dX3_pagesToWrite_14 ⟨Nat.le_of_ble_eq_true rfl, Nat.le_of_ble_eq_true rfl⟩)) (fun r hr => ?_)
    obtain rfl : r = ps_bi (ps_all (ps_nf (f 3) (f 1) k) k) := hr
    refine ps_ifb_eq (tgt := 43) hx hb dX3_pagesToWrite_17 rfl (fun h17 => ?_) (fun h17 => ?_)
    · skip
      refine lv_iconst (v := 0) hx hb dX3_pagesToWrite_43 (by decide) ?_
      refine lv_topi (fun y9 hy9 => ?_)
      obtain rfl : y9 = ps_bi (ps_wq f mn kn k) := hy9.trans (ps_bi_f (by first | (simp [ps_wq, h17]; done) | simp [ps_wq, h36]))
      refine lv_istore_n (lv' := [(3, .int (ps_bi (ps_wq f mn kn k))), (0, .ref w0), (1, .int (nI (ps_tp (ps_wq f mn kn) (ps_wc f mn) k))), (2, .int (nI k))]) hx hb dX3_pagesToWrite_44 rfl hl (by decide) rfl (fun ls hl => ?_)
      refine lv_iload_n hx hb dX3_pagesToWrite_45 rfl (lv_at hl 0 rfl) ?_
      refine ps_ifb_eq (tgt := 73) hx hb dX3_pagesToWrite_46 rfl (fun h46 => ?_) (fun h46 => ?_)
      · skip
        refine lv_iload_n hx hb dX3_pagesToWrite_73 rfl (lv_at hl 2 rfl) ?_
        refine lv_topi (fun y9 hy9 => ?_)
        obtain rfl : y9 = nI (ps_tp (ps_wq f mn kn) (ps_wc f mn) (k + 1)) := hy9.trans (by rw [ps_tp_f (F := ps_wq f mn kn) (C := ps_wc f mn) h46])
        refine lv_istore_n (lv' := [(1, .int (nI (ps_tp (ps_wq f mn kn) (ps_wc f mn) (k + 1)))), (3, .int (ps_bi (ps_wq f mn kn k))), (0, .ref w0), (2, .int (nI k))]) hx hb dX3_pagesToWrite_74 rfl hl (by decide) rfl (fun ls hl => ?_)
        refine lv_iinc (k := 3) (v := nI (k + 1)) (lv' := [(2, .int (nI (k + 1))), (1, .int (nI (ps_tp (ps_wq f mn kn) (ps_wc f mn) (k + 1)))), (3, .int (ps_bi (ps_wq f mn kn k))), (0, .ref w0)]) hx hb dX3_pagesToWrite_75 hl rfl (ps_inc _) (by decide) rfl (fun ls hl => ?_)
        refine lv_goto (tgt := 4) hx hb dX3_pagesToWrite_78 rfl ?_
        exact ih4 ((k + 1)) ls (by omega) ⟨by omega, lv_sub hl [3, 1, 0] rfl⟩
      · skip
        refine lv_iload_n hx hb dX3_pagesToWrite_49 rfl (lv_at hl 2 rfl) ?_
        refine lv_aload_n hx hb dX3_pagesToWrite_50 rfl (lv_at hl 1 rfl) ?_
        refine lv_aload_n hx hb dX3_pagesToWrite_51 rfl (lv_at hl 1 rfl) ?_
        refine va_get (D := (dC, dI)) (ci := 3) (v := .ref (b0 1)) (C := RX3) (T := TX3) (N := 17) hx hb hT inX3 hown hK hP 0 rfl rfl 3 (by decide) (hT _ tw_fl_X3_13) (fun _ h9 => h9) rfl dX3_pagesToWrite_52 ?_
        refine lv_iload_n hx hb dX3_pagesToWrite_55 rfl (lv_at hl 3 rfl) ?_
        refine ps_iald (k := k) (f := f 1) hx hb hK hP 2 0 rfl rfl (by omega) (by decide) dX3_pagesToWrite_56 ?_
        refine lv_aload_n hx hb dX3_pagesToWrite_57 rfl (lv_at hl 1 rfl) ?_
        refine va_get (D := (dC, dI)) (ci := 3) (v := .ref (b0 3)) (C := RX3) (T := TX3) (N := 17) hx hb hT inX3 hown hK hP 0 rfl rfl 5 (by decide) (hT _ tw_fl_X3_19) (fun _ h9 => h9) rfl dX3_pagesToWrite_58 ?_
        refine lv_iload_n hx hb dX3_pagesToWrite_61 rfl (lv_at hl 3 rfl) ?_
        refine ps_iald (k := k) (f := f 3) hx hb hK hP 4 0 rfl rfl (by omega) (by decide) dX3_pagesToWrite_62 ?_
        refine vp_callSi (va_Run.run (va_runV (C := RX3) (As := [.int (f 1 k), .int (f 3 k)]) (rest := [.int (nI (ps_tp (ps_wq f mn kn) (ps_wc f mn) k))]) ⟨hx, hb, hml, hown, hT⟩ (mX3_keeps l dC dI cI cZ w0 b0 th mn kn co ln wr lt f (hmn) (f 1 k) (f 3 k)) (cwV 2 hT (ps_gV tw_ml_X3_73 tw_im_X3_keeps tw_se_X3_keeps tw_in_X3 tw_co_X3_keeps) rfl rfl rfl ⟨rfl, by decide, by decide, by decide +kernel⟩ ⟨Nat.le_of_ble_eq_true rfl, Nat.le_of_ble_eq_true rfl⟩) (ps_preV (ci := 3) (q0 := 0) hN hP hK rfl rfl) rfl rfl hl.1 rfl (lv_room (Nat.le_of_ble_eq_true rfl)) dX3_pagesToWrite_63 ⟨Nat.le_of_ble_eq_true rfl, Nat.le_of_ble_eq_true rfl⟩)) (fun r hr => ?_)
        obtain rfl : r = nI (ps_cn (ps_kp f (f 1 k) (f 3 k)) mn) := hr
        refine vp_callSi (va_Run.run (va_runS (As := [.int (nI (ps_cn (ps_kp f (f 1 k) (f 3 k)) mn))]) (rest := [.int (nI (ps_tp (ps_wq f mn kn) (ps_wc f mn) k))]) ⟨hx, hb, hml, hown, hT⟩ (mX3_pagesFor l (ps_cn (ps_kp f (f 1 k) (f 3 k)) mn) (Nat.lt_of_le_of_lt (ps_cn_le _ _) (by omega))) (va_cwS 1 hT (ps_gS tw_ml_X3_116 tw_st_X3_pagesFor tw_in_X3 tw_co_X3_pagesFor) rfl rfl rfl ⟨by decide, by decide, by decide +kernel⟩ ⟨Nat.le_of_ble_eq_true rfl, Nat.le_of_ble_eq_true rfl⟩) preEq rfl rfl hl.1 rfl (lv_room (Nat.le_of_ble_eq_true rfl)) dX3_pagesToWrite_66 ⟨Nat.le_of_ble_eq_true rfl, Nat.le_of_ble_eq_true rfl⟩)) (fun r hr => ?_)
        obtain rfl : r = nI (((ps_cn (ps_kp f (f 1 k) (f 3 k)) mn) + 5) / 6) := hr
        refine lv_iadd hx hb dX3_pagesToWrite_69 ?_
        refine lv_topi (fun y9 hy9 => ?_)
        obtain rfl : y9 = nI (ps_tp (ps_wq f mn kn) (ps_wc f mn) (k + 1)) := hy9.trans ((nI_add _ _).trans (by rw [ps_tp_t (F := ps_wq f mn kn) (C := ps_wc f mn) h46]; rfl))
        refine lv_goto (tgt := 74) hx hb dX3_pagesToWrite_70 rfl ?_
        refine lv_istore_n (lv' := [(1, .int (nI (ps_tp (ps_wq f mn kn) (ps_wc f mn) (k + 1)))), (3, .int (ps_bi (ps_wq f mn kn k))), (0, .ref w0), (2, .int (nI k))]) hx hb dX3_pagesToWrite_74 rfl hl (by decide) rfl (fun ls hl => ?_)
        refine lv_iinc (k := 3) (v := nI (k + 1)) (lv' := [(2, .int (nI (k + 1))), (1, .int (nI (ps_tp (ps_wq f mn kn) (ps_wc f mn) (k + 1)))), (3, .int (ps_bi (ps_wq f mn kn k))), (0, .ref w0)]) hx hb dX3_pagesToWrite_75 hl rfl (ps_inc _) (by decide) rfl (fun ls hl => ?_)
        refine lv_goto (tgt := 4) hx hb dX3_pagesToWrite_78 rfl ?_
        exact ih4 ((k + 1)) ls (by omega) ⟨by omega, lv_sub hl [3, 1, 0] rfl⟩
    · skip
      refine lv_aload_n hx hb dX3_pagesToWrite_20 rfl (lv_at hl 0 rfl) ?_
      refine lv_aload_n hx hb dX3_pagesToWrite_21 rfl (lv_at hl 0 rfl) ?_
      refine va_get (D := (dC, dI)) (ci := 3) (v := .ref (b0 1)) (C := RX3) (T := TX3) (N := 17) hx hb hT inX3 hown hK hP 0 rfl rfl 3 (by decide) (hT _ tw_fl_X3_13) (fun _ h9 => h9) rfl dX3_pagesToWrite_22 ?_
      refine lv_iload_n hx hb dX3_pagesToWrite_25 rfl (lv_at hl 2 rfl) ?_
      refine ps_iald (k := k) (f := f 1) hx hb hK hP 2 0 rfl rfl (by omega) (by decide) dX3_pagesToWrite_26 ?_
      refine lv_aload_n hx hb dX3_pagesToWrite_27 rfl (lv_at hl 0 rfl) ?_
      refine va_get (D := (dC, dI)) (ci := 3) (v := .ref (b0 3)) (C := RX3) (T := TX3) (N := 17) hx hb hT inX3 hown hK hP 0 rfl rfl 5 (by decide) (hT _ tw_fl_X3_19) (fun _ h9 => h9) rfl dX3_pagesToWrite_28 ?_
      refine lv_iload_n hx hb dX3_pagesToWrite_31 rfl (lv_at hl 2 rfl) ?_
      refine ps_iald (k := k) (f := f 3) hx hb hK hP 4 0 rfl rfl (by omega) (by decide) dX3_pagesToWrite_32 ?_
      refine vp_callSi (va_Run.run (va_runV (C := RX3) (As := [.int (f 1 k), .int (f 3 k)]) (rest := []) ⟨hx, hb, hml, hown, hT⟩ (mX3_isClean l dC dI cI cZ w0 b0 th mn kn co ln wr lt f (hmn) (hkn) (f 1 k) (f 3 k)) (cwV 2 hT (ps_gV tw_ml_X3_125 tw_im_X3_isClean tw_se_X3_isClean tw_in_X3 tw_co_X3_isClean) rfl rfl rfl ⟨rfl, by decide, by decide, by decide +kernel⟩ ⟨Nat.le_of_ble_eq_true rfl, Nat.le_of_ble_eq_true rfl⟩) (ps_preV (ci := 3) (q0 := 0) hN hP hK rfl rfl) rfl rfl hl.1 rfl (lv_room (Nat.le_of_ble_eq_true rfl)) dX3_pagesToWrite_33 ⟨Nat.le_of_ble_eq_true rfl, Nat.le_of_ble_eq_true rfl⟩)) (fun r hr => ?_)
      obtain rfl : r = ps_bi (ps_cl f mn kn (f 1 k) (f 3 k)) := hr
      refine ps_ifb_ne (tgt := 43) hx hb dX3_pagesToWrite_36 rfl (fun h36 => ?_) (fun h36 => ?_)
      · skip
        refine lv_iconst (v := 0) hx hb dX3_pagesToWrite_43 (by decide) ?_
        refine lv_topi (fun y9 hy9 => ?_)
        obtain rfl : y9 = ps_bi (ps_wq f mn kn k) := hy9.trans (ps_bi_f (by first | (simp [ps_wq, h17]; done) | simp [ps_wq, h36]))
        refine lv_istore_n (lv' := [(3, .int (ps_bi (ps_wq f mn kn k))), (0, .ref w0), (1, .int (nI (ps_tp (ps_wq f mn kn) (ps_wc f mn) k))), (2, .int (nI k))]) hx hb dX3_pagesToWrite_44 rfl hl (by decide) rfl (fun ls hl => ?_)
        refine lv_iload_n hx hb dX3_pagesToWrite_45 rfl (lv_at hl 0 rfl) ?_
        refine ps_ifb_eq (tgt := 73) hx hb dX3_pagesToWrite_46 rfl (fun h46 => ?_) (fun h46 => ?_)
        · skip
          refine lv_iload_n hx hb dX3_pagesToWrite_73 rfl (lv_at hl 2 rfl) ?_
          refine lv_topi (fun y9 hy9 => ?_)
          obtain rfl : y9 = nI (ps_tp (ps_wq f mn kn) (ps_wc f mn) (k + 1)) := hy9.trans (by rw [ps_tp_f (F := ps_wq f mn kn) (C := ps_wc f mn) h46])
          refine lv_istore_n (lv' := [(1, .int (nI (ps_tp (ps_wq f mn kn) (ps_wc f mn) (k + 1)))), (3, .int (ps_bi (ps_wq f mn kn k))), (0, .ref w0), (2, .int (nI k))]) hx hb dX3_pagesToWrite_74 rfl hl (by decide) rfl (fun ls hl => ?_)
          refine lv_iinc (k := 3) (v := nI (k + 1)) (lv' := [(2, .int (nI (k + 1))), (1, .int (nI (ps_tp (ps_wq f mn kn) (ps_wc f mn) (k + 1)))), (3, .int (ps_bi (ps_wq f mn kn k))), (0, .ref w0)]) hx hb dX3_pagesToWrite_75 hl rfl (ps_inc _) (by decide) rfl (fun ls hl => ?_)
          refine lv_goto (tgt := 4) hx hb dX3_pagesToWrite_78 rfl ?_
          exact ih4 ((k + 1)) ls (by omega) ⟨by omega, lv_sub hl [3, 1, 0] rfl⟩
        · skip
          refine lv_iload_n hx hb dX3_pagesToWrite_49 rfl (lv_at hl 2 rfl) ?_
          refine lv_aload_n hx hb dX3_pagesToWrite_50 rfl (lv_at hl 1 rfl) ?_
          refine lv_aload_n hx hb dX3_pagesToWrite_51 rfl (lv_at hl 1 rfl) ?_
          refine va_get (D := (dC, dI)) (ci := 3) (v := .ref (b0 1)) (C := RX3) (T := TX3) (N := 17) hx hb hT inX3 hown hK hP 0 rfl rfl 3 (by decide) (hT _ tw_fl_X3_13) (fun _ h9 => h9) rfl dX3_pagesToWrite_52 ?_
          refine lv_iload_n hx hb dX3_pagesToWrite_55 rfl (lv_at hl 3 rfl) ?_
          refine ps_iald (k := k) (f := f 1) hx hb hK hP 2 0 rfl rfl (by omega) (by decide) dX3_pagesToWrite_56 ?_
          refine lv_aload_n hx hb dX3_pagesToWrite_57 rfl (lv_at hl 1 rfl) ?_
          refine va_get (D := (dC, dI)) (ci := 3) (v := .ref (b0 3)) (C := RX3) (T := TX3) (N := 17) hx hb hT inX3 hown hK hP 0 rfl rfl 5 (by decide) (hT _ tw_fl_X3_19) (fun _ h9 => h9) rfl dX3_pagesToWrite_58 ?_
          refine lv_iload_n hx hb dX3_pagesToWrite_61 rfl (lv_at hl 3 rfl) ?_
          refine ps_iald (k := k) (f := f 3) hx hb hK hP 4 0 rfl rfl (by omega) (by decide) dX3_pagesToWrite_62 ?_
          refine vp_callSi (va_Run.run (va_runV (C := RX3) (As := [.int (f 1 k), .int (f 3 k)]) (rest := [.int (nI (ps_tp (ps_wq f mn kn) (ps_wc f mn) k))]) ⟨hx, hb, hml, hown, hT⟩ (mX3_keeps l dC dI cI cZ w0 b0 th mn kn co ln wr lt f (hmn) (f 1 k) (f 3 k)) (cwV 2 hT (ps_gV tw_ml_X3_73 tw_im_X3_keeps tw_se_X3_keeps tw_in_X3 tw_co_X3_keeps) rfl rfl rfl ⟨rfl, by decide, by decide, by decide +kernel⟩ ⟨Nat.le_of_ble_eq_true rfl, Nat.le_of_ble_eq_true rfl⟩) (ps_preV (ci := 3) (q0 := 0) hN hP hK rfl rfl) rfl rfl hl.1 rfl (lv_room (Nat.le_of_ble_eq_true rfl)) dX3_pagesToWrite_63 ⟨Nat.le_of_ble_eq_true rfl, Nat.le_of_ble_eq_true rfl⟩)) (fun r hr => ?_)
          obtain rfl : r = nI (ps_cn (ps_kp f (f 1 k) (f 3 k)) mn) := hr
          refine vp_callSi (va_Run.run (va_runS (As := [.int (nI (ps_cn (ps_kp f (f 1 k) (f 3 k)) mn))]) (rest := [.int (nI (ps_tp (ps_wq f mn kn) (ps_wc f mn) k))]) ⟨hx, hb, hml, hown, hT⟩ (mX3_pagesFor l (ps_cn (ps_kp f (f 1 k) (f 3 k)) mn) (Nat.lt_of_le_of_lt (ps_cn_le _ _) (by omega))) (va_cwS 1 hT (ps_gS tw_ml_X3_116 tw_st_X3_pagesFor tw_in_X3 tw_co_X3_pagesFor) rfl rfl rfl ⟨by decide, by decide, by decide +kernel⟩ ⟨Nat.le_of_ble_eq_true rfl, Nat.le_of_ble_eq_true rfl⟩) preEq rfl rfl hl.1 rfl (lv_room (Nat.le_of_ble_eq_true rfl)) dX3_pagesToWrite_66 ⟨Nat.le_of_ble_eq_true rfl, Nat.le_of_ble_eq_true rfl⟩)) (fun r hr => ?_)
          obtain rfl : r = nI (((ps_cn (ps_kp f (f 1 k) (f 3 k)) mn) + 5) / 6) := hr
          refine lv_iadd hx hb dX3_pagesToWrite_69 ?_
          refine lv_topi (fun y9 hy9 => ?_)
          obtain rfl : y9 = nI (ps_tp (ps_wq f mn kn) (ps_wc f mn) (k + 1)) := hy9.trans ((nI_add _ _).trans (by rw [ps_tp_t (F := ps_wq f mn kn) (C := ps_wc f mn) h46]; rfl))
          refine lv_goto (tgt := 74) hx hb dX3_pagesToWrite_70 rfl ?_
          refine lv_istore_n (lv' := [(1, .int (nI (ps_tp (ps_wq f mn kn) (ps_wc f mn) (k + 1)))), (3, .int (ps_bi (ps_wq f mn kn k))), (0, .ref w0), (2, .int (nI k))]) hx hb dX3_pagesToWrite_74 rfl hl (by decide) rfl (fun ls hl => ?_)
          refine lv_iinc (k := 3) (v := nI (k + 1)) (lv' := [(2, .int (nI (k + 1))), (1, .int (nI (ps_tp (ps_wq f mn kn) (ps_wc f mn) (k + 1)))), (3, .int (ps_bi (ps_wq f mn kn k))), (0, .ref w0)]) hx hb dX3_pagesToWrite_75 hl rfl (ps_inc _) (by decide) rfl (fun ls hl => ?_)
          refine lv_goto (tgt := 4) hx hb dX3_pagesToWrite_78 rfl ?_
          exact ih4 ((k + 1)) ls (by omega) ⟨by omega, lv_sub hl [3, 1, 0] rfl⟩
      · skip
        refine lv_iconst (v := 1) hx hb dX3_pagesToWrite_39 (by decide) ?_
        refine lv_topi (fun y9 hy9 => ?_)
        obtain rfl : y9 = ps_bi (ps_wq f mn kn k) := hy9.trans (ps_bi_t (by simp [ps_wq, h17, h36]))
        refine lv_goto (tgt := 44) hx hb dX3_pagesToWrite_40 rfl ?_
        refine lv_istore_n (lv' := [(3, .int (ps_bi (ps_wq f mn kn k))), (0, .ref w0), (1, .int (nI (ps_tp (ps_wq f mn kn) (ps_wc f mn) k))), (2, .int (nI k))]) hx hb dX3_pagesToWrite_44 rfl hl (by decide) rfl (fun ls hl => ?_)
        refine lv_iload_n hx hb dX3_pagesToWrite_45 rfl (lv_at hl 0 rfl) ?_
        refine ps_ifb_eq (tgt := 73) hx hb dX3_pagesToWrite_46 rfl (fun h46 => ?_) (fun h46 => ?_)
        · skip
          refine lv_iload_n hx hb dX3_pagesToWrite_73 rfl (lv_at hl 2 rfl) ?_
          refine lv_topi (fun y9 hy9 => ?_)
          obtain rfl : y9 = nI (ps_tp (ps_wq f mn kn) (ps_wc f mn) (k + 1)) := hy9.trans (by rw [ps_tp_f (F := ps_wq f mn kn) (C := ps_wc f mn) h46])
          refine lv_istore_n (lv' := [(1, .int (nI (ps_tp (ps_wq f mn kn) (ps_wc f mn) (k + 1)))), (3, .int (ps_bi (ps_wq f mn kn k))), (0, .ref w0), (2, .int (nI k))]) hx hb dX3_pagesToWrite_74 rfl hl (by decide) rfl (fun ls hl => ?_)
          refine lv_iinc (k := 3) (v := nI (k + 1)) (lv' := [(2, .int (nI (k + 1))), (1, .int (nI (ps_tp (ps_wq f mn kn) (ps_wc f mn) (k + 1)))), (3, .int (ps_bi (ps_wq f mn kn k))), (0, .ref w0)]) hx hb dX3_pagesToWrite_75 hl rfl (ps_inc _) (by decide) rfl (fun ls hl => ?_)
          refine lv_goto (tgt := 4) hx hb dX3_pagesToWrite_78 rfl ?_
          exact ih4 ((k + 1)) ls (by omega) ⟨by omega, lv_sub hl [3, 1, 0] rfl⟩
        · skip
          refine lv_iload_n hx hb dX3_pagesToWrite_49 rfl (lv_at hl 2 rfl) ?_
          refine lv_aload_n hx hb dX3_pagesToWrite_50 rfl (lv_at hl 1 rfl) ?_
          refine lv_aload_n hx hb dX3_pagesToWrite_51 rfl (lv_at hl 1 rfl) ?_
          refine va_get (D := (dC, dI)) (ci := 3) (v := .ref (b0 1)) (C := RX3) (T := TX3) (N := 17) hx hb hT inX3 hown hK hP 0 rfl rfl 3 (by decide) (hT _ tw_fl_X3_13) (fun _ h9 => h9) rfl dX3_pagesToWrite_52 ?_
          refine lv_iload_n hx hb dX3_pagesToWrite_55 rfl (lv_at hl 3 rfl) ?_
          refine ps_iald (k := k) (f := f 1) hx hb hK hP 2 0 rfl rfl (by omega) (by decide) dX3_pagesToWrite_56 ?_
          refine lv_aload_n hx hb dX3_pagesToWrite_57 rfl (lv_at hl 1 rfl) ?_
          refine va_get (D := (dC, dI)) (ci := 3) (v := .ref (b0 3)) (C := RX3) (T := TX3) (N := 17) hx hb hT inX3 hown hK hP 0 rfl rfl 5 (by decide) (hT _ tw_fl_X3_19) (fun _ h9 => h9) rfl dX3_pagesToWrite_58 ?_
          refine lv_iload_n hx hb dX3_pagesToWrite_61 rfl (lv_at hl 3 rfl) ?_
          refine ps_iald (k := k) (f := f 3) hx hb hK hP 4 0 rfl rfl (by omega) (by decide) dX3_pagesToWrite_62 ?_
          refine vp_callSi (va_Run.run (va_runV (C := RX3) (As := [.int (f 1 k), .int (f 3 k)]) (rest := [.int (nI (ps_tp (ps_wq f mn kn) (ps_wc f mn) k))]) ⟨hx, hb, hml, hown, hT⟩ (mX3_keeps l dC dI cI cZ w0 b0 th mn kn co ln wr lt f (hmn) (f 1 k) (f 3 k)) (cwV 2 hT (ps_gV tw_ml_X3_73 tw_im_X3_keeps tw_se_X3_keeps tw_in_X3 tw_co_X3_keeps) rfl rfl rfl ⟨rfl, by decide, by decide, by decide +kernel⟩ ⟨Nat.le_of_ble_eq_true rfl, Nat.le_of_ble_eq_true rfl⟩) (ps_preV (ci := 3) (q0 := 0) hN hP hK rfl rfl) rfl rfl hl.1 rfl (lv_room (Nat.le_of_ble_eq_true rfl)) dX3_pagesToWrite_63 ⟨Nat.le_of_ble_eq_true rfl, Nat.le_of_ble_eq_true rfl⟩)) (fun r hr => ?_)
          obtain rfl : r = nI (ps_cn (ps_kp f (f 1 k) (f 3 k)) mn) := hr
          refine vp_callSi (va_Run.run (va_runS (As := [.int (nI (ps_cn (ps_kp f (f 1 k) (f 3 k)) mn))]) (rest := [.int (nI (ps_tp (ps_wq f mn kn) (ps_wc f mn) k))]) ⟨hx, hb, hml, hown, hT⟩ (mX3_pagesFor l (ps_cn (ps_kp f (f 1 k) (f 3 k)) mn) (Nat.lt_of_le_of_lt (ps_cn_le _ _) (by omega))) (va_cwS 1 hT (ps_gS tw_ml_X3_116 tw_st_X3_pagesFor tw_in_X3 tw_co_X3_pagesFor) rfl rfl rfl ⟨by decide, by decide, by decide +kernel⟩ ⟨Nat.le_of_ble_eq_true rfl, Nat.le_of_ble_eq_true rfl⟩) preEq rfl rfl hl.1 rfl (lv_room (Nat.le_of_ble_eq_true rfl)) dX3_pagesToWrite_66 ⟨Nat.le_of_ble_eq_true rfl, Nat.le_of_ble_eq_true rfl⟩)) (fun r hr => ?_)
          obtain rfl : r = nI (((ps_cn (ps_kp f (f 1 k) (f 3 k)) mn) + 5) / 6) := hr
          refine lv_iadd hx hb dX3_pagesToWrite_69 ?_
          refine lv_topi (fun y9 hy9 => ?_)
          obtain rfl : y9 = nI (ps_tp (ps_wq f mn kn) (ps_wc f mn) (k + 1)) := hy9.trans ((nI_add _ _).trans (by rw [ps_tp_t (F := ps_wq f mn kn) (C := ps_wc f mn) h46]; rfl))
          refine lv_goto (tgt := 74) hx hb dX3_pagesToWrite_70 rfl ?_
          refine lv_istore_n (lv' := [(1, .int (nI (ps_tp (ps_wq f mn kn) (ps_wc f mn) (k + 1)))), (3, .int (ps_bi (ps_wq f mn kn k))), (0, .ref w0), (2, .int (nI k))]) hx hb dX3_pagesToWrite_74 rfl hl (by decide) rfl (fun ls hl => ?_)
          refine lv_iinc (k := 3) (v := nI (k + 1)) (lv' := [(2, .int (nI (k + 1))), (1, .int (nI (ps_tp (ps_wq f mn kn) (ps_wc f mn) (k + 1)))), (3, .int (ps_bi (ps_wq f mn kn k))), (0, .ref w0)]) hx hb dX3_pagesToWrite_75 hl rfl (ps_inc _) (by decide) rfl (fun ls hl => ?_)
          refine lv_goto (tgt := 4) hx hb dX3_pagesToWrite_78 rfl ?_
          exact ih4 ((k + 1)) ls (by omega) ⟨by omega, lv_sub hl [3, 1, 0] rfl⟩
