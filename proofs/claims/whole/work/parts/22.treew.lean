/-! contracts: the tree's writers. By wip/treew.py. -/
/-- the rows behind an insertion -/
def ps_ig (g : ps_G) (n : Nat) (id x y z v : Int32) : ps_G :=
  ps_sF (ps_put (ps_mv g (ps_cn (ps_ab g (ps_rk id)) n) (ps_cn (ps_ab g (ps_rk id)) n + 1) (n - ps_cn (ps_ab g (ps_rk id)) n)) (ps_cn (ps_ab g (ps_rk id)) n) id x y z v) (ps_cn (ps_ab g (ps_rk id)) n) (n + 1 - ps_cn (ps_ab g (ps_rk id)) n)
/-- the rows behind a deletion -/
def ps_dg (g : ps_G) (n k : Nat) : ps_G := ps_sF (ps_mv g (k + 1) k (n - (k + 1))) k (n - 1 - k)
theorem ps_up_self (g : ps_G) (i : Nat) : va_up g i (g i) = g := by
  funext j
  by_cases h : j = i
  · subst h; exact va_up_self _ _ _
  · exact va_up_ne _ _ h
theorem ps_mk_up (g : ps_G) (n' : Nat) (o : ps_G) : g = va_up g 7 (ps_mk g n' o 0) := by
  rw [ps_mk0, ps_up_self]
set_option maxHeartbeats 4000000 in
set_option maxRecDepth 100000 in
theorem mX1_setColour (l : Launch) (dC : Nat → ClassId) (dI : Nat → Nat → Nat) (cI cZ : ClassId) (q : Nat) (a : Nat → Nat) (n : Nat) (g : ps_G) (k : Nat) (hk : k < 48) (v : Int32) (sz : Nat) : Met l yX1_setColour (.code yX1_setColour cX1_setColour 3 none :: ps_T) ({ frames := 0, cells := 0, slots := 0, locals := 0 }) (ps_qc (dC, dI) (ps_ty cI cZ) (ps_trW cI cZ q a n g) sz [.ref q, .int (nI k), .int v]) (va_Qv (fun _ : Unit => True) (ps_qB (dC, dI) (ps_ty cI cZ) (va_A (ps_trW cI cZ q a n g) sz) (ps_trW cI cZ q a n (va_up g 4 (upd (g 4) k v)))) (va_A (ps_trW cI cZ q a n g) sz)) 0 0 (va_A (ps_trW cI cZ q a n g) sz) := by
  refine Met.ofW (cc := cX1_setColour) (maxL := 3) (ret := none) (by decide) rfl ?_
  intro p e s m args below meth c s₁ B hml hv
  obtain ⟨rfl, hsz, hN, hP, hK, hD0⟩ := hv
  have hx := B.exec
  have hb := B.bytes
  have hr := B.returns
  have hlocks := B.notSynchronized
  have hT : ∀ w ∈ ps_T, w.before ([.ref q, .int (nI k), .int v] : List Value).toArray s = true := fun w h => atoms_spec (ws := (.code yX1_setColour cX1_setColour 3 none :: ps_T)) B.pre w (List.mem_cons_of_mem _ h)
  have hown : s.vm.findClass RX1 = some m.cls := findClass_of_methodNamed B.named
  subst hsz
  have hD := hD0.self (sz := s.heap.size)
  generalize hAe : va_A (ps_trW cI cZ q a n g) s.heap.size = A at hD ⊢
  have hA : ∀ q : Nat, s.heap.size ≤ q → A q := fun q h => by rw [← hAe]; exact Or.inr h
  have hS : va_S A s.heap s.heap [] := va_S.rf
  have hl := lv_entry ([.ref q, .int (nI k), .int v]) (n := 3) (Nat.le_of_ble_eq_true rfl)
  rw [lg_entry_eq]
  generalize (lg_sl ([.ref q, .int (nI k), .int v]) ++ List.replicate (3 - (lg_sl ([.ref q, .int (nI k), .int v])).length) Slot.unset).toArray = ls at hl ⊢
  have hl : lv_has ls 3 [(0, .ref q), (1, .int (nI k)), (2, .int v)] := hl
  refine lv_aload_n hx hb dX1_setColour_0 rfl (lv_at hl 0 rfl) ?_
  refine va_get (D := (dC, dI)) (ci := 1) (v := .ref (a 4)) (C := RX1) (T := TX1) (N := 9) hx hb hT inX1 hown hK hP 0 rfl rfl 4 (by decide) (hT _ tw_fl_X1_24) (fun _ h9 => h9) rfl dX1_setColour_1 ?_
  refine lv_iload_n hx hb dX1_setColour_4 rfl (lv_at hl 1 rfl) ?_
  refine lv_iload_n hx hb dX1_setColour_5 rfl (lv_at hl 2 rfl) ?_
  refine ps_iast (k := k) hx hb hK hP hD hS 5 0 rfl rfl (by omega) (by decide) dX1_setColour_6 (fun H locs hP hD hS => ?_)
  have hP : va_P (dC, dI) vwCl (ps_trW cI cZ q a n (va_up g 4 (upd (g 4) k v))) H := hP
  have hD : va_D A (ps_trW cI cZ q a n (va_up g 4 (upd (g 4) k v))) := hD
  exact W.vret hx hb hr (fun t ht hW => ⟨⟨(), rfl, trivial, by rw [ht]; exact hP, va_K.moved hW.alike hK, hD⟩, hS.F ht⟩) hS.2.2 dX1_setColour_7
set_option maxHeartbeats 4000000 in
set_option maxRecDepth 100000 in
theorem mX1_settle (l : Launch) (dC : Nat → ClassId) (dI : Nat → Nat → Nat) (cI cZ : ClassId) (q : Nat) (a : Nat → Nat) (n : Nat) (g : ps_G) (k : Nat) (hk : k < 48) (sz : Nat) : Met l yX1_settle (.code yX1_settle cX1_settle 4 none :: ps_T) ({ frames := 3, cells := 0, slots := 0, locals := 73 }) (ps_qc (dC, dI) (ps_ty cI cZ) (ps_trW cI cZ q a n g) sz [.ref q, .int (nI k)]) (va_Qv (fun _ : Unit => True) (ps_qB (dC, dI) (ps_ty cI cZ) (va_A (ps_trW cI cZ q a n g) sz) (ps_trW cI cZ q a n ((ps_s1 g k)))) (va_A (ps_trW cI cZ q a n g) sz)) 0 0 (va_A (ps_trW cI cZ q a n g) sz) := by
  refine Met.ofW (cc := cX1_settle) (maxL := 4) (ret := none) (by decide) rfl ?_
  intro p e s m args below meth c s₁ B hml hv
  obtain ⟨rfl, hsz, hN, hP, hK, hD0⟩ := hv
  have hx := B.exec
  have hb := B.bytes
  have hr := B.returns
  have hlocks := B.notSynchronized
  have hT : ∀ w ∈ ps_T, w.before ([.ref q, .int (nI k)] : List Value).toArray s = true := fun w h => atoms_spec (ws := (.code yX1_settle cX1_settle 4 none :: ps_T)) B.pre w (List.mem_cons_of_mem _ h)
  have hown : s.vm.findClass RX1 = some m.cls := findClass_of_methodNamed B.named
  subst hsz
  have hD := hD0.self (sz := s.heap.size)
  generalize hAe : va_A (ps_trW cI cZ q a n g) s.heap.size = A at hD ⊢
  have hA : ∀ q : Nat, s.heap.size ≤ q → A q := fun q h => by rw [← hAe]; exact Or.inr h
  have hS : va_S A s.heap s.heap [] := va_S.rf
  have hl := lv_entry ([.ref q, .int (nI k)]) (n := 4) (Nat.le_of_ble_eq_true rfl)
  rw [lg_entry_eq]
  generalize (lg_sl ([.ref q, .int (nI k)]) ++ List.replicate (4 - (lg_sl ([.ref q, .int (nI k)])).length) Slot.unset).toArray = ls at hl ⊢
  have hl : lv_has ls 4 [(0, .ref q), (1, .int (nI k))] := hl
  refine lv_iconst (v := 0) hx hb dX1_settle_0 (by decide) ?_
  refine lv_istore_n (lv' := [(2, .int 0), (0, .ref q), (1, .int (nI k))]) hx hb dX1_settle_1 rfl hl (by decide) rfl (fun ls hl => ?_)
  refine lv_aload_n hx hb dX1_settle_2 rfl (lv_at hl 1 rfl) ?_
  refine lv_iload_n hx hb dX1_settle_3 rfl (lv_at hl 2 rfl) ?_
  refine lv_iload_n hx hb dX1_settle_4 rfl (lv_at hl 0 rfl) ?_
  refine vp_callSi (va_Run.run (va_runV (C := RX1) (As := [.int (nI k), .int 0]) (rest := []) ⟨hx, hb, hml, hown, hT⟩ (mX1_keptBefore l dC dI cI cZ q a n g k (by omega) 0) (cwV 2 hT (ps_gV tw_ml_X1_90 tw_im_X1_keptBefore tw_se_X1_keptBefore tw_in_X1 tw_co_X1_keptBefore) rfl rfl rfl ⟨rfl, by decide, by decide, by decide +kernel⟩ ⟨Nat.le_of_ble_eq_true rfl, Nat.le_of_ble_eq_true rfl⟩) (ps_preV (ci := 1) (q0 := 0) hN hP hK rfl rfl) rfl rfl hl.1 rfl (lv_room (Nat.le_of_ble_eq_true rfl)) dX1_settle_5 ⟨Nat.le_of_ble_eq_true rfl, Nat.le_of_ble_eq_true rfl⟩)) (fun r hr => ?_)
  obtain rfl : r = nI (ps_cn (ps_kb g 0 k) k) := hr
  refine lv_istore_n (lv' := [(3, .int (nI (ps_cn (ps_kb g 0 k) k))), (2, .int 0), (0, .ref q), (1, .int (nI k))]) hx hb dX1_settle_8 rfl hl (by decide) rfl (fun ls hl => ?_)
  have hl : lv_has ls 4 [(3, .int (nI (ps_cn (ps_kb g (nI 0) k) k))), (2, .int (nI 0)), (0, .ref q), (1, .int (nI k))] := hl
  refine ps_loopS (α := Nat) (fun d => 4 - d) (fun d ls => (d ≤ 4) ∧ (∀ j, j < d → 3 ≤ ps_kc g k j) ∧ lv_has ls 4 [(0, .ref q), (1, .int (nI k)), (2, .int (nI d)), (3, .int (nI (ps_cn (ps_kb g (nI d) k) k)))]) ?_ 0 ls ⟨by omega, fun j hj => absurd hj (Nat.not_lt_zero j), lv_sub hl [2, 3, 1, 0] rfl⟩
  intro d ls ih hI
  obtain ⟨hd, hj, hl⟩ := hI
  refine lv_iload_n hx hb dX1_settle_9 rfl (lv_at hl 2 rfl) ?_
  refine lv_iconst (v := 4) hx hb dX1_settle_10 (by decide) ?_
  refine ps_icmp_ge (tgt := 32) (a := d) (b := 4) hx hb dX1_settle_11 rfl (by omega) (by omega) (fun h11 => ?_) (fun h11 => ?_)
  · skip
    have e : ps_dn (ps_kc g k) = d := ps_dn_eq hd hj (Or.inl h11)
    refine lv_aload_n hx hb dX1_settle_32 rfl (lv_at hl 0 rfl) ?_
    refine va_get (D := (dC, dI)) (ci := 1) (v := .ref (a 5)) (C := RX1) (T := TX1) (N := 9) hx hb hT inX1 hown hK hP 0 rfl rfl 5 (by decide) (hT _ tw_fl_X1_27) (fun _ h9 => h9) rfl dX1_settle_33 ?_
    refine lv_iload_n hx hb dX1_settle_36 rfl (lv_at hl 1 rfl) ?_
    refine lv_iload_n hx hb dX1_settle_37 rfl (lv_at hl 2 rfl) ?_
    refine ps_iast (k := k) hx hb hK hP hD hS 6 0 rfl rfl (by omega) (by decide) dX1_settle_38 (fun H locs hP hD hS => ?_)
    have hP : va_P (dC, dI) vwCl (ps_trW cI cZ q a n (va_up g 5 (upd (g 5) k (nI d)))) H := hP
    have hD : va_D A (ps_trW cI cZ q a n (va_up g 5 (upd (g 5) k (nI d)))) := hD
    refine lv_aload_n hx hb dX1_settle_39 rfl (lv_at hl 0 rfl) ?_
    refine va_get (D := (dC, dI)) (ci := 1) (v := .ref (a 6)) (C := RX1) (T := TX1) (N := 9) hx hb hT inX1 hown hK hP 0 rfl rfl 6 (by decide) (hT _ tw_fl_X1_30) (fun _ h9 => h9) rfl dX1_settle_40 ?_
    refine lv_iload_n hx hb dX1_settle_43 rfl (lv_at hl 1 rfl) ?_
    refine lv_iload_n hx hb dX1_settle_44 rfl (lv_at hl 3 rfl) ?_
    refine ps_iast (k := k) hx hb hK hP hD hS 7 0 rfl rfl (by omega) (by decide) dX1_settle_45 (fun H locs hP hD hS => ?_)
    have hP : va_P (dC, dI) vwCl (ps_trW cI cZ q a n (va_up (va_up g 5 (upd (g 5) k (nI d))) 6 (upd (g 6) k (nI (ps_cn (ps_kb g (nI d) k) k))))) H := hP
    have hD : va_D A (ps_trW cI cZ q a n (va_up (va_up g 5 (upd (g 5) k (nI d))) 6 (upd (g 6) k (nI (ps_cn (ps_kb g (nI d) k) k))))) := hD
    subst e
    exact W.vret hx hb hr (fun t ht hW => ⟨⟨(), rfl, trivial, by rw [ht]; exact hP, va_K.moved hW.alike hK, hD⟩, hS.F ht⟩) hS.2.2 dX1_settle_46
  · skip
    refine lv_iload_n hx hb dX1_settle_14 rfl (lv_at hl 3 rfl) ?_
    refine lv_iconst (v := 3) hx hb dX1_settle_15 (by decide) ?_
    have hle := ps_cn_le (ps_kb g (nI d) k) k
    refine ps_icmp_lt (tgt := 32) (a := ps_cn (ps_kb g (nI d) k) k) (b := 3) hx hb dX1_settle_16 rfl (by omega) (by omega) (fun h16 => ?_) (fun h16 => ?_)
    · skip
      have e : ps_dn (ps_kc g k) = d := ps_dn_eq hd hj (Or.inr h16)
      refine lv_aload_n hx hb dX1_settle_32 rfl (lv_at hl 0 rfl) ?_
      refine va_get (D := (dC, dI)) (ci := 1) (v := .ref (a 5)) (C := RX1) (T := TX1) (N := 9) hx hb hT inX1 hown hK hP 0 rfl rfl 5 (by decide) (hT _ tw_fl_X1_27) (fun _ h9 => h9) rfl dX1_settle_33 ?_
      refine lv_iload_n hx hb dX1_settle_36 rfl (lv_at hl 1 rfl) ?_
      refine lv_iload_n hx hb dX1_settle_37 rfl (lv_at hl 2 rfl) ?_
      refine ps_iast (k := k) hx hb hK hP hD hS 6 0 rfl rfl (by omega) (by decide) dX1_settle_38 (fun H locs hP hD hS => ?_)
      have hP : va_P (dC, dI) vwCl (ps_trW cI cZ q a n (va_up g 5 (upd (g 5) k (nI d)))) H := hP
      have hD : va_D A (ps_trW cI cZ q a n (va_up g 5 (upd (g 5) k (nI d)))) := hD
      refine lv_aload_n hx hb dX1_settle_39 rfl (lv_at hl 0 rfl) ?_
      refine va_get (D := (dC, dI)) (ci := 1) (v := .ref (a 6)) (C := RX1) (T := TX1) (N := 9) hx hb hT inX1 hown hK hP 0 rfl rfl 6 (by decide) (hT _ tw_fl_X1_30) (fun _ h9 => h9) rfl dX1_settle_40 ?_
      refine lv_iload_n hx hb dX1_settle_43 rfl (lv_at hl 1 rfl) ?_
      refine lv_iload_n hx hb dX1_settle_44 rfl (lv_at hl 3 rfl) ?_
      refine ps_iast (k := k) hx hb hK hP hD hS 7 0 rfl rfl (by omega) (by decide) dX1_settle_45 (fun H locs hP hD hS => ?_)
      have hP : va_P (dC, dI) vwCl (ps_trW cI cZ q a n (va_up (va_up g 5 (upd (g 5) k (nI d))) 6 (upd (g 6) k (nI (ps_cn (ps_kb g (nI d) k) k))))) H := hP
      have hD : va_D A (ps_trW cI cZ q a n (va_up (va_up g 5 (upd (g 5) k (nI d))) 6 (upd (g 6) k (nI (ps_cn (ps_kb g (nI d) k) k))))) := hD
      subst e
      exact W.vret hx hb hr (fun t ht hW => ⟨⟨(), rfl, trivial, by rw [ht]; exact hP, va_K.moved hW.alike hK, hD⟩, hS.F ht⟩) hS.2.2 dX1_settle_46
    · skip
      refine lv_iinc (k := 2) (v := nI (d + 1)) (lv' := [(2, .int (nI (d + 1))), (0, .ref q), (1, .int (nI k)), (3, .int (nI (ps_cn (ps_kb g (nI d) k) k)))]) hx hb dX1_settle_19 hl rfl (ps_inc _) (by decide) rfl (fun ls hl => ?_)
      refine lv_aload_n hx hb dX1_settle_22 rfl (lv_at hl 1 rfl) ?_
      refine lv_iload_n hx hb dX1_settle_23 rfl (lv_at hl 2 rfl) ?_
      refine lv_iload_n hx hb dX1_settle_24 rfl (lv_at hl 0 rfl) ?_
      refine vp_callSi (va_Run.run (va_runV (C := RX1) (As := [.int (nI k), .int (nI (d + 1))]) (rest := []) ⟨hx, hb, hml, hown, hT⟩ (mX1_keptBefore l dC dI cI cZ q a n g k (by omega) (nI (d + 1))) (cwV 2 hT (ps_gV tw_ml_X1_90 tw_im_X1_keptBefore tw_se_X1_keptBefore tw_in_X1 tw_co_X1_keptBefore) rfl rfl rfl ⟨rfl, by decide, by decide, by decide +kernel⟩ ⟨Nat.le_of_ble_eq_true rfl, Nat.le_of_ble_eq_true rfl⟩) (ps_preV (ci := 1) (q0 := 0) hN hP hK rfl rfl) rfl rfl hl.1 rfl (lv_room (Nat.le_of_ble_eq_true rfl)) dX1_settle_25 ⟨Nat.le_of_ble_eq_true rfl, Nat.le_of_ble_eq_true rfl⟩)) (fun r hr => ?_)
      obtain rfl : r = nI (ps_cn (ps_kb g (nI (d + 1)) k) k) := hr
      refine lv_istore_n (lv' := [(3, .int (nI (ps_cn (ps_kb g (nI (d + 1)) k) k))), (2, .int (nI (d + 1))), (0, .ref q), (1, .int (nI k))]) hx hb dX1_settle_28 rfl hl (by decide) rfl (fun ls hl => ?_)
      refine lv_goto (tgt := 9) hx hb dX1_settle_29 rfl ?_
      exact ih ((d + 1)) ls (by omega) ⟨by omega, lt_s hj h16, lv_sub hl [2, 3, 1, 0] rfl⟩
set_option maxHeartbeats 4000000 in
set_option maxRecDepth 100000 in
theorem mX1_settleFrom (l : Launch) (dC : Nat → ClassId) (dI : Nat → Nat → Nat) (cI cZ : ClassId) (q : Nat) (a : Nat → Nat) (n : Nat) (g : ps_G) (hn : n ≤ 48) (f : Nat) (hf : f ≤ n) (sz : Nat) : Met l yX1_settleFrom (.code yX1_settleFrom cX1_settleFrom 3 none :: ps_T) ({ frames := 4, cells := 0, slots := 0, locals := 96 }) (ps_qc (dC, dI) (ps_ty cI cZ) (ps_trW cI cZ q a n g) sz [.ref q, .int (nI f)]) (va_Qv (fun _ : Unit => True) (ps_qB (dC, dI) (ps_ty cI cZ) (va_A (ps_trW cI cZ q a n g) sz) (ps_trW cI cZ q a n ((ps_sF g f (n - f))))) (va_A (ps_trW cI cZ q a n g) sz)) 0 0 (va_A (ps_trW cI cZ q a n g) sz) := by
  refine Met.ofW (cc := cX1_settleFrom) (maxL := 3) (ret := none) (by decide) rfl ?_
  intro p e s m args below meth c s₁ B hml hv
  obtain ⟨rfl, hsz, hN, hP, hK, hD0⟩ := hv
  have hx := B.exec
  have hb := B.bytes
  have hr := B.returns
  have hlocks := B.notSynchronized
  have hT : ∀ w ∈ ps_T, w.before ([.ref q, .int (nI f)] : List Value).toArray s = true := fun w h => atoms_spec (ws := (.code yX1_settleFrom cX1_settleFrom 3 none :: ps_T)) B.pre w (List.mem_cons_of_mem _ h)
  have hown : s.vm.findClass RX1 = some m.cls := findClass_of_methodNamed B.named
  subst hsz
  have hD := hD0.self (sz := s.heap.size)
  generalize hAe : va_A (ps_trW cI cZ q a n g) s.heap.size = A at hD ⊢
  have hA : ∀ q : Nat, s.heap.size ≤ q → A q := fun q h => by rw [← hAe]; exact Or.inr h
  have hS : va_S A s.heap s.heap [] := va_S.rf
  have hl := lv_entry ([.ref q, .int (nI f)]) (n := 3) (Nat.le_of_ble_eq_true rfl)
  rw [lg_entry_eq]
  generalize (lg_sl ([.ref q, .int (nI f)]) ++ List.replicate (3 - (lg_sl ([.ref q, .int (nI f)])).length) Slot.unset).toArray = ls at hl ⊢
  have hl : lv_has ls 3 [(0, .ref q), (1, .int (nI f))] := hl
  refine lv_iload_n hx hb dX1_settleFrom_0 rfl (lv_at hl 1 rfl) ?_
  refine lv_istore_n (lv' := [(2, .int (nI f)), (0, .ref q), (1, .int (nI f))]) hx hb dX1_settleFrom_1 rfl hl (by decide) rfl (fun ls hl => ?_)
  refine ps_loopQ (α := Nat) (fun m' => n - (f + m')) (fun m' ls H locs => (f + m' ≤ n) ∧ lv_has ls 3 [(0, .ref q), (2, .int (nI (f + m')))] ∧ va_P (dC, dI) vwCl (ps_trW cI cZ q a n ((ps_sF g f m'))) H ∧ va_D A (ps_trW cI cZ q a n ((ps_sF g f m'))) ∧ va_S A s.heap H locs) ?_ 0 ls _ _ ⟨by omega, lv_sub hl [1, 0] rfl, hP, hD, hS⟩
  intro m' ls H locs ih hI
  obtain ⟨hm, hl, hP, hD, hS⟩ := hI
  refine lv_iload_n hx hb dX1_settleFrom_2 rfl (lv_at hl 1 rfl) ?_
  refine lv_aload_n hx hb dX1_settleFrom_3 rfl (lv_at hl 0 rfl) ?_
  refine va_get (D := (dC, dI)) (ci := 1) (v := .int (nI n)) (C := RX1) (T := TX1) (N := 9) hx hb hT inX1 hown hK hP 0 rfl rfl 8 (by decide) (hT _ tw_fl_X1_37) (fun _ h9 => h9) rfl dX1_settleFrom_4 ?_
  refine ps_icmp_ge (tgt := 21) (a := f + m') (b := n) hx hb dX1_settleFrom_7 rfl (by omega) (by omega) (fun h7 => ?_) (fun h7 => ?_)
  · skip
    obtain rfl : m' = n - f := by omega
    exact W.vret hx hb hr (fun t ht hW => ⟨⟨(), rfl, trivial, by rw [ht]; exact hP, va_K.moved hW.alike hK, hD⟩, hS.F ht⟩) hS.2.2 dX1_settleFrom_21
  · skip
    refine lv_aload_n hx hb dX1_settleFrom_10 rfl (lv_at hl 0 rfl) ?_
    refine lv_iload_n hx hb dX1_settleFrom_11 rfl (lv_at hl 1 rfl) ?_
    refine ps_cqv (wc := ps_trW cI cZ q a n ((ps_sF g f m'))) (wr := []) (w1 := ps_trW cI cZ q a n ((ps_s1 ((ps_sF g f m')) (f + m')))) (ws2 := ps_trW cI cZ q a n ((ps_s1 ((ps_sF g f m')) (f + m')))) (va_runV (C := RX1) (As := [.int (nI (f + m'))]) (rest := []) ⟨hx, hb, hml, hown, hT⟩ (mX1_settle l dC dI cI cZ q a n ((ps_sF g f m')) (f + m') (by omega) _) (cwV 1 hT (ps_gV tw_ml_X1_87 tw_im_X1_settle tw_se_X1_settle tw_in_X1 tw_co_X1_settle) rfl rfl rfl ⟨rfl, by decide, by decide, by decide +kernel⟩ ⟨Nat.le_of_ble_eq_true rfl, Nat.le_of_ble_eq_true rfl⟩) (ps_qreV (wc := ps_trW cI cZ q a n ((ps_sF g f m'))) (ci := 1) [0, 1, 2, 3, 4, 5, 6, 7, 8] hN hP hK hD rfl rfl rfl rfl rfl) rfl rfl hl.1 rfl (lv_room (Nat.le_of_ble_eq_true rfl)) dX1_settleFrom_12 ⟨Nat.le_of_ble_eq_true rfl, Nat.le_of_ble_eq_true rfl⟩) hS hA hP hD [0, 1, 2, 3, 4, 5, 6, 7, 8] [] [0, 1, 2, 3, 4, 5, 6, 7, 8] rfl rfl rfl (by decide) rfl rfl rfl (fun H locs hP hD hS => ?_)
    refine lv_iinc (k := 1) (v := nI ((f + m') + 1)) (lv' := [(2, .int (nI ((f + m') + 1))), (0, .ref q)]) hx hb dX1_settleFrom_15 hl rfl (ps_inc _) (by decide) rfl (fun ls hl => ?_)
    refine lv_goto (tgt := 2) hx hb dX1_settleFrom_18 rfl ?_
    exact ih ((m' + 1)) ls _ _ (by omega) ⟨by omega, lv_sub hl [1, 0] rfl, hP, hD, hS⟩
set_option maxHeartbeats 4000000 in
set_option maxRecDepth 100000 in
theorem mX1_moveTail (l : Launch) (dC : Nat → ClassId) (dI : Nat → Nat → Nat) (cI cZ : ClassId) (q : Nat) (a : Nat → Nat) (n : Nat) (g : ps_G) (f t : Nat) (hf : f ≤ n) (hn : n ≤ 48) (ht : t + (n - f) ≤ 48) (sz : Nat) : Met l yX1_moveTail (.code yX1_moveTail cX1_moveTail 4 none :: ps_T) ({ frames := 1, cells := 0, slots := 0, locals := 40 }) (ps_qc (dC, dI) (ps_ty cI cZ) (ps_trW cI cZ q a n g) sz [.ref q, .int (nI f), .int (nI t)]) (va_Qv (fun _ : Unit => True) (ps_qB (dC, dI) (ps_ty cI cZ) (va_A (ps_trW cI cZ q a n g) sz) (ps_trW cI cZ q a n ((ps_mv g f t (n - f))))) (va_A (ps_trW cI cZ q a n g) sz)) 0 0 (va_A (ps_trW cI cZ q a n g) sz) := by
  refine Met.ofW (cc := cX1_moveTail) (maxL := 4) (ret := none) (by decide) rfl ?_
  intro p e s m args below meth c s₁ B hml hv
  obtain ⟨rfl, hsz, hN, hP, hK, hD0⟩ := hv
  have hx := B.exec
  have hb := B.bytes
  have hr := B.returns
  have hlocks := B.notSynchronized
  have hT : ∀ w ∈ ps_T, w.before ([.ref q, .int (nI f), .int (nI t)] : List Value).toArray s = true := fun w h => atoms_spec (ws := (.code yX1_moveTail cX1_moveTail 4 none :: ps_T)) B.pre w (List.mem_cons_of_mem _ h)
  have hown : s.vm.findClass RX1 = some m.cls := findClass_of_methodNamed B.named
  subst hsz
  have hD := hD0.self (sz := s.heap.size)
  generalize hAe : va_A (ps_trW cI cZ q a n g) s.heap.size = A at hD ⊢
  have hA : ∀ q : Nat, s.heap.size ≤ q → A q := fun q h => by rw [← hAe]; exact Or.inr h
  have hS : va_S A s.heap s.heap [] := va_S.rf
  have hl := lv_entry ([.ref q, .int (nI f), .int (nI t)]) (n := 4) (Nat.le_of_ble_eq_true rfl)
  rw [lg_entry_eq]
  generalize (lg_sl ([.ref q, .int (nI f), .int (nI t)]) ++ List.replicate (4 - (lg_sl ([.ref q, .int (nI f), .int (nI t)])).length) Slot.unset).toArray = ls at hl ⊢
  have hl : lv_has ls 4 [(0, .ref q), (1, .int (nI f)), (2, .int (nI t))] := hl
  refine lv_aload_n hx hb dX1_moveTail_0 rfl (lv_at hl 0 rfl) ?_
  refine va_get (D := (dC, dI)) (ci := 1) (v := .int (nI n)) (C := RX1) (T := TX1) (N := 9) hx hb hT inX1 hown hK hP 0 rfl rfl 8 (by decide) (hT _ tw_fl_X1_37) (fun _ h9 => h9) rfl dX1_moveTail_1 ?_
  refine lv_iload_n hx hb dX1_moveTail_4 rfl (lv_at hl 1 rfl) ?_
  refine lv_isub hx hb dX1_moveTail_5 ?_
  rw [pk_sub (by omega)]
  refine lv_istore_n (lv' := [(3, .int (nI (n - f))), (0, .ref q), (1, .int (nI f)), (2, .int (nI t))]) hx hb dX1_moveTail_6 rfl hl (by decide) rfl (fun ls hl => ?_)
  refine lv_aload_n hx hb dX1_moveTail_7 rfl (lv_at hl 1 rfl) ?_
  refine va_get (D := (dC, dI)) (ci := 1) (v := .ref (a 0)) (C := RX1) (T := TX1) (N := 9) hx hb hT inX1 hown hK hP 0 rfl rfl 0 (by decide) (hT _ tw_fl_X1_9) (fun _ h9 => h9) rfl dX1_moveTail_8 ?_
  refine lv_iload_n hx hb dX1_moveTail_11 rfl (lv_at hl 2 rfl) ?_
  refine lv_aload_n hx hb dX1_moveTail_12 rfl (lv_at hl 1 rfl) ?_
  refine va_get (D := (dC, dI)) (ci := 1) (v := .ref (a 0)) (C := RX1) (T := TX1) (N := 9) hx hb hT inX1 hown hK hP 0 rfl rfl 0 (by decide) (hT _ tw_fl_X1_9) (fun _ h9 => h9) rfl dX1_moveTail_13 ?_
  refine lv_iload_n hx hb dX1_moveTail_16 rfl (lv_at hl 3 rfl) ?_
  refine lv_iload_n hx hb dX1_moveTail_17 rfl (lv_at hl 0 rfl) ?_
  refine ps_copy (sp := f) (dp := t) (n := n - f) hx hb (hml.trans hl.1.symm) hown hT tw_ml_X1_61 hK hP hD hS 1 1 0 rfl rfl rfl (by omega) (by omega) (by omega) (by omega) (by omega) (Nat.le_of_ble_eq_true rfl) (Nat.le_of_ble_eq_true rfl) dX1_moveTail_18 (fun H locs hP hD hS => ?_)
  have hP : va_P (dC, dI) vwCl (ps_trW cI cZ q a n (va_up g 0 (va_cpy (g 0) (g 0) f t (n - f)))) H := hP
  have hD : va_D A (ps_trW cI cZ q a n (va_up g 0 (va_cpy (g 0) (g 0) f t (n - f)))) := hD
  refine lv_aload_n hx hb dX1_moveTail_21 rfl (lv_at hl 1 rfl) ?_
  refine va_get (D := (dC, dI)) (ci := 1) (v := .ref (a 1)) (C := RX1) (T := TX1) (N := 9) hx hb hT inX1 hown hK hP 0 rfl rfl 1 (by decide) (hT _ tw_fl_X1_15) (fun _ h9 => h9) rfl dX1_moveTail_22 ?_
  refine lv_iload_n hx hb dX1_moveTail_25 rfl (lv_at hl 2 rfl) ?_
  refine lv_aload_n hx hb dX1_moveTail_26 rfl (lv_at hl 1 rfl) ?_
  refine va_get (D := (dC, dI)) (ci := 1) (v := .ref (a 1)) (C := RX1) (T := TX1) (N := 9) hx hb hT inX1 hown hK hP 0 rfl rfl 1 (by decide) (hT _ tw_fl_X1_15) (fun _ h9 => h9) rfl dX1_moveTail_27 ?_
  refine lv_iload_n hx hb dX1_moveTail_30 rfl (lv_at hl 3 rfl) ?_
  refine lv_iload_n hx hb dX1_moveTail_31 rfl (lv_at hl 0 rfl) ?_
  refine ps_copy (sp := f) (dp := t) (n := n - f) hx hb (hml.trans hl.1.symm) hown hT tw_ml_X1_61 hK hP hD hS 2 2 0 rfl rfl rfl (by omega) (by omega) (by omega) (by omega) (by omega) (Nat.le_of_ble_eq_true rfl) (Nat.le_of_ble_eq_true rfl) dX1_moveTail_32 (fun H locs hP hD hS => ?_)
  have hP : va_P (dC, dI) vwCl (ps_trW cI cZ q a n (va_up (va_up g 0 (va_cpy (g 0) (g 0) f t (n - f))) 1 (va_cpy (g 1) (g 1) f t (n - f)))) H := hP
  have hD : va_D A (ps_trW cI cZ q a n (va_up (va_up g 0 (va_cpy (g 0) (g 0) f t (n - f))) 1 (va_cpy (g 1) (g 1) f t (n - f)))) := hD
  refine lv_aload_n hx hb dX1_moveTail_35 rfl (lv_at hl 1 rfl) ?_
  refine va_get (D := (dC, dI)) (ci := 1) (v := .ref (a 2)) (C := RX1) (T := TX1) (N := 9) hx hb hT inX1 hown hK hP 0 rfl rfl 2 (by decide) (hT _ tw_fl_X1_18) (fun _ h9 => h9) rfl dX1_moveTail_36 ?_
  refine lv_iload_n hx hb dX1_moveTail_39 rfl (lv_at hl 2 rfl) ?_
  refine lv_aload_n hx hb dX1_moveTail_40 rfl (lv_at hl 1 rfl) ?_
  refine va_get (D := (dC, dI)) (ci := 1) (v := .ref (a 2)) (C := RX1) (T := TX1) (N := 9) hx hb hT inX1 hown hK hP 0 rfl rfl 2 (by decide) (hT _ tw_fl_X1_18) (fun _ h9 => h9) rfl dX1_moveTail_41 ?_
  refine lv_iload_n hx hb dX1_moveTail_44 rfl (lv_at hl 3 rfl) ?_
  refine lv_iload_n hx hb dX1_moveTail_45 rfl (lv_at hl 0 rfl) ?_
  refine ps_copy (sp := f) (dp := t) (n := n - f) hx hb (hml.trans hl.1.symm) hown hT tw_ml_X1_61 hK hP hD hS 3 3 0 rfl rfl rfl (by omega) (by omega) (by omega) (by omega) (by omega) (Nat.le_of_ble_eq_true rfl) (Nat.le_of_ble_eq_true rfl) dX1_moveTail_46 (fun H locs hP hD hS => ?_)
  have hP : va_P (dC, dI) vwCl (ps_trW cI cZ q a n (va_up (va_up (va_up g 0 (va_cpy (g 0) (g 0) f t (n - f))) 1 (va_cpy (g 1) (g 1) f t (n - f))) 2 (va_cpy (g 2) (g 2) f t (n - f)))) H := hP
  have hD : va_D A (ps_trW cI cZ q a n (va_up (va_up (va_up g 0 (va_cpy (g 0) (g 0) f t (n - f))) 1 (va_cpy (g 1) (g 1) f t (n - f))) 2 (va_cpy (g 2) (g 2) f t (n - f)))) := hD
  refine lv_aload_n hx hb dX1_moveTail_49 rfl (lv_at hl 1 rfl) ?_
  refine va_get (D := (dC, dI)) (ci := 1) (v := .ref (a 3)) (C := RX1) (T := TX1) (N := 9) hx hb hT inX1 hown hK hP 0 rfl rfl 3 (by decide) (hT _ tw_fl_X1_21) (fun _ h9 => h9) rfl dX1_moveTail_50 ?_
  refine lv_iload_n hx hb dX1_moveTail_53 rfl (lv_at hl 2 rfl) ?_
  refine lv_aload_n hx hb dX1_moveTail_54 rfl (lv_at hl 1 rfl) ?_
  refine va_get (D := (dC, dI)) (ci := 1) (v := .ref (a 3)) (C := RX1) (T := TX1) (N := 9) hx hb hT inX1 hown hK hP 0 rfl rfl 3 (by decide) (hT _ tw_fl_X1_21) (fun _ h9 => h9) rfl dX1_moveTail_55 ?_
  refine lv_iload_n hx hb dX1_moveTail_58 rfl (lv_at hl 3 rfl) ?_
  refine lv_iload_n hx hb dX1_moveTail_59 rfl (lv_at hl 0 rfl) ?_
  refine ps_copy (sp := f) (dp := t) (n := n - f) hx hb (hml.trans hl.1.symm) hown hT tw_ml_X1_61 hK hP hD hS 4 4 0 rfl rfl rfl (by omega) (by omega) (by omega) (by omega) (by omega) (Nat.le_of_ble_eq_true rfl) (Nat.le_of_ble_eq_true rfl) dX1_moveTail_60 (fun H locs hP hD hS => ?_)
  have hP : va_P (dC, dI) vwCl (ps_trW cI cZ q a n (va_up (va_up (va_up (va_up g 0 (va_cpy (g 0) (g 0) f t (n - f))) 1 (va_cpy (g 1) (g 1) f t (n - f))) 2 (va_cpy (g 2) (g 2) f t (n - f))) 3 (va_cpy (g 3) (g 3) f t (n - f)))) H := hP
  have hD : va_D A (ps_trW cI cZ q a n (va_up (va_up (va_up (va_up g 0 (va_cpy (g 0) (g 0) f t (n - f))) 1 (va_cpy (g 1) (g 1) f t (n - f))) 2 (va_cpy (g 2) (g 2) f t (n - f))) 3 (va_cpy (g 3) (g 3) f t (n - f)))) := hD
  refine lv_aload_n hx hb dX1_moveTail_63 rfl (lv_at hl 1 rfl) ?_
  refine va_get (D := (dC, dI)) (ci := 1) (v := .ref (a 4)) (C := RX1) (T := TX1) (N := 9) hx hb hT inX1 hown hK hP 0 rfl rfl 4 (by decide) (hT _ tw_fl_X1_24) (fun _ h9 => h9) rfl dX1_moveTail_64 ?_
  refine lv_iload_n hx hb dX1_moveTail_67 rfl (lv_at hl 2 rfl) ?_
  refine lv_aload_n hx hb dX1_moveTail_68 rfl (lv_at hl 1 rfl) ?_
  refine va_get (D := (dC, dI)) (ci := 1) (v := .ref (a 4)) (C := RX1) (T := TX1) (N := 9) hx hb hT inX1 hown hK hP 0 rfl rfl 4 (by decide) (hT _ tw_fl_X1_24) (fun _ h9 => h9) rfl dX1_moveTail_69 ?_
  refine lv_iload_n hx hb dX1_moveTail_72 rfl (lv_at hl 3 rfl) ?_
  refine lv_iload_n hx hb dX1_moveTail_73 rfl (lv_at hl 0 rfl) ?_
  refine ps_copy (sp := f) (dp := t) (n := n - f) hx hb (hml.trans hl.1.symm) hown hT tw_ml_X1_61 hK hP hD hS 5 5 0 rfl rfl rfl (by omega) (by omega) (by omega) (by omega) (by omega) (Nat.le_of_ble_eq_true rfl) (Nat.le_of_ble_eq_true rfl) dX1_moveTail_74 (fun H locs hP hD hS => ?_)
  have hP : va_P (dC, dI) vwCl (ps_trW cI cZ q a n (va_up (va_up (va_up (va_up (va_up g 0 (va_cpy (g 0) (g 0) f t (n - f))) 1 (va_cpy (g 1) (g 1) f t (n - f))) 2 (va_cpy (g 2) (g 2) f t (n - f))) 3 (va_cpy (g 3) (g 3) f t (n - f))) 4 (va_cpy (g 4) (g 4) f t (n - f)))) H := hP
  have hD : va_D A (ps_trW cI cZ q a n (va_up (va_up (va_up (va_up (va_up g 0 (va_cpy (g 0) (g 0) f t (n - f))) 1 (va_cpy (g 1) (g 1) f t (n - f))) 2 (va_cpy (g 2) (g 2) f t (n - f))) 3 (va_cpy (g 3) (g 3) f t (n - f))) 4 (va_cpy (g 4) (g 4) f t (n - f)))) := hD
  exact W.vret hx hb hr (fun t ht hW => ⟨⟨(), rfl, trivial, by rw [ht]; exact hP, va_K.moved hW.alike hK, hD⟩, hS.F ht⟩) hS.2.2 dX1_moveTail_77
set_option maxHeartbeats 4000000 in
set_option maxRecDepth 100000 in
theorem mX1_insert (l : Launch) (dC : Nat → ClassId) (dI : Nat → Nat → Nat) (cI cZ : ClassId) (q : Nat) (a : Nat → Nat) (n : Nat) (g : ps_G) (hn : n < 48) (id x y z v : Int32) (sz : Nat) : Met l yX1_insert (.code yX1_insert cX1_insert 7 (some .int) :: ps_T) ({ frames := 5, cells := 0, slots := 0, locals := 118 }) (ps_qc (dC, dI) (ps_ty cI cZ) (ps_trW cI cZ q a n g) sz [.ref q, .int id, .int x, .int y, .int z, .int v]) (va_Qi (fun (r : Int32) (_ : Unit) => r = nI (ps_cn (ps_ab g (ps_rk id)) n)) (ps_qB (dC, dI) (ps_ty cI cZ) (va_A (ps_trW cI cZ q a n g) sz) (ps_trW cI cZ q a ((n + 1)) ((ps_ig g n id x y z v)))) (va_A (ps_trW cI cZ q a n g) sz)) 0 0 (va_A (ps_trW cI cZ q a n g) sz) := by
  refine Met.ofW (cc := cX1_insert) (maxL := 7) (ret := (some .int)) (by decide) rfl ?_
  intro p e s m args below meth c s₁ B hml hv
  obtain ⟨rfl, hsz, hN, hP, hK, hD0⟩ := hv
  have hx := B.exec
  have hb := B.bytes
  have hr := B.returns
  have hlocks := B.notSynchronized
  have hT : ∀ w ∈ ps_T, w.before ([.ref q, .int id, .int x, .int y, .int z, .int v] : List Value).toArray s = true := fun w h => atoms_spec (ws := (.code yX1_insert cX1_insert 7 (some .int) :: ps_T)) B.pre w (List.mem_cons_of_mem _ h)
  have hown : s.vm.findClass RX1 = some m.cls := findClass_of_methodNamed B.named
  subst hsz
  have hD := hD0.self (sz := s.heap.size)
  generalize hAe : va_A (ps_trW cI cZ q a n g) s.heap.size = A at hD ⊢
  have hA : ∀ q : Nat, s.heap.size ≤ q → A q := fun q h => by rw [← hAe]; exact Or.inr h
  have hS : va_S A s.heap s.heap [] := va_S.rf
  have hl := lv_entry ([.ref q, .int id, .int x, .int y, .int z, .int v]) (n := 7) (Nat.le_of_ble_eq_true rfl)
  rw [lg_entry_eq]
  generalize (lg_sl ([.ref q, .int id, .int x, .int y, .int z, .int v]) ++ List.replicate (7 - (lg_sl ([.ref q, .int id, .int x, .int y, .int z, .int v])).length) Slot.unset).toArray = ls at hl ⊢
  have hl : lv_has ls 7 [(0, .ref q), (1, .int id), (2, .int x), (3, .int y), (4, .int z), (5, .int v)] := hl
  have hle := ps_cn_le (ps_ab g (ps_rk id)) n
  refine lv_aload_n hx hb dX1_insert_0 rfl (lv_at hl 0 rfl) ?_
  refine lv_iload_n hx hb dX1_insert_1 rfl (lv_at hl 1 rfl) ?_
  refine vp_callSl (va_Run.run (va_runSN (As := [.int id]) (rest := [.ref q]) ⟨hx, hb, hml, hown, hT⟩ (mX2_rankOf l id) ⟨va_cnB 1 hT (ps_gC tw_co_X2_rankOf) rfl rfl rfl hN.1 (hT _ tw_in_X2) ⟨by decide, by decide, by decide +kernel⟩ ⟨Nat.le_of_ble_eq_true rfl, Nat.le_of_ble_eq_true rfl⟩, hT _ tw_st_X2_rankOf, trivial⟩ preEq rfl rfl hl.1 rfl (lv_room (Nat.le_of_ble_eq_true rfl)) dX1_insert_2 ⟨Nat.le_of_ble_eq_true rfl, Nat.le_of_ble_eq_true rfl⟩)) (fun r hr => ?_)
  obtain rfl : r = lN (ps_rk id) := hr
  refine vp_callSi (va_Run.run (va_runV (C := RX1) (As := [.long (lN (ps_rk id))]) (rest := []) ⟨hx, hb, hml, hown, hT⟩ (mX1_pointsAbove l dC dI cI cZ q a n g (by omega) (ps_rk id) (ps_rk_lt _)) (cwV 1 hT (ps_gV tw_ml_X1_49 tw_im_X1_pointsAbove tw_se_X1_pointsAbove tw_in_X1 tw_co_X1_pointsAbove) rfl rfl rfl ⟨rfl, by decide, by decide, by decide +kernel⟩ ⟨Nat.le_of_ble_eq_true rfl, Nat.le_of_ble_eq_true rfl⟩) (ps_preV (ci := 1) (q0 := 0) hN hP hK rfl rfl) rfl rfl hl.1 rfl (lv_room (Nat.le_of_ble_eq_true rfl)) dX1_insert_5 ⟨Nat.le_of_ble_eq_true rfl, Nat.le_of_ble_eq_true rfl⟩)) (fun r hr => ?_)
  obtain rfl : r = nI (ps_cn (ps_ab g (ps_rk id)) n) := hr
  refine lv_istore (lv' := [(6, .int (nI (ps_cn (ps_ab g (ps_rk id)) n))), (0, .ref q), (1, .int id), (2, .int x), (3, .int y), (4, .int z), (5, .int v)]) hx hb dX1_insert_8 hl (by decide) rfl (fun ls hl => ?_)
  refine lv_aload_n hx hb dX1_insert_10 rfl (lv_at hl 1 rfl) ?_
  refine lv_iload hx hb dX1_insert_11 (lv_at hl 0 rfl) ?_
  refine lv_iload hx hb dX1_insert_13 (lv_at hl 0 rfl) ?_
  refine lv_iconst (v := 1) hx hb dX1_insert_15 (by decide) ?_
  refine lv_iadd hx hb dX1_insert_16 ?_
  rw [nI_1]
  refine ps_cqv (wc := ps_trW cI cZ q a n g) (wr := []) (w1 := ps_trW cI cZ q a n ((ps_mv g (ps_cn (ps_ab g (ps_rk id)) n) ((ps_cn (ps_ab g (ps_rk id)) n) + 1) (n - (ps_cn (ps_ab g (ps_rk id)) n))))) (ws2 := ps_trW cI cZ q a n ((ps_mv g (ps_cn (ps_ab g (ps_rk id)) n) ((ps_cn (ps_ab g (ps_rk id)) n) + 1) (n - (ps_cn (ps_ab g (ps_rk id)) n))))) (va_runV (C := RX1) (As := [.int (nI (ps_cn (ps_ab g (ps_rk id)) n)), .int (nI ((ps_cn (ps_ab g (ps_rk id)) n) + 1))]) (rest := []) ⟨hx, hb, hml, hown, hT⟩ (mX1_moveTail l dC dI cI cZ q a n g (ps_cn (ps_ab g (ps_rk id)) n) ((ps_cn (ps_ab g (ps_rk id)) n) + 1) (by omega) (by omega) (by omega) _) (cwV 2 hT (ps_gV tw_ml_X1_53 tw_im_X1_moveTail tw_se_X1_moveTail tw_in_X1 tw_co_X1_moveTail) rfl rfl rfl ⟨rfl, by decide, by decide, by decide +kernel⟩ ⟨Nat.le_of_ble_eq_true rfl, Nat.le_of_ble_eq_true rfl⟩) (ps_qreV (wc := ps_trW cI cZ q a n g) (ci := 1) [0, 1, 2, 3, 4, 5, 6, 7, 8] hN hP hK hD rfl rfl rfl rfl rfl) rfl rfl hl.1 rfl (lv_room (Nat.le_of_ble_eq_true rfl)) dX1_insert_17 ⟨Nat.le_of_ble_eq_true rfl, Nat.le_of_ble_eq_true rfl⟩) hS hA hP hD [0, 1, 2, 3, 4, 5, 6, 7, 8] [] [0, 1, 2, 3, 4, 5, 6, 7, 8] rfl rfl rfl (by decide) rfl rfl rfl (fun H locs hP hD hS => ?_)
  refine lv_aload_n hx hb dX1_insert_20 rfl (lv_at hl 1 rfl) ?_
  refine va_get (D := (dC, dI)) (ci := 1) (v := .ref (a 0)) (C := RX1) (T := TX1) (N := 9) hx hb hT inX1 hown hK hP 0 rfl rfl 0 (by decide) (hT _ tw_fl_X1_9) (fun _ h9 => h9) rfl dX1_insert_21 ?_
  refine lv_iload hx hb dX1_insert_24 (lv_at hl 0 rfl) ?_
  refine lv_iload_n hx hb dX1_insert_26 rfl (lv_at hl 2 rfl) ?_
  refine ps_iast (k := ps_cn (ps_ab g (ps_rk id)) n) hx hb hK hP hD hS 1 0 rfl rfl (by omega) (by decide) dX1_insert_27 (fun H locs hP hD hS => ?_)
  have hP : va_P (dC, dI) vwCl (ps_trW cI cZ q a n (va_up ((ps_mv g (ps_cn (ps_ab g (ps_rk id)) n) ((ps_cn (ps_ab g (ps_rk id)) n) + 1) (n - (ps_cn (ps_ab g (ps_rk id)) n)))) 0 (upd ((ps_mv g (ps_cn (ps_ab g (ps_rk id)) n) ((ps_cn (ps_ab g (ps_rk id)) n) + 1) (n - (ps_cn (ps_ab g (ps_rk id)) n))) 0) (ps_cn (ps_ab g (ps_rk id)) n) id))) H := hP
  have hD : va_D A (ps_trW cI cZ q a n (va_up ((ps_mv g (ps_cn (ps_ab g (ps_rk id)) n) ((ps_cn (ps_ab g (ps_rk id)) n) + 1) (n - (ps_cn (ps_ab g (ps_rk id)) n)))) 0 (upd ((ps_mv g (ps_cn (ps_ab g (ps_rk id)) n) ((ps_cn (ps_ab g (ps_rk id)) n) + 1) (n - (ps_cn (ps_ab g (ps_rk id)) n))) 0) (ps_cn (ps_ab g (ps_rk id)) n) id))) := hD
  refine lv_aload_n hx hb dX1_insert_28 rfl (lv_at hl 1 rfl) ?_
  refine va_get (D := (dC, dI)) (ci := 1) (v := .ref (a 1)) (C := RX1) (T := TX1) (N := 9) hx hb hT inX1 hown hK hP 0 rfl rfl 1 (by decide) (hT _ tw_fl_X1_15) (fun _ h9 => h9) rfl dX1_insert_29 ?_
  refine lv_iload hx hb dX1_insert_32 (lv_at hl 0 rfl) ?_
  refine lv_iload_n hx hb dX1_insert_34 rfl (lv_at hl 3 rfl) ?_
  refine ps_iast (k := ps_cn (ps_ab g (ps_rk id)) n) hx hb hK hP hD hS 2 0 rfl rfl (by omega) (by decide) dX1_insert_35 (fun H locs hP hD hS => ?_)
  have hP : va_P (dC, dI) vwCl (ps_trW cI cZ q a n (va_up (va_up ((ps_mv g (ps_cn (ps_ab g (ps_rk id)) n) ((ps_cn (ps_ab g (ps_rk id)) n) + 1) (n - (ps_cn (ps_ab g (ps_rk id)) n)))) 0 (upd ((ps_mv g (ps_cn (ps_ab g (ps_rk id)) n) ((ps_cn (ps_ab g (ps_rk id)) n) + 1) (n - (ps_cn (ps_ab g (ps_rk id)) n))) 0) (ps_cn (ps_ab g (ps_rk id)) n) id)) 1 (upd ((ps_mv g (ps_cn (ps_ab g (ps_rk id)) n) ((ps_cn (ps_ab g (ps_rk id)) n) + 1) (n - (ps_cn (ps_ab g (ps_rk id)) n))) 1) (ps_cn (ps_ab g (ps_rk id)) n) x))) H := hP
  have hD : va_D A (ps_trW cI cZ q a n (va_up (va_up ((ps_mv g (ps_cn (ps_ab g (ps_rk id)) n) ((ps_cn (ps_ab g (ps_rk id)) n) + 1) (n - (ps_cn (ps_ab g (ps_rk id)) n)))) 0 (upd ((ps_mv g (ps_cn (ps_ab g (ps_rk id)) n) ((ps_cn (ps_ab g (ps_rk id)) n) + 1) (n - (ps_cn (ps_ab g (ps_rk id)) n))) 0) (ps_cn (ps_ab g (ps_rk id)) n) id)) 1 (upd ((ps_mv g (ps_cn (ps_ab g (ps_rk id)) n) ((ps_cn (ps_ab g (ps_rk id)) n) + 1) (n - (ps_cn (ps_ab g (ps_rk id)) n))) 1) (ps_cn (ps_ab g (ps_rk id)) n) x))) := hD
  refine lv_aload_n hx hb dX1_insert_36 rfl (lv_at hl 1 rfl) ?_
  refine va_get (D := (dC, dI)) (ci := 1) (v := .ref (a 2)) (C := RX1) (T := TX1) (N := 9) hx hb hT inX1 hown hK hP 0 rfl rfl 2 (by decide) (hT _ tw_fl_X1_18) (fun _ h9 => h9) rfl dX1_insert_37 ?_
  refine lv_iload hx hb dX1_insert_40 (lv_at hl 0 rfl) ?_
  refine lv_iload_n hx hb dX1_insert_42 rfl (lv_at hl 4 rfl) ?_
  refine ps_iast (k := ps_cn (ps_ab g (ps_rk id)) n) hx hb hK hP hD hS 3 0 rfl rfl (by omega) (by decide) dX1_insert_43 (fun H locs hP hD hS => ?_)
  have hP : va_P (dC, dI) vwCl (ps_trW cI cZ q a n (va_up (va_up (va_up ((ps_mv g (ps_cn (ps_ab g (ps_rk id)) n) ((ps_cn (ps_ab g (ps_rk id)) n) + 1) (n - (ps_cn (ps_ab g (ps_rk id)) n)))) 0 (upd ((ps_mv g (ps_cn (ps_ab g (ps_rk id)) n) ((ps_cn (ps_ab g (ps_rk id)) n) + 1) (n - (ps_cn (ps_ab g (ps_rk id)) n))) 0) (ps_cn (ps_ab g (ps_rk id)) n) id)) 1 (upd ((ps_mv g (ps_cn (ps_ab g (ps_rk id)) n) ((ps_cn (ps_ab g (ps_rk id)) n) + 1) (n - (ps_cn (ps_ab g (ps_rk id)) n))) 1) (ps_cn (ps_ab g (ps_rk id)) n) x)) 2 (upd ((ps_mv g (ps_cn (ps_ab g (ps_rk id)) n) ((ps_cn (ps_ab g (ps_rk id)) n) + 1) (n - (ps_cn (ps_ab g (ps_rk id)) n))) 2) (ps_cn (ps_ab g (ps_rk id)) n) y))) H := hP
  have hD : va_D A (ps_trW cI cZ q a n (va_up (va_up (va_up ((ps_mv g (ps_cn (ps_ab g (ps_rk id)) n) ((ps_cn (ps_ab g (ps_rk id)) n) + 1) (n - (ps_cn (ps_ab g (ps_rk id)) n)))) 0 (upd ((ps_mv g (ps_cn (ps_ab g (ps_rk id)) n) ((ps_cn (ps_ab g (ps_rk id)) n) + 1) (n - (ps_cn (ps_ab g (ps_rk id)) n))) 0) (ps_cn (ps_ab g (ps_rk id)) n) id)) 1 (upd ((ps_mv g (ps_cn (ps_ab g (ps_rk id)) n) ((ps_cn (ps_ab g (ps_rk id)) n) + 1) (n - (ps_cn (ps_ab g (ps_rk id)) n))) 1) (ps_cn (ps_ab g (ps_rk id)) n) x)) 2 (upd ((ps_mv g (ps_cn (ps_ab g (ps_rk id)) n) ((ps_cn (ps_ab g (ps_rk id)) n) + 1) (n - (ps_cn (ps_ab g (ps_rk id)) n))) 2) (ps_cn (ps_ab g (ps_rk id)) n) y))) := hD
  refine lv_aload_n hx hb dX1_insert_44 rfl (lv_at hl 1 rfl) ?_
  refine va_get (D := (dC, dI)) (ci := 1) (v := .ref (a 3)) (C := RX1) (T := TX1) (N := 9) hx hb hT inX1 hown hK hP 0 rfl rfl 3 (by decide) (hT _ tw_fl_X1_21) (fun _ h9 => h9) rfl dX1_insert_45 ?_
  refine lv_iload hx hb dX1_insert_48 (lv_at hl 0 rfl) ?_
  refine lv_iload hx hb dX1_insert_50 (lv_at hl 5 rfl) ?_
  refine ps_iast (k := ps_cn (ps_ab g (ps_rk id)) n) hx hb hK hP hD hS 4 0 rfl rfl (by omega) (by decide) dX1_insert_52 (fun H locs hP hD hS => ?_)
  have hP : va_P (dC, dI) vwCl (ps_trW cI cZ q a n (va_up (va_up (va_up (va_up ((ps_mv g (ps_cn (ps_ab g (ps_rk id)) n) ((ps_cn (ps_ab g (ps_rk id)) n) + 1) (n - (ps_cn (ps_ab g (ps_rk id)) n)))) 0 (upd ((ps_mv g (ps_cn (ps_ab g (ps_rk id)) n) ((ps_cn (ps_ab g (ps_rk id)) n) + 1) (n - (ps_cn (ps_ab g (ps_rk id)) n))) 0) (ps_cn (ps_ab g (ps_rk id)) n) id)) 1 (upd ((ps_mv g (ps_cn (ps_ab g (ps_rk id)) n) ((ps_cn (ps_ab g (ps_rk id)) n) + 1) (n - (ps_cn (ps_ab g (ps_rk id)) n))) 1) (ps_cn (ps_ab g (ps_rk id)) n) x)) 2 (upd ((ps_mv g (ps_cn (ps_ab g (ps_rk id)) n) ((ps_cn (ps_ab g (ps_rk id)) n) + 1) (n - (ps_cn (ps_ab g (ps_rk id)) n))) 2) (ps_cn (ps_ab g (ps_rk id)) n) y)) 3 (upd ((ps_mv g (ps_cn (ps_ab g (ps_rk id)) n) ((ps_cn (ps_ab g (ps_rk id)) n) + 1) (n - (ps_cn (ps_ab g (ps_rk id)) n))) 3) (ps_cn (ps_ab g (ps_rk id)) n) z))) H := hP
  have hD : va_D A (ps_trW cI cZ q a n (va_up (va_up (va_up (va_up ((ps_mv g (ps_cn (ps_ab g (ps_rk id)) n) ((ps_cn (ps_ab g (ps_rk id)) n) + 1) (n - (ps_cn (ps_ab g (ps_rk id)) n)))) 0 (upd ((ps_mv g (ps_cn (ps_ab g (ps_rk id)) n) ((ps_cn (ps_ab g (ps_rk id)) n) + 1) (n - (ps_cn (ps_ab g (ps_rk id)) n))) 0) (ps_cn (ps_ab g (ps_rk id)) n) id)) 1 (upd ((ps_mv g (ps_cn (ps_ab g (ps_rk id)) n) ((ps_cn (ps_ab g (ps_rk id)) n) + 1) (n - (ps_cn (ps_ab g (ps_rk id)) n))) 1) (ps_cn (ps_ab g (ps_rk id)) n) x)) 2 (upd ((ps_mv g (ps_cn (ps_ab g (ps_rk id)) n) ((ps_cn (ps_ab g (ps_rk id)) n) + 1) (n - (ps_cn (ps_ab g (ps_rk id)) n))) 2) (ps_cn (ps_ab g (ps_rk id)) n) y)) 3 (upd ((ps_mv g (ps_cn (ps_ab g (ps_rk id)) n) ((ps_cn (ps_ab g (ps_rk id)) n) + 1) (n - (ps_cn (ps_ab g (ps_rk id)) n))) 3) (ps_cn (ps_ab g (ps_rk id)) n) z))) := hD
  refine lv_aload_n hx hb dX1_insert_53 rfl (lv_at hl 1 rfl) ?_
  refine va_get (D := (dC, dI)) (ci := 1) (v := .ref (a 4)) (C := RX1) (T := TX1) (N := 9) hx hb hT inX1 hown hK hP 0 rfl rfl 4 (by decide) (hT _ tw_fl_X1_24) (fun _ h9 => h9) rfl dX1_insert_54 ?_
  refine lv_iload hx hb dX1_insert_57 (lv_at hl 0 rfl) ?_
  refine lv_iload hx hb dX1_insert_59 (lv_at hl 6 rfl) ?_
  refine ps_iast (k := ps_cn (ps_ab g (ps_rk id)) n) hx hb hK hP hD hS 5 0 rfl rfl (by omega) (by decide) dX1_insert_61 (fun H locs hP hD hS => ?_)
  have hP : va_P (dC, dI) vwCl (ps_trW cI cZ q a n (va_up (va_up (va_up (va_up (va_up ((ps_mv g (ps_cn (ps_ab g (ps_rk id)) n) ((ps_cn (ps_ab g (ps_rk id)) n) + 1) (n - (ps_cn (ps_ab g (ps_rk id)) n)))) 0 (upd ((ps_mv g (ps_cn (ps_ab g (ps_rk id)) n) ((ps_cn (ps_ab g (ps_rk id)) n) + 1) (n - (ps_cn (ps_ab g (ps_rk id)) n))) 0) (ps_cn (ps_ab g (ps_rk id)) n) id)) 1 (upd ((ps_mv g (ps_cn (ps_ab g (ps_rk id)) n) ((ps_cn (ps_ab g (ps_rk id)) n) + 1) (n - (ps_cn (ps_ab g (ps_rk id)) n))) 1) (ps_cn (ps_ab g (ps_rk id)) n) x)) 2 (upd ((ps_mv g (ps_cn (ps_ab g (ps_rk id)) n) ((ps_cn (ps_ab g (ps_rk id)) n) + 1) (n - (ps_cn (ps_ab g (ps_rk id)) n))) 2) (ps_cn (ps_ab g (ps_rk id)) n) y)) 3 (upd ((ps_mv g (ps_cn (ps_ab g (ps_rk id)) n) ((ps_cn (ps_ab g (ps_rk id)) n) + 1) (n - (ps_cn (ps_ab g (ps_rk id)) n))) 3) (ps_cn (ps_ab g (ps_rk id)) n) z)) 4 (upd ((ps_mv g (ps_cn (ps_ab g (ps_rk id)) n) ((ps_cn (ps_ab g (ps_rk id)) n) + 1) (n - (ps_cn (ps_ab g (ps_rk id)) n))) 4) (ps_cn (ps_ab g (ps_rk id)) n) v))) H := hP
  have hD : va_D A (ps_trW cI cZ q a n (va_up (va_up (va_up (va_up (va_up ((ps_mv g (ps_cn (ps_ab g (ps_rk id)) n) ((ps_cn (ps_ab g (ps_rk id)) n) + 1) (n - (ps_cn (ps_ab g (ps_rk id)) n)))) 0 (upd ((ps_mv g (ps_cn (ps_ab g (ps_rk id)) n) ((ps_cn (ps_ab g (ps_rk id)) n) + 1) (n - (ps_cn (ps_ab g (ps_rk id)) n))) 0) (ps_cn (ps_ab g (ps_rk id)) n) id)) 1 (upd ((ps_mv g (ps_cn (ps_ab g (ps_rk id)) n) ((ps_cn (ps_ab g (ps_rk id)) n) + 1) (n - (ps_cn (ps_ab g (ps_rk id)) n))) 1) (ps_cn (ps_ab g (ps_rk id)) n) x)) 2 (upd ((ps_mv g (ps_cn (ps_ab g (ps_rk id)) n) ((ps_cn (ps_ab g (ps_rk id)) n) + 1) (n - (ps_cn (ps_ab g (ps_rk id)) n))) 2) (ps_cn (ps_ab g (ps_rk id)) n) y)) 3 (upd ((ps_mv g (ps_cn (ps_ab g (ps_rk id)) n) ((ps_cn (ps_ab g (ps_rk id)) n) + 1) (n - (ps_cn (ps_ab g (ps_rk id)) n))) 3) (ps_cn (ps_ab g (ps_rk id)) n) z)) 4 (upd ((ps_mv g (ps_cn (ps_ab g (ps_rk id)) n) ((ps_cn (ps_ab g (ps_rk id)) n) + 1) (n - (ps_cn (ps_ab g (ps_rk id)) n))) 4) (ps_cn (ps_ab g (ps_rk id)) n) v))) := hD
  refine lv_aload_n hx hb dX1_insert_62 rfl (lv_at hl 1 rfl) ?_
  refine lv_dup hx hb dX1_insert_63 rfl ?_
  refine va_get (D := (dC, dI)) (ci := 1) (v := .int (nI n)) (C := RX1) (T := TX1) (N := 9) hx hb hT inX1 hown hK hP 0 rfl rfl 8 (by decide) (hT _ tw_fl_X1_37) (fun _ h9 => h9) rfl dX1_insert_64 ?_
  refine lv_iconst (v := 1) hx hb dX1_insert_67 (by decide) ?_
  refine lv_iadd hx hb dX1_insert_68 ?_
  rw [nI_1]
  refine va_put (D := (dC, dI)) (ci := 1) (v := .int (nI (n + 1))) (ty := .int) (C := RX1) (T := TX1) (N := 9) hx hb hT inX1 tyX1 tyX1_ok nmX1 hown hK hP hD hS 0 rfl rfl 8 (by decide) (hT _ tw_fl_X1_37) (fun _ h9 => h9) rfl (by decide +kernel) rfl rfl (Nat.le_of_ble_eq_true rfl) dX1_insert_69 (fun H locs hP hD hS => ?_)
  have hP : va_P (dC, dI) vwCl (ps_trW cI cZ q a (n + 1) (va_up (va_up (va_up (va_up (va_up ((ps_mv g (ps_cn (ps_ab g (ps_rk id)) n) ((ps_cn (ps_ab g (ps_rk id)) n) + 1) (n - (ps_cn (ps_ab g (ps_rk id)) n)))) 0 (upd ((ps_mv g (ps_cn (ps_ab g (ps_rk id)) n) ((ps_cn (ps_ab g (ps_rk id)) n) + 1) (n - (ps_cn (ps_ab g (ps_rk id)) n))) 0) (ps_cn (ps_ab g (ps_rk id)) n) id)) 1 (upd ((ps_mv g (ps_cn (ps_ab g (ps_rk id)) n) ((ps_cn (ps_ab g (ps_rk id)) n) + 1) (n - (ps_cn (ps_ab g (ps_rk id)) n))) 1) (ps_cn (ps_ab g (ps_rk id)) n) x)) 2 (upd ((ps_mv g (ps_cn (ps_ab g (ps_rk id)) n) ((ps_cn (ps_ab g (ps_rk id)) n) + 1) (n - (ps_cn (ps_ab g (ps_rk id)) n))) 2) (ps_cn (ps_ab g (ps_rk id)) n) y)) 3 (upd ((ps_mv g (ps_cn (ps_ab g (ps_rk id)) n) ((ps_cn (ps_ab g (ps_rk id)) n) + 1) (n - (ps_cn (ps_ab g (ps_rk id)) n))) 3) (ps_cn (ps_ab g (ps_rk id)) n) z)) 4 (upd ((ps_mv g (ps_cn (ps_ab g (ps_rk id)) n) ((ps_cn (ps_ab g (ps_rk id)) n) + 1) (n - (ps_cn (ps_ab g (ps_rk id)) n))) 4) (ps_cn (ps_ab g (ps_rk id)) n) v))) H := hP
  have hD : va_D A (ps_trW cI cZ q a (n + 1) (va_up (va_up (va_up (va_up (va_up ((ps_mv g (ps_cn (ps_ab g (ps_rk id)) n) ((ps_cn (ps_ab g (ps_rk id)) n) + 1) (n - (ps_cn (ps_ab g (ps_rk id)) n)))) 0 (upd ((ps_mv g (ps_cn (ps_ab g (ps_rk id)) n) ((ps_cn (ps_ab g (ps_rk id)) n) + 1) (n - (ps_cn (ps_ab g (ps_rk id)) n))) 0) (ps_cn (ps_ab g (ps_rk id)) n) id)) 1 (upd ((ps_mv g (ps_cn (ps_ab g (ps_rk id)) n) ((ps_cn (ps_ab g (ps_rk id)) n) + 1) (n - (ps_cn (ps_ab g (ps_rk id)) n))) 1) (ps_cn (ps_ab g (ps_rk id)) n) x)) 2 (upd ((ps_mv g (ps_cn (ps_ab g (ps_rk id)) n) ((ps_cn (ps_ab g (ps_rk id)) n) + 1) (n - (ps_cn (ps_ab g (ps_rk id)) n))) 2) (ps_cn (ps_ab g (ps_rk id)) n) y)) 3 (upd ((ps_mv g (ps_cn (ps_ab g (ps_rk id)) n) ((ps_cn (ps_ab g (ps_rk id)) n) + 1) (n - (ps_cn (ps_ab g (ps_rk id)) n))) 3) (ps_cn (ps_ab g (ps_rk id)) n) z)) 4 (upd ((ps_mv g (ps_cn (ps_ab g (ps_rk id)) n) ((ps_cn (ps_ab g (ps_rk id)) n) + 1) (n - (ps_cn (ps_ab g (ps_rk id)) n))) 4) (ps_cn (ps_ab g (ps_rk id)) n) v))) := hD
  refine lv_aload_n hx hb dX1_insert_72 rfl (lv_at hl 1 rfl) ?_
  refine lv_iload hx hb dX1_insert_73 (lv_at hl 0 rfl) ?_
  refine ps_cqv (wc := ps_trW cI cZ q a (n + 1) (va_up (va_up (va_up (va_up (va_up ((ps_mv g (ps_cn (ps_ab g (ps_rk id)) n) ((ps_cn (ps_ab g (ps_rk id)) n) + 1) (n - (ps_cn (ps_ab g (ps_rk id)) n)))) 0 (upd ((ps_mv g (ps_cn (ps_ab g (ps_rk id)) n) ((ps_cn (ps_ab g (ps_rk id)) n) + 1) (n - (ps_cn (ps_ab g (ps_rk id)) n))) 0) (ps_cn (ps_ab g (ps_rk id)) n) id)) 1 (upd ((ps_mv g (ps_cn (ps_ab g (ps_rk id)) n) ((ps_cn (ps_ab g (ps_rk id)) n) + 1) (n - (ps_cn (ps_ab g (ps_rk id)) n))) 1) (ps_cn (ps_ab g (ps_rk id)) n) x)) 2 (upd ((ps_mv g (ps_cn (ps_ab g (ps_rk id)) n) ((ps_cn (ps_ab g (ps_rk id)) n) + 1) (n - (ps_cn (ps_ab g (ps_rk id)) n))) 2) (ps_cn (ps_ab g (ps_rk id)) n) y)) 3 (upd ((ps_mv g (ps_cn (ps_ab g (ps_rk id)) n) ((ps_cn (ps_ab g (ps_rk id)) n) + 1) (n - (ps_cn (ps_ab g (ps_rk id)) n))) 3) (ps_cn (ps_ab g (ps_rk id)) n) z)) 4 (upd ((ps_mv g (ps_cn (ps_ab g (ps_rk id)) n) ((ps_cn (ps_ab g (ps_rk id)) n) + 1) (n - (ps_cn (ps_ab g (ps_rk id)) n))) 4) (ps_cn (ps_ab g (ps_rk id)) n) v))) (wr := []) (w1 := ps_trW cI cZ q a (n + 1) ((ps_sF (va_up (va_up (va_up (va_up (va_up ((ps_mv g (ps_cn (ps_ab g (ps_rk id)) n) ((ps_cn (ps_ab g (ps_rk id)) n) + 1) (n - (ps_cn (ps_ab g (ps_rk id)) n)))) 0 (upd ((ps_mv g (ps_cn (ps_ab g (ps_rk id)) n) ((ps_cn (ps_ab g (ps_rk id)) n) + 1) (n - (ps_cn (ps_ab g (ps_rk id)) n))) 0) (ps_cn (ps_ab g (ps_rk id)) n) id)) 1 (upd ((ps_mv g (ps_cn (ps_ab g (ps_rk id)) n) ((ps_cn (ps_ab g (ps_rk id)) n) + 1) (n - (ps_cn (ps_ab g (ps_rk id)) n))) 1) (ps_cn (ps_ab g (ps_rk id)) n) x)) 2 (upd ((ps_mv g (ps_cn (ps_ab g (ps_rk id)) n) ((ps_cn (ps_ab g (ps_rk id)) n) + 1) (n - (ps_cn (ps_ab g (ps_rk id)) n))) 2) (ps_cn (ps_ab g (ps_rk id)) n) y)) 3 (upd ((ps_mv g (ps_cn (ps_ab g (ps_rk id)) n) ((ps_cn (ps_ab g (ps_rk id)) n) + 1) (n - (ps_cn (ps_ab g (ps_rk id)) n))) 3) (ps_cn (ps_ab g (ps_rk id)) n) z)) 4 (upd ((ps_mv g (ps_cn (ps_ab g (ps_rk id)) n) ((ps_cn (ps_ab g (ps_rk id)) n) + 1) (n - (ps_cn (ps_ab g (ps_rk id)) n))) 4) (ps_cn (ps_ab g (ps_rk id)) n) v)) (ps_cn (ps_ab g (ps_rk id)) n) ((n + 1) - (ps_cn (ps_ab g (ps_rk id)) n))))) (ws2 := ps_trW cI cZ q a (n + 1) ((ps_sF (va_up (va_up (va_up (va_up (va_up ((ps_mv g (ps_cn (ps_ab g (ps_rk id)) n) ((ps_cn (ps_ab g (ps_rk id)) n) + 1) (n - (ps_cn (ps_ab g (ps_rk id)) n)))) 0 (upd ((ps_mv g (ps_cn (ps_ab g (ps_rk id)) n) ((ps_cn (ps_ab g (ps_rk id)) n) + 1) (n - (ps_cn (ps_ab g (ps_rk id)) n))) 0) (ps_cn (ps_ab g (ps_rk id)) n) id)) 1 (upd ((ps_mv g (ps_cn (ps_ab g (ps_rk id)) n) ((ps_cn (ps_ab g (ps_rk id)) n) + 1) (n - (ps_cn (ps_ab g (ps_rk id)) n))) 1) (ps_cn (ps_ab g (ps_rk id)) n) x)) 2 (upd ((ps_mv g (ps_cn (ps_ab g (ps_rk id)) n) ((ps_cn (ps_ab g (ps_rk id)) n) + 1) (n - (ps_cn (ps_ab g (ps_rk id)) n))) 2) (ps_cn (ps_ab g (ps_rk id)) n) y)) 3 (upd ((ps_mv g (ps_cn (ps_ab g (ps_rk id)) n) ((ps_cn (ps_ab g (ps_rk id)) n) + 1) (n - (ps_cn (ps_ab g (ps_rk id)) n))) 3) (ps_cn (ps_ab g (ps_rk id)) n) z)) 4 (upd ((ps_mv g (ps_cn (ps_ab g (ps_rk id)) n) ((ps_cn (ps_ab g (ps_rk id)) n) + 1) (n - (ps_cn (ps_ab g (ps_rk id)) n))) 4) (ps_cn (ps_ab g (ps_rk id)) n) v)) (ps_cn (ps_ab g (ps_rk id)) n) ((n + 1) - (ps_cn (ps_ab g (ps_rk id)) n))))) (va_runV (C := RX1) (As := [.int (nI (ps_cn (ps_ab g (ps_rk id)) n))]) (rest := []) ⟨hx, hb, hml, hown, hT⟩ (mX1_settleFrom l dC dI cI cZ q a (n + 1) (va_up (va_up (va_up (va_up (va_up ((ps_mv g (ps_cn (ps_ab g (ps_rk id)) n) ((ps_cn (ps_ab g (ps_rk id)) n) + 1) (n - (ps_cn (ps_ab g (ps_rk id)) n)))) 0 (upd ((ps_mv g (ps_cn (ps_ab g (ps_rk id)) n) ((ps_cn (ps_ab g (ps_rk id)) n) + 1) (n - (ps_cn (ps_ab g (ps_rk id)) n))) 0) (ps_cn (ps_ab g (ps_rk id)) n) id)) 1 (upd ((ps_mv g (ps_cn (ps_ab g (ps_rk id)) n) ((ps_cn (ps_ab g (ps_rk id)) n) + 1) (n - (ps_cn (ps_ab g (ps_rk id)) n))) 1) (ps_cn (ps_ab g (ps_rk id)) n) x)) 2 (upd ((ps_mv g (ps_cn (ps_ab g (ps_rk id)) n) ((ps_cn (ps_ab g (ps_rk id)) n) + 1) (n - (ps_cn (ps_ab g (ps_rk id)) n))) 2) (ps_cn (ps_ab g (ps_rk id)) n) y)) 3 (upd ((ps_mv g (ps_cn (ps_ab g (ps_rk id)) n) ((ps_cn (ps_ab g (ps_rk id)) n) + 1) (n - (ps_cn (ps_ab g (ps_rk id)) n))) 3) (ps_cn (ps_ab g (ps_rk id)) n) z)) 4 (upd ((ps_mv g (ps_cn (ps_ab g (ps_rk id)) n) ((ps_cn (ps_ab g (ps_rk id)) n) + 1) (n - (ps_cn (ps_ab g (ps_rk id)) n))) 4) (ps_cn (ps_ab g (ps_rk id)) n) v)) (by omega) (ps_cn (ps_ab g (ps_rk id)) n) (by omega) _) (cwV 1 hT (ps_gV tw_ml_X1_57 tw_im_X1_settleFrom tw_se_X1_settleFrom tw_in_X1 tw_co_X1_settleFrom) rfl rfl rfl ⟨rfl, by decide, by decide, by decide +kernel⟩ ⟨Nat.le_of_ble_eq_true rfl, Nat.le_of_ble_eq_true rfl⟩) (ps_qreV (wc := ps_trW cI cZ q a (n + 1) (va_up (va_up (va_up (va_up (va_up ((ps_mv g (ps_cn (ps_ab g (ps_rk id)) n) ((ps_cn (ps_ab g (ps_rk id)) n) + 1) (n - (ps_cn (ps_ab g (ps_rk id)) n)))) 0 (upd ((ps_mv g (ps_cn (ps_ab g (ps_rk id)) n) ((ps_cn (ps_ab g (ps_rk id)) n) + 1) (n - (ps_cn (ps_ab g (ps_rk id)) n))) 0) (ps_cn (ps_ab g (ps_rk id)) n) id)) 1 (upd ((ps_mv g (ps_cn (ps_ab g (ps_rk id)) n) ((ps_cn (ps_ab g (ps_rk id)) n) + 1) (n - (ps_cn (ps_ab g (ps_rk id)) n))) 1) (ps_cn (ps_ab g (ps_rk id)) n) x)) 2 (upd ((ps_mv g (ps_cn (ps_ab g (ps_rk id)) n) ((ps_cn (ps_ab g (ps_rk id)) n) + 1) (n - (ps_cn (ps_ab g (ps_rk id)) n))) 2) (ps_cn (ps_ab g (ps_rk id)) n) y)) 3 (upd ((ps_mv g (ps_cn (ps_ab g (ps_rk id)) n) ((ps_cn (ps_ab g (ps_rk id)) n) + 1) (n - (ps_cn (ps_ab g (ps_rk id)) n))) 3) (ps_cn (ps_ab g (ps_rk id)) n) z)) 4 (upd ((ps_mv g (ps_cn (ps_ab g (ps_rk id)) n) ((ps_cn (ps_ab g (ps_rk id)) n) + 1) (n - (ps_cn (ps_ab g (ps_rk id)) n))) 4) (ps_cn (ps_ab g (ps_rk id)) n) v))) (ci := 1) [0, 1, 2, 3, 4, 5, 6, 7, 8] hN hP hK hD rfl rfl rfl rfl rfl) rfl rfl hl.1 rfl (lv_room (Nat.le_of_ble_eq_true rfl)) dX1_insert_75 ⟨Nat.le_of_ble_eq_true rfl, Nat.le_of_ble_eq_true rfl⟩) hS hA hP hD [0, 1, 2, 3, 4, 5, 6, 7, 8] [] [0, 1, 2, 3, 4, 5, 6, 7, 8] rfl rfl rfl (by decide) rfl rfl rfl (fun H locs hP hD hS => ?_)
  refine lv_iload hx hb dX1_insert_78 (lv_at hl 0 rfl) ?_
  exact W.iret (v := nI (ps_cn (ps_ab g (ps_rk id)) n)) hx hb hr (fun t ht hW => ⟨⟨nI (ps_cn (ps_ab g (ps_rk id)) n), (), rfl, rfl, by rw [ht]; exact hP, va_K.moved hW.alike hK, hD⟩, hS.F ht⟩) hS.2.2 dX1_insert_80
set_option maxHeartbeats 4000000 in
set_option maxRecDepth 100000 in
theorem mX1_delete (l : Launch) (dC : Nat → ClassId) (dI : Nat → Nat → Nat) (cI cZ : ClassId) (q : Nat) (a : Nat → Nat) (n : Nat) (g : ps_G) (hn : n ≤ 48) (k : Nat) (hk : k < n) (sz : Nat) : Met l yX1_delete (.code yX1_delete cX1_delete 2 none :: ps_T) ({ frames := 5, cells := 0, slots := 0, locals := 118 }) (ps_qc (dC, dI) (ps_ty cI cZ) (ps_trW cI cZ q a n g) sz [.ref q, .int (nI k)]) (va_Qv (fun _ : Unit => True) (ps_qB (dC, dI) (ps_ty cI cZ) (va_A (ps_trW cI cZ q a n g) sz) (ps_trW cI cZ q a ((n - 1)) ((ps_dg g n k)))) (va_A (ps_trW cI cZ q a n g) sz)) 0 0 (va_A (ps_trW cI cZ q a n g) sz) := by
  refine Met.ofW (cc := cX1_delete) (maxL := 2) (ret := none) (by decide) rfl ?_
  intro p e s m args below meth c s₁ B hml hv
  obtain ⟨rfl, hsz, hN, hP, hK, hD0⟩ := hv
  have hx := B.exec
  have hb := B.bytes
  have hr := B.returns
  have hlocks := B.notSynchronized
  have hT : ∀ w ∈ ps_T, w.before ([.ref q, .int (nI k)] : List Value).toArray s = true := fun w h => atoms_spec (ws := (.code yX1_delete cX1_delete 2 none :: ps_T)) B.pre w (List.mem_cons_of_mem _ h)
  have hown : s.vm.findClass RX1 = some m.cls := findClass_of_methodNamed B.named
  subst hsz
  have hD := hD0.self (sz := s.heap.size)
  generalize hAe : va_A (ps_trW cI cZ q a n g) s.heap.size = A at hD ⊢
  have hA : ∀ q : Nat, s.heap.size ≤ q → A q := fun q h => by rw [← hAe]; exact Or.inr h
  have hS : va_S A s.heap s.heap [] := va_S.rf
  have hl := lv_entry ([.ref q, .int (nI k)]) (n := 2) (Nat.le_of_ble_eq_true rfl)
  rw [lg_entry_eq]
  generalize (lg_sl ([.ref q, .int (nI k)]) ++ List.replicate (2 - (lg_sl ([.ref q, .int (nI k)])).length) Slot.unset).toArray = ls at hl ⊢
  have hl : lv_has ls 2 [(0, .ref q), (1, .int (nI k))] := hl
  refine lv_aload_n hx hb dX1_delete_0 rfl (lv_at hl 0 rfl) ?_
  refine lv_iload_n hx hb dX1_delete_1 rfl (lv_at hl 1 rfl) ?_
  refine lv_iconst (v := 1) hx hb dX1_delete_2 (by decide) ?_
  refine lv_iadd hx hb dX1_delete_3 ?_
  rw [nI_1]
  refine lv_iload_n hx hb dX1_delete_4 rfl (lv_at hl 1 rfl) ?_
  refine ps_cqv (wc := ps_trW cI cZ q a n g) (wr := []) (w1 := ps_trW cI cZ q a n ((ps_mv g (k + 1) k (n - (k + 1))))) (ws2 := ps_trW cI cZ q a n ((ps_mv g (k + 1) k (n - (k + 1))))) (va_runV (C := RX1) (As := [.int (nI (k + 1)), .int (nI k)]) (rest := []) ⟨hx, hb, hml, hown, hT⟩ (mX1_moveTail l dC dI cI cZ q a n g (k + 1) k (by omega) (by omega) (by omega) _) (cwV 2 hT (ps_gV tw_ml_X1_53 tw_im_X1_moveTail tw_se_X1_moveTail tw_in_X1 tw_co_X1_moveTail) rfl rfl rfl ⟨rfl, by decide, by decide, by decide +kernel⟩ ⟨Nat.le_of_ble_eq_true rfl, Nat.le_of_ble_eq_true rfl⟩) (ps_qreV (wc := ps_trW cI cZ q a n g) (ci := 1) [0, 1, 2, 3, 4, 5, 6, 7, 8] hN hP hK hD rfl rfl rfl rfl rfl) rfl rfl hl.1 rfl (lv_room (Nat.le_of_ble_eq_true rfl)) dX1_delete_5 ⟨Nat.le_of_ble_eq_true rfl, Nat.le_of_ble_eq_true rfl⟩) hS hA hP hD [0, 1, 2, 3, 4, 5, 6, 7, 8] [] [0, 1, 2, 3, 4, 5, 6, 7, 8] rfl rfl rfl (by decide) rfl rfl rfl (fun H locs hP hD hS => ?_)
  refine lv_aload_n hx hb dX1_delete_8 rfl (lv_at hl 0 rfl) ?_
  refine lv_dup hx hb dX1_delete_9 rfl ?_
  refine va_get (D := (dC, dI)) (ci := 1) (v := .int (nI n)) (C := RX1) (T := TX1) (N := 9) hx hb hT inX1 hown hK hP 0 rfl rfl 8 (by decide) (hT _ tw_fl_X1_37) (fun _ h9 => h9) rfl dX1_delete_10 ?_
  refine lv_iconst (v := 1) hx hb dX1_delete_13 (by decide) ?_
  refine lv_isub hx hb dX1_delete_14 ?_
  rw [ps_dec (by omega)]
  refine va_put (D := (dC, dI)) (ci := 1) (v := .int (nI (n - 1))) (ty := .int) (C := RX1) (T := TX1) (N := 9) hx hb hT inX1 tyX1 tyX1_ok nmX1 hown hK hP hD hS 0 rfl rfl 8 (by decide) (hT _ tw_fl_X1_37) (fun _ h9 => h9) rfl (by decide +kernel) rfl rfl (Nat.le_of_ble_eq_true rfl) dX1_delete_15 (fun H locs hP hD hS => ?_)
  have hP : va_P (dC, dI) vwCl (ps_trW cI cZ q a (n - 1) ((ps_mv g (k + 1) k (n - (k + 1))))) H := hP
  have hD : va_D A (ps_trW cI cZ q a (n - 1) ((ps_mv g (k + 1) k (n - (k + 1))))) := hD
  refine lv_aload_n hx hb dX1_delete_18 rfl (lv_at hl 0 rfl) ?_
  refine lv_iload_n hx hb dX1_delete_19 rfl (lv_at hl 1 rfl) ?_
  refine ps_cqv (wc := ps_trW cI cZ q a (n - 1) ((ps_mv g (k + 1) k (n - (k + 1))))) (wr := []) (w1 := ps_trW cI cZ q a (n - 1) ((ps_sF ((ps_mv g (k + 1) k (n - (k + 1)))) k ((n - 1) - k)))) (ws2 := ps_trW cI cZ q a (n - 1) ((ps_sF ((ps_mv g (k + 1) k (n - (k + 1)))) k ((n - 1) - k)))) (va_runV (C := RX1) (As := [.int (nI k)]) (rest := []) ⟨hx, hb, hml, hown, hT⟩ (mX1_settleFrom l dC dI cI cZ q a (n - 1) ((ps_mv g (k + 1) k (n - (k + 1)))) (by omega) k (by omega) _) (cwV 1 hT (ps_gV tw_ml_X1_57 tw_im_X1_settleFrom tw_se_X1_settleFrom tw_in_X1 tw_co_X1_settleFrom) rfl rfl rfl ⟨rfl, by decide, by decide, by decide +kernel⟩ ⟨Nat.le_of_ble_eq_true rfl, Nat.le_of_ble_eq_true rfl⟩) (ps_qreV (wc := ps_trW cI cZ q a (n - 1) ((ps_mv g (k + 1) k (n - (k + 1))))) (ci := 1) [0, 1, 2, 3, 4, 5, 6, 7, 8] hN hP hK hD rfl rfl rfl rfl rfl) rfl rfl hl.1 rfl (lv_room (Nat.le_of_ble_eq_true rfl)) dX1_delete_20 ⟨Nat.le_of_ble_eq_true rfl, Nat.le_of_ble_eq_true rfl⟩) hS hA hP hD [0, 1, 2, 3, 4, 5, 6, 7, 8] [] [0, 1, 2, 3, 4, 5, 6, 7, 8] rfl rfl rfl (by decide) rfl rfl rfl (fun H locs hP hD hS => ?_)
  exact W.vret hx hb hr (fun t ht hW => ⟨⟨(), rfl, trivial, by rw [ht]; exact hP, va_K.moved hW.alike hK, hD⟩, hS.F ht⟩) hS.2.2 dX1_delete_23
set_option maxHeartbeats 4000000 in
set_option maxRecDepth 100000 in
theorem mX1_copyFrom (l : Launch) (dC : Nat → ClassId) (dI : Nat → Nat → Nat) (cI cZ : ClassId) (q : Nat) (a : Nat → Nat) (n : Nat) (g : ps_G) (q' : Nat) (a' : Nat → Nat) (n' : Nat) (g' : ps_G) (hn' : n' ≤ 48) (sz : Nat) : Met l yX1_copyFrom (.code yX1_copyFrom cX1_copyFrom 2 none :: ps_T) ({ frames := 1, cells := 0, slots := 0, locals := 40 }) (ps_qc (dC, dI) (ps_ty cI cZ) (ps_trW cI cZ q a n g ++ ps_trW cI cZ q' a' n' g') sz [.ref q, .ref q']) (va_Qv (fun _ : Unit => True) (ps_qB (dC, dI) (ps_ty cI cZ) (va_A (ps_trW cI cZ q a n g ++ ps_trW cI cZ q' a' n' g') sz) (ps_trW cI cZ q a n' ((ps_cp g g' n')) ++ ps_trW cI cZ q' a' n' g')) (va_A (ps_trW cI cZ q a n g ++ ps_trW cI cZ q' a' n' g') sz)) 0 0 (va_A (ps_trW cI cZ q a n g ++ ps_trW cI cZ q' a' n' g') sz) := by
  refine Met.ofW (cc := cX1_copyFrom) (maxL := 2) (ret := none) (by decide) rfl ?_
  intro p e s m args below meth c s₁ B hml hv
  obtain ⟨rfl, hsz, hN, hP, hK, hD0⟩ := hv
  have hx := B.exec
  have hb := B.bytes
  have hr := B.returns
  have hlocks := B.notSynchronized
  have hT : ∀ w ∈ ps_T, w.before ([.ref q, .ref q'] : List Value).toArray s = true := fun w h => atoms_spec (ws := (.code yX1_copyFrom cX1_copyFrom 2 none :: ps_T)) B.pre w (List.mem_cons_of_mem _ h)
  have hown : s.vm.findClass RX1 = some m.cls := findClass_of_methodNamed B.named
  subst hsz
  have hD := hD0.self (sz := s.heap.size)
  generalize hAe : va_A (ps_trW cI cZ q a n g ++ ps_trW cI cZ q' a' n' g') s.heap.size = A at hD ⊢
  have hA : ∀ q : Nat, s.heap.size ≤ q → A q := fun q h => by rw [← hAe]; exact Or.inr h
  have hS : va_S A s.heap s.heap [] := va_S.rf
  have hl := lv_entry ([.ref q, .ref q']) (n := 2) (Nat.le_of_ble_eq_true rfl)
  rw [lg_entry_eq]
  generalize (lg_sl ([.ref q, .ref q']) ++ List.replicate (2 - (lg_sl ([.ref q, .ref q'])).length) Slot.unset).toArray = ls at hl ⊢
  have hl : lv_has ls 2 [(0, .ref q), (1, .ref q')] := hl
  refine lv_aload_n hx hb dX1_copyFrom_0 rfl (lv_at hl 1 rfl) ?_
  refine va_get (D := (dC, dI)) (ci := 1) (v := .ref (a' 0)) (C := RX1) (T := TX1) (N := 9) hx hb hT inX1 hown hK hP 9 rfl rfl 0 (by decide) (hT _ tw_fl_X1_9) (fun _ h9 => h9) rfl dX1_copyFrom_1 ?_
  refine lv_iconst (v := 0) hx hb dX1_copyFrom_4 (by decide) ?_
  refine lv_aload_n hx hb dX1_copyFrom_5 rfl (lv_at hl 0 rfl) ?_
  refine va_get (D := (dC, dI)) (ci := 1) (v := .ref (a 0)) (C := RX1) (T := TX1) (N := 9) hx hb hT inX1 hown hK hP 0 rfl rfl 0 (by decide) (hT _ tw_fl_X1_9) (fun _ h9 => h9) rfl dX1_copyFrom_6 ?_
  refine lv_iconst (v := 0) hx hb dX1_copyFrom_9 (by decide) ?_
  refine lv_aload_n hx hb dX1_copyFrom_10 rfl (lv_at hl 1 rfl) ?_
  refine va_get (D := (dC, dI)) (ci := 1) (v := .int (nI n')) (C := RX1) (T := TX1) (N := 9) hx hb hT inX1 hown hK hP 9 rfl rfl 8 (by decide) (hT _ tw_fl_X1_37) (fun _ h9 => h9) rfl dX1_copyFrom_11 ?_
  refine ps_copy (sp := 0) (dp := 0) (n := n') hx hb (hml.trans hl.1.symm) hown hT tw_ml_X1_61 hK hP hD hS 10 1 0 rfl rfl rfl (by omega) (by omega) (by omega) (by omega) (by omega) (Nat.le_of_ble_eq_true rfl) (Nat.le_of_ble_eq_true rfl) dX1_copyFrom_14 (fun H locs hP hD hS => ?_)
  have hP : va_P (dC, dI) vwCl (ps_trW cI cZ q a n (va_up g 0 (va_cpy (g' 0) (g 0) 0 0 n')) ++ ps_trW cI cZ q' a' n' g') H := hP
  have hD : va_D A (ps_trW cI cZ q a n (va_up g 0 (va_cpy (g' 0) (g 0) 0 0 n')) ++ ps_trW cI cZ q' a' n' g') := hD
  refine lv_aload_n hx hb dX1_copyFrom_17 rfl (lv_at hl 1 rfl) ?_
  refine va_get (D := (dC, dI)) (ci := 1) (v := .ref (a' 1)) (C := RX1) (T := TX1) (N := 9) hx hb hT inX1 hown hK hP 9 rfl rfl 1 (by decide) (hT _ tw_fl_X1_15) (fun _ h9 => h9) rfl dX1_copyFrom_18 ?_
  refine lv_iconst (v := 0) hx hb dX1_copyFrom_21 (by decide) ?_
  refine lv_aload_n hx hb dX1_copyFrom_22 rfl (lv_at hl 0 rfl) ?_
  refine va_get (D := (dC, dI)) (ci := 1) (v := .ref (a 1)) (C := RX1) (T := TX1) (N := 9) hx hb hT inX1 hown hK hP 0 rfl rfl 1 (by decide) (hT _ tw_fl_X1_15) (fun _ h9 => h9) rfl dX1_copyFrom_23 ?_
  refine lv_iconst (v := 0) hx hb dX1_copyFrom_26 (by decide) ?_
  refine lv_aload_n hx hb dX1_copyFrom_27 rfl (lv_at hl 1 rfl) ?_
  refine va_get (D := (dC, dI)) (ci := 1) (v := .int (nI n')) (C := RX1) (T := TX1) (N := 9) hx hb hT inX1 hown hK hP 9 rfl rfl 8 (by decide) (hT _ tw_fl_X1_37) (fun _ h9 => h9) rfl dX1_copyFrom_28 ?_
  refine ps_copy (sp := 0) (dp := 0) (n := n') hx hb (hml.trans hl.1.symm) hown hT tw_ml_X1_61 hK hP hD hS 11 2 0 rfl rfl rfl (by omega) (by omega) (by omega) (by omega) (by omega) (Nat.le_of_ble_eq_true rfl) (Nat.le_of_ble_eq_true rfl) dX1_copyFrom_31 (fun H locs hP hD hS => ?_)
  have hP : va_P (dC, dI) vwCl (ps_trW cI cZ q a n (va_up (va_up g 0 (va_cpy (g' 0) (g 0) 0 0 n')) 1 (va_cpy (g' 1) (g 1) 0 0 n')) ++ ps_trW cI cZ q' a' n' g') H := hP
  have hD : va_D A (ps_trW cI cZ q a n (va_up (va_up g 0 (va_cpy (g' 0) (g 0) 0 0 n')) 1 (va_cpy (g' 1) (g 1) 0 0 n')) ++ ps_trW cI cZ q' a' n' g') := hD
  refine lv_aload_n hx hb dX1_copyFrom_34 rfl (lv_at hl 1 rfl) ?_
  refine va_get (D := (dC, dI)) (ci := 1) (v := .ref (a' 2)) (C := RX1) (T := TX1) (N := 9) hx hb hT inX1 hown hK hP 9 rfl rfl 2 (by decide) (hT _ tw_fl_X1_18) (fun _ h9 => h9) rfl dX1_copyFrom_35 ?_
  refine lv_iconst (v := 0) hx hb dX1_copyFrom_38 (by decide) ?_
  refine lv_aload_n hx hb dX1_copyFrom_39 rfl (lv_at hl 0 rfl) ?_
  refine va_get (D := (dC, dI)) (ci := 1) (v := .ref (a 2)) (C := RX1) (T := TX1) (N := 9) hx hb hT inX1 hown hK hP 0 rfl rfl 2 (by decide) (hT _ tw_fl_X1_18) (fun _ h9 => h9) rfl dX1_copyFrom_40 ?_
  refine lv_iconst (v := 0) hx hb dX1_copyFrom_43 (by decide) ?_
  refine lv_aload_n hx hb dX1_copyFrom_44 rfl (lv_at hl 1 rfl) ?_
  refine va_get (D := (dC, dI)) (ci := 1) (v := .int (nI n')) (C := RX1) (T := TX1) (N := 9) hx hb hT inX1 hown hK hP 9 rfl rfl 8 (by decide) (hT _ tw_fl_X1_37) (fun _ h9 => h9) rfl dX1_copyFrom_45 ?_
  refine ps_copy (sp := 0) (dp := 0) (n := n') hx hb (hml.trans hl.1.symm) hown hT tw_ml_X1_61 hK hP hD hS 12 3 0 rfl rfl rfl (by omega) (by omega) (by omega) (by omega) (by omega) (Nat.le_of_ble_eq_true rfl) (Nat.le_of_ble_eq_true rfl) dX1_copyFrom_48 (fun H locs hP hD hS => ?_)
  have hP : va_P (dC, dI) vwCl (ps_trW cI cZ q a n (va_up (va_up (va_up g 0 (va_cpy (g' 0) (g 0) 0 0 n')) 1 (va_cpy (g' 1) (g 1) 0 0 n')) 2 (va_cpy (g' 2) (g 2) 0 0 n')) ++ ps_trW cI cZ q' a' n' g') H := hP
  have hD : va_D A (ps_trW cI cZ q a n (va_up (va_up (va_up g 0 (va_cpy (g' 0) (g 0) 0 0 n')) 1 (va_cpy (g' 1) (g 1) 0 0 n')) 2 (va_cpy (g' 2) (g 2) 0 0 n')) ++ ps_trW cI cZ q' a' n' g') := hD
  refine lv_aload_n hx hb dX1_copyFrom_51 rfl (lv_at hl 1 rfl) ?_
  refine va_get (D := (dC, dI)) (ci := 1) (v := .ref (a' 3)) (C := RX1) (T := TX1) (N := 9) hx hb hT inX1 hown hK hP 9 rfl rfl 3 (by decide) (hT _ tw_fl_X1_21) (fun _ h9 => h9) rfl dX1_copyFrom_52 ?_
  refine lv_iconst (v := 0) hx hb dX1_copyFrom_55 (by decide) ?_
  refine lv_aload_n hx hb dX1_copyFrom_56 rfl (lv_at hl 0 rfl) ?_
  refine va_get (D := (dC, dI)) (ci := 1) (v := .ref (a 3)) (C := RX1) (T := TX1) (N := 9) hx hb hT inX1 hown hK hP 0 rfl rfl 3 (by decide) (hT _ tw_fl_X1_21) (fun _ h9 => h9) rfl dX1_copyFrom_57 ?_
  refine lv_iconst (v := 0) hx hb dX1_copyFrom_60 (by decide) ?_
  refine lv_aload_n hx hb dX1_copyFrom_61 rfl (lv_at hl 1 rfl) ?_
  refine va_get (D := (dC, dI)) (ci := 1) (v := .int (nI n')) (C := RX1) (T := TX1) (N := 9) hx hb hT inX1 hown hK hP 9 rfl rfl 8 (by decide) (hT _ tw_fl_X1_37) (fun _ h9 => h9) rfl dX1_copyFrom_62 ?_
  refine ps_copy (sp := 0) (dp := 0) (n := n') hx hb (hml.trans hl.1.symm) hown hT tw_ml_X1_61 hK hP hD hS 13 4 0 rfl rfl rfl (by omega) (by omega) (by omega) (by omega) (by omega) (Nat.le_of_ble_eq_true rfl) (Nat.le_of_ble_eq_true rfl) dX1_copyFrom_65 (fun H locs hP hD hS => ?_)
  have hP : va_P (dC, dI) vwCl (ps_trW cI cZ q a n (va_up (va_up (va_up (va_up g 0 (va_cpy (g' 0) (g 0) 0 0 n')) 1 (va_cpy (g' 1) (g 1) 0 0 n')) 2 (va_cpy (g' 2) (g 2) 0 0 n')) 3 (va_cpy (g' 3) (g 3) 0 0 n')) ++ ps_trW cI cZ q' a' n' g') H := hP
  have hD : va_D A (ps_trW cI cZ q a n (va_up (va_up (va_up (va_up g 0 (va_cpy (g' 0) (g 0) 0 0 n')) 1 (va_cpy (g' 1) (g 1) 0 0 n')) 2 (va_cpy (g' 2) (g 2) 0 0 n')) 3 (va_cpy (g' 3) (g 3) 0 0 n')) ++ ps_trW cI cZ q' a' n' g') := hD
  refine lv_aload_n hx hb dX1_copyFrom_68 rfl (lv_at hl 1 rfl) ?_
  refine va_get (D := (dC, dI)) (ci := 1) (v := .ref (a' 4)) (C := RX1) (T := TX1) (N := 9) hx hb hT inX1 hown hK hP 9 rfl rfl 4 (by decide) (hT _ tw_fl_X1_24) (fun _ h9 => h9) rfl dX1_copyFrom_69 ?_
  refine lv_iconst (v := 0) hx hb dX1_copyFrom_72 (by decide) ?_
  refine lv_aload_n hx hb dX1_copyFrom_73 rfl (lv_at hl 0 rfl) ?_
  refine va_get (D := (dC, dI)) (ci := 1) (v := .ref (a 4)) (C := RX1) (T := TX1) (N := 9) hx hb hT inX1 hown hK hP 0 rfl rfl 4 (by decide) (hT _ tw_fl_X1_24) (fun _ h9 => h9) rfl dX1_copyFrom_74 ?_
  refine lv_iconst (v := 0) hx hb dX1_copyFrom_77 (by decide) ?_
  refine lv_aload_n hx hb dX1_copyFrom_78 rfl (lv_at hl 1 rfl) ?_
  refine va_get (D := (dC, dI)) (ci := 1) (v := .int (nI n')) (C := RX1) (T := TX1) (N := 9) hx hb hT inX1 hown hK hP 9 rfl rfl 8 (by decide) (hT _ tw_fl_X1_37) (fun _ h9 => h9) rfl dX1_copyFrom_79 ?_
  refine ps_copy (sp := 0) (dp := 0) (n := n') hx hb (hml.trans hl.1.symm) hown hT tw_ml_X1_61 hK hP hD hS 14 5 0 rfl rfl rfl (by omega) (by omega) (by omega) (by omega) (by omega) (Nat.le_of_ble_eq_true rfl) (Nat.le_of_ble_eq_true rfl) dX1_copyFrom_82 (fun H locs hP hD hS => ?_)
  have hP : va_P (dC, dI) vwCl (ps_trW cI cZ q a n (va_up (va_up (va_up (va_up (va_up g 0 (va_cpy (g' 0) (g 0) 0 0 n')) 1 (va_cpy (g' 1) (g 1) 0 0 n')) 2 (va_cpy (g' 2) (g 2) 0 0 n')) 3 (va_cpy (g' 3) (g 3) 0 0 n')) 4 (va_cpy (g' 4) (g 4) 0 0 n')) ++ ps_trW cI cZ q' a' n' g') H := hP
  have hD : va_D A (ps_trW cI cZ q a n (va_up (va_up (va_up (va_up (va_up g 0 (va_cpy (g' 0) (g 0) 0 0 n')) 1 (va_cpy (g' 1) (g 1) 0 0 n')) 2 (va_cpy (g' 2) (g 2) 0 0 n')) 3 (va_cpy (g' 3) (g 3) 0 0 n')) 4 (va_cpy (g' 4) (g 4) 0 0 n')) ++ ps_trW cI cZ q' a' n' g') := hD
  refine lv_aload_n hx hb dX1_copyFrom_85 rfl (lv_at hl 1 rfl) ?_
  refine va_get (D := (dC, dI)) (ci := 1) (v := .ref (a' 5)) (C := RX1) (T := TX1) (N := 9) hx hb hT inX1 hown hK hP 9 rfl rfl 5 (by decide) (hT _ tw_fl_X1_27) (fun _ h9 => h9) rfl dX1_copyFrom_86 ?_
  refine lv_iconst (v := 0) hx hb dX1_copyFrom_89 (by decide) ?_
  refine lv_aload_n hx hb dX1_copyFrom_90 rfl (lv_at hl 0 rfl) ?_
  refine va_get (D := (dC, dI)) (ci := 1) (v := .ref (a 5)) (C := RX1) (T := TX1) (N := 9) hx hb hT inX1 hown hK hP 0 rfl rfl 5 (by decide) (hT _ tw_fl_X1_27) (fun _ h9 => h9) rfl dX1_copyFrom_91 ?_
  refine lv_iconst (v := 0) hx hb dX1_copyFrom_94 (by decide) ?_
  refine lv_aload_n hx hb dX1_copyFrom_95 rfl (lv_at hl 1 rfl) ?_
  refine va_get (D := (dC, dI)) (ci := 1) (v := .int (nI n')) (C := RX1) (T := TX1) (N := 9) hx hb hT inX1 hown hK hP 9 rfl rfl 8 (by decide) (hT _ tw_fl_X1_37) (fun _ h9 => h9) rfl dX1_copyFrom_96 ?_
  refine ps_copy (sp := 0) (dp := 0) (n := n') hx hb (hml.trans hl.1.symm) hown hT tw_ml_X1_61 hK hP hD hS 15 6 0 rfl rfl rfl (by omega) (by omega) (by omega) (by omega) (by omega) (Nat.le_of_ble_eq_true rfl) (Nat.le_of_ble_eq_true rfl) dX1_copyFrom_99 (fun H locs hP hD hS => ?_)
  have hP : va_P (dC, dI) vwCl (ps_trW cI cZ q a n (va_up (va_up (va_up (va_up (va_up (va_up g 0 (va_cpy (g' 0) (g 0) 0 0 n')) 1 (va_cpy (g' 1) (g 1) 0 0 n')) 2 (va_cpy (g' 2) (g 2) 0 0 n')) 3 (va_cpy (g' 3) (g 3) 0 0 n')) 4 (va_cpy (g' 4) (g 4) 0 0 n')) 5 (va_cpy (g' 5) (g 5) 0 0 n')) ++ ps_trW cI cZ q' a' n' g') H := hP
  have hD : va_D A (ps_trW cI cZ q a n (va_up (va_up (va_up (va_up (va_up (va_up g 0 (va_cpy (g' 0) (g 0) 0 0 n')) 1 (va_cpy (g' 1) (g 1) 0 0 n')) 2 (va_cpy (g' 2) (g 2) 0 0 n')) 3 (va_cpy (g' 3) (g 3) 0 0 n')) 4 (va_cpy (g' 4) (g 4) 0 0 n')) 5 (va_cpy (g' 5) (g 5) 0 0 n')) ++ ps_trW cI cZ q' a' n' g') := hD
  refine lv_aload_n hx hb dX1_copyFrom_102 rfl (lv_at hl 1 rfl) ?_
  refine va_get (D := (dC, dI)) (ci := 1) (v := .ref (a' 6)) (C := RX1) (T := TX1) (N := 9) hx hb hT inX1 hown hK hP 9 rfl rfl 6 (by decide) (hT _ tw_fl_X1_30) (fun _ h9 => h9) rfl dX1_copyFrom_103 ?_
  refine lv_iconst (v := 0) hx hb dX1_copyFrom_106 (by decide) ?_
  refine lv_aload_n hx hb dX1_copyFrom_107 rfl (lv_at hl 0 rfl) ?_
  refine va_get (D := (dC, dI)) (ci := 1) (v := .ref (a 6)) (C := RX1) (T := TX1) (N := 9) hx hb hT inX1 hown hK hP 0 rfl rfl 6 (by decide) (hT _ tw_fl_X1_30) (fun _ h9 => h9) rfl dX1_copyFrom_108 ?_
  refine lv_iconst (v := 0) hx hb dX1_copyFrom_111 (by decide) ?_
  refine lv_aload_n hx hb dX1_copyFrom_112 rfl (lv_at hl 1 rfl) ?_
  refine va_get (D := (dC, dI)) (ci := 1) (v := .int (nI n')) (C := RX1) (T := TX1) (N := 9) hx hb hT inX1 hown hK hP 9 rfl rfl 8 (by decide) (hT _ tw_fl_X1_37) (fun _ h9 => h9) rfl dX1_copyFrom_113 ?_
  refine ps_copy (sp := 0) (dp := 0) (n := n') hx hb (hml.trans hl.1.symm) hown hT tw_ml_X1_61 hK hP hD hS 16 7 0 rfl rfl rfl (by omega) (by omega) (by omega) (by omega) (by omega) (Nat.le_of_ble_eq_true rfl) (Nat.le_of_ble_eq_true rfl) dX1_copyFrom_116 (fun H locs hP hD hS => ?_)
  have hP : va_P (dC, dI) vwCl (ps_trW cI cZ q a n (va_up (va_up (va_up (va_up (va_up (va_up (va_up g 0 (va_cpy (g' 0) (g 0) 0 0 n')) 1 (va_cpy (g' 1) (g 1) 0 0 n')) 2 (va_cpy (g' 2) (g 2) 0 0 n')) 3 (va_cpy (g' 3) (g 3) 0 0 n')) 4 (va_cpy (g' 4) (g 4) 0 0 n')) 5 (va_cpy (g' 5) (g 5) 0 0 n')) 6 (va_cpy (g' 6) (g 6) 0 0 n')) ++ ps_trW cI cZ q' a' n' g') H := hP
  have hD : va_D A (ps_trW cI cZ q a n (va_up (va_up (va_up (va_up (va_up (va_up (va_up g 0 (va_cpy (g' 0) (g 0) 0 0 n')) 1 (va_cpy (g' 1) (g 1) 0 0 n')) 2 (va_cpy (g' 2) (g 2) 0 0 n')) 3 (va_cpy (g' 3) (g 3) 0 0 n')) 4 (va_cpy (g' 4) (g 4) 0 0 n')) 5 (va_cpy (g' 5) (g 5) 0 0 n')) 6 (va_cpy (g' 6) (g 6) 0 0 n')) ++ ps_trW cI cZ q' a' n' g') := hD
  refine lv_aload_n hx hb dX1_copyFrom_119 rfl (lv_at hl 0 rfl) ?_
  refine lv_aload_n hx hb dX1_copyFrom_120 rfl (lv_at hl 1 rfl) ?_
  refine va_get (D := (dC, dI)) (ci := 1) (v := .int (nI n')) (C := RX1) (T := TX1) (N := 9) hx hb hT inX1 hown hK hP 9 rfl rfl 8 (by decide) (hT _ tw_fl_X1_37) (fun _ h9 => h9) rfl dX1_copyFrom_121 ?_
  refine va_put (D := (dC, dI)) (ci := 1) (v := .int (nI n')) (ty := .int) (C := RX1) (T := TX1) (N := 9) hx hb hT inX1 tyX1 tyX1_ok nmX1 hown hK hP hD hS 0 rfl rfl 8 (by decide) (hT _ tw_fl_X1_37) (fun _ h9 => h9) rfl (by decide +kernel) rfl rfl (Nat.le_of_ble_eq_true rfl) dX1_copyFrom_124 (fun H locs hP hD hS => ?_)
  have hP : va_P (dC, dI) vwCl (ps_trW cI cZ q a n' (va_up (va_up (va_up (va_up (va_up (va_up (va_up g 0 (va_cpy (g' 0) (g 0) 0 0 n')) 1 (va_cpy (g' 1) (g 1) 0 0 n')) 2 (va_cpy (g' 2) (g 2) 0 0 n')) 3 (va_cpy (g' 3) (g 3) 0 0 n')) 4 (va_cpy (g' 4) (g 4) 0 0 n')) 5 (va_cpy (g' 5) (g 5) 0 0 n')) 6 (va_cpy (g' 6) (g 6) 0 0 n')) ++ ps_trW cI cZ q' a' n' g') H := hP
  have hD : va_D A (ps_trW cI cZ q a n' (va_up (va_up (va_up (va_up (va_up (va_up (va_up g 0 (va_cpy (g' 0) (g 0) 0 0 n')) 1 (va_cpy (g' 1) (g 1) 0 0 n')) 2 (va_cpy (g' 2) (g 2) 0 0 n')) 3 (va_cpy (g' 3) (g 3) 0 0 n')) 4 (va_cpy (g' 4) (g 4) 0 0 n')) 5 (va_cpy (g' 5) (g 5) 0 0 n')) 6 (va_cpy (g' 6) (g 6) 0 0 n')) ++ ps_trW cI cZ q' a' n' g') := hD
  exact W.vret hx hb hr (fun t ht hW => ⟨⟨(), rfl, trivial, by rw [ht]; exact hP, va_K.moved hW.alike hK, hD⟩, hS.F ht⟩) hS.2.2 dX1_copyFrom_127
set_option maxHeartbeats 4000000 in
set_option maxRecDepth 100000 in
theorem mX1_markChanges (l : Launch) (dC : Nat → ClassId) (dI : Nat → Nat → Nat) (cI cZ : ClassId) (q : Nat) (a : Nat → Nat) (n : Nat) (g : ps_G) (q' : Nat) (a' : Nat → Nat) (n' : Nat) (g' : ps_G) (hn : n ≤ 48) (hn' : n' ≤ 48) (sz : Nat) : Met l yX1_markChanges (.code yX1_markChanges cX1_markChanges 4 (some .int) :: ps_T) ({ frames := 2, cells := 0, slots := 0, locals := 45 }) (ps_qc (dC, dI) (ps_ty cI cZ) (ps_trW cI cZ q a n g ++ ps_trW cI cZ q' a' n' g') sz [.ref q, .ref q']) (va_Qi (fun (r : Int32) (_ : Unit) => r = nI (ps_cn (fun k => !ps_al g' n' g k) n)) (ps_qB (dC, dI) (ps_ty cI cZ) (va_A (ps_trW cI cZ q a n g ++ ps_trW cI cZ q' a' n' g') sz) (ps_trW cI cZ q a n (va_up g 7 (ps_mk g n' g' n)) ++ ps_trW cI cZ q' a' n' g')) (va_A (ps_trW cI cZ q a n g ++ ps_trW cI cZ q' a' n' g') sz)) 0 0 (va_A (ps_trW cI cZ q a n g ++ ps_trW cI cZ q' a' n' g') sz) := by
  refine Met.ofW (cc := cX1_markChanges) (maxL := 4) (ret := (some .int)) (by decide) rfl ?_
  intro p e s m args below meth c s₁ B hml hv
  obtain ⟨rfl, hsz, hN, hP, hK, hD0⟩ := hv
  have hx := B.exec
  have hb := B.bytes
  have hr := B.returns
  have hlocks := B.notSynchronized
  have hT : ∀ w ∈ ps_T, w.before ([.ref q, .ref q'] : List Value).toArray s = true := fun w h => atoms_spec (ws := (.code yX1_markChanges cX1_markChanges 4 (some .int) :: ps_T)) B.pre w (List.mem_cons_of_mem _ h)
  have hown : s.vm.findClass RX1 = some m.cls := findClass_of_methodNamed B.named
  subst hsz
  have hD := hD0.self (sz := s.heap.size)
  generalize hAe : va_A (ps_trW cI cZ q a n g ++ ps_trW cI cZ q' a' n' g') s.heap.size = A at hD ⊢
  have hA : ∀ q : Nat, s.heap.size ≤ q → A q := fun q h => by rw [← hAe]; exact Or.inr h
  have hS : va_S A s.heap s.heap [] := va_S.rf
  have hl := lv_entry ([.ref q, .ref q']) (n := 4) (Nat.le_of_ble_eq_true rfl)
  rw [lg_entry_eq]
  generalize (lg_sl ([.ref q, .ref q']) ++ List.replicate (4 - (lg_sl ([.ref q, .ref q'])).length) Slot.unset).toArray = ls at hl ⊢
  have hl : lv_has ls 4 [(0, .ref q), (1, .ref q')] := hl
  refine lv_iconst (v := 0) hx hb dX1_markChanges_0 (by decide) ?_
  refine lv_istore_n (lv' := [(2, .int 0), (0, .ref q), (1, .ref q')]) hx hb dX1_markChanges_1 rfl hl (by decide) rfl (fun ls hl => ?_)
  refine lv_iconst (v := 0) hx hb dX1_markChanges_2 (by decide) ?_
  refine lv_istore_n (lv' := [(3, .int 0), (2, .int 0), (0, .ref q), (1, .ref q')]) hx hb dX1_markChanges_3 rfl hl (by decide) rfl (fun ls hl => ?_)
  have hl : lv_has ls 4 [(3, .int (nI 0)), (2, .int (nI (ps_cn (fun k => !ps_al g' n' g k) 0))), (0, .ref q), (1, .ref q')] := hl
  rw [show g = va_up g 7 (ps_mk g n' g' 0) from ps_mk_up g n' g'] at hP hD
  refine ps_loopQ (α := Nat) (fun k => n - k) (fun k ls H locs => (k ≤ n) ∧ lv_has ls 4 [(0, .ref q), (1, .ref q'), (2, .int (nI (ps_cn (fun k => !ps_al g' n' g k) k))), (3, .int (nI k))] ∧ va_P (dC, dI) vwCl (ps_trW cI cZ q a n (va_up g 7 (ps_mk g n' g' k)) ++ ps_trW cI cZ q' a' n' g') H ∧ va_D A (ps_trW cI cZ q a n (va_up g 7 (ps_mk g n' g' k)) ++ ps_trW cI cZ q' a' n' g') ∧ va_S A s.heap H locs) ?_ 0 ls _ _ ⟨by omega, lv_sub hl [2, 3, 1, 0] rfl, hP, hD, hS⟩
  intro k ls H locs ih hI
  obtain ⟨hk, hl, hP, hD, hS⟩ := hI
  refine lv_iload_n hx hb dX1_markChanges_4 rfl (lv_at hl 3 rfl) ?_
  refine lv_aload_n hx hb dX1_markChanges_5 rfl (lv_at hl 0 rfl) ?_
  refine va_get (D := (dC, dI)) (ci := 1) (v := .int (nI n)) (C := RX1) (T := TX1) (N := 9) hx hb hT inX1 hown hK hP 0 rfl rfl 8 (by decide) (hT _ tw_fl_X1_37) (fun _ h9 => h9) rfl dX1_markChanges_6 ?_
  refine ps_icmp_ge (tgt := 50) (a := k) (b := n) hx hb dX1_markChanges_9 rfl (by omega) (by omega) (fun h9 => ?_) (fun h9 => ?_)
  · skip
    refine lv_iload_n hx hb dX1_markChanges_50 rfl (lv_at hl 2 rfl) ?_
    obtain rfl : k = n := by omega
    exact W.iret (v := nI (ps_cn (fun k => !ps_al g' n' g k) k)) hx hb hr (fun t ht hW => ⟨⟨nI (ps_cn (fun k => !ps_al g' n' g k) k), (), rfl, rfl, by rw [ht]; exact hP, va_K.moved hW.alike hK, hD⟩, hS.F ht⟩) hS.2.2 dX1_markChanges_51
  · skip
    refine lv_aload_n hx hb dX1_markChanges_12 rfl (lv_at hl 0 rfl) ?_
    refine va_get (D := (dC, dI)) (ci := 1) (v := .ref (a 7)) (C := RX1) (T := TX1) (N := 9) hx hb hT inX1 hown hK hP 0 rfl rfl 7 (by decide) (hT _ tw_fl_X1_33) (fun _ h9 => h9) rfl dX1_markChanges_13 ?_
    refine lv_iload_n hx hb dX1_markChanges_16 rfl (lv_at hl 3 rfl) ?_
    refine lv_aload_n hx hb dX1_markChanges_17 rfl (lv_at hl 1 rfl) ?_
    refine lv_aload_n hx hb dX1_markChanges_18 rfl (lv_at hl 0 rfl) ?_
    refine lv_iload_n hx hb dX1_markChanges_19 rfl (lv_at hl 3 rfl) ?_
    refine vp_callSi (va_Run.run (va_runV (C := RX1) (As := [.ref q, .int (nI k)]) (rest := [.int (nI k), .ref (a 7)]) ⟨hx, hb, hml, hown, hT⟩ (mX1_keepsAlike l dC dI cI cZ q' a' n' g' q a n (va_up g 7 (ps_mk g n' g' k)) (hn') k (by omega)) (cwV 2 hT (ps_gV tw_ml_X1_79 tw_im_X1_keepsAlike tw_se_X1_keepsAlike tw_in_X1 tw_co_X1_keepsAlike) rfl rfl rfl ⟨rfl, by decide, by decide, by decide +kernel⟩ ⟨Nat.le_of_ble_eq_true rfl, Nat.le_of_ble_eq_true rfl⟩) (ps_preV (ci := 1) (q0 := 0) hN (hP.sub (ws' := ps_trW cI cZ q' a' n' g' ++ ps_trW cI cZ q a n (va_up g 7 (ps_mk g n' g' k))) [9, 10, 11, 12, 13, 14, 15, 16, 17, 0, 1, 2, 3, 4, 5, 6, 7, 8] rfl) hK rfl rfl) rfl rfl hl.1 rfl (lv_room (Nat.le_of_ble_eq_true rfl)) dX1_markChanges_20 ⟨Nat.le_of_ble_eq_true rfl, Nat.le_of_ble_eq_true rfl⟩)) (fun r hr => ?_)
    obtain rfl : r = ps_bi (ps_al g' n' (va_up g 7 (ps_mk g n' g' k)) k) := hr
    refine ps_ifb_ne (tgt := 30) hx hb dX1_markChanges_23 rfl (fun h23 => ?_) (fun h23 => ?_)
    · skip
      have h23 : ps_al g' n' g k = true := h23
      have e : upd (ps_mk g n' g' k) k 0 = ps_mk g n' g' (k + 1) := by rw [← ps_mkS, h23]; rfl
      refine lv_iconst (v := 0) hx hb dX1_markChanges_30 (by decide) ?_
      refine ps_zast (k := k) hx hb hK hP hD hS 8 1 rfl rfl (by omega) (by decide) rfl dX1_markChanges_31 (fun H locs hP hD hS => ?_)
      have hP : va_P (dC, dI) vwCl (ps_trW cI cZ q a n (va_up g 7 (upd (ps_mk g n' g' k) k 0)) ++ ps_trW cI cZ q' a' n' g') H := hP
      have hD : va_D A (ps_trW cI cZ q a n (va_up g 7 (upd (ps_mk g n' g' k) k 0)) ++ ps_trW cI cZ q' a' n' g') := hD
      rw [e] at hP hD
      refine lv_aload_n hx hb dX1_markChanges_32 rfl (lv_at hl 0 rfl) ?_
      refine va_get (D := (dC, dI)) (ci := 1) (v := .ref (a 7)) (C := RX1) (T := TX1) (N := 9) hx hb hT inX1 hown hK hP 0 rfl rfl 7 (by decide) (hT _ tw_fl_X1_33) (fun _ h9 => h9) rfl dX1_markChanges_33 ?_
      refine lv_iload_n hx hb dX1_markChanges_36 rfl (lv_at hl 3 rfl) ?_
      refine ps_zald (k := k) (f := ps_mk g n' g' (k + 1)) hx hb hK hP 8 1 rfl rfl (by omega) (by decide) dX1_markChanges_37 ?_
      rw [ps_mk_at]
      refine ps_ifb_eq (tgt := 44) hx hb dX1_markChanges_38 rfl (fun h38 => ?_) (fun h38 => ?_)
      · skip
        have hc : (fun k => !ps_al g' n' g k) k = false := h38
        refine lv_iinc (k := 3) (v := nI (k + 1)) (lv' := [(3, .int (nI (k + 1))), (0, .ref q), (1, .ref q'), (2, .int (nI (ps_cn (fun k => !ps_al g' n' g k) k)))]) hx hb dX1_markChanges_44 hl rfl (ps_inc _) (by decide) rfl (fun ls hl => ?_)
        refine lv_goto (tgt := 4) hx hb dX1_markChanges_47 rfl ?_
        first | rw [← ps_cnT hc] at hl | rw [← ps_cnF hc] at hl
        exact ih ((k + 1)) ls _ _ (by omega) ⟨by omega, lv_sub hl [1, 2, 3, 0] rfl, hP, hD, hS⟩
      · skip
        have hc : (fun k => !ps_al g' n' g k) k = true := h38
        refine lv_iinc (k := 2) (v := nI ((ps_cn (fun k => !ps_al g' n' g k) k) + 1)) (lv' := [(2, .int (nI ((ps_cn (fun k => !ps_al g' n' g k) k) + 1))), (0, .ref q), (1, .ref q'), (3, .int (nI k))]) hx hb dX1_markChanges_41 hl rfl (ps_inc _) (by decide) rfl (fun ls hl => ?_)
        refine lv_iinc (k := 3) (v := nI (k + 1)) (lv' := [(3, .int (nI (k + 1))), (2, .int (nI ((ps_cn (fun k => !ps_al g' n' g k) k) + 1))), (0, .ref q), (1, .ref q')]) hx hb dX1_markChanges_44 hl rfl (ps_inc _) (by decide) rfl (fun ls hl => ?_)
        refine lv_goto (tgt := 4) hx hb dX1_markChanges_47 rfl ?_
        first | rw [← ps_cnT hc] at hl | rw [← ps_cnF hc] at hl
        exact ih ((k + 1)) ls _ _ (by omega) ⟨by omega, lv_sub hl [2, 3, 1, 0] rfl, hP, hD, hS⟩
    · skip
      have h23 : ps_al g' n' g k = false := h23
      have e : upd (ps_mk g n' g' k) k 1 = ps_mk g n' g' (k + 1) := by rw [← ps_mkS, h23]; rfl
      refine lv_iconst (v := 1) hx hb dX1_markChanges_26 (by decide) ?_
      refine lv_goto (tgt := 31) hx hb dX1_markChanges_27 rfl ?_
      refine ps_zast (k := k) hx hb hK hP hD hS 8 1 rfl rfl (by omega) (by decide) rfl dX1_markChanges_31 (fun H locs hP hD hS => ?_)
      have hP : va_P (dC, dI) vwCl (ps_trW cI cZ q a n (va_up g 7 (upd (ps_mk g n' g' k) k 1)) ++ ps_trW cI cZ q' a' n' g') H := hP
      have hD : va_D A (ps_trW cI cZ q a n (va_up g 7 (upd (ps_mk g n' g' k) k 1)) ++ ps_trW cI cZ q' a' n' g') := hD
      rw [e] at hP hD
      refine lv_aload_n hx hb dX1_markChanges_32 rfl (lv_at hl 0 rfl) ?_
      refine va_get (D := (dC, dI)) (ci := 1) (v := .ref (a 7)) (C := RX1) (T := TX1) (N := 9) hx hb hT inX1 hown hK hP 0 rfl rfl 7 (by decide) (hT _ tw_fl_X1_33) (fun _ h9 => h9) rfl dX1_markChanges_33 ?_
      refine lv_iload_n hx hb dX1_markChanges_36 rfl (lv_at hl 3 rfl) ?_
      refine ps_zald (k := k) (f := ps_mk g n' g' (k + 1)) hx hb hK hP 8 1 rfl rfl (by omega) (by decide) dX1_markChanges_37 ?_
      rw [ps_mk_at]
      refine ps_ifb_eq (tgt := 44) hx hb dX1_markChanges_38 rfl (fun h38 => ?_) (fun h38 => ?_)
      · skip
        have hc : (fun k => !ps_al g' n' g k) k = false := h38
        refine lv_iinc (k := 3) (v := nI (k + 1)) (lv' := [(3, .int (nI (k + 1))), (0, .ref q), (1, .ref q'), (2, .int (nI (ps_cn (fun k => !ps_al g' n' g k) k)))]) hx hb dX1_markChanges_44 hl rfl (ps_inc _) (by decide) rfl (fun ls hl => ?_)
        refine lv_goto (tgt := 4) hx hb dX1_markChanges_47 rfl ?_
        first | rw [← ps_cnT hc] at hl | rw [← ps_cnF hc] at hl
        exact ih ((k + 1)) ls _ _ (by omega) ⟨by omega, lv_sub hl [1, 2, 3, 0] rfl, hP, hD, hS⟩
      · skip
        have hc : (fun k => !ps_al g' n' g k) k = true := h38
        refine lv_iinc (k := 2) (v := nI ((ps_cn (fun k => !ps_al g' n' g k) k) + 1)) (lv' := [(2, .int (nI ((ps_cn (fun k => !ps_al g' n' g k) k) + 1))), (0, .ref q), (1, .ref q'), (3, .int (nI k))]) hx hb dX1_markChanges_41 hl rfl (ps_inc _) (by decide) rfl (fun ls hl => ?_)
        refine lv_iinc (k := 3) (v := nI (k + 1)) (lv' := [(3, .int (nI (k + 1))), (2, .int (nI ((ps_cn (fun k => !ps_al g' n' g k) k) + 1))), (0, .ref q), (1, .ref q')]) hx hb dX1_markChanges_44 hl rfl (ps_inc _) (by decide) rfl (fun ls hl => ?_)
        refine lv_goto (tgt := 4) hx hb dX1_markChanges_47 rfl ?_
        first | rw [← ps_cnT hc] at hl | rw [← ps_cnF hc] at hl
        exact ih ((k + 1)) ls _ _ (by omega) ⟨by omega, lv_sub hl [2, 3, 1, 0] rfl, hP, hD, hS⟩
