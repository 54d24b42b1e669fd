/-! contracts: the reference's other writers. By wip/model2.py. -/
theorem ps_side {d : Int32} (h : ps_inr d 0 4 = true) : ¬ (1 : Int32) <<< (d &&& 31) = 0 := by
  simp only [ps_inr, Bool.and_eq_true, decide_eq_true_eq] at h
  obtain ⟨j, hj, rfl⟩ := nI_of2 (x := d) (M := 4) (n := 4) (by decide) h.1 (Int32.not_lt.mp h.2)
  rcases (by omega : j = 0 ∨ j = 1 ∨ j = 2 ∨ j = 3 ∨ j = 4) with rfl | rfl | rfl | rfl | rfl <;> decide
theorem ps_nb_f {f : ps_G} {p : Int32} {x y : Nat} (h : ¬ ps_dd (f 1 y) p 3 - ps_dd (f 1 x) p 3 < 0) (h2 : f 0 x ≤ f 0 y) : ps_nb f p x y = false := by
  have h3 : ¬ f 0 y < f 0 x := Int32.not_lt.mpr h2
  simp only [ps_nb, h, h3, decide_false, Bool.and_false, Bool.or_false]
set_option maxHeartbeats 4000000 in
set_option maxRecDepth 100000 in
theorem mX3_count_n (l : Launch) (dC : Nat → ClassId) (dI : Nat → Nat → Nat) (cI cZ : ClassId) (w0 : Nat) (b0 : Nat → Nat) (th : Int32) (mn kn : Nat) (co : Int32) (ln : Nat) (wr lt : Int32) (f : ps_G) (hmn : mn ≤ 48) (x y z : Int32) (hip : ps_ip x y z = true) (sz : Nat) : Met l yX3_count (.code yX3_count cX3_count 6 (some .int) :: ps_T) ({ frames := 2, cells := 0, slots := 0, locals := 46 }) (ps_qc (dC, dI) (ps_ty cI cZ) (ps_mdW cI cZ w0 b0 th mn kn co ln wr lt f) sz [.ref w0, .int x, .int y, .int z]) (va_Qi (fun (r : Int32) (_ : Unit) => r = nI (ps_cn (fun k => ps_all (ps_iq f co (ps_pk x y z) k) 3) mn)) (ps_qB (dC, dI) (ps_ty cI cZ) (va_A (ps_mdW cI cZ w0 b0 th mn kn co ln wr lt f) sz) (ps_mdW cI cZ w0 b0 0 mn kn co ln wr lt f)) (va_A (ps_mdW cI cZ w0 b0 th mn kn co ln wr lt f) sz)) 0 0 (va_A (ps_mdW cI cZ w0 b0 th mn kn co ln wr lt f) sz) := by
  refine Met.ofW (cc := cX3_count) (maxL := 6) (ret := (some .int)) (by decide) rfl ?_
  intro p e s m args below meth c s₁ B hml hv
  obtain ⟨rfl, hsz, hN, hP, hK, hD0⟩ := hv
  have hx := B.exec
  have hb := B.bytes
  have hr := B.returns
  have hlocks := B.notSynchronized
  have hT : ∀ w ∈ ps_T, w.before ([.ref w0, .int x, .int y, .int z] : List Value).toArray s = true := fun w h => atoms_spec (ws := (.code yX3_count cX3_count 6 (some .int) :: ps_T)) B.pre w (List.mem_cons_of_mem _ h)
  have hown : s.vm.findClass RX3 = some m.cls := findClass_of_methodNamed B.named
  subst hsz
  have hD := hD0.self (sz := s.heap.size)
  generalize hAe : va_A (ps_mdW cI cZ w0 b0 th mn kn co ln wr lt f) s.heap.size = A at hD ⊢
  have hA : ∀ q : Nat, s.heap.size ≤ q → A q := fun q h => by rw [← hAe]; exact Or.inr h
  have hS : va_S A s.heap s.heap [] := va_S.rf
  have hl := lv_entry ([.ref w0, .int x, .int y, .int z]) (n := 6) (Nat.le_of_ble_eq_true rfl)
  rw [lg_entry_eq]
  generalize (lg_sl ([.ref w0, .int x, .int y, .int z]) ++ List.replicate (6 - (lg_sl ([.ref w0, .int x, .int y, .int z])).length) Slot.unset).toArray = ls at hl ⊢
  have hl : lv_has ls 6 [(0, .ref w0), (1, .int x), (2, .int y), (3, .int z)] := hl
  refine lv_aload_n hx hb dX3_count_0 rfl (lv_at hl 0 rfl) ?_
  refine lv_iconst (v := 0) hx hb dX3_count_1 (by decide) ?_
  refine va_put (D := (dC, dI)) (ci := 3) (v := .int 0) (ty := .int) (C := RX3) (T := TX3) (N := 17) hx hb hT inX3 tyX3 tyX3_ok nmX3 hown hK hP hD hS 0 rfl rfl 0 (by decide) (hT _ tw_fl_X3_45) (fun _ h9 => h9) rfl (by decide +kernel) rfl rfl (Nat.le_of_ble_eq_true rfl) dX3_count_2 (fun H locs hP hD hS => ?_)
  have hP : va_P (dC, dI) vwCl (ps_mdW cI cZ w0 b0 0 mn kn co ln wr lt f) H := hP
  have hD : va_D A (ps_mdW cI cZ w0 b0 0 mn kn co ln wr lt f) := hD
  refine lv_iload_n hx hb dX3_count_5 rfl (lv_at hl 1 rfl) ?_
  refine lv_iload_n hx hb dX3_count_6 rfl (lv_at hl 2 rfl) ?_
  refine lv_iload_n hx hb dX3_count_7 rfl (lv_at hl 3 rfl) ?_
  refine vp_callSi (va_Run.run (va_runS (As := [.int x, .int y, .int z]) (rest := []) ⟨hx, hb, hml, hown, hT⟩ (mX3_isPlace l x y z) (va_cwS 3 hT (ps_gS tw_ml_X3_76 tw_st_X3_isPlace tw_in_X3 tw_co_X3_isPlace) rfl rfl rfl ⟨by decide, by decide, by decide +kernel⟩ ⟨Nat.le_of_ble_eq_true rfl, Nat.le_of_ble_eq_true rfl⟩) preEq rfl rfl hl.1 rfl (lv_room (Nat.le_of_ble_eq_true rfl)) dX3_count_8 ⟨Nat.le_of_ble_eq_true rfl, Nat.le_of_ble_eq_true rfl⟩)) (fun r hr => ?_)
  obtain rfl : r = ps_bi (ps_ip x y z) := hr
  refine ps_ifb_ne (tgt := 20) hx hb dX3_count_11 rfl (fun h11 => ?_) (fun h11 => ?_)
  · skip
    refine lv_iconst (v := 0) hx hb dX3_count_20 (by decide) ?_
    refine lv_istore (lv' := [(4, .int 0), (0, .ref w0), (1, .int x), (2, .int y), (3, .int z)]) hx hb dX3_count_21 hl (by decide) rfl (fun ls hl => ?_)
    refine lv_iconst (v := 0) hx hb dX3_count_23 (by decide) ?_
    refine lv_istore (lv' := [(5, .int 0), (4, .int 0), (0, .ref w0), (1, .int x), (2, .int y), (3, .int z)]) hx hb dX3_count_24 hl (by decide) rfl (fun ls hl => ?_)
    have hl : lv_has ls 6 [(5, .int (nI 0)), (4, .int (nI (ps_cn (fun k => ps_all (ps_iq f co (ps_pk x y z) k) 3) 0))), (0, .ref w0), (1, .int x), (2, .int y), (3, .int z)] := hl
    refine ps_loopS (α := Nat) (fun k => mn - k) (fun k ls => (k ≤ mn) ∧ lv_has ls 6 [(0, .ref w0), (1, .int x), (2, .int y), (3, .int z), (4, .int (nI (ps_cn (fun k => ps_all (ps_iq f co (ps_pk x y z) k) 3) k))), (5, .int (nI k))]) ?_ 0 ls ⟨by omega, lv_sub hl [2, 3, 4, 5, 1, 0] rfl⟩
    intro k ls ih26 hI
    obtain ⟨hk, hl⟩ := hI
    refine lv_iload hx hb dX3_count_26 (lv_at hl 5 rfl) ?_
    refine lv_aload_n hx hb dX3_count_28 rfl (lv_at hl 0 rfl) ?_
    refine va_get (D := (dC, dI)) (ci := 3) (v := .int (nI mn)) (C := RX3) (T := TX3) (N := 17) hx hb hT inX3 hown hK hP 0 rfl rfl 1 (by decide) (hT _ tw_fl_X3_59) (fun _ h9 => h9) rfl dX3_count_29 ?_
    refine ps_icmp_ge (tgt := 67) (a := k) (b := mn) hx hb dX3_count_32 rfl (by omega) (by omega) (fun h32 => ?_) (fun h32 => ?_)
    · skip
      refine lv_iload hx hb dX3_count_67 (lv_at hl 4 rfl) ?_
      exact W.iret (v := nI (ps_cn (fun k => ps_all (ps_iq f co (ps_pk x y z) k) 3) k)) hx hb hr (fun t ht hW => ⟨⟨nI (ps_cn (fun k => ps_all (ps_iq f co (ps_pk x y z) k) 3) k), (), rfl, by rw [show k = mn by omega], by rw [ht]; exact hP, va_K.moved hW.alike hK, hD⟩, hS.F ht⟩) hS.2.2 dX3_count_69
    · skip
      refine lv_aload_n hx hb dX3_count_35 rfl (lv_at hl 0 rfl) ?_
      refine lv_iload hx hb dX3_count_36 (lv_at hl 5 rfl) ?_
      refine lv_iload_n hx hb dX3_count_38 rfl (lv_at hl 1 rfl) ?_
      refine lv_iload_n hx hb dX3_count_39 rfl (lv_at hl 2 rfl) ?_
      refine lv_iload_n hx hb dX3_count_40 rfl (lv_at hl 3 rfl) ?_
      refine vp_callSi (va_Run.run (va_runS (As := [.int x, .int y, .int z]) (rest := [.int (nI k), .ref w0]) ⟨hx, hb, hml, hown, hT⟩ (mX3_packed l x y z) (va_cwS 3 hT (ps_gS tw_ml_X3_86 tw_st_X3_packed tw_in_X3 tw_co_X3_packed) rfl rfl rfl ⟨by decide, by decide, by decide +kernel⟩ ⟨Nat.le_of_ble_eq_true rfl, Nat.le_of_ble_eq_true rfl⟩) preEq rfl rfl hl.1 rfl (lv_room (Nat.le_of_ble_eq_true rfl)) dX3_count_41 ⟨Nat.le_of_ble_eq_true rfl, Nat.le_of_ble_eq_true rfl⟩)) (fun r hr => ?_)
      obtain rfl : r = ps_pk x y z := hr
      refine vp_callSi (va_Run.run (va_runV (C := RX3) (As := [.int (nI k), .int (ps_pk x y z)]) (rest := []) ⟨hx, hb, hml, hown, hT⟩ (mX3_isIn l dC dI cI cZ w0 b0 0 mn kn co ln wr lt f k (by omega) (ps_pk x y z)) (cwV 2 hT (ps_gV tw_ml_X3_102 tw_im_X3_isIn tw_se_X3_isIn tw_in_X3 tw_co_X3_isIn) rfl rfl rfl ⟨rfl, by decide, by decide, by decide +kernel⟩ ⟨Nat.le_of_ble_eq_true rfl, Nat.le_of_ble_eq_true rfl⟩) (ps_preV (ci := 3) (q0 := 0) hN hP hK rfl rfl) rfl rfl hl.1 rfl (lv_room (Nat.le_of_ble_eq_true rfl)) dX3_count_44 ⟨Nat.le_of_ble_eq_true rfl, Nat.le_of_ble_eq_true rfl⟩)) (fun r hr => ?_)
      obtain rfl : r = ps_bi (ps_all (ps_iq f co (ps_pk x y z) k) 3) := hr
      refine ps_ifb_eq (tgt := 57) hx hb dX3_count_47 rfl (fun h47 => ?_) (fun h47 => ?_)
      · skip
        have hc : (fun k => ps_all (ps_iq f co (ps_pk x y z) k) 3) k = false := h47
        refine lv_iload hx hb dX3_count_57 (lv_at hl 4 rfl) ?_
        refine lv_istore (lv' := [(4, .int (nI (ps_cn (fun k => ps_all (ps_iq f co (ps_pk x y z) k) 3) k))), (0, .ref w0), (1, .int x), (2, .int y), (3, .int z), (5, .int (nI k))]) hx hb dX3_count_59 hl (by decide) rfl (fun ls hl => ?_)
        refine lv_iinc (k := 5) (v := nI (k + 1)) (lv' := [(5, .int (nI (k + 1))), (4, .int (nI (ps_cn (fun k => ps_all (ps_iq f co (ps_pk x y z) k) 3) k))), (0, .ref w0), (1, .int x), (2, .int y), (3, .int z)]) hx hb dX3_count_61 hl rfl (ps_inc _) (by decide) rfl (fun ls hl => ?_)
        refine lv_goto (tgt := 26) hx hb dX3_count_64 rfl ?_
        first | rw [← ps_cnT (P := fun k => ps_all (ps_iq f co (ps_pk x y z) k) 3) hc] at hl | rw [← ps_cnF (P := fun k => ps_all (ps_iq f co (ps_pk x y z) k) 3) hc] at hl
        exact ih26 ((k + 1)) ls (by omega) ⟨by omega, lv_sub hl [2, 3, 4, 5, 1, 0] rfl⟩
      · skip
        have hc : (fun k => ps_all (ps_iq f co (ps_pk x y z) k) 3) k = true := h47
        refine lv_iload hx hb dX3_count_50 (lv_at hl 4 rfl) ?_
        refine lv_iconst (v := 1) hx hb dX3_count_52 (by decide) ?_
        refine lv_iadd hx hb dX3_count_53 ?_
        rw [nI_1]
        refine lv_goto (tgt := 59) hx hb dX3_count_54 rfl ?_
        refine lv_istore (lv' := [(4, .int (nI ((ps_cn (fun k => ps_all (ps_iq f co (ps_pk x y z) k) 3) k) + 1))), (0, .ref w0), (1, .int x), (2, .int y), (3, .int z), (5, .int (nI k))]) hx hb dX3_count_59 hl (by decide) rfl (fun ls hl => ?_)
        refine lv_iinc (k := 5) (v := nI (k + 1)) (lv' := [(5, .int (nI (k + 1))), (4, .int (nI ((ps_cn (fun k => ps_all (ps_iq f co (ps_pk x y z) k) 3) k) + 1))), (0, .ref w0), (1, .int x), (2, .int y), (3, .int z)]) hx hb dX3_count_61 hl rfl (ps_inc _) (by decide) rfl (fun ls hl => ?_)
        refine lv_goto (tgt := 26) hx hb dX3_count_64 rfl ?_
        first | rw [← ps_cnT (P := fun k => ps_all (ps_iq f co (ps_pk x y z) k) 3) hc] at hl | rw [← ps_cnF (P := fun k => ps_all (ps_iq f co (ps_pk x y z) k) 3) hc] at hl
        exact ih26 ((k + 1)) ls (by omega) ⟨by omega, lv_sub hl [2, 3, 4, 5, 1, 0] rfl⟩
  · skip
    exact Bool.noConfusion (hip.symm.trans h11)
set_option maxHeartbeats 4000000 in
set_option maxRecDepth 100000 in
theorem mX3_count_1 (l : Launch) (dC : Nat → ClassId) (dI : Nat → Nat → Nat) (cI cZ : ClassId) (w0 : Nat) (b0 : Nat → Nat) (th : Int32) (mn kn : Nat) (co : Int32) (ln : Nat) (wr lt : Int32) (f : ps_G) (x y z : Int32) (hip : ps_ip x y z = false) (sz : Nat) : Met l yX3_count (.code yX3_count cX3_count 6 (some .int) :: ps_T) ({ frames := 2, cells := 0, slots := 0, locals := 44 }) (ps_qc (dC, dI) (ps_ty cI cZ) (ps_mdW cI cZ w0 b0 th mn kn co ln wr lt f) sz [.ref w0, .int x, .int y, .int z]) (va_Qi (fun (r : Int32) (_ : Unit) => r = 0) (ps_qB (dC, dI) (ps_ty cI cZ) (va_A (ps_mdW cI cZ w0 b0 th mn kn co ln wr lt f) sz) (ps_mdW cI cZ w0 b0 1 mn kn co ln wr lt f)) (va_A (ps_mdW cI cZ w0 b0 th mn kn co ln wr lt f) sz)) 0 0 (va_A (ps_mdW cI cZ w0 b0 th mn kn co ln wr lt f) sz) := by
  refine Met.ofW (cc := cX3_count) (maxL := 6) (ret := (some .int)) (by decide) rfl ?_
  intro p e s m args below meth c s₁ B hml hv
  obtain ⟨rfl, hsz, hN, hP, hK, hD0⟩ := hv
  have hx := B.exec
  have hb := B.bytes
  have hr := B.returns
  have hlocks := B.notSynchronized
  have hT : ∀ w ∈ ps_T, w.before ([.ref w0, .int x, .int y, .int z] : List Value).toArray s = true := fun w h => atoms_spec (ws := (.code yX3_count cX3_count 6 (some .int) :: ps_T)) B.pre w (List.mem_cons_of_mem _ h)
  have hown : s.vm.findClass RX3 = some m.cls := findClass_of_methodNamed B.named
  subst hsz
  have hD := hD0.self (sz := s.heap.size)
  generalize hAe : va_A (ps_mdW cI cZ w0 b0 th mn kn co ln wr lt f) s.heap.size = A at hD ⊢
  have hA : ∀ q : Nat, s.heap.size ≤ q → A q := fun q h => by rw [← hAe]; exact Or.inr h
  have hS : va_S A s.heap s.heap [] := va_S.rf
  have hl := lv_entry ([.ref w0, .int x, .int y, .int z]) (n := 6) (Nat.le_of_ble_eq_true rfl)
  rw [lg_entry_eq]
  generalize (lg_sl ([.ref w0, .int x, .int y, .int z]) ++ List.replicate (6 - (lg_sl ([.ref w0, .int x, .int y, .int z])).length) Slot.unset).toArray = ls at hl ⊢
  have hl : lv_has ls 6 [(0, .ref w0), (1, .int x), (2, .int y), (3, .int z)] := hl
  refine lv_aload_n hx hb dX3_count_0 rfl (lv_at hl 0 rfl) ?_
  refine lv_iconst (v := 0) hx hb dX3_count_1 (by decide) ?_
  refine va_put (D := (dC, dI)) (ci := 3) (v := .int 0) (ty := .int) (C := RX3) (T := TX3) (N := 17) hx hb hT inX3 tyX3 tyX3_ok nmX3 hown hK hP hD hS 0 rfl rfl 0 (by decide) (hT _ tw_fl_X3_45) (fun _ h9 => h9) rfl (by decide +kernel) rfl rfl (Nat.le_of_ble_eq_true rfl) dX3_count_2 (fun H locs hP hD hS => ?_)
  have hP : va_P (dC, dI) vwCl (ps_mdW cI cZ w0 b0 0 mn kn co ln wr lt f) H := hP
  have hD : va_D A (ps_mdW cI cZ w0 b0 0 mn kn co ln wr lt f) := hD
  refine lv_iload_n hx hb dX3_count_5 rfl (lv_at hl 1 rfl) ?_
  refine lv_iload_n hx hb dX3_count_6 rfl (lv_at hl 2 rfl) ?_
  refine lv_iload_n hx hb dX3_count_7 rfl (lv_at hl 3 rfl) ?_
  refine vp_callSi (va_Run.run (va_runS (As := [.int x, .int y, .int z]) (rest := []) ⟨hx, hb, hml, hown, hT⟩ (mX3_isPlace l x y z) (va_cwS 3 hT (ps_gS tw_ml_X3_76 tw_st_X3_isPlace tw_in_X3 tw_co_X3_isPlace) rfl rfl rfl ⟨by decide, by decide, by decide +kernel⟩ ⟨Nat.le_of_ble_eq_true rfl, Nat.le_of_ble_eq_true rfl⟩) preEq rfl rfl hl.1 rfl (lv_room (Nat.le_of_ble_eq_true rfl)) dX3_count_8 ⟨Nat.le_of_ble_eq_true rfl, Nat.le_of_ble_eq_true rfl⟩)) (fun r hr => ?_)
  obtain rfl : r = ps_bi (ps_ip x y z) := hr
  refine ps_ifb_ne (tgt := 20) hx hb dX3_count_11 rfl (fun h11 => ?_) (fun h11 => ?_)
  · skip
    exact Bool.noConfusion (hip.symm.trans h11)
  · skip
    refine lv_aload_n hx hb dX3_count_14 rfl (lv_at hl 0 rfl) ?_
    refine lv_iconst (v := 1) hx hb dX3_count_15 (by decide) ?_
    refine ps_cqi (wc := ps_mdW cI cZ w0 b0 0 mn kn co ln wr lt f) (wr := []) (w1 := ps_mdW cI cZ w0 b0 1 mn kn co ln wr lt f) (ws2 := ps_mdW cI cZ w0 b0 1 mn kn co ln wr lt f) (va_runV (C := RX3) (As := [.int 1]) (rest := []) ⟨hx, hb, hml, hown, hT⟩ (mX3_fails l dC dI cI cZ w0 b0 0 mn kn co ln wr lt f 1 _) (cwV 1 hT (ps_gV tw_ml_X3_79 tw_im_X3_fails tw_se_X3_fails tw_in_X3 tw_co_X3_fails) rfl rfl rfl ⟨rfl, by decide, by decide, by decide +kernel⟩ ⟨Nat.le_of_ble_eq_true rfl, Nat.le_of_ble_eq_true rfl⟩) (ps_qreV (wc := ps_mdW cI cZ w0 b0 0 mn kn co ln wr lt f) (ci := 3) [0, 1, 2, 3, 4, 5, 6, 7, 8, 9, 10] hN hP hK hD rfl rfl rfl rfl rfl) rfl rfl hl.1 rfl (lv_room (Nat.le_of_ble_eq_true rfl)) dX3_count_16 ⟨Nat.le_of_ble_eq_true rfl, Nat.le_of_ble_eq_true rfl⟩) hS hA hP hD [0, 1, 2, 3, 4, 5, 6, 7, 8, 9, 10] [] [0, 1, 2, 3, 4, 5, 6, 7, 8, 9, 10] rfl rfl rfl (by decide) rfl rfl rfl (fun H locs hP hD hS => ?_)
    exact W.iret (v := 0) hx hb hr (fun t ht hW => ⟨⟨0, (), rfl, rfl, by rw [ht]; exact hP, va_K.moved hW.alike hK, hD⟩, hS.F ht⟩) hS.2.2 dX3_count_19
set_option maxHeartbeats 4000000 in
set_option maxRecDepth 100000 in
theorem mX3_box_n (l : Launch) (dC : Nat → ClassId) (dI : Nat → Nat → Nat) (cI cZ : ClassId) (w0 : Nat) (b0 : Nat → Nat) (th : Int32) (mn kn : Nat) (co : Int32) (ln : Nat) (wr lt : Int32) (f : ps_G) (hmn : mn ≤ 48) (x y z : Int32) (d : Int32) (hip : ps_ip x y z = true) (hde : ps_inr d 0 4 = true) (sz : Nat) : Met l yX3_box (.code yX3_box cX3_box 7 (some .int) :: ps_T) ({ frames := 2, cells := 0, slots := 0, locals := 46 }) (ps_qc (dC, dI) (ps_ty cI cZ) (ps_mdW cI cZ w0 b0 th mn kn co ln wr lt f) sz [.ref w0, .int x, .int y, .int z, .int d]) (va_Qi (fun (r : Int32) (_ : Unit) => r = nI (ps_bx f (ps_mb f co (ps_pk x y z) d) (f 9) mn).1) (ps_qB (dC, dI) (ps_ty cI cZ) (va_A (ps_mdW cI cZ w0 b0 th mn kn co ln wr lt f) sz) (ps_mdW cI cZ w0 b0 0 mn kn co ((ps_bx f (ps_mb f co (ps_pk x y z) d) (f 9) mn).1) wr lt (va_up f 9 ((ps_bx f (ps_mb f co (ps_pk x y z) d) (f 9) mn).2)))) (va_A (ps_mdW cI cZ w0 b0 th mn kn co ln wr lt f) sz)) 0 0 (va_A (ps_mdW cI cZ w0 b0 th mn kn co ln wr lt f) sz) := by
  refine Met.ofW (cc := cX3_box) (maxL := 7) (ret := (some .int)) (by decide) rfl ?_
  intro p e s m args below meth c s₁ B hml hv
  obtain ⟨rfl, hsz, hN, hP, hK, hD0⟩ := hv
  have hx := B.exec
  have hb := B.bytes
  have hr := B.returns
  have hlocks := B.notSynchronized
  have hT : ∀ w ∈ ps_T, w.before ([.ref w0, .int x, .int y, .int z, .int d] : List Value).toArray s = true := fun w h => atoms_spec (ws := (.code yX3_box cX3_box 7 (some .int) :: ps_T)) B.pre w (List.mem_cons_of_mem _ h)
  have hown : s.vm.findClass RX3 = some m.cls := findClass_of_methodNamed B.named
  subst hsz
  have hD := hD0.self (sz := s.heap.size)
  generalize hAe : va_A (ps_mdW cI cZ w0 b0 th mn kn co ln wr lt f) s.heap.size = A at hD ⊢
  have hA : ∀ q : Nat, s.heap.size ≤ q → A q := fun q h => by rw [← hAe]; exact Or.inr h
  have hS : va_S A s.heap s.heap [] := va_S.rf
  have hl := lv_entry ([.ref w0, .int x, .int y, .int z, .int d]) (n := 7) (Nat.le_of_ble_eq_true rfl)
  rw [lg_entry_eq]
  generalize (lg_sl ([.ref w0, .int x, .int y, .int z, .int d]) ++ List.replicate (7 - (lg_sl ([.ref w0, .int x, .int y, .int z, .int d])).length) Slot.unset).toArray = ls at hl ⊢
  have hl : lv_has ls 7 [(0, .ref w0), (1, .int x), (2, .int y), (3, .int z), (4, .int d)] := hl
  refine lv_aload_n hx hb dX3_box_0 rfl (lv_at hl 0 rfl) ?_
  refine lv_iconst (v := 0) hx hb dX3_box_1 (by decide) ?_
  refine va_put (D := (dC, dI)) (ci := 3) (v := .int 0) (ty := .int) (C := RX3) (T := TX3) (N := 17) hx hb hT inX3 tyX3 tyX3_ok nmX3 hown hK hP hD hS 0 rfl rfl 0 (by decide) (hT _ tw_fl_X3_45) (fun _ h9 => h9) rfl (by decide +kernel) rfl rfl (Nat.le_of_ble_eq_true rfl) dX3_box_2 (fun H locs hP hD hS => ?_)
  have hP : va_P (dC, dI) vwCl (ps_mdW cI cZ w0 b0 0 mn kn co ln wr lt f) H := hP
  have hD : va_D A (ps_mdW cI cZ w0 b0 0 mn kn co ln wr lt f) := hD
  refine lv_iload_n hx hb dX3_box_5 rfl (lv_at hl 1 rfl) ?_
  refine lv_iload_n hx hb dX3_box_6 rfl (lv_at hl 2 rfl) ?_
  refine lv_iload_n hx hb dX3_box_7 rfl (lv_at hl 3 rfl) ?_
  refine vp_callSi (va_Run.run (va_runS (As := [.int x, .int y, .int z]) (rest := []) ⟨hx, hb, hml, hown, hT⟩ (mX3_isPlace l x y z) (va_cwS 3 hT (ps_gS tw_ml_X3_76 tw_st_X3_isPlace tw_in_X3 tw_co_X3_isPlace) rfl rfl rfl ⟨by decide, by decide, by decide +kernel⟩ ⟨Nat.le_of_ble_eq_true rfl, Nat.le_of_ble_eq_true rfl⟩) preEq rfl rfl hl.1 rfl (lv_room (Nat.le_of_ble_eq_true rfl)) dX3_box_8 ⟨Nat.le_of_ble_eq_true rfl, Nat.le_of_ble_eq_true rfl⟩)) (fun r hr => ?_)
  obtain rfl : r = ps_bi (ps_ip x y z) := hr
  refine ps_ifb_eq (tgt := 24) hx hb dX3_box_11 rfl (fun h11 => ?_) (fun h11 => ?_)
  · skip
    exact Bool.noConfusion (hip.symm.trans h11)
  · skip
    refine lv_iload hx hb dX3_box_14 (lv_at hl 4 rfl) ?_
    refine lv_iconst (v := 0) hx hb dX3_box_16 (by decide) ?_
    refine lv_iconst (v := 4) hx hb dX3_box_17 (by decide) ?_
    refine vp_callSi (va_Run.run (va_runS (As := [.int d, .int 0, .int 4]) (rest := []) ⟨hx, hb, hml, hown, hT⟩ (mX3_in l d 0 4) (va_cwS 3 hT (ps_gS tw_ml_X3_48 tw_st_X3_in tw_in_X3 tw_co_X3_in) rfl rfl rfl ⟨by decide, by decide, by decide +kernel⟩ ⟨Nat.le_of_ble_eq_true rfl, Nat.le_of_ble_eq_true rfl⟩) preEq rfl rfl hl.1 rfl (lv_room (Nat.le_of_ble_eq_true rfl)) dX3_box_18 ⟨Nat.le_of_ble_eq_true rfl, Nat.le_of_ble_eq_true rfl⟩)) (fun r hr => ?_)
    obtain rfl : r = ps_bi (ps_inr d 0 4) := hr
    refine ps_ifb_ne (tgt := 30) hx hb dX3_box_21 rfl (fun h21 => ?_) (fun h21 => ?_)
    · skip
      refine lv_aload_n hx hb dX3_box_30 rfl (lv_at hl 0 rfl) ?_
      refine lv_iconst (v := 0) hx hb dX3_box_31 (by decide) ?_
      refine va_put (D := (dC, dI)) (ci := 3) (v := .int 0) (ty := .int) (C := RX3) (T := TX3) (N := 17) hx hb hT inX3 tyX3 tyX3_ok nmX3 hown hK hP hD hS 0 rfl rfl 13 (by decide) (hT _ tw_fl_X3_99) (fun _ h9 => h9) rfl (by decide +kernel) rfl rfl (Nat.le_of_ble_eq_true rfl) dX3_box_32 (fun H locs hP hD hS => ?_)
      have hP : va_P (dC, dI) vwCl (ps_mdW cI cZ w0 b0 0 mn kn co 0 wr lt f) H := hP
      have hD : va_D A (ps_mdW cI cZ w0 b0 0 mn kn co 0 wr lt f) := hD
      refine lv_iconst (v := 0) hx hb dX3_box_35 (by decide) ?_
      refine lv_istore (lv' := [(5, .int 0), (0, .ref w0), (1, .int x), (2, .int y), (3, .int z), (4, .int d)]) hx hb dX3_box_36 hl (by decide) rfl (fun ls hl => ?_)
      have hl : lv_has ls 7 [(5, .int (nI 0)), (0, .ref w0), (1, .int x), (2, .int y), (3, .int z), (4, .int d)] := hl
      refine ps_loopQ (α := Nat) (fun k => mn - k) (fun k ls H locs => (k ≤ mn) ∧ lv_has ls 7 [(0, .ref w0), (1, .int x), (2, .int y), (3, .int z), (4, .int d), (5, .int (nI k))] ∧ va_P (dC, dI) vwCl (ps_mdW cI cZ w0 b0 0 mn kn co ((ps_bx f (ps_mb f co (ps_pk x y z) d) (f 9) k).1) wr lt (va_up f 9 ((ps_bx f (ps_mb f co (ps_pk x y z) d) (f 9) k).2))) H ∧ va_D A (ps_mdW cI cZ w0 b0 0 mn kn co ((ps_bx f (ps_mb f co (ps_pk x y z) d) (f 9) k).1) wr lt (va_up f 9 ((ps_bx f (ps_mb f co (ps_pk x y z) d) (f 9) k).2))) ∧ va_S A s.heap H locs) ?_ 0 ls _ _ ⟨by omega, lv_sub hl [1, 2, 3, 4, 5, 0] rfl, hP, hD, hS⟩
      intro k ls H locs ih38 hI
      obtain ⟨hk, hl, hP, hD, hS⟩ := hI
      refine lv_iload hx hb dX3_box_38 (lv_at hl 5 rfl) ?_
      refine lv_aload_n hx hb dX3_box_40 rfl (lv_at hl 0 rfl) ?_
      refine va_get (D := (dC, dI)) (ci := 3) (v := .int (nI mn)) (C := RX3) (T := TX3) (N := 17) hx hb hT inX3 hown hK hP 0 rfl rfl 1 (by decide) (hT _ tw_fl_X3_59) (fun _ h9 => h9) rfl dX3_box_41 ?_
      refine ps_icmp_ge (tgt := 156) (a := k) (b := mn) hx hb dX3_box_44 rfl (by omega) (by omega) (fun h44 => ?_) (fun h44 => ?_)
      · skip
        have ek : k = mn := by omega
        rw [ek] at hP hD
        refine lv_aload_n hx hb dX3_box_156 rfl (lv_at hl 0 rfl) ?_
        refine va_get (D := (dC, dI)) (ci := 3) (v := .int (nI ((ps_bx f (ps_mb f co (ps_pk x y z) d) (f 9) mn).1))) (C := RX3) (T := TX3) (N := 17) hx hb hT inX3 hown hK hP 0 rfl rfl 13 (by decide) (hT _ tw_fl_X3_99) (fun _ h9 => h9) rfl dX3_box_157 ?_
        exact W.iret (v := nI ((ps_bx f (ps_mb f co (ps_pk x y z) d) (f 9) mn).1)) hx hb hr (fun t ht hW => ⟨⟨nI ((ps_bx f (ps_mb f co (ps_pk x y z) d) (f 9) mn).1), (), rfl, rfl, by rw [ht]; exact hP, va_K.moved hW.alike hK, hD⟩, hS.F ht⟩) hS.2.2 dX3_box_160
      · skip
        refine lv_aload_n hx hb dX3_box_47 rfl (lv_at hl 0 rfl) ?_
        refine lv_iload hx hb dX3_box_48 (lv_at hl 5 rfl) ?_
        refine lv_iload_n hx hb dX3_box_50 rfl (lv_at hl 1 rfl) ?_
        refine lv_iload_n hx hb dX3_box_51 rfl (lv_at hl 2 rfl) ?_
        refine lv_iload_n hx hb dX3_box_52 rfl (lv_at hl 3 rfl) ?_
        refine vp_callSi (va_Run.run (va_runS (As := [.int x, .int y, .int z]) (rest := [.int (nI k), .ref w0]) ⟨hx, hb, hml, hown, hT⟩ (mX3_packed l x y z) (va_cwS 3 hT (ps_gS tw_ml_X3_86 tw_st_X3_packed tw_in_X3 tw_co_X3_packed) rfl rfl rfl ⟨by decide, by decide, by decide +kernel⟩ ⟨Nat.le_of_ble_eq_true rfl, Nat.le_of_ble_eq_true rfl⟩) preEq rfl rfl hl.1 rfl (lv_room (Nat.le_of_ble_eq_true rfl)) dX3_box_53 ⟨Nat.le_of_ble_eq_true rfl, Nat.le_of_ble_eq_true rfl⟩)) (fun r hr => ?_)
        obtain rfl : r = ps_pk x y z := hr
        refine vp_callSi (va_Run.run (va_runV (C := RX3) (As := [.int (nI k), .int (ps_pk x y z)]) (rest := []) ⟨hx, hb, hml, hown, hT⟩ (mX3_isIn l dC dI cI cZ w0 b0 0 mn kn co ((ps_bx f (ps_mb f co (ps_pk x y z) d) (f 9) k).1) wr lt (va_up f 9 ((ps_bx f (ps_mb f co (ps_pk x y z) d) (f 9) k).2)) k (by omega) (ps_pk x y z)) (cwV 2 hT (ps_gV tw_ml_X3_102 tw_im_X3_isIn tw_se_X3_isIn tw_in_X3 tw_co_X3_isIn) rfl rfl rfl ⟨rfl, by decide, by decide, by decide +kernel⟩ ⟨Nat.le_of_ble_eq_true rfl, Nat.le_of_ble_eq_true rfl⟩) (ps_preV (ci := 3) (q0 := 0) hN hP hK rfl rfl) rfl rfl hl.1 rfl (lv_room (Nat.le_of_ble_eq_true rfl)) dX3_box_56 ⟨Nat.le_of_ble_eq_true rfl, Nat.le_of_ble_eq_true rfl⟩)) (fun r hr => ?_)
        obtain rfl : r = ps_bi (ps_all (ps_iq (va_up f 9 ((ps_bx f (ps_mb f co (ps_pk x y z) d) (f 9) k).2)) co (ps_pk x y z) k) 3) := hr
        refine ps_ifb_eq (tgt := 150) hx hb dX3_box_59 rfl (fun h59 => ?_) (fun h59 => ?_)
        · skip
          have h59 : ps_all (ps_iq f co (ps_pk x y z) k) 3 = false := h59
          have hc : ps_mb f co (ps_pk x y z) d k = false := by simp [ps_mb, h59]
          rw [← ps_bx_f (g := f) (lh := f 9) hc] at hP hD
          refine lv_iinc (k := 5) (v := nI (k + 1)) (lv' := [(5, .int (nI (k + 1))), (0, .ref w0), (1, .int x), (2, .int y), (3, .int z), (4, .int d)]) hx hb dX3_box_150 hl rfl (ps_inc _) (by decide) rfl (fun ls hl => ?_)
          refine lv_goto (tgt := 38) hx hb dX3_box_153 rfl ?_
          try rw [show (ps_bx f (ps_mb f co (ps_pk x y z) d) (f 9) k).1 + 1 = (ps_bx f (ps_mb f co (ps_pk x y z) d) (f 9) (k + 1)).1 by rw [ps_bx_t hc], show ps_li (f 0 k) (ps_bx f (ps_mb f co (ps_pk x y z) d) (f 9) k).1 (ps_bx f (ps_mb f co (ps_pk x y z) d) (f 9) k).2 = (ps_bx f (ps_mb f co (ps_pk x y z) d) (f 9) (k + 1)).2 by rw [ps_bx_t hc]] at hP hD
          exact ih38 ((k + 1)) ls _ _ (by omega) ⟨by omega, lv_sub hl [1, 2, 3, 4, 5, 0] rfl, hP, hD, hS⟩
        · skip
          refine lv_aload_n hx hb dX3_box_62 rfl (lv_at hl 0 rfl) ?_
          refine va_get (D := (dC, dI)) (ci := 3) (v := .ref (b0 3)) (C := RX3) (T := TX3) (N := 17) hx hb hT inX3 hown hK hP 0 rfl rfl 5 (by decide) (hT _ tw_fl_X3_19) (fun _ h9 => h9) rfl dX3_box_63 ?_
          refine lv_iload hx hb dX3_box_66 (lv_at hl 5 rfl) ?_
          refine ps_iald (k := k) (f := f 3) hx hb hK hP 4 0 rfl rfl (by omega) (by decide) dX3_box_68 ?_
          refine lv_iload hx hb dX3_box_69 (lv_at hl 4 rfl) ?_
          refine lv_icmp_gt (tgt := 150) hx hb dX3_box_71 rfl (fun h71 => ?_) (fun h71 => ?_)
          · skip
            have h71 : d < f 3 k := h71
            have hc : ps_mb f co (ps_pk x y z) d k = false := by simp [ps_mb, h71]
            rw [← ps_bx_f (g := f) (lh := f 9) hc] at hP hD
            refine lv_iinc (k := 5) (v := nI (k + 1)) (lv' := [(5, .int (nI (k + 1))), (0, .ref w0), (1, .int x), (2, .int y), (3, .int z), (4, .int d)]) hx hb dX3_box_150 hl rfl (ps_inc _) (by decide) rfl (fun ls hl => ?_)
            refine lv_goto (tgt := 38) hx hb dX3_box_153 rfl ?_
            try rw [show (ps_bx f (ps_mb f co (ps_pk x y z) d) (f 9) k).1 + 1 = (ps_bx f (ps_mb f co (ps_pk x y z) d) (f 9) (k + 1)).1 by rw [ps_bx_t hc], show ps_li (f 0 k) (ps_bx f (ps_mb f co (ps_pk x y z) d) (f 9) k).1 (ps_bx f (ps_mb f co (ps_pk x y z) d) (f 9) k).2 = (ps_bx f (ps_mb f co (ps_pk x y z) d) (f 9) (k + 1)).2 by rw [ps_bx_t hc]] at hP hD
            exact ih38 ((k + 1)) ls _ _ (by omega) ⟨by omega, lv_sub hl [1, 2, 3, 4, 5, 0] rfl, hP, hD, hS⟩
          · skip
            have h59 : ps_all (ps_iq f co (ps_pk x y z) k) 3 = true := h59
            have hc : ps_mb f co (ps_pk x y z) d k = true := by simp [ps_mb, h59, Int32.not_lt.mp h71]
            have hle := ps_bx_le f (ps_mb f co (ps_pk x y z) d) (f 9) k
            refine lv_aload_n hx hb dX3_box_74 rfl (lv_at hl 0 rfl) ?_
            refine va_get (D := (dC, dI)) (ci := 3) (v := .int (nI ((ps_bx f (ps_mb f co (ps_pk x y z) d) (f 9) k).1))) (C := RX3) (T := TX3) (N := 17) hx hb hT inX3 hown hK hP 0 rfl rfl 13 (by decide) (hT _ tw_fl_X3_99) (fun _ h9 => h9) rfl dX3_box_75 ?_
            refine lv_istore (lv' := [(6, .int (nI ((ps_bx f (ps_mb f co (ps_pk x y z) d) (f 9) k).1))), (0, .ref w0), (1, .int x), (2, .int y), (3, .int z), (4, .int d), (5, .int (nI k))]) hx hb dX3_box_78 hl (by decide) rfl (fun ls hl => ?_)
            refine ps_loopQ (α := Nat × (Nat → Int32)) (fun z9 => z9.1) (fun z9 ls H locs => (z9.1 ≤ (ps_bx f (ps_mb f co (ps_pk x y z) d) (f 9) k).1) ∧ (ps_li (f 0 k) z9.1 z9.2 = ps_li (f 0 k) (ps_bx f (ps_mb f co (ps_pk x y z) d) (f 9) k).1 (ps_bx f (ps_mb f co (ps_pk x y z) d) (f 9) k).2) ∧ lv_has ls 7 [(0, .ref w0), (1, .int x), (2, .int y), (3, .int z), (4, .int d), (5, .int (nI k)), (6, .int (nI z9.1))] ∧ va_P (dC, dI) vwCl (ps_mdW cI cZ w0 b0 0 mn kn co ((ps_bx f (ps_mb f co (ps_pk x y z) d) (f 9) k).1) wr lt (va_up f 9 z9.2)) H ∧ va_D A (ps_mdW cI cZ w0 b0 0 mn kn co ((ps_bx f (ps_mb f co (ps_pk x y z) d) (f 9) k).1) wr lt (va_up f 9 z9.2)) ∧ va_S A s.heap H locs) ?_ (((ps_bx f (ps_mb f co (ps_pk x y z) d) (f 9) k).1, (ps_bx f (ps_mb f co (ps_pk x y z) d) (f 9) k).2)) ls _ _ ⟨Nat.le_refl _, rfl, lv_sub hl [1, 2, 3, 4, 5, 6, 0] rfl, hP, hD, hS⟩
            intro z9 ls H locs ih80 hI
            obtain ⟨hat, he, hl, hP, hD, hS⟩ := hI
            refine lv_iload hx hb dX3_box_80 (lv_at hl 6 rfl) ?_
            refine ps_if_le (tgt := 126) (a := z9.1) hx hb dX3_box_82 rfl (by omega) (fun h82 => ?_) (fun h82 => ?_)
            · skip
              have he : upd z9.2 z9.1 (f 0 k) = ps_li (f 0 k) (ps_bx f (ps_mb f co (ps_pk x y z) d) (f 9) k).1 (ps_bx f (ps_mb f co (ps_pk x y z) d) (f 9) k).2 := by rw [← he, show z9.1 = 0 by omega]; rfl
              refine lv_aload_n hx hb dX3_box_126 rfl (lv_at hl 0 rfl) ?_
              refine va_get (D := (dC, dI)) (ci := 3) (v := .ref (b0 9)) (C := RX3) (T := TX3) (N := 17) hx hb hT inX3 hown hK hP 0 rfl rfl 14 (by decide) (hT _ tw_fl_X3_38) (fun _ h9 => h9) rfl dX3_box_127 ?_
              refine lv_iload hx hb dX3_box_130 (lv_at hl 6 rfl) ?_
              refine lv_aload_n hx hb dX3_box_132 rfl (lv_at hl 0 rfl) ?_
              refine va_get (D := (dC, dI)) (ci := 3) (v := .ref (b0 0)) (C := RX3) (T := TX3) (N := 17) hx hb hT inX3 hown hK hP 0 rfl rfl 2 (by decide) (hT _ tw_fl_X3_7) (fun _ h9 => h9) rfl dX3_box_133 ?_
              refine lv_iload hx hb dX3_box_136 (lv_at hl 5 rfl) ?_
              refine ps_iald (k := k) (f := f 0) hx hb hK hP 1 0 rfl rfl (by omega) (by decide) dX3_box_138 ?_
              refine ps_iast (k := z9.1) hx hb hK hP hD hS 10 0 rfl rfl (by omega) (by decide) dX3_box_139 (fun H locs hP hD hS => ?_)
              have hP : va_P (dC, dI) vwCl (ps_mdW cI cZ w0 b0 0 mn kn co ((ps_bx f (ps_mb f co (ps_pk x y z) d) (f 9) k).1) wr lt (va_up f 9 (upd z9.2 z9.1 (f 0 k)))) H := hP
              have hD : va_D A (ps_mdW cI cZ w0 b0 0 mn kn co ((ps_bx f (ps_mb f co (ps_pk x y z) d) (f 9) k).1) wr lt (va_up f 9 (upd z9.2 z9.1 (f 0 k)))) := hD
              rw [he] at hP hD
              refine lv_aload_n hx hb dX3_box_140 rfl (lv_at hl 0 rfl) ?_
              refine lv_dup hx hb dX3_box_141 rfl ?_
              refine va_get (D := (dC, dI)) (ci := 3) (v := .int (nI ((ps_bx f (ps_mb f co (ps_pk x y z) d) (f 9) k).1))) (C := RX3) (T := TX3) (N := 17) hx hb hT inX3 hown hK hP 0 rfl rfl 13 (by decide) (hT _ tw_fl_X3_99) (fun _ h9 => h9) rfl dX3_box_142 ?_
              refine lv_iconst (v := 1) hx hb dX3_box_145 (by decide) ?_
              refine lv_iadd hx hb dX3_box_146 ?_
              rw [nI_1]
              refine va_put (D := (dC, dI)) (ci := 3) (v := .int (nI (((ps_bx f (ps_mb f co (ps_pk x y z) d) (f 9) k).1) + 1))) (ty := .int) (C := RX3) (T := TX3) (N := 17) hx hb hT inX3 tyX3 tyX3_ok nmX3 hown hK hP hD hS 0 rfl rfl 13 (by decide) (hT _ tw_fl_X3_99) (fun _ h9 => h9) rfl (by decide +kernel) rfl rfl (Nat.le_of_ble_eq_true rfl) dX3_box_147 (fun H locs hP hD hS => ?_)
              have hP : va_P (dC, dI) vwCl (ps_mdW cI cZ w0 b0 0 mn kn co (((ps_bx f (ps_mb f co (ps_pk x y z) d) (f 9) k).1) + 1) wr lt (va_up f 9 (ps_li (f 0 k) (ps_bx f (ps_mb f co (ps_pk x y z) d) (f 9) k).1 (ps_bx f (ps_mb f co (ps_pk x y z) d) (f 9) k).2))) H := hP
              have hD : va_D A (ps_mdW cI cZ w0 b0 0 mn kn co (((ps_bx f (ps_mb f co (ps_pk x y z) d) (f 9) k).1) + 1) wr lt (va_up f 9 (ps_li (f 0 k) (ps_bx f (ps_mb f co (ps_pk x y z) d) (f 9) k).1 (ps_bx f (ps_mb f co (ps_pk x y z) d) (f 9) k).2))) := hD
              refine lv_iinc (k := 5) (v := nI (k + 1)) (lv' := [(5, .int (nI (k + 1))), (0, .ref w0), (1, .int x), (2, .int y), (3, .int z), (4, .int d), (6, .int (nI z9.1))]) hx hb dX3_box_150 hl rfl (ps_inc _) (by decide) rfl (fun ls hl => ?_)
              refine lv_goto (tgt := 38) hx hb dX3_box_153 rfl ?_
              try rw [show (ps_bx f (ps_mb f co (ps_pk x y z) d) (f 9) k).1 + 1 = (ps_bx f (ps_mb f co (ps_pk x y z) d) (f 9) (k + 1)).1 by rw [ps_bx_t hc], show ps_li (f 0 k) (ps_bx f (ps_mb f co (ps_pk x y z) d) (f 9) k).1 (ps_bx f (ps_mb f co (ps_pk x y z) d) (f 9) k).2 = (ps_bx f (ps_mb f co (ps_pk x y z) d) (f 9) (k + 1)).2 by rw [ps_bx_t hc]] at hP hD
              exact ih38 ((k + 1)) ls _ _ (by omega) ⟨by omega, lv_sub hl [1, 2, 3, 4, 5, 0] rfl, hP, hD, hS⟩
            · skip
              refine lv_aload_n hx hb dX3_box_85 rfl (lv_at hl 0 rfl) ?_
              refine va_get (D := (dC, dI)) (ci := 3) (v := .ref (b0 9)) (C := RX3) (T := TX3) (N := 17) hx hb hT inX3 hown hK hP 0 rfl rfl 14 (by decide) (hT _ tw_fl_X3_38) (fun _ h9 => h9) rfl dX3_box_86 ?_
              refine lv_iload hx hb dX3_box_89 (lv_at hl 6 rfl) ?_
              refine lv_iconst (v := 1) hx hb dX3_box_91 (by decide) ?_
              refine lv_isub hx hb dX3_box_92 ?_
              refine lv_topi (fun y9 hy9 => ?_)
              obtain rfl : y9 = nI (z9.1 - 1) := hy9.trans (ps_dec h82)
              refine ps_iald (k := z9.1 - 1) (f := z9.2) hx hb hK hP 10 0 rfl rfl (by omega) (by decide) dX3_box_93 ?_
              refine lv_aload_n hx hb dX3_box_94 rfl (lv_at hl 0 rfl) ?_
              refine va_get (D := (dC, dI)) (ci := 3) (v := .ref (b0 0)) (C := RX3) (T := TX3) (N := 17) hx hb hT inX3 hown hK hP 0 rfl rfl 2 (by decide) (hT _ tw_fl_X3_7) (fun _ h9 => h9) rfl dX3_box_95 ?_
              refine lv_iload hx hb dX3_box_98 (lv_at hl 5 rfl) ?_
              refine ps_iald (k := k) (f := f 0) hx hb hK hP 1 0 rfl rfl (by omega) (by decide) dX3_box_100 ?_
              refine lv_icmp_le (tgt := 126) hx hb dX3_box_101 rfl (fun h101 => ?_) (fun h101 => ?_)
              · skip
                have he : upd z9.2 z9.1 (f 0 k) = ps_li (f 0 k) (ps_bx f (ps_mb f co (ps_pk x y z) d) (f 9) k).1 (ps_bx f (ps_mb f co (ps_pk x y z) d) (f 9) k).2 := ps_li_e1 h82 (Int32.not_lt.mpr h101) he
                refine lv_aload_n hx hb dX3_box_126 rfl (lv_at hl 0 rfl) ?_
                refine va_get (D := (dC, dI)) (ci := 3) (v := .ref (b0 9)) (C := RX3) (T := TX3) (N := 17) hx hb hT inX3 hown hK hP 0 rfl rfl 14 (by decide) (hT _ tw_fl_X3_38) (fun _ h9 => h9) rfl dX3_box_127 ?_
                refine lv_iload hx hb dX3_box_130 (lv_at hl 6 rfl) ?_
                refine lv_aload_n hx hb dX3_box_132 rfl (lv_at hl 0 rfl) ?_
                refine va_get (D := (dC, dI)) (ci := 3) (v := .ref (b0 0)) (C := RX3) (T := TX3) (N := 17) hx hb hT inX3 hown hK hP 0 rfl rfl 2 (by decide) (hT _ tw_fl_X3_7) (fun _ h9 => h9) rfl dX3_box_133 ?_
                refine lv_iload hx hb dX3_box_136 (lv_at hl 5 rfl) ?_
                refine ps_iald (k := k) (f := f 0) hx hb hK hP 1 0 rfl rfl (by omega) (by decide) dX3_box_138 ?_
                refine ps_iast (k := z9.1) hx hb hK hP hD hS 10 0 rfl rfl (by omega) (by decide) dX3_box_139 (fun H locs hP hD hS => ?_)
                have hP : va_P (dC, dI) vwCl (ps_mdW cI cZ w0 b0 0 mn kn co ((ps_bx f (ps_mb f co (ps_pk x y z) d) (f 9) k).1) wr lt (va_up f 9 (upd z9.2 z9.1 (f 0 k)))) H := hP
                have hD : va_D A (ps_mdW cI cZ w0 b0 0 mn kn co ((ps_bx f (ps_mb f co (ps_pk x y z) d) (f 9) k).1) wr lt (va_up f 9 (upd z9.2 z9.1 (f 0 k)))) := hD
                rw [he] at hP hD
                refine lv_aload_n hx hb dX3_box_140 rfl (lv_at hl 0 rfl) ?_
                refine lv_dup hx hb dX3_box_141 rfl ?_
                refine va_get (D := (dC, dI)) (ci := 3) (v := .int (nI ((ps_bx f (ps_mb f co (ps_pk x y z) d) (f 9) k).1))) (C := RX3) (T := TX3) (N := 17) hx hb hT inX3 hown hK hP 0 rfl rfl 13 (by decide) (hT _ tw_fl_X3_99) (fun _ h9 => h9) rfl dX3_box_142 ?_
                refine lv_iconst (v := 1) hx hb dX3_box_145 (by decide) ?_
                refine lv_iadd hx hb dX3_box_146 ?_
                rw [nI_1]
                refine va_put (D := (dC, dI)) (ci := 3) (v := .int (nI (((ps_bx f (ps_mb f co (ps_pk x y z) d) (f 9) k).1) + 1))) (ty := .int) (C := RX3) (T := TX3) (N := 17) hx hb hT inX3 tyX3 tyX3_ok nmX3 hown hK hP hD hS 0 rfl rfl 13 (by decide) (hT _ tw_fl_X3_99) (fun _ h9 => h9) rfl (by decide +kernel) rfl rfl (Nat.le_of_ble_eq_true rfl) dX3_box_147 (fun H locs hP hD hS => ?_)
                have hP : va_P (dC, dI) vwCl (ps_mdW cI cZ w0 b0 0 mn kn co (((ps_bx f (ps_mb f co (ps_pk x y z) d) (f 9) k).1) + 1) wr lt (va_up f 9 (ps_li (f 0 k) (ps_bx f (ps_mb f co (ps_pk x y z) d) (f 9) k).1 (ps_bx f (ps_mb f co (ps_pk x y z) d) (f 9) k).2))) H := hP
                have hD : va_D A (ps_mdW cI cZ w0 b0 0 mn kn co (((ps_bx f (ps_mb f co (ps_pk x y z) d) (f 9) k).1) + 1) wr lt (va_up f 9 (ps_li (f 0 k) (ps_bx f (ps_mb f co (ps_pk x y z) d) (f 9) k).1 (ps_bx f (ps_mb f co (ps_pk x y z) d) (f 9) k).2))) := hD
                refine lv_iinc (k := 5) (v := nI (k + 1)) (lv' := [(5, .int (nI (k + 1))), (0, .ref w0), (1, .int x), (2, .int y), (3, .int z), (4, .int d), (6, .int (nI z9.1))]) hx hb dX3_box_150 hl rfl (ps_inc _) (by decide) rfl (fun ls hl => ?_)
                refine lv_goto (tgt := 38) hx hb dX3_box_153 rfl ?_
                try rw [show (ps_bx f (ps_mb f co (ps_pk x y z) d) (f 9) k).1 + 1 = (ps_bx f (ps_mb f co (ps_pk x y z) d) (f 9) (k + 1)).1 by rw [ps_bx_t hc], show ps_li (f 0 k) (ps_bx f (ps_mb f co (ps_pk x y z) d) (f 9) k).1 (ps_bx f (ps_mb f co (ps_pk x y z) d) (f 9) k).2 = (ps_bx f (ps_mb f co (ps_pk x y z) d) (f 9) (k + 1)).2 by rw [ps_bx_t hc]] at hP hD
                exact ih38 ((k + 1)) ls _ _ (by omega) ⟨by omega, lv_sub hl [1, 2, 3, 4, 5, 0] rfl, hP, hD, hS⟩
              · skip
                have he := ps_li_e2 h82 (Int32.not_le.mp h101) he
                refine lv_aload_n hx hb dX3_box_104 rfl (lv_at hl 0 rfl) ?_
                refine va_get (D := (dC, dI)) (ci := 3) (v := .ref (b0 9)) (C := RX3) (T := TX3) (N := 17) hx hb hT inX3 hown hK hP 0 rfl rfl 14 (by decide) (hT _ tw_fl_X3_38) (fun _ h9 => h9) rfl dX3_box_105 ?_
                refine lv_iload hx hb dX3_box_108 (lv_at hl 6 rfl) ?_
                refine lv_aload_n hx hb dX3_box_110 rfl (lv_at hl 0 rfl) ?_
                refine va_get (D := (dC, dI)) (ci := 3) (v := .ref (b0 9)) (C := RX3) (T := TX3) (N := 17) hx hb hT inX3 hown hK hP 0 rfl rfl 14 (by decide) (hT _ tw_fl_X3_38) (fun _ h9 => h9) rfl dX3_box_111 ?_
                refine lv_iload hx hb dX3_box_114 (lv_at hl 6 rfl) ?_
                refine lv_iconst (v := 1) hx hb dX3_box_116 (by decide) ?_
                refine lv_isub hx hb dX3_box_117 ?_
                refine lv_topi (fun y9 hy9 => ?_)
                obtain rfl : y9 = nI (z9.1 - 1) := hy9.trans (ps_dec h82)
                refine ps_iald (k := z9.1 - 1) (f := z9.2) hx hb hK hP 10 0 rfl rfl (by omega) (by decide) dX3_box_118 ?_
                refine ps_iast (k := z9.1) hx hb hK hP hD hS 10 0 rfl rfl (by omega) (by decide) dX3_box_119 (fun H locs hP hD hS => ?_)
                have hP : va_P (dC, dI) vwCl (ps_mdW cI cZ w0 b0 0 mn kn co ((ps_bx f (ps_mb f co (ps_pk x y z) d) (f 9) k).1) wr lt (va_up f 9 (upd z9.2 z9.1 (z9.2 (z9.1 - 1))))) H := hP
                have hD : va_D A (ps_mdW cI cZ w0 b0 0 mn kn co ((ps_bx f (ps_mb f co (ps_pk x y z) d) (f 9) k).1) wr lt (va_up f 9 (upd z9.2 z9.1 (z9.2 (z9.1 - 1))))) := hD
                refine lv_iinc (k := 6) (v := nI (z9.1 - 1)) (lv' := [(6, .int (nI (z9.1 - 1))), (0, .ref w0), (1, .int x), (2, .int y), (3, .int z), (4, .int d), (5, .int (nI k))]) hx hb dX3_box_120 hl rfl (ps_decI h82) (by decide) rfl (fun ls hl => ?_)
                refine lv_goto (tgt := 80) hx hb dX3_box_123 rfl ?_
                exact ih80 ((z9.1 - 1, upd z9.2 z9.1 (z9.2 (z9.1 - 1)))) ls _ _ (by show z9.1 - 1 < z9.1; omega) ⟨by show z9.1 - 1 ≤ (ps_bx f (ps_mb f co (ps_pk x y z) d) (f 9) k).1; omega, he, lv_sub hl [1, 2, 3, 4, 5, 6, 0] rfl, hP, hD, hS⟩
    · skip
      exact Bool.noConfusion (hde.symm.trans h21)
set_option maxHeartbeats 4000000 in
set_option maxRecDepth 100000 in
theorem mX3_box_1 (l : Launch) (dC : Nat → ClassId) (dI : Nat → Nat → Nat) (cI cZ : ClassId) (w0 : Nat) (b0 : Nat → Nat) (th : Int32) (mn kn : Nat) (co : Int32) (ln : Nat) (wr lt : Int32) (f : ps_G) (x y z : Int32) (d : Int32) (hbad : ps_ip x y z = true → ps_inr d 0 4 = false) (sz : Nat) : Met l yX3_box (.code yX3_box cX3_box 7 (some .int) :: ps_T) ({ frames := 2, cells := 0, slots := 0, locals := 44 }) (ps_qc (dC, dI) (ps_ty cI cZ) (ps_mdW cI cZ w0 b0 th mn kn co ln wr lt f) sz [.ref w0, .int x, .int y, .int z, .int d]) (va_Qi (fun (r : Int32) (_ : Unit) => r = 0) (ps_qB (dC, dI) (ps_ty cI cZ) (va_A (ps_mdW cI cZ w0 b0 th mn kn co ln wr lt f) sz) (ps_mdW cI cZ w0 b0 1 mn kn co ln wr lt f)) (va_A (ps_mdW cI cZ w0 b0 th mn kn co ln wr lt f) sz)) 0 0 (va_A (ps_mdW cI cZ w0 b0 th mn kn co ln wr lt f) sz) := by
  refine Met.ofW (cc := cX3_box) (maxL := 7) (ret := (some .int)) (by decide) rfl ?_
  intro p e s m args below meth c s₁ B hml hv
  obtain ⟨rfl, hsz, hN, hP, hK, hD0⟩ := hv
  have hx := B.exec
  have hb := B.bytes
  have hr := B.returns
  have hlocks := B.notSynchronized
  have hT : ∀ w ∈ ps_T, w.before ([.ref w0, .int x, .int y, .int z, .int d] : List Value).toArray s = true := fun w h => atoms_spec (ws := (.code yX3_box cX3_box 7 (some .int) :: ps_T)) B.pre w (List.mem_cons_of_mem _ h)
  have hown : s.vm.findClass RX3 = some m.cls := findClass_of_methodNamed B.named
  subst hsz
  have hD := hD0.self (sz := s.heap.size)
  generalize hAe : va_A (ps_mdW cI cZ w0 b0 th mn kn co ln wr lt f) s.heap.size = A at hD ⊢
  have hA : ∀ q : Nat, s.heap.size ≤ q → A q := fun q h => by rw [← hAe]; exact Or.inr h
  have hS : va_S A s.heap s.heap [] := va_S.rf
  have hl := lv_entry ([.ref w0, .int x, .int y, .int z, .int d]) (n := 7) (Nat.le_of_ble_eq_true rfl)
  rw [lg_entry_eq]
  generalize (lg_sl ([.ref w0, .int x, .int y, .int z, .int d]) ++ List.replicate (7 - (lg_sl ([.ref w0, .int x, .int y, .int z, .int d])).length) Slot.unset).toArray = ls at hl ⊢
  have hl : lv_has ls 7 [(0, .ref w0), (1, .int x), (2, .int y), (3, .int z), (4, .int d)] := hl
  refine lv_aload_n hx hb dX3_box_0 rfl (lv_at hl 0 rfl) ?_
  refine lv_iconst (v := 0) hx hb dX3_box_1 (by decide) ?_
  refine va_put (D := (dC, dI)) (ci := 3) (v := .int 0) (ty := .int) (C := RX3) (T := TX3) (N := 17) hx hb hT inX3 tyX3 tyX3_ok nmX3 hown hK hP hD hS 0 rfl rfl 0 (by decide) (hT _ tw_fl_X3_45) (fun _ h9 => h9) rfl (by decide +kernel) rfl rfl (Nat.le_of_ble_eq_true rfl) dX3_box_2 (fun H locs hP hD hS => ?_)
  have hP : va_P (dC, dI) vwCl (ps_mdW cI cZ w0 b0 0 mn kn co ln wr lt f) H := hP
  have hD : va_D A (ps_mdW cI cZ w0 b0 0 mn kn co ln wr lt f) := hD
  refine lv_iload_n hx hb dX3_box_5 rfl (lv_at hl 1 rfl) ?_
  refine lv_iload_n hx hb dX3_box_6 rfl (lv_at hl 2 rfl) ?_
  refine lv_iload_n hx hb dX3_box_7 rfl (lv_at hl 3 rfl) ?_
  refine vp_callSi (va_Run.run (va_runS (As := [.int x, .int y, .int z]) (rest := []) ⟨hx, hb, hml, hown, hT⟩ (mX3_isPlace l x y z) (va_cwS 3 hT (ps_gS tw_ml_X3_76 tw_st_X3_isPlace tw_in_X3 tw_co_X3_isPlace) rfl rfl rfl ⟨by decide, by decide, by decide +kernel⟩ ⟨Nat.le_of_ble_eq_true rfl, Nat.le_of_ble_eq_true rfl⟩) preEq rfl rfl hl.1 rfl (lv_room (Nat.le_of_ble_eq_true rfl)) dX3_box_8 ⟨Nat.le_of_ble_eq_true rfl, Nat.le_of_ble_eq_true rfl⟩)) (fun r hr => ?_)
  obtain rfl : r = ps_bi (ps_ip x y z) := hr
  refine ps_ifb_eq (tgt := 24) hx hb dX3_box_11 rfl (fun h11 => ?_) (fun h11 => ?_)
  · skip
    refine lv_aload_n hx hb dX3_box_24 rfl (lv_at hl 0 rfl) ?_
    refine lv_iconst (v := 1) hx hb dX3_box_25 (by decide) ?_
    refine ps_cqi (wc := ps_mdW cI cZ w0 b0 0 mn kn co ln wr lt f) (wr := []) (w1 := ps_mdW cI cZ w0 b0 1 mn kn co ln wr lt f) (ws2 := ps_mdW cI cZ w0 b0 1 mn kn co ln wr lt f) (va_runV (C := RX3) (As := [.int 1]) (rest := []) ⟨hx, hb, hml, hown, hT⟩ (mX3_fails l dC dI cI cZ w0 b0 0 mn kn co ln wr lt f 1 _) (cwV 1 hT (ps_gV tw_ml_X3_79 tw_im_X3_fails tw_se_X3_fails tw_in_X3 tw_co_X3_fails) rfl rfl rfl ⟨rfl, by decide, by decide, by decide +kernel⟩ ⟨Nat.le_of_ble_eq_true rfl, Nat.le_of_ble_eq_true rfl⟩) (ps_qreV (wc := ps_mdW cI cZ w0 b0 0 mn kn co ln wr lt f) (ci := 3) [0, 1, 2, 3, 4, 5, 6, 7, 8, 9, 10] hN hP hK hD rfl rfl rfl rfl rfl) rfl rfl hl.1 rfl (lv_room (Nat.le_of_ble_eq_true rfl)) dX3_box_26 ⟨Nat.le_of_ble_eq_true rfl, Nat.le_of_ble_eq_true rfl⟩) hS hA hP hD [0, 1, 2, 3, 4, 5, 6, 7, 8, 9, 10] [] [0, 1, 2, 3, 4, 5, 6, 7, 8, 9, 10] rfl rfl rfl (by decide) rfl rfl rfl (fun H locs hP hD hS => ?_)
    exact W.iret (v := 0) hx hb hr (fun t ht hW => ⟨⟨0, (), rfl, rfl, by rw [ht]; exact hP, va_K.moved hW.alike hK, hD⟩, hS.F ht⟩) hS.2.2 dX3_box_29
  · skip
    refine lv_iload hx hb dX3_box_14 (lv_at hl 4 rfl) ?_
    refine lv_iconst (v := 0) hx hb dX3_box_16 (by decide) ?_
    refine lv_iconst (v := 4) hx hb dX3_box_17 (by decide) ?_
    refine vp_callSi (va_Run.run (va_runS (As := [.int d, .int 0, .int 4]) (rest := []) ⟨hx, hb, hml, hown, hT⟩ (mX3_in l d 0 4) (va_cwS 3 hT (ps_gS tw_ml_X3_48 tw_st_X3_in tw_in_X3 tw_co_X3_in) rfl rfl rfl ⟨by decide, by decide, by decide +kernel⟩ ⟨Nat.le_of_ble_eq_true rfl, Nat.le_of_ble_eq_true rfl⟩) preEq rfl rfl hl.1 rfl (lv_room (Nat.le_of_ble_eq_true rfl)) dX3_box_18 ⟨Nat.le_of_ble_eq_true rfl, Nat.le_of_ble_eq_true rfl⟩)) (fun r hr => ?_)
    obtain rfl : r = ps_bi (ps_inr d 0 4) := hr
    refine ps_ifb_ne (tgt := 30) hx hb dX3_box_21 rfl (fun h21 => ?_) (fun h21 => ?_)
    · skip
      exact Bool.noConfusion ((hbad h11).symm.trans h21)
    · skip
      refine lv_aload_n hx hb dX3_box_24 rfl (lv_at hl 0 rfl) ?_
      refine lv_iconst (v := 1) hx hb dX3_box_25 (by decide) ?_
      refine ps_cqi (wc := ps_mdW cI cZ w0 b0 0 mn kn co ln wr lt f) (wr := []) (w1 := ps_mdW cI cZ w0 b0 1 mn kn co ln wr lt f) (ws2 := ps_mdW cI cZ w0 b0 1 mn kn co ln wr lt f) (va_runV (C := RX3) (As := [.int 1]) (rest := []) ⟨hx, hb, hml, hown, hT⟩ (mX3_fails l dC dI cI cZ w0 b0 0 mn kn co ln wr lt f 1 _) (cwV 1 hT (ps_gV tw_ml_X3_79 tw_im_X3_fails tw_se_X3_fails tw_in_X3 tw_co_X3_fails) rfl rfl rfl ⟨rfl, by decide, by decide, by decide +kernel⟩ ⟨Nat.le_of_ble_eq_true rfl, Nat.le_of_ble_eq_true rfl⟩) (ps_qreV (wc := ps_mdW cI cZ w0 b0 0 mn kn co ln wr lt f) (ci := 3) [0, 1, 2, 3, 4, 5, 6, 7, 8, 9, 10] hN hP hK hD rfl rfl rfl rfl rfl) rfl rfl hl.1 rfl (lv_room (Nat.le_of_ble_eq_true rfl)) dX3_box_26 ⟨Nat.le_of_ble_eq_true rfl, Nat.le_of_ble_eq_true rfl⟩) hS hA hP hD [0, 1, 2, 3, 4, 5, 6, 7, 8, 9, 10] [] [0, 1, 2, 3, 4, 5, 6, 7, 8, 9, 10] rfl rfl rfl (by decide) rfl rfl rfl (fun H locs hP hD hS => ?_)
      exact W.iret (v := 0) hx hb hr (fun t ht hW => ⟨⟨0, (), rfl, rfl, by rw [ht]; exact hP, va_K.moved hW.alike hK, hD⟩, hS.F ht⟩) hS.2.2 dX3_box_29
set_option maxHeartbeats 4000000 in
set_option maxRecDepth 100000 in
theorem mX3_next_n (l : Launch) (dC : Nat → ClassId) (dI : Nat → Nat → Nat) (cI cZ : ClassId) (w0 : Nat) (b0 : Nat → Nat) (th : Int32) (mn kn : Nat) (co : Int32) (ln : Nat) (wr lt : Int32) (f : ps_G) (hln : 0 < ln) (hl8 : ln ≤ 48) (sz : Nat) : Met l yX3_next (.code yX3_next cX3_next 3 (some .int) :: ps_T) ({ frames := 0, cells := 0, slots := 0, locals := 0 }) (ps_qc (dC, dI) (ps_ty cI cZ) (ps_mdW cI cZ w0 b0 th mn kn co ln wr lt f) sz [.ref w0]) (va_Qi (fun (r : Int32) (_ : Unit) => r = f 9 0) (ps_qB (dC, dI) (ps_ty cI cZ) (va_A (ps_mdW cI cZ w0 b0 th mn kn co ln wr lt f) sz) (ps_mdW cI cZ w0 b0 0 mn kn co ((ln - 1)) wr lt (va_up f 9 (ps_sh (f 9) (ln - 1))))) (va_A (ps_mdW cI cZ w0 b0 th mn kn co ln wr lt f) sz)) 0 0 (va_A (ps_mdW cI cZ w0 b0 th mn kn co ln wr lt f) sz) := by
  refine Met.ofW (cc := cX3_next) (maxL := 3) (ret := (some .int)) (by decide) rfl ?_
  intro p e s m args below meth c s₁ B hml hv
  obtain ⟨rfl, hsz, hN, hP, hK, hD0⟩ := hv
  have hx := B.exec
  have hb := B.bytes
  have hr := B.returns
  have hlocks := B.notSynchronized
  have hT : ∀ w ∈ ps_T, w.before ([.ref w0] : List Value).toArray s = true := fun w h => atoms_spec (ws := (.code yX3_next cX3_next 3 (some .int) :: ps_T)) B.pre w (List.mem_cons_of_mem _ h)
  have hown : s.vm.findClass RX3 = some m.cls := findClass_of_methodNamed B.named
  subst hsz
  have hD := hD0.self (sz := s.heap.size)
  generalize hAe : va_A (ps_mdW cI cZ w0 b0 th mn kn co ln wr lt f) s.heap.size = A at hD ⊢
  have hA : ∀ q : Nat, s.heap.size ≤ q → A q := fun q h => by rw [← hAe]; exact Or.inr h
  have hS : va_S A s.heap s.heap [] := va_S.rf
  have hl := lv_entry ([.ref w0]) (n := 3) (Nat.le_of_ble_eq_true rfl)
  rw [lg_entry_eq]
  generalize (lg_sl ([.ref w0]) ++ List.replicate (3 - (lg_sl ([.ref w0])).length) Slot.unset).toArray = ls at hl ⊢
  have hl : lv_has ls 3 [(0, .ref w0)] := hl
  refine lv_aload_n hx hb dX3_next_0 rfl (lv_at hl 0 rfl) ?_
  refine lv_iconst (v := 0) hx hb dX3_next_1 (by decide) ?_
  refine va_put (D := (dC, dI)) (ci := 3) (v := .int 0) (ty := .int) (C := RX3) (T := TX3) (N := 17) hx hb hT inX3 tyX3 tyX3_ok nmX3 hown hK hP hD hS 0 rfl rfl 0 (by decide) (hT _ tw_fl_X3_45) (fun _ h9 => h9) rfl (by decide +kernel) rfl rfl (Nat.le_of_ble_eq_true rfl) dX3_next_2 (fun H locs hP hD hS => ?_)
  have hP : va_P (dC, dI) vwCl (ps_mdW cI cZ w0 b0 0 mn kn co ln wr lt f) H := hP
  have hD : va_D A (ps_mdW cI cZ w0 b0 0 mn kn co ln wr lt f) := hD
  refine lv_aload_n hx hb dX3_next_5 rfl (lv_at hl 0 rfl) ?_
  refine va_get (D := (dC, dI)) (ci := 3) (v := .int (nI ln)) (C := RX3) (T := TX3) (N := 17) hx hb hT inX3 hown hK hP 0 rfl rfl 13 (by decide) (hT _ tw_fl_X3_99) (fun _ h9 => h9) rfl dX3_next_6 ?_
  refine lv_if_ne (tgt := 18) hx hb dX3_next_9 rfl (fun h9 => ?_) (fun h9 => ?_)
  · skip
    refine lv_aload_n hx hb dX3_next_18 rfl (lv_at hl 0 rfl) ?_
    refine va_get (D := (dC, dI)) (ci := 3) (v := .ref (b0 9)) (C := RX3) (T := TX3) (N := 17) hx hb hT inX3 hown hK hP 0 rfl rfl 14 (by decide) (hT _ tw_fl_X3_38) (fun _ h9 => h9) rfl dX3_next_19 ?_
    refine lv_iconst (v := 0) hx hb dX3_next_22 (by decide) ?_
    refine ps_iald (k := 0) (f := f 9) hx hb hK hP 10 0 rfl rfl (by omega) (by decide) dX3_next_23 ?_
    refine lv_istore_n (lv' := [(1, .int (f 9 0)), (0, .ref w0)]) hx hb dX3_next_24 rfl hl (by decide) rfl (fun ls hl => ?_)
    refine lv_aload_n hx hb dX3_next_25 rfl (lv_at hl 1 rfl) ?_
    refine lv_dup hx hb dX3_next_26 rfl ?_
    refine va_get (D := (dC, dI)) (ci := 3) (v := .int (nI ln)) (C := RX3) (T := TX3) (N := 17) hx hb hT inX3 hown hK hP 0 rfl rfl 13 (by decide) (hT _ tw_fl_X3_99) (fun _ h9 => h9) rfl dX3_next_27 ?_
    refine lv_iconst (v := 1) hx hb dX3_next_30 (by decide) ?_
    refine lv_isub hx hb dX3_next_31 ?_
    refine lv_topi (fun y9 hy9 => ?_)
    obtain rfl : y9 = nI (ln - 1) := hy9.trans (ps_dec hln)
    refine va_put (D := (dC, dI)) (ci := 3) (v := .int (nI (ln - 1))) (ty := .int) (C := RX3) (T := TX3) (N := 17) hx hb hT inX3 tyX3 tyX3_ok nmX3 hown hK hP hD hS 0 rfl rfl 13 (by decide) (hT _ tw_fl_X3_99) (fun _ h9 => h9) rfl (by decide +kernel) rfl rfl (Nat.le_of_ble_eq_true rfl) dX3_next_32 (fun H locs hP hD hS => ?_)
    have hP : va_P (dC, dI) vwCl (ps_mdW cI cZ w0 b0 0 mn kn co (ln - 1) wr lt f) H := hP
    have hD : va_D A (ps_mdW cI cZ w0 b0 0 mn kn co (ln - 1) wr lt f) := hD
    refine lv_iconst (v := 0) hx hb dX3_next_35 (by decide) ?_
    refine lv_istore_n (lv' := [(2, .int 0), (1, .int (f 9 0)), (0, .ref w0)]) hx hb dX3_next_36 rfl hl (by decide) rfl (fun ls hl => ?_)
    have hl : lv_has ls 3 [(2, .int (nI 0)), (1, .int (f 9 0)), (0, .ref w0)] := hl
    rw [show f = va_up f 9 (ps_sh (f 9) 0) by rw [ps_sh_0, ps_up_self]] at hP hD
    have hl : lv_has ls 3 [(2, .int (nI 0)), (1, .int (f 9 0)), (0, .ref w0)] := hl
    refine ps_loopQ (α := Nat) (fun k => ln - 1 - k) (fun k ls H locs => (k ≤ ln - 1) ∧ lv_has ls 3 [(0, .ref w0), (1, .int (f 9 0)), (2, .int (nI k))] ∧ va_P (dC, dI) vwCl (ps_mdW cI cZ w0 b0 0 mn kn co ((ln - 1)) wr lt (va_up f 9 (ps_sh (f 9) k))) H ∧ va_D A (ps_mdW cI cZ w0 b0 0 mn kn co ((ln - 1)) wr lt (va_up f 9 (ps_sh (f 9) k))) ∧ va_S A s.heap H locs) ?_ 0 ls _ _ ⟨by omega, lv_sub hl [2, 1, 0] rfl, hP, hD, hS⟩
    intro k ls H locs ih37 hI
    obtain ⟨hk, hl, hP, hD, hS⟩ := hI
    refine lv_iload_n hx hb dX3_next_37 rfl (lv_at hl 2 rfl) ?_
    refine lv_aload_n hx hb dX3_next_38 rfl (lv_at hl 0 rfl) ?_
    refine va_get (D := (dC, dI)) (ci := 3) (v := .int (nI ((ln - 1)))) (C := RX3) (T := TX3) (N := 17) hx hb hT inX3 hown hK hP 0 rfl rfl 13 (by decide) (hT _ tw_fl_X3_99) (fun _ h9 => h9) rfl dX3_next_39 ?_
    refine ps_icmp_ge (tgt := 65) (a := k) (b := (ln - 1)) hx hb dX3_next_42 rfl (by omega) (by omega) (fun h42 => ?_) (fun h42 => ?_)
    · skip
      have ek : k = ln - 1 := by omega
      rw [ek] at hP hD
      refine lv_iload_n hx hb dX3_next_65 rfl (lv_at hl 1 rfl) ?_
      exact W.iret (v := f 9 0) hx hb hr (fun t ht hW => ⟨⟨f 9 0, (), rfl, rfl, by rw [ht]; exact hP, va_K.moved hW.alike hK, hD⟩, hS.F ht⟩) hS.2.2 dX3_next_66
    · skip
      refine lv_aload_n hx hb dX3_next_45 rfl (lv_at hl 0 rfl) ?_
      refine va_get (D := (dC, dI)) (ci := 3) (v := .ref (b0 9)) (C := RX3) (T := TX3) (N := 17) hx hb hT inX3 hown hK hP 0 rfl rfl 14 (by decide) (hT _ tw_fl_X3_38) (fun _ h9 => h9) rfl dX3_next_46 ?_
      refine lv_iload_n hx hb dX3_next_49 rfl (lv_at hl 2 rfl) ?_
      refine lv_aload_n hx hb dX3_next_50 rfl (lv_at hl 0 rfl) ?_
      refine va_get (D := (dC, dI)) (ci := 3) (v := .ref (b0 9)) (C := RX3) (T := TX3) (N := 17) hx hb hT inX3 hown hK hP 0 rfl rfl 14 (by decide) (hT _ tw_fl_X3_38) (fun _ h9 => h9) rfl dX3_next_51 ?_
      refine lv_iload_n hx hb dX3_next_54 rfl (lv_at hl 2 rfl) ?_
      refine lv_iconst (v := 1) hx hb dX3_next_55 (by decide) ?_
      refine lv_iadd hx hb dX3_next_56 ?_
      rw [nI_1]
      refine ps_iald (k := k + 1) (f := ps_sh (f 9) k) hx hb hK hP 10 0 rfl rfl (by omega) (by decide) dX3_next_57 ?_
      refine ps_iast (k := k) hx hb hK hP hD hS 10 0 rfl rfl (by omega) (by decide) dX3_next_58 (fun H locs hP hD hS => ?_)
      have hP : va_P (dC, dI) vwCl (ps_mdW cI cZ w0 b0 0 mn kn co ((ln - 1)) wr lt (va_up f 9 (upd (ps_sh (f 9) k) k ((ps_sh (f 9) k) (k + 1))))) H := hP
      have hD : va_D A (ps_mdW cI cZ w0 b0 0 mn kn co ((ln - 1)) wr lt (va_up f 9 (upd (ps_sh (f 9) k) k ((ps_sh (f 9) k) (k + 1))))) := hD
      rw [ps_sh_S] at hP hD
      refine lv_iinc (k := 2) (v := nI (k + 1)) (lv' := [(2, .int (nI (k + 1))), (0, .ref w0), (1, .int (f 9 0))]) hx hb dX3_next_59 hl rfl (ps_inc _) (by decide) rfl (fun ls hl => ?_)
      refine lv_goto (tgt := 37) hx hb dX3_next_62 rfl ?_
      exact ih37 ((k + 1)) ls _ _ (by omega) ⟨by omega, lv_sub hl [1, 2, 0] rfl, hP, hD, hS⟩
  · skip
    exact absurd h9 (nI_ne0 hln (by omega))
set_option maxHeartbeats 4000000 in
set_option maxRecDepth 100000 in
theorem mX3_next_1 (l : Launch) (dC : Nat → ClassId) (dI : Nat → Nat → Nat) (cI cZ : ClassId) (w0 : Nat) (b0 : Nat → Nat) (th : Int32) (mn kn : Nat) (co : Int32) (ln : Nat) (wr lt : Int32) (f : ps_G) (hln : ln = 0) (sz : Nat) : Met l yX3_next (.code yX3_next cX3_next 3 (some .int) :: ps_T) ({ frames := 1, cells := 0, slots := 0, locals := 21 }) (ps_qc (dC, dI) (ps_ty cI cZ) (ps_mdW cI cZ w0 b0 th mn kn co ln wr lt f) sz [.ref w0]) (va_Qi (fun (r : Int32) (_ : Unit) => r = 0) (ps_qB (dC, dI) (ps_ty cI cZ) (va_A (ps_mdW cI cZ w0 b0 th mn kn co ln wr lt f) sz) (ps_mdW cI cZ w0 b0 1 mn kn co ln wr lt f)) (va_A (ps_mdW cI cZ w0 b0 th mn kn co ln wr lt f) sz)) 0 0 (va_A (ps_mdW cI cZ w0 b0 th mn kn co ln wr lt f) sz) := by
  refine Met.ofW (cc := cX3_next) (maxL := 3) (ret := (some .int)) (by decide) rfl ?_
  intro p e s m args below meth c s₁ B hml hv
  obtain ⟨rfl, hsz, hN, hP, hK, hD0⟩ := hv
  have hx := B.exec
  have hb := B.bytes
  have hr := B.returns
  have hlocks := B.notSynchronized
  have hT : ∀ w ∈ ps_T, w.before ([.ref w0] : List Value).toArray s = true := fun w h => atoms_spec (ws := (.code yX3_next cX3_next 3 (some .int) :: ps_T)) B.pre w (List.mem_cons_of_mem _ h)
  have hown : s.vm.findClass RX3 = some m.cls := findClass_of_methodNamed B.named
  subst hsz
  have hD := hD0.self (sz := s.heap.size)
  generalize hAe : va_A (ps_mdW cI cZ w0 b0 th mn kn co ln wr lt f) s.heap.size = A at hD ⊢
  have hA : ∀ q : Nat, s.heap.size ≤ q → A q := fun q h => by rw [← hAe]; exact Or.inr h
  have hS : va_S A s.heap s.heap [] := va_S.rf
  have hl := lv_entry ([.ref w0]) (n := 3) (Nat.le_of_ble_eq_true rfl)
  rw [lg_entry_eq]
  generalize (lg_sl ([.ref w0]) ++ List.replicate (3 - (lg_sl ([.ref w0])).length) Slot.unset).toArray = ls at hl ⊢
  have hl : lv_has ls 3 [(0, .ref w0)] := hl
  refine lv_aload_n hx hb dX3_next_0 rfl (lv_at hl 0 rfl) ?_
  refine lv_iconst (v := 0) hx hb dX3_next_1 (by decide) ?_
  refine va_put (D := (dC, dI)) (ci := 3) (v := .int 0) (ty := .int) (C := RX3) (T := TX3) (N := 17) hx hb hT inX3 tyX3 tyX3_ok nmX3 hown hK hP hD hS 0 rfl rfl 0 (by decide) (hT _ tw_fl_X3_45) (fun _ h9 => h9) rfl (by decide +kernel) rfl rfl (Nat.le_of_ble_eq_true rfl) dX3_next_2 (fun H locs hP hD hS => ?_)
  have hP : va_P (dC, dI) vwCl (ps_mdW cI cZ w0 b0 0 mn kn co ln wr lt f) H := hP
  have hD : va_D A (ps_mdW cI cZ w0 b0 0 mn kn co ln wr lt f) := hD
  refine lv_aload_n hx hb dX3_next_5 rfl (lv_at hl 0 rfl) ?_
  refine va_get (D := (dC, dI)) (ci := 3) (v := .int (nI ln)) (C := RX3) (T := TX3) (N := 17) hx hb hT inX3 hown hK hP 0 rfl rfl 13 (by decide) (hT _ tw_fl_X3_99) (fun _ h9 => h9) rfl dX3_next_6 ?_
  refine lv_if_ne (tgt := 18) hx hb dX3_next_9 rfl (fun h9 => ?_) (fun h9 => ?_)
  · skip
    exact absurd (by rw [hln]; rfl) h9
  · skip
    refine lv_aload_n hx hb dX3_next_12 rfl (lv_at hl 0 rfl) ?_
    refine lv_iconst (v := 1) hx hb dX3_next_13 (by decide) ?_
    refine ps_cqi (wc := ps_mdW cI cZ w0 b0 0 mn kn co ln wr lt f) (wr := []) (w1 := ps_mdW cI cZ w0 b0 1 mn kn co ln wr lt f) (ws2 := ps_mdW cI cZ w0 b0 1 mn kn co ln wr lt f) (va_runV (C := RX3) (As := [.int 1]) (rest := []) ⟨hx, hb, hml, hown, hT⟩ (mX3_fails l dC dI cI cZ w0 b0 0 mn kn co ln wr lt f 1 _) (cwV 1 hT (ps_gV tw_ml_X3_79 tw_im_X3_fails tw_se_X3_fails tw_in_X3 tw_co_X3_fails) rfl rfl rfl ⟨rfl, by decide, by decide, by decide +kernel⟩ ⟨Nat.le_of_ble_eq_true rfl, Nat.le_of_ble_eq_true rfl⟩) (ps_qreV (wc := ps_mdW cI cZ w0 b0 0 mn kn co ln wr lt f) (ci := 3) [0, 1, 2, 3, 4, 5, 6, 7, 8, 9, 10] hN hP hK hD rfl rfl rfl rfl rfl) rfl rfl hl.1 rfl (lv_room (Nat.le_of_ble_eq_true rfl)) dX3_next_14 ⟨Nat.le_of_ble_eq_true rfl, Nat.le_of_ble_eq_true rfl⟩) hS hA hP hD [0, 1, 2, 3, 4, 5, 6, 7, 8, 9, 10] [] [0, 1, 2, 3, 4, 5, 6, 7, 8, 9, 10] rfl rfl rfl (by decide) rfl rfl rfl (fun H locs hP hD hS => ?_)
    exact W.iret (v := 0) hx hb hr (fun t ht hW => ⟨⟨0, (), rfl, rfl, by rw [ht]; exact hP, va_K.moved hW.alike hK, hD⟩, hS.F ht⟩) hS.2.2 dX3_next_17
set_option maxHeartbeats 4000000 in
set_option maxRecDepth 100000 in
theorem mX3_nearest_n (l : Launch) (dC : Nat → ClassId) (dI : Nat → Nat → Nat) (cI cZ : ClassId) (w0 : Nat) (b0 : Nat → Nat) (th : Int32) (mn kn : Nat) (co : Int32) (ln : Nat) (wr lt : Int32) (f : ps_G) (hmn : mn ≤ 48) (x y z : Int32) (k9 : Int32) (hip : ps_ip x y z = true) (hk1 : ¬ k9 < 1) (hk2 : k9 ≤ nI mn) (sz : Nat) : Met l yX3_nearest (.code yX3_nearest cX3_nearest 11 (some .int) :: ps_T) ({ frames := 2, cells := 0, slots := 0, locals := 45 }) (ps_qc (dC, dI) (ps_ty cI cZ) (ps_mdW cI cZ w0 b0 th mn kn co ln wr lt f) sz [.ref w0, .int x, .int y, .int z, .int k9]) (va_Qi (fun (r : Int32) (_ : Unit) => r = ps_nr f mn (ps_pk x y z) k9 mn) (ps_qB (dC, dI) (ps_ty cI cZ) (va_A (ps_mdW cI cZ w0 b0 th mn kn co ln wr lt f) sz) (ps_mdW cI cZ w0 b0 0 mn kn co ln wr lt f)) (va_A (ps_mdW cI cZ w0 b0 th mn kn co ln wr lt f) sz)) 0 0 (va_A (ps_mdW cI cZ w0 b0 th mn kn co ln wr lt f) sz) := by
  refine Met.ofW (cc := cX3_nearest) (maxL := 11) (ret := (some .int)) (by decide) rfl ?_
  intro p e s m args below meth c s₁ B hml hv
  obtain ⟨rfl, hsz, hN, hP, hK, hD0⟩ := hv
  have hx := B.exec
  have hb := B.bytes
  have hr := B.returns
  have hlocks := B.notSynchronized
  have hT : ∀ w ∈ ps_T, w.before ([.ref w0, .int x, .int y, .int z, .int k9] : List Value).toArray s = true := fun w h => atoms_spec (ws := (.code yX3_nearest cX3_nearest 11 (some .int) :: ps_T)) B.pre w (List.mem_cons_of_mem _ h)
  have hown : s.vm.findClass RX3 = some m.cls := findClass_of_methodNamed B.named
  subst hsz
  have hD := hD0.self (sz := s.heap.size)
  generalize hAe : va_A (ps_mdW cI cZ w0 b0 th mn kn co ln wr lt f) s.heap.size = A at hD ⊢
  have hA : ∀ q : Nat, s.heap.size ≤ q → A q := fun q h => by rw [← hAe]; exact Or.inr h
  have hS : va_S A s.heap s.heap [] := va_S.rf
  have hl := lv_entry ([.ref w0, .int x, .int y, .int z, .int k9]) (n := 11) (Nat.le_of_ble_eq_true rfl)
  rw [lg_entry_eq]
  generalize (lg_sl ([.ref w0, .int x, .int y, .int z, .int k9]) ++ List.replicate (11 - (lg_sl ([.ref w0, .int x, .int y, .int z, .int k9])).length) Slot.unset).toArray = ls at hl ⊢
  have hl : lv_has ls 11 [(0, .ref w0), (1, .int x), (2, .int y), (3, .int z), (4, .int k9)] := hl
  refine lv_aload_n hx hb dX3_nearest_0 rfl (lv_at hl 0 rfl) ?_
  refine lv_iconst (v := 0) hx hb dX3_nearest_1 (by decide) ?_
  refine va_put (D := (dC, dI)) (ci := 3) (v := .int 0) (ty := .int) (C := RX3) (T := TX3) (N := 17) hx hb hT inX3 tyX3 tyX3_ok nmX3 hown hK hP hD hS 0 rfl rfl 0 (by decide) (hT _ tw_fl_X3_45) (fun _ h9 => h9) rfl (by decide +kernel) rfl rfl (Nat.le_of_ble_eq_true rfl) dX3_nearest_2 (fun H locs hP hD hS => ?_)
  have hP : va_P (dC, dI) vwCl (ps_mdW cI cZ w0 b0 0 mn kn co ln wr lt f) H := hP
  have hD : va_D A (ps_mdW cI cZ w0 b0 0 mn kn co ln wr lt f) := hD
  refine lv_iload_n hx hb dX3_nearest_5 rfl (lv_at hl 1 rfl) ?_
  refine lv_iload_n hx hb dX3_nearest_6 rfl (lv_at hl 2 rfl) ?_
  refine lv_iload_n hx hb dX3_nearest_7 rfl (lv_at hl 3 rfl) ?_
  refine vp_callSi (va_Run.run (va_runS (As := [.int x, .int y, .int z]) (rest := []) ⟨hx, hb, hml, hown, hT⟩ (mX3_isPlace l x y z) (va_cwS 3 hT (ps_gS tw_ml_X3_76 tw_st_X3_isPlace tw_in_X3 tw_co_X3_isPlace) rfl rfl rfl ⟨by decide, by decide, by decide +kernel⟩ ⟨Nat.le_of_ble_eq_true rfl, Nat.le_of_ble_eq_true rfl⟩) preEq rfl rfl hl.1 rfl (lv_room (Nat.le_of_ble_eq_true rfl)) dX3_nearest_8 ⟨Nat.le_of_ble_eq_true rfl, Nat.le_of_ble_eq_true rfl⟩)) (fun r hr => ?_)
  obtain rfl : r = ps_bi (ps_ip x y z) := hr
  refine ps_ifb_eq (tgt := 20) hx hb dX3_nearest_11 rfl (fun h11 => ?_) (fun h11 => ?_)
  · skip
    exact Bool.noConfusion (hip.symm.trans h11)
  · skip
    refine lv_iload hx hb dX3_nearest_14 (lv_at hl 4 rfl) ?_
    refine lv_iconst (v := 1) hx hb dX3_nearest_16 (by decide) ?_
    refine lv_icmp_ge (tgt := 26) hx hb dX3_nearest_17 rfl (fun h17 => ?_) (fun h17 => ?_)
    · skip
      refine lv_iload hx hb dX3_nearest_26 (lv_at hl 4 rfl) ?_
      refine lv_aload_n hx hb dX3_nearest_28 rfl (lv_at hl 0 rfl) ?_
      refine va_get (D := (dC, dI)) (ci := 3) (v := .int (nI mn)) (C := RX3) (T := TX3) (N := 17) hx hb hT inX3 hown hK hP 0 rfl rfl 1 (by decide) (hT _ tw_fl_X3_59) (fun _ h9 => h9) rfl dX3_nearest_29 ?_
      refine lv_icmp_le (tgt := 41) hx hb dX3_nearest_32 rfl (fun h32 => ?_) (fun h32 => ?_)
      · skip
        refine lv_iload_n hx hb dX3_nearest_41 rfl (lv_at hl 1 rfl) ?_
        refine lv_iload_n hx hb dX3_nearest_42 rfl (lv_at hl 2 rfl) ?_
        refine lv_iload_n hx hb dX3_nearest_43 rfl (lv_at hl 3 rfl) ?_
        refine vp_callSi (va_Run.run (va_runS (As := [.int x, .int y, .int z]) (rest := []) ⟨hx, hb, hml, hown, hT⟩ (mX3_packed l x y z) (va_cwS 3 hT (ps_gS tw_ml_X3_86 tw_st_X3_packed tw_in_X3 tw_co_X3_packed) rfl rfl rfl ⟨by decide, by decide, by decide +kernel⟩ ⟨Nat.le_of_ble_eq_true rfl, Nat.le_of_ble_eq_true rfl⟩) preEq rfl rfl hl.1 rfl (lv_room (Nat.le_of_ble_eq_true rfl)) dX3_nearest_44 ⟨Nat.le_of_ble_eq_true rfl, Nat.le_of_ble_eq_true rfl⟩)) (fun r hr => ?_)
        obtain rfl : r = ps_pk x y z := hr
        refine lv_istore (lv' := [(5, .int (ps_pk x y z)), (0, .ref w0), (1, .int x), (2, .int y), (3, .int z), (4, .int k9)]) hx hb dX3_nearest_47 hl (by decide) rfl (fun ls hl => ?_)
        refine lv_iconst (v := 0) hx hb dX3_nearest_49 (by decide) ?_
        refine lv_istore (lv' := [(6, .int 0), (5, .int (ps_pk x y z)), (0, .ref w0), (1, .int x), (2, .int y), (3, .int z), (4, .int k9)]) hx hb dX3_nearest_50 hl (by decide) rfl (fun ls hl => ?_)
        refine lv_iconst (v := 0) hx hb dX3_nearest_52 (by decide) ?_
        refine lv_istore (lv' := [(7, .int 0), (6, .int 0), (5, .int (ps_pk x y z)), (0, .ref w0), (1, .int x), (2, .int y), (3, .int z), (4, .int k9)]) hx hb dX3_nearest_53 hl (by decide) rfl (fun ls hl => ?_)
        have hl : lv_has ls 11 [(7, .int (nI 0)), (6, .int (ps_nr f mn (ps_pk x y z) k9 0)), (5, .int (ps_pk x y z)), (0, .ref w0), (1, .int x), (2, .int y), (3, .int z), (4, .int k9)] := hl
        refine ps_loopS (α := Nat) (fun x9 => mn - x9) (fun x9 ls => (x9 ≤ mn) ∧ lv_has ls 11 [(0, .ref w0), (1, .int x), (2, .int y), (3, .int z), (4, .int k9), (5, .int (ps_pk x y z)), (6, .int (ps_nr f mn (ps_pk x y z) k9 x9)), (7, .int (nI x9))]) ?_ 0 ls ⟨by omega, lv_sub hl [3, 4, 5, 6, 7, 2, 1, 0] rfl⟩
        intro x9 ls ih55 hI
        obtain ⟨hx9, hl⟩ := hI
        refine lv_iload hx hb dX3_nearest_55 (lv_at hl 7 rfl) ?_
        refine lv_aload_n hx hb dX3_nearest_57 rfl (lv_at hl 0 rfl) ?_
        refine va_get (D := (dC, dI)) (ci := 3) (v := .int (nI mn)) (C := RX3) (T := TX3) (N := 17) hx hb hT inX3 hown hK hP 0 rfl rfl 1 (by decide) (hT _ tw_fl_X3_59) (fun _ h9 => h9) rfl dX3_nearest_58 ?_
        refine ps_icmp_ge (tgt := 179) (a := x9) (b := mn) hx hb dX3_nearest_61 rfl (by omega) (by omega) (fun h61 => ?_) (fun h61 => ?_)
        · skip
          refine lv_iload hx hb dX3_nearest_179 (lv_at hl 6 rfl) ?_
          exact W.iret (v := ps_nr f mn (ps_pk x y z) k9 x9) hx hb hr (fun t ht hW => ⟨⟨ps_nr f mn (ps_pk x y z) k9 x9, (), rfl, by rw [show x9 = mn by omega], by rw [ht]; exact hP, va_K.moved hW.alike hK, hD⟩, hS.F ht⟩) hS.2.2 dX3_nearest_181
        · skip
          refine lv_iconst (v := 0) hx hb dX3_nearest_64 (by decide) ?_
          refine lv_istore (lv' := [(8, .int 0), (0, .ref w0), (1, .int x), (2, .int y), (3, .int z), (4, .int k9), (5, .int (ps_pk x y z)), (6, .int (ps_nr f mn (ps_pk x y z) k9 x9)), (7, .int (nI x9))]) hx hb dX3_nearest_65 hl (by decide) rfl (fun ls hl => ?_)
          refine lv_iconst (v := 0) hx hb dX3_nearest_67 (by decide) ?_
          refine lv_istore (lv' := [(9, .int 0), (8, .int 0), (0, .ref w0), (1, .int x), (2, .int y), (3, .int z), (4, .int k9), (5, .int (ps_pk x y z)), (6, .int (ps_nr f mn (ps_pk x y z) k9 x9)), (7, .int (nI x9))]) hx hb dX3_nearest_68 hl (by decide) rfl (fun ls hl => ?_)
          have hl : lv_has ls 11 [(9, .int (nI 0)), (8, .int (nI (ps_cn (ps_nb f (ps_pk x y z) x9) 0))), (0, .ref w0), (1, .int x), (2, .int y), (3, .int z), (4, .int k9), (5, .int (ps_pk x y z)), (6, .int (ps_nr f mn (ps_pk x y z) k9 x9)), (7, .int (nI x9))] := hl
          refine ps_loopS (α := Nat) (fun j => mn - j) (fun j ls => (j ≤ mn) ∧ lv_has ls 11 [(0, .ref w0), (1, .int x), (2, .int y), (3, .int z), (4, .int k9), (5, .int (ps_pk x y z)), (6, .int (ps_nr f mn (ps_pk x y z) k9 x9)), (7, .int (nI x9)), (8, .int (nI (ps_cn (ps_nb f (ps_pk x y z) x9) j))), (9, .int (nI j))]) ?_ 0 ls ⟨by omega, lv_sub hl [2, 3, 4, 5, 6, 7, 8, 9, 1, 0] rfl⟩
          intro j ls ih70 hI
          obtain ⟨hj, hl⟩ := hI
          refine lv_iload hx hb dX3_nearest_70 (lv_at hl 9 rfl) ?_
          refine lv_aload_n hx hb dX3_nearest_72 rfl (lv_at hl 0 rfl) ?_
          refine va_get (D := (dC, dI)) (ci := 3) (v := .int (nI mn)) (C := RX3) (T := TX3) (N := 17) hx hb hT inX3 hown hK hP 0 rfl rfl 1 (by decide) (hT _ tw_fl_X3_59) (fun _ h9 => h9) rfl dX3_nearest_73 ?_
          refine ps_icmp_ge (tgt := 150) (a := j) (b := mn) hx hb dX3_nearest_76 rfl (by omega) (by omega) (fun h76 => ?_) (fun h76 => ?_)
          · skip
            have ej : j = mn := by omega
            · skip
              rw [ej] at hl
              refine lv_iload hx hb dX3_nearest_150 (lv_at hl 8 rfl) ?_
              refine lv_iload hx hb dX3_nearest_152 (lv_at hl 4 rfl) ?_
              refine lv_iconst (v := 1) hx hb dX3_nearest_154 (by decide) ?_
              refine lv_isub hx hb dX3_nearest_155 ?_
              refine lv_icmp_ne (tgt := 169) hx hb dX3_nearest_156 rfl (fun h156 => ?_) (fun h156 => ?_)
              · skip
                refine lv_iload hx hb dX3_nearest_169 (lv_at hl 6 rfl) ?_
                refine lv_topi (fun y9 hy9 => ?_)
                obtain rfl : y9 = ps_nr f mn (ps_pk x y z) k9 (x9 + 1) := hy9.trans ((ps_nr_f h156).symm)
                refine lv_istore (lv' := [(6, .int (ps_nr f mn (ps_pk x y z) k9 (x9 + 1))), (0, .ref w0), (1, .int x), (2, .int y), (3, .int z), (4, .int k9), (5, .int (ps_pk x y z)), (7, .int (nI x9)), (8, .int (nI (ps_cn (ps_nb f (ps_pk x y z) x9) mn))), (9, .int (nI mn))]) hx hb dX3_nearest_171 hl (by decide) rfl (fun ls hl => ?_)
                refine lv_iinc (k := 7) (v := nI (x9 + 1)) (lv' := [(7, .int (nI (x9 + 1))), (6, .int (ps_nr f mn (ps_pk x y z) k9 (x9 + 1))), (0, .ref w0), (1, .int x), (2, .int y), (3, .int z), (4, .int k9), (5, .int (ps_pk x y z)), (8, .int (nI (ps_cn (ps_nb f (ps_pk x y z) x9) mn))), (9, .int (nI mn))]) hx hb dX3_nearest_173 hl rfl (ps_inc _) (by decide) rfl (fun ls hl => ?_)
                refine lv_goto (tgt := 55) hx hb dX3_nearest_176 rfl ?_
                exact ih55 ((x9 + 1)) ls (by omega) ⟨by omega, lv_sub hl [2, 3, 4, 5, 6, 7, 1, 0] rfl⟩
              · skip
                refine lv_aload_n hx hb dX3_nearest_159 rfl (lv_at hl 0 rfl) ?_
                refine va_get (D := (dC, dI)) (ci := 3) (v := .ref (b0 0)) (C := RX3) (T := TX3) (N := 17) hx hb hT inX3 hown hK hP 0 rfl rfl 2 (by decide) (hT _ tw_fl_X3_7) (fun _ h9 => h9) rfl dX3_nearest_160 ?_
                refine lv_iload hx hb dX3_nearest_163 (lv_at hl 7 rfl) ?_
                refine ps_iald (k := x9) (f := f 0) hx hb hK hP 1 0 rfl rfl (by omega) (by decide) dX3_nearest_165 ?_
                refine lv_topi (fun y9 hy9 => ?_)
                obtain rfl : y9 = ps_nr f mn (ps_pk x y z) k9 (x9 + 1) := hy9.trans ((ps_nr_t h156).symm)
                refine lv_goto (tgt := 171) hx hb dX3_nearest_166 rfl ?_
                refine lv_istore (lv' := [(6, .int (ps_nr f mn (ps_pk x y z) k9 (x9 + 1))), (0, .ref w0), (1, .int x), (2, .int y), (3, .int z), (4, .int k9), (5, .int (ps_pk x y z)), (7, .int (nI x9)), (8, .int (nI (ps_cn (ps_nb f (ps_pk x y z) x9) mn))), (9, .int (nI mn))]) hx hb dX3_nearest_171 hl (by decide) rfl (fun ls hl => ?_)
                refine lv_iinc (k := 7) (v := nI (x9 + 1)) (lv' := [(7, .int (nI (x9 + 1))), (6, .int (ps_nr f mn (ps_pk x y z) k9 (x9 + 1))), (0, .ref w0), (1, .int x), (2, .int y), (3, .int z), (4, .int k9), (5, .int (ps_pk x y z)), (8, .int (nI (ps_cn (ps_nb f (ps_pk x y z) x9) mn))), (9, .int (nI mn))]) hx hb dX3_nearest_173 hl rfl (ps_inc _) (by decide) rfl (fun ls hl => ?_)
                refine lv_goto (tgt := 55) hx hb dX3_nearest_176 rfl ?_
                exact ih55 ((x9 + 1)) ls (by omega) ⟨by omega, lv_sub hl [2, 3, 4, 5, 6, 7, 1, 0] rfl⟩
          · skip
            refine lv_aload_n hx hb dX3_nearest_79 rfl (lv_at hl 0 rfl) ?_
            refine va_get (D := (dC, dI)) (ci := 3) (v := .ref (b0 1)) (C := RX3) (T := TX3) (N := 17) hx hb hT inX3 hown hK hP 0 rfl rfl 3 (by decide) (hT _ tw_fl_X3_13) (fun _ h9 => h9) rfl dX3_nearest_80 ?_
            refine lv_iload hx hb dX3_nearest_83 (lv_at hl 9 rfl) ?_
            refine ps_iald (k := j) (f := f 1) hx hb hK hP 2 0 rfl rfl (by omega) (by decide) dX3_nearest_85 ?_
            refine lv_iload hx hb dX3_nearest_86 (lv_at hl 5 rfl) ?_
            refine vp_callSi (va_Run.run (va_runS (As := [.int (f 1 j), .int (ps_pk x y z)]) (rest := []) ⟨hx, hb, hml, hown, hT⟩ (mX3_distance l (f 1 j) (ps_pk x y z)) (va_cwS 2 hT (ps_gS tw_ml_X3_106 tw_st_X3_distance tw_in_X3 tw_co_X3_distance) rfl rfl rfl ⟨by decide, by decide, by decide +kernel⟩ ⟨Nat.le_of_ble_eq_true rfl, Nat.le_of_ble_eq_true rfl⟩) preEq rfl rfl hl.1 rfl (lv_room (Nat.le_of_ble_eq_true rfl)) dX3_nearest_88 ⟨Nat.le_of_ble_eq_true rfl, Nat.le_of_ble_eq_true rfl⟩)) (fun r hr => ?_)
            obtain rfl : r = ps_dd (f 1 j) (ps_pk x y z) 3 := hr
            refine lv_aload_n hx hb dX3_nearest_91 rfl (lv_at hl 0 rfl) ?_
            refine va_get (D := (dC, dI)) (ci := 3) (v := .ref (b0 1)) (C := RX3) (T := TX3) (N := 17) hx hb hT inX3 hown hK hP 0 rfl rfl 3 (by decide) (hT _ tw_fl_X3_13) (fun _ h9 => h9) rfl dX3_nearest_92 ?_
            refine lv_iload hx hb dX3_nearest_95 (lv_at hl 7 rfl) ?_
            refine ps_iald (k := x9) (f := f 1) hx hb hK hP 2 0 rfl rfl (by omega) (by decide) dX3_nearest_97 ?_
            refine lv_iload hx hb dX3_nearest_98 (lv_at hl 5 rfl) ?_
            refine vp_callSi (va_Run.run (va_runS (As := [.int (f 1 x9), .int (ps_pk x y z)]) (rest := [.int (ps_dd (f 1 j) (ps_pk x y z) 3)]) ⟨hx, hb, hml, hown, hT⟩ (mX3_distance l (f 1 x9) (ps_pk x y z)) (va_cwS 2 hT (ps_gS tw_ml_X3_106 tw_st_X3_distance tw_in_X3 tw_co_X3_distance) rfl rfl rfl ⟨by decide, by decide, by decide +kernel⟩ ⟨Nat.le_of_ble_eq_true rfl, Nat.le_of_ble_eq_true rfl⟩) preEq rfl rfl hl.1 rfl (lv_room (Nat.le_of_ble_eq_true rfl)) dX3_nearest_100 ⟨Nat.le_of_ble_eq_true rfl, Nat.le_of_ble_eq_true rfl⟩)) (fun r hr => ?_)
            obtain rfl : r = ps_dd (f 1 x9) (ps_pk x y z) 3 := hr
            refine lv_isub hx hb dX3_nearest_103 ?_
            refine lv_istore (lv' := [(10, .int ((ps_dd (f 1 j) (ps_pk x y z) 3) - (ps_dd (f 1 x9) (ps_pk x y z) 3))), (0, .ref w0), (1, .int x), (2, .int y), (3, .int z), (4, .int k9), (5, .int (ps_pk x y z)), (6, .int (ps_nr f mn (ps_pk x y z) k9 x9)), (7, .int (nI x9)), (8, .int (nI (ps_cn (ps_nb f (ps_pk x y z) x9) j))), (9, .int (nI j))]) hx hb dX3_nearest_104 hl (by decide) rfl (fun ls hl => ?_)
            refine lv_iload hx hb dX3_nearest_106 (lv_at hl 0 rfl) ?_
            refine lv_if_lt (tgt := 133) hx hb dX3_nearest_108 rfl (fun h108 => ?_) (fun h108 => ?_)
            · skip
              have hc : ps_nb f (ps_pk x y z) x9 j = true := by simp [ps_nb, h108]
              refine lv_iload hx hb dX3_nearest_133 (lv_at hl 9 rfl) ?_
              refine lv_iconst (v := 1) hx hb dX3_nearest_135 (by decide) ?_
              refine lv_iadd hx hb dX3_nearest_136 ?_
              rw [nI_1]
              refine lv_goto (tgt := 142) hx hb dX3_nearest_137 rfl ?_
              refine lv_istore (lv' := [(8, .int (nI ((ps_cn (ps_nb f (ps_pk x y z) x9) j) + 1))), (10, .int ((ps_dd (f 1 j) (ps_pk x y z) 3) - (ps_dd (f 1 x9) (ps_pk x y z) 3))), (0, .ref w0), (1, .int x), (2, .int y), (3, .int z), (4, .int k9), (5, .int (ps_pk x y z)), (6, .int (ps_nr f mn (ps_pk x y z) k9 x9)), (7, .int (nI x9)), (9, .int (nI j))]) hx hb dX3_nearest_142 hl (by decide) rfl (fun ls hl => ?_)
              refine lv_iinc (k := 10) (v := nI (j + 1)) (lv' := [(9, .int (nI (j + 1))), (8, .int (nI ((ps_cn (ps_nb f (ps_pk x y z) x9) j) + 1))), (10, .int ((ps_dd (f 1 j) (ps_pk x y z) 3) - (ps_dd (f 1 x9) (ps_pk x y z) 3))), (0, .ref w0), (1, .int x), (2, .int y), (3, .int z), (4, .int k9), (5, .int (ps_pk x y z)), (6, .int (ps_nr f mn (ps_pk x y z) k9 x9)), (7, .int (nI x9))]) hx hb dX3_nearest_144 hl rfl (ps_inc _) (by decide) rfl (fun ls hl => ?_)
              refine lv_goto (tgt := 70) hx hb dX3_nearest_147 rfl ?_
              first | rw [← ps_cnT hc] at hl | rw [← ps_cnF hc] at hl
              exact ih70 ((j + 1)) ls (by omega) ⟨by omega, lv_sub hl [3, 4, 5, 6, 7, 8, 9, 10, 1, 0] rfl⟩
            · skip
              refine lv_iload hx hb dX3_nearest_111 (lv_at hl 0 rfl) ?_
              refine lv_if_ne (tgt := 140) hx hb dX3_nearest_113 rfl (fun h113 => ?_) (fun h113 => ?_)
              · skip
                have hc : ps_nb f (ps_pk x y z) x9 j = false := by simp [ps_nb, h108, h113]
                refine lv_iload hx hb dX3_nearest_140 (lv_at hl 9 rfl) ?_
                refine lv_istore (lv' := [(8, .int (nI (ps_cn (ps_nb f (ps_pk x y z) x9) j))), (10, .int ((ps_dd (f 1 j) (ps_pk x y z) 3) - (ps_dd (f 1 x9) (ps_pk x y z) 3))), (0, .ref w0), (1, .int x), (2, .int y), (3, .int z), (4, .int k9), (5, .int (ps_pk x y z)), (6, .int (ps_nr f mn (ps_pk x y z) k9 x9)), (7, .int (nI x9)), (9, .int (nI j))]) hx hb dX3_nearest_142 hl (by decide) rfl (fun ls hl => ?_)
                refine lv_iinc (k := 10) (v := nI (j + 1)) (lv' := [(9, .int (nI (j + 1))), (8, .int (nI (ps_cn (ps_nb f (ps_pk x y z) x9) j))), (10, .int ((ps_dd (f 1 j) (ps_pk x y z) 3) - (ps_dd (f 1 x9) (ps_pk x y z) 3))), (0, .ref w0), (1, .int x), (2, .int y), (3, .int z), (4, .int k9), (5, .int (ps_pk x y z)), (6, .int (ps_nr f mn (ps_pk x y z) k9 x9)), (7, .int (nI x9))]) hx hb dX3_nearest_144 hl rfl (ps_inc _) (by decide) rfl (fun ls hl => ?_)
                refine lv_goto (tgt := 70) hx hb dX3_nearest_147 rfl ?_
                first | rw [← ps_cnT hc] at hl | rw [← ps_cnF hc] at hl
                exact ih70 ((j + 1)) ls (by omega) ⟨by omega, lv_sub hl [3, 4, 5, 6, 7, 8, 9, 10, 1, 0] rfl⟩
              · skip
                refine lv_aload_n hx hb dX3_nearest_116 rfl (lv_at hl 1 rfl) ?_
                refine va_get (D := (dC, dI)) (ci := 3) (v := .ref (b0 0)) (C := RX3) (T := TX3) (N := 17) hx hb hT inX3 hown hK hP 0 rfl rfl 2 (by decide) (hT _ tw_fl_X3_7) (fun _ h9 => h9) rfl dX3_nearest_117 ?_
                refine lv_iload hx hb dX3_nearest_120 (lv_at hl 10 rfl) ?_
                refine ps_iald (k := j) (f := f 0) hx hb hK hP 1 0 rfl rfl (by omega) (by decide) dX3_nearest_122 ?_
                refine lv_aload_n hx hb dX3_nearest_123 rfl (lv_at hl 1 rfl) ?_
                refine va_get (D := (dC, dI)) (ci := 3) (v := .ref (b0 0)) (C := RX3) (T := TX3) (N := 17) hx hb hT inX3 hown hK hP 0 rfl rfl 2 (by decide) (hT _ tw_fl_X3_7) (fun _ h9 => h9) rfl dX3_nearest_124 ?_
                refine lv_iload hx hb dX3_nearest_127 (lv_at hl 8 rfl) ?_
                refine ps_iald (k := x9) (f := f 0) hx hb hK hP 1 0 rfl rfl (by omega) (by decide) dX3_nearest_129 ?_
                refine lv_icmp_ge (tgt := 140) hx hb dX3_nearest_130 rfl (fun h130 => ?_) (fun h130 => ?_)
                · skip
                  have hc : ps_nb f (ps_pk x y z) x9 j = false := ps_nb_f h108 h130
                  refine lv_iload hx hb dX3_nearest_140 (lv_at hl 9 rfl) ?_
                  refine lv_istore (lv' := [(8, .int (nI (ps_cn (ps_nb f (ps_pk x y z) x9) j))), (10, .int ((ps_dd (f 1 j) (ps_pk x y z) 3) - (ps_dd (f 1 x9) (ps_pk x y z) 3))), (0, .ref w0), (1, .int x), (2, .int y), (3, .int z), (4, .int k9), (5, .int (ps_pk x y z)), (6, .int (ps_nr f mn (ps_pk x y z) k9 x9)), (7, .int (nI x9)), (9, .int (nI j))]) hx hb dX3_nearest_142 hl (by decide) rfl (fun ls hl => ?_)
                  refine lv_iinc (k := 10) (v := nI (j + 1)) (lv' := [(9, .int (nI (j + 1))), (8, .int (nI (ps_cn (ps_nb f (ps_pk x y z) x9) j))), (10, .int ((ps_dd (f 1 j) (ps_pk x y z) 3) - (ps_dd (f 1 x9) (ps_pk x y z) 3))), (0, .ref w0), (1, .int x), (2, .int y), (3, .int z), (4, .int k9), (5, .int (ps_pk x y z)), (6, .int (ps_nr f mn (ps_pk x y z) k9 x9)), (7, .int (nI x9))]) hx hb dX3_nearest_144 hl rfl (ps_inc _) (by decide) rfl (fun ls hl => ?_)
                  refine lv_goto (tgt := 70) hx hb dX3_nearest_147 rfl ?_
                  first | rw [← ps_cnT hc] at hl | rw [← ps_cnF hc] at hl
                  exact ih70 ((j + 1)) ls (by omega) ⟨by omega, lv_sub hl [3, 4, 5, 6, 7, 8, 9, 10, 1, 0] rfl⟩
                · skip
                  have hc : ps_nb f (ps_pk x y z) x9 j = true := by simp [ps_nb, h113, Int32.not_le.mp h130]
                  refine lv_iload hx hb dX3_nearest_133 (lv_at hl 9 rfl) ?_
                  refine lv_iconst (v := 1) hx hb dX3_nearest_135 (by decide) ?_
                  refine lv_iadd hx hb dX3_nearest_136 ?_
                  rw [nI_1]
                  refine lv_goto (tgt := 142) hx hb dX3_nearest_137 rfl ?_
                  refine lv_istore (lv' := [(8, .int (nI ((ps_cn (ps_nb f (ps_pk x y z) x9) j) + 1))), (10, .int ((ps_dd (f 1 j) (ps_pk x y z) 3) - (ps_dd (f 1 x9) (ps_pk x y z) 3))), (0, .ref w0), (1, .int x), (2, .int y), (3, .int z), (4, .int k9), (5, .int (ps_pk x y z)), (6, .int (ps_nr f mn (ps_pk x y z) k9 x9)), (7, .int (nI x9)), (9, .int (nI j))]) hx hb dX3_nearest_142 hl (by decide) rfl (fun ls hl => ?_)
                  refine lv_iinc (k := 10) (v := nI (j + 1)) (lv' := [(9, .int (nI (j + 1))), (8, .int (nI ((ps_cn (ps_nb f (ps_pk x y z) x9) j) + 1))), (10, .int ((ps_dd (f 1 j) (ps_pk x y z) 3) - (ps_dd (f 1 x9) (ps_pk x y z) 3))), (0, .ref w0), (1, .int x), (2, .int y), (3, .int z), (4, .int k9), (5, .int (ps_pk x y z)), (6, .int (ps_nr f mn (ps_pk x y z) k9 x9)), (7, .int (nI x9))]) hx hb dX3_nearest_144 hl rfl (ps_inc _) (by decide) rfl (fun ls hl => ?_)
                  refine lv_goto (tgt := 70) hx hb dX3_nearest_147 rfl ?_
                  first | rw [← ps_cnT hc] at hl | rw [← ps_cnF hc] at hl
                  exact ih70 ((j + 1)) ls (by omega) ⟨by omega, lv_sub hl [3, 4, 5, 6, 7, 8, 9, 10, 1, 0] rfl⟩
      · skip
        exact absurd hk2 h32
    · skip
      exact absurd (Int32.not_le.mp h17) hk1
set_option maxHeartbeats 4000000 in
set_option maxRecDepth 100000 in
theorem mX3_nearest_1 (l : Launch) (dC : Nat → ClassId) (dI : Nat → Nat → Nat) (cI cZ : ClassId) (w0 : Nat) (b0 : Nat → Nat) (th : Int32) (mn kn : Nat) (co : Int32) (ln : Nat) (wr lt : Int32) (f : ps_G) (x y z : Int32) (k9 : Int32) (hbad : ps_ip x y z = true → k9 < 1) (sz : Nat) : Met l yX3_nearest (.code yX3_nearest cX3_nearest 11 (some .int) :: ps_T) ({ frames := 2, cells := 0, slots := 0, locals := 44 }) (ps_qc (dC, dI) (ps_ty cI cZ) (ps_mdW cI cZ w0 b0 th mn kn co ln wr lt f) sz [.ref w0, .int x, .int y, .int z, .int k9]) (va_Qi (fun (r : Int32) (_ : Unit) => r = 0) (ps_qB (dC, dI) (ps_ty cI cZ) (va_A (ps_mdW cI cZ w0 b0 th mn kn co ln wr lt f) sz) (ps_mdW cI cZ w0 b0 1 mn kn co ln wr lt f)) (va_A (ps_mdW cI cZ w0 b0 th mn kn co ln wr lt f) sz)) 0 0 (va_A (ps_mdW cI cZ w0 b0 th mn kn co ln wr lt f) sz) := by
  refine Met.ofW (cc := cX3_nearest) (maxL := 11) (ret := (some .int)) (by decide) rfl ?_
  intro p e s m args below meth c s₁ B hml hv
  obtain ⟨rfl, hsz, hN, hP, hK, hD0⟩ := hv
  have hx := B.exec
  have hb := B.bytes
  have hr := B.returns
  have hlocks := B.notSynchronized
  have hT : ∀ w ∈ ps_T, w.before ([.ref w0, .int x, .int y, .int z, .int k9] : List Value).toArray s = true := fun w h => atoms_spec (ws := (.code yX3_nearest cX3_nearest 11 (some .int) :: ps_T)) B.pre w (List.mem_cons_of_mem _ h)
  have hown : s.vm.findClass RX3 = some m.cls := findClass_of_methodNamed B.named
  subst hsz
  have hD := hD0.self (sz := s.heap.size)
  generalize hAe : va_A (ps_mdW cI cZ w0 b0 th mn kn co ln wr lt f) s.heap.size = A at hD ⊢
  have hA : ∀ q : Nat, s.heap.size ≤ q → A q := fun q h => by rw [← hAe]; exact Or.inr h
  have hS : va_S A s.heap s.heap [] := va_S.rf
  have hl := lv_entry ([.ref w0, .int x, .int y, .int z, .int k9]) (n := 11) (Nat.le_of_ble_eq_true rfl)
  rw [lg_entry_eq]
  generalize (lg_sl ([.ref w0, .int x, .int y, .int z, .int k9]) ++ List.replicate (11 - (lg_sl ([.ref w0, .int x, .int y, .int z, .int k9])).length) Slot.unset).toArray = ls at hl ⊢
  have hl : lv_has ls 11 [(0, .ref w0), (1, .int x), (2, .int y), (3, .int z), (4, .int k9)] := hl
  refine lv_aload_n hx hb dX3_nearest_0 rfl (lv_at hl 0 rfl) ?_
  refine lv_iconst (v := 0) hx hb dX3_nearest_1 (by decide) ?_
  refine va_put (D := (dC, dI)) (ci := 3) (v := .int 0) (ty := .int) (C := RX3) (T := TX3) (N := 17) hx hb hT inX3 tyX3 tyX3_ok nmX3 hown hK hP hD hS 0 rfl rfl 0 (by decide) (hT _ tw_fl_X3_45) (fun _ h9 => h9) rfl (by decide +kernel) rfl rfl (Nat.le_of_ble_eq_true rfl) dX3_nearest_2 (fun H locs hP hD hS => ?_)
  have hP : va_P (dC, dI) vwCl (ps_mdW cI cZ w0 b0 0 mn kn co ln wr lt f) H := hP
  have hD : va_D A (ps_mdW cI cZ w0 b0 0 mn kn co ln wr lt f) := hD
  refine lv_iload_n hx hb dX3_nearest_5 rfl (lv_at hl 1 rfl) ?_
  refine lv_iload_n hx hb dX3_nearest_6 rfl (lv_at hl 2 rfl) ?_
  refine lv_iload_n hx hb dX3_nearest_7 rfl (lv_at hl 3 rfl) ?_
  refine vp_callSi (va_Run.run (va_runS (As := [.int x, .int y, .int z]) (rest := []) ⟨hx, hb, hml, hown, hT⟩ (mX3_isPlace l x y z) (va_cwS 3 hT (ps_gS tw_ml_X3_76 tw_st_X3_isPlace tw_in_X3 tw_co_X3_isPlace) rfl rfl rfl ⟨by decide, by decide, by decide +kernel⟩ ⟨Nat.le_of_ble_eq_true rfl, Nat.le_of_ble_eq_true rfl⟩) preEq rfl rfl hl.1 rfl (lv_room (Nat.le_of_ble_eq_true rfl)) dX3_nearest_8 ⟨Nat.le_of_ble_eq_true rfl, Nat.le_of_ble_eq_true rfl⟩)) (fun r hr => ?_)
  obtain rfl : r = ps_bi (ps_ip x y z) := hr
  refine ps_ifb_eq (tgt := 20) hx hb dX3_nearest_11 rfl (fun h11 => ?_) (fun h11 => ?_)
  · skip
    refine lv_aload_n hx hb dX3_nearest_20 rfl (lv_at hl 0 rfl) ?_
    refine lv_iconst (v := 1) hx hb dX3_nearest_21 (by decide) ?_
    refine ps_cqi (wc := ps_mdW cI cZ w0 b0 0 mn kn co ln wr lt f) (wr := []) (w1 := ps_mdW cI cZ w0 b0 1 mn kn co ln wr lt f) (ws2 := ps_mdW cI cZ w0 b0 1 mn kn co ln wr lt f) (va_runV (C := RX3) (As := [.int 1]) (rest := []) ⟨hx, hb, hml, hown, hT⟩ (mX3_fails l dC dI cI cZ w0 b0 0 mn kn co ln wr lt f 1 _) (cwV 1 hT (ps_gV tw_ml_X3_79 tw_im_X3_fails tw_se_X3_fails tw_in_X3 tw_co_X3_fails) rfl rfl rfl ⟨rfl, by decide, by decide, by decide +kernel⟩ ⟨Nat.le_of_ble_eq_true rfl, Nat.le_of_ble_eq_true rfl⟩) (ps_qreV (wc := ps_mdW cI cZ w0 b0 0 mn kn co ln wr lt f) (ci := 3) [0, 1, 2, 3, 4, 5, 6, 7, 8, 9, 10] hN hP hK hD rfl rfl rfl rfl rfl) rfl rfl hl.1 rfl (lv_room (Nat.le_of_ble_eq_true rfl)) dX3_nearest_22 ⟨Nat.le_of_ble_eq_true rfl, Nat.le_of_ble_eq_true rfl⟩) hS hA hP hD [0, 1, 2, 3, 4, 5, 6, 7, 8, 9, 10] [] [0, 1, 2, 3, 4, 5, 6, 7, 8, 9, 10] rfl rfl rfl (by decide) rfl rfl rfl (fun H locs hP hD hS => ?_)
    exact W.iret (v := 0) hx hb hr (fun t ht hW => ⟨⟨0, (), rfl, rfl, by rw [ht]; exact hP, va_K.moved hW.alike hK, hD⟩, hS.F ht⟩) hS.2.2 dX3_nearest_25
  · skip
    refine lv_iload hx hb dX3_nearest_14 (lv_at hl 4 rfl) ?_
    refine lv_iconst (v := 1) hx hb dX3_nearest_16 (by decide) ?_
    refine lv_icmp_ge (tgt := 26) hx hb dX3_nearest_17 rfl (fun h17 => ?_) (fun h17 => ?_)
    · skip
      exact absurd (hbad h11) (Int32.not_lt.mpr h17)
    · skip
      refine lv_aload_n hx hb dX3_nearest_20 rfl (lv_at hl 0 rfl) ?_
      refine lv_iconst (v := 1) hx hb dX3_nearest_21 (by decide) ?_
      refine ps_cqi (wc := ps_mdW cI cZ w0 b0 0 mn kn co ln wr lt f) (wr := []) (w1 := ps_mdW cI cZ w0 b0 1 mn kn co ln wr lt f) (ws2 := ps_mdW cI cZ w0 b0 1 mn kn co ln wr lt f) (va_runV (C := RX3) (As := [.int 1]) (rest := []) ⟨hx, hb, hml, hown, hT⟩ (mX3_fails l dC dI cI cZ w0 b0 0 mn kn co ln wr lt f 1 _) (cwV 1 hT (ps_gV tw_ml_X3_79 tw_im_X3_fails tw_se_X3_fails tw_in_X3 tw_co_X3_fails) rfl rfl rfl ⟨rfl, by decide, by decide, by decide +kernel⟩ ⟨Nat.le_of_ble_eq_true rfl, Nat.le_of_ble_eq_true rfl⟩) (ps_qreV (wc := ps_mdW cI cZ w0 b0 0 mn kn co ln wr lt f) (ci := 3) [0, 1, 2, 3, 4, 5, 6, 7, 8, 9, 10] hN hP hK hD rfl rfl rfl rfl rfl) rfl rfl hl.1 rfl (lv_room (Nat.le_of_ble_eq_true rfl)) dX3_nearest_22 ⟨Nat.le_of_ble_eq_true rfl, Nat.le_of_ble_eq_true rfl⟩) hS hA hP hD [0, 1, 2, 3, 4, 5, 6, 7, 8, 9, 10] [] [0, 1, 2, 3, 4, 5, 6, 7, 8, 9, 10] rfl rfl rfl (by decide) rfl rfl rfl (fun H locs hP hD hS => ?_)
      exact W.iret (v := 0) hx hb hr (fun t ht hW => ⟨⟨0, (), rfl, rfl, by rw [ht]; exact hP, va_K.moved hW.alike hK, hD⟩, hS.F ht⟩) hS.2.2 dX3_nearest_25
set_option maxHeartbeats 4000000 in
set_option maxRecDepth 100000 in
theorem mX3_nearest_2 (l : Launch) (dC : Nat → ClassId) (dI : Nat → Nat → Nat) (cI cZ : ClassId) (w0 : Nat) (b0 : Nat → Nat) (th : Int32) (mn kn : Nat) (co : Int32) (ln : Nat) (wr lt : Int32) (f : ps_G) (x y z : Int32) (k9 : Int32) (hip : ps_ip x y z = true) (hk1 : ¬ k9 < 1) (hk2 : ¬ k9 ≤ nI mn) (sz : Nat) : Met l yX3_nearest (.code yX3_nearest cX3_nearest 11 (some .int) :: ps_T) ({ frames := 2, cells := 0, slots := 0, locals := 44 }) (ps_qc (dC, dI) (ps_ty cI cZ) (ps_mdW cI cZ w0 b0 th mn kn co ln wr lt f) sz [.ref w0, .int x, .int y, .int z, .int k9]) (va_Qi (fun (r : Int32) (_ : Unit) => r = 0) (ps_qB (dC, dI) (ps_ty cI cZ) (va_A (ps_mdW cI cZ w0 b0 th mn kn co ln wr lt f) sz) (ps_mdW cI cZ w0 b0 2 mn kn co ln wr lt f)) (va_A (ps_mdW cI cZ w0 b0 th mn kn co ln wr lt f) sz)) 0 0 (va_A (ps_mdW cI cZ w0 b0 th mn kn co ln wr lt f) sz) := by
  refine Met.ofW (cc := cX3_nearest) (maxL := 11) (ret := (some .int)) (by decide) rfl ?_
  intro p e s m args below meth c s₁ B hml hv
  obtain ⟨rfl, hsz, hN, hP, hK, hD0⟩ := hv
  have hx := B.exec
  have hb := B.bytes
  have hr := B.returns
  have hlocks := B.notSynchronized
  have hT : ∀ w ∈ ps_T, w.before ([.ref w0, .int x, .int y, .int z, .int k9] : List Value).toArray s = true := fun w h => atoms_spec (ws := (.code yX3_nearest cX3_nearest 11 (some .int) :: ps_T)) B.pre w (List.mem_cons_of_mem _ h)
  have hown : s.vm.findClass RX3 = some m.cls := findClass_of_methodNamed B.named
  subst hsz
  have hD := hD0.self (sz := s.heap.size)
  generalize hAe : va_A (ps_mdW cI cZ w0 b0 th mn kn co ln wr lt f) s.heap.size = A at hD ⊢
  have hA : ∀ q : Nat, s.heap.size ≤ q → A q := fun q h => by rw [← hAe]; exact Or.inr h
  have hS : va_S A s.heap s.heap [] := va_S.rf
  have hl := lv_entry ([.ref w0, .int x, .int y, .int z, .int k9]) (n := 11) (Nat.le_of_ble_eq_true rfl)
  rw [lg_entry_eq]
  generalize (lg_sl ([.ref w0, .int x, .int y, .int z, .int k9]) ++ List.replicate (11 - (lg_sl ([.ref w0, .int x, .int y, .int z, .int k9])).length) Slot.unset).toArray = ls at hl ⊢
  have hl : lv_has ls 11 [(0, .ref w0), (1, .int x), (2, .int y), (3, .int z), (4, .int k9)] := hl
  refine lv_aload_n hx hb dX3_nearest_0 rfl (lv_at hl 0 rfl) ?_
  refine lv_iconst (v := 0) hx hb dX3_nearest_1 (by decide) ?_
  refine va_put (D := (dC, dI)) (ci := 3) (v := .int 0) (ty := .int) (C := RX3) (T := TX3) (N := 17) hx hb hT inX3 tyX3 tyX3_ok nmX3 hown hK hP hD hS 0 rfl rfl 0 (by decide) (hT _ tw_fl_X3_45) (fun _ h9 => h9) rfl (by decide +kernel) rfl rfl (Nat.le_of_ble_eq_true rfl) dX3_nearest_2 (fun H locs hP hD hS => ?_)
  have hP : va_P (dC, dI) vwCl (ps_mdW cI cZ w0 b0 0 mn kn co ln wr lt f) H := hP
  have hD : va_D A (ps_mdW cI cZ w0 b0 0 mn kn co ln wr lt f) := hD
  refine lv_iload_n hx hb dX3_nearest_5 rfl (lv_at hl 1 rfl) ?_
  refine lv_iload_n hx hb dX3_nearest_6 rfl (lv_at hl 2 rfl) ?_
  refine lv_iload_n hx hb dX3_nearest_7 rfl (lv_at hl 3 rfl) ?_
  refine vp_callSi (va_Run.run (va_runS (As := [.int x, .int y, .int z]) (rest := []) ⟨hx, hb, hml, hown, hT⟩ (mX3_isPlace l x y z) (va_cwS 3 hT (ps_gS tw_ml_X3_76 tw_st_X3_isPlace tw_in_X3 tw_co_X3_isPlace) rfl rfl rfl ⟨by decide, by decide, by decide +kernel⟩ ⟨Nat.le_of_ble_eq_true rfl, Nat.le_of_ble_eq_true rfl⟩) preEq rfl rfl hl.1 rfl (lv_room (Nat.le_of_ble_eq_true rfl)) dX3_nearest_8 ⟨Nat.le_of_ble_eq_true rfl, Nat.le_of_ble_eq_true rfl⟩)) (fun r hr => ?_)
  obtain rfl : r = ps_bi (ps_ip x y z) := hr
  refine ps_ifb_eq (tgt := 20) hx hb dX3_nearest_11 rfl (fun h11 => ?_) (fun h11 => ?_)
  · skip
    exact Bool.noConfusion (hip.symm.trans h11)
  · skip
    refine lv_iload hx hb dX3_nearest_14 (lv_at hl 4 rfl) ?_
    refine lv_iconst (v := 1) hx hb dX3_nearest_16 (by decide) ?_
    refine lv_icmp_ge (tgt := 26) hx hb dX3_nearest_17 rfl (fun h17 => ?_) (fun h17 => ?_)
    · skip
      refine lv_iload hx hb dX3_nearest_26 (lv_at hl 4 rfl) ?_
      refine lv_aload_n hx hb dX3_nearest_28 rfl (lv_at hl 0 rfl) ?_
      refine va_get (D := (dC, dI)) (ci := 3) (v := .int (nI mn)) (C := RX3) (T := TX3) (N := 17) hx hb hT inX3 hown hK hP 0 rfl rfl 1 (by decide) (hT _ tw_fl_X3_59) (fun _ h9 => h9) rfl dX3_nearest_29 ?_
      refine lv_icmp_le (tgt := 41) hx hb dX3_nearest_32 rfl (fun h32 => ?_) (fun h32 => ?_)
      · skip
        exact absurd h32 hk2
      · skip
        refine lv_aload_n hx hb dX3_nearest_35 rfl (lv_at hl 0 rfl) ?_
        refine lv_iconst (v := 2) hx hb dX3_nearest_36 (by decide) ?_
        refine ps_cqi (wc := ps_mdW cI cZ w0 b0 0 mn kn co ln wr lt f) (wr := []) (w1 := ps_mdW cI cZ w0 b0 2 mn kn co ln wr lt f) (ws2 := ps_mdW cI cZ w0 b0 2 mn kn co ln wr lt f) (va_runV (C := RX3) (As := [.int 2]) (rest := []) ⟨hx, hb, hml, hown, hT⟩ (mX3_fails l dC dI cI cZ w0 b0 0 mn kn co ln wr lt f 2 _) (cwV 1 hT (ps_gV tw_ml_X3_79 tw_im_X3_fails tw_se_X3_fails tw_in_X3 tw_co_X3_fails) rfl rfl rfl ⟨rfl, by decide, by decide, by decide +kernel⟩ ⟨Nat.le_of_ble_eq_true rfl, Nat.le_of_ble_eq_true rfl⟩) (ps_qreV (wc := ps_mdW cI cZ w0 b0 0 mn kn co ln wr lt f) (ci := 3) [0, 1, 2, 3, 4, 5, 6, 7, 8, 9, 10] hN hP hK hD rfl rfl rfl rfl rfl) rfl rfl hl.1 rfl (lv_room (Nat.le_of_ble_eq_true rfl)) dX3_nearest_37 ⟨Nat.le_of_ble_eq_true rfl, Nat.le_of_ble_eq_true rfl⟩) hS hA hP hD [0, 1, 2, 3, 4, 5, 6, 7, 8, 9, 10] [] [0, 1, 2, 3, 4, 5, 6, 7, 8, 9, 10] rfl rfl rfl (by decide) rfl rfl rfl (fun H locs hP hD hS => ?_)
        exact W.iret (v := 0) hx hb hr (fun t ht hW => ⟨⟨0, (), rfl, rfl, by rw [ht]; exact hP, va_K.moved hW.alike hK, hD⟩, hS.F ht⟩) hS.2.2 dX3_nearest_40
    · skip
      exact absurd (Int32.not_le.mp h17) hk1
set_option maxHeartbeats 4000000 in
set_option maxRecDepth 100000 in
theorem mX3_kept_n (l : Launch) (dC : Nat → ClassId) (dI : Nat → Nat → Nat) (cI cZ : ClassId) (w0 : Nat) (b0 : Nat → Nat) (th : Int32) (mn kn : Nat) (co : Int32) (ln : Nat) (wr lt : Int32) (f : ps_G) (hmn : mn ≤ 48) (d x y z i9 : Int32) (hd0 : ps_inr d 0 4 = true) (hx0 : ps_inr x 0 (((1 : Int32) <<< (d &&& 31)) - 1) = true) (hy0 : ps_inr y 0 (((1 : Int32) <<< (d &&& 31)) - 1) = true) (hz0 : ps_inr z 0 (((1 : Int32) <<< (d &&& 31)) - 1) = true) (k : Nat) (hf : ps_fp (ps_kz f mn (ps_pk (x <<< ((4 - d) &&& 31)) (y <<< ((4 - d) &&& 31)) (z <<< ((4 - d) &&& 31))) d i9) mn = some k) (sz : Nat) : Met l yX3_kept (.code yX3_kept cX3_kept 11 (some .int) :: ps_T) ({ frames := 2, cells := 0, slots := 0, locals := 44 }) (ps_qc (dC, dI) (ps_ty cI cZ) (ps_mdW cI cZ w0 b0 th mn kn co ln wr lt f) sz [.ref w0, .int d, .int x, .int y, .int z, .int i9]) (va_Qi (fun (r : Int32) (_ : Unit) => r = f 0 k) (ps_qB (dC, dI) (ps_ty cI cZ) (va_A (ps_mdW cI cZ w0 b0 th mn kn co ln wr lt f) sz) (ps_mdW cI cZ w0 b0 0 mn kn co ln wr lt f)) (va_A (ps_mdW cI cZ w0 b0 th mn kn co ln wr lt f) sz)) 0 0 (va_A (ps_mdW cI cZ w0 b0 th mn kn co ln wr lt f) sz) := by
  refine Met.ofW (cc := cX3_kept) (maxL := 11) (ret := (some .int)) (by decide) rfl ?_
  intro p e s m args below meth c s₁ B hml hv
  obtain ⟨rfl, hsz, hN, hP, hK, hD0⟩ := hv
  have hx := B.exec
  have hb := B.bytes
  have hr := B.returns
  have hlocks := B.notSynchronized
  have hT : ∀ w ∈ ps_T, w.before ([.ref w0, .int d, .int x, .int y, .int z, .int i9] : List Value).toArray s = true := fun w h => atoms_spec (ws := (.code yX3_kept cX3_kept 11 (some .int) :: ps_T)) B.pre w (List.mem_cons_of_mem _ h)
  have hown : s.vm.findClass RX3 = some m.cls := findClass_of_methodNamed B.named
  subst hsz
  have hD := hD0.self (sz := s.heap.size)
  generalize hAe : va_A (ps_mdW cI cZ w0 b0 th mn kn co ln wr lt f) s.heap.size = A at hD ⊢
  have hA : ∀ q : Nat, s.heap.size ≤ q → A q := fun q h => by rw [← hAe]; exact Or.inr h
  have hS : va_S A s.heap s.heap [] := va_S.rf
  have hl := lv_entry ([.ref w0, .int d, .int x, .int y, .int z, .int i9]) (n := 11) (Nat.le_of_ble_eq_true rfl)
  rw [lg_entry_eq]
  generalize (lg_sl ([.ref w0, .int d, .int x, .int y, .int z, .int i9]) ++ List.replicate (11 - (lg_sl ([.ref w0, .int d, .int x, .int y, .int z, .int i9])).length) Slot.unset).toArray = ls at hl ⊢
  have hl : lv_has ls 11 [(0, .ref w0), (1, .int d), (2, .int x), (3, .int y), (4, .int z), (5, .int i9)] := hl
  refine lv_aload_n hx hb dX3_kept_0 rfl (lv_at hl 0 rfl) ?_
  refine lv_iconst (v := 0) hx hb dX3_kept_1 (by decide) ?_
  refine va_put (D := (dC, dI)) (ci := 3) (v := .int 0) (ty := .int) (C := RX3) (T := TX3) (N := 17) hx hb hT inX3 tyX3 tyX3_ok nmX3 hown hK hP hD hS 0 rfl rfl 0 (by decide) (hT _ tw_fl_X3_45) (fun _ h9 => h9) rfl (by decide +kernel) rfl rfl (Nat.le_of_ble_eq_true rfl) dX3_kept_2 (fun H locs hP hD hS => ?_)
  have hP : va_P (dC, dI) vwCl (ps_mdW cI cZ w0 b0 0 mn kn co ln wr lt f) H := hP
  have hD : va_D A (ps_mdW cI cZ w0 b0 0 mn kn co ln wr lt f) := hD
  refine lv_iload_n hx hb dX3_kept_5 rfl (lv_at hl 1 rfl) ?_
  refine lv_iconst (v := 0) hx hb dX3_kept_6 (by decide) ?_
  refine lv_iconst (v := 4) hx hb dX3_kept_7 (by decide) ?_
  refine vp_callSi (va_Run.run (va_runS (As := [.int d, .int 0, .int 4]) (rest := []) ⟨hx, hb, hml, hown, hT⟩ (mX3_in l d 0 4) (va_cwS 3 hT (ps_gS tw_ml_X3_48 tw_st_X3_in tw_in_X3 tw_co_X3_in) rfl rfl rfl ⟨by decide, by decide, by decide +kernel⟩ ⟨Nat.le_of_ble_eq_true rfl, Nat.le_of_ble_eq_true rfl⟩) preEq rfl rfl hl.1 rfl (lv_room (Nat.le_of_ble_eq_true rfl)) dX3_kept_8 ⟨Nat.le_of_ble_eq_true rfl, Nat.le_of_ble_eq_true rfl⟩)) (fun r hr => ?_)
  obtain rfl : r = ps_bi (ps_inr d 0 4) := hr
  refine ps_ifb_eq (tgt := 20) hx hb dX3_kept_11 rfl (fun h11 => ?_) (fun h11 => ?_)
  · skip
    exact Bool.noConfusion (hd0.symm.trans h11)
  · skip
    refine lv_iconst (v := 1) hx hb dX3_kept_14 (by decide) ?_
    refine lv_iload_n hx hb dX3_kept_15 rfl (lv_at hl 1 rfl) ?_
    refine lv_ishl hx hb dX3_kept_16 ?_
    refine lv_goto (tgt := 21) hx hb dX3_kept_17 rfl ?_
    refine lv_istore (lv' := [(6, .int (1 <<< (d &&& 31))), (0, .ref w0), (1, .int d), (2, .int x), (3, .int y), (4, .int z), (5, .int i9)]) hx hb dX3_kept_21 hl (by decide) rfl (fun ls hl => ?_)
    refine lv_iload hx hb dX3_kept_23 (lv_at hl 0 rfl) ?_
    refine lv_if_eq (tgt := 65) hx hb dX3_kept_25 rfl (fun h25 => ?_) (fun h25 => ?_)
    · skip
      exact absurd h25 (ps_side hd0)
    · skip
      refine lv_iload_n hx hb dX3_kept_28 rfl (lv_at hl 3 rfl) ?_
      refine lv_iconst (v := 0) hx hb dX3_kept_29 (by decide) ?_
      refine lv_iload hx hb dX3_kept_30 (lv_at hl 0 rfl) ?_
      refine lv_iconst (v := 1) hx hb dX3_kept_32 (by decide) ?_
      refine lv_isub hx hb dX3_kept_33 ?_
      refine vp_callSi (va_Run.run (va_runS (As := [.int x, .int 0, .int ((1 <<< (d &&& 31)) - 1)]) (rest := []) ⟨hx, hb, hml, hown, hT⟩ (mX3_in l x 0 ((1 <<< (d &&& 31)) - 1)) (va_cwS 3 hT (ps_gS tw_ml_X3_48 tw_st_X3_in tw_in_X3 tw_co_X3_in) rfl rfl rfl ⟨by decide, by decide, by decide +kernel⟩ ⟨Nat.le_of_ble_eq_true rfl, Nat.le_of_ble_eq_true rfl⟩) preEq rfl rfl hl.1 rfl (lv_room (Nat.le_of_ble_eq_true rfl)) dX3_kept_34 ⟨Nat.le_of_ble_eq_true rfl, Nat.le_of_ble_eq_true rfl⟩)) (fun r hr => ?_)
      obtain rfl : r = ps_bi (ps_inr x 0 ((1 <<< (d &&& 31)) - 1)) := hr
      refine ps_ifb_eq (tgt := 65) hx hb dX3_kept_37 rfl (fun h37 => ?_) (fun h37 => ?_)
      · skip
        exact Bool.noConfusion (hx0.symm.trans h37)
      · skip
        refine lv_iload_n hx hb dX3_kept_40 rfl (lv_at hl 4 rfl) ?_
        refine lv_iconst (v := 0) hx hb dX3_kept_41 (by decide) ?_
        refine lv_iload hx hb dX3_kept_42 (lv_at hl 0 rfl) ?_
        refine lv_iconst (v := 1) hx hb dX3_kept_44 (by decide) ?_
        refine lv_isub hx hb dX3_kept_45 ?_
        refine vp_callSi (va_Run.run (va_runS (As := [.int y, .int 0, .int ((1 <<< (d &&& 31)) - 1)]) (rest := []) ⟨hx, hb, hml, hown, hT⟩ (mX3_in l y 0 ((1 <<< (d &&& 31)) - 1)) (va_cwS 3 hT (ps_gS tw_ml_X3_48 tw_st_X3_in tw_in_X3 tw_co_X3_in) rfl rfl rfl ⟨by decide, by decide, by decide +kernel⟩ ⟨Nat.le_of_ble_eq_true rfl, Nat.le_of_ble_eq_true rfl⟩) preEq rfl rfl hl.1 rfl (lv_room (Nat.le_of_ble_eq_true rfl)) dX3_kept_46 ⟨Nat.le_of_ble_eq_true rfl, Nat.le_of_ble_eq_true rfl⟩)) (fun r hr => ?_)
        obtain rfl : r = ps_bi (ps_inr y 0 ((1 <<< (d &&& 31)) - 1)) := hr
        refine ps_ifb_eq (tgt := 65) hx hb dX3_kept_49 rfl (fun h49 => ?_) (fun h49 => ?_)
        · skip
          exact Bool.noConfusion (hy0.symm.trans h49)
        · skip
          refine lv_iload hx hb dX3_kept_52 (lv_at hl 5 rfl) ?_
          refine lv_iconst (v := 0) hx hb dX3_kept_54 (by decide) ?_
          refine lv_iload hx hb dX3_kept_55 (lv_at hl 0 rfl) ?_
          refine lv_iconst (v := 1) hx hb dX3_kept_57 (by decide) ?_
          refine lv_isub hx hb dX3_kept_58 ?_
          refine vp_callSi (va_Run.run (va_runS (As := [.int z, .int 0, .int ((1 <<< (d &&& 31)) - 1)]) (rest := []) ⟨hx, hb, hml, hown, hT⟩ (mX3_in l z 0 ((1 <<< (d &&& 31)) - 1)) (va_cwS 3 hT (ps_gS tw_ml_X3_48 tw_st_X3_in tw_in_X3 tw_co_X3_in) rfl rfl rfl ⟨by decide, by decide, by decide +kernel⟩ ⟨Nat.le_of_ble_eq_true rfl, Nat.le_of_ble_eq_true rfl⟩) preEq rfl rfl hl.1 rfl (lv_room (Nat.le_of_ble_eq_true rfl)) dX3_kept_59 ⟨Nat.le_of_ble_eq_true rfl, Nat.le_of_ble_eq_true rfl⟩)) (fun r hr => ?_)
          obtain rfl : r = ps_bi (ps_inr z 0 ((1 <<< (d &&& 31)) - 1)) := hr
          refine ps_ifb_ne (tgt := 71) hx hb dX3_kept_62 rfl (fun h62 => ?_) (fun h62 => ?_)
          · skip
            refine lv_iload_n hx hb dX3_kept_71 rfl (lv_at hl 3 rfl) ?_
            refine lv_iconst (v := 4) hx hb dX3_kept_72 (by decide) ?_
            refine lv_iload_n hx hb dX3_kept_73 rfl (lv_at hl 2 rfl) ?_
            refine lv_isub hx hb dX3_kept_74 ?_
            refine lv_ishl hx hb dX3_kept_75 ?_
            refine lv_iload_n hx hb dX3_kept_76 rfl (lv_at hl 4 rfl) ?_
            refine lv_iconst (v := 4) hx hb dX3_kept_77 (by decide) ?_
            refine lv_iload_n hx hb dX3_kept_78 rfl (lv_at hl 2 rfl) ?_
            refine lv_isub hx hb dX3_kept_79 ?_
            refine lv_ishl hx hb dX3_kept_80 ?_
            refine lv_iload hx hb dX3_kept_81 (lv_at hl 5 rfl) ?_
            refine lv_iconst (v := 4) hx hb dX3_kept_83 (by decide) ?_
            refine lv_iload_n hx hb dX3_kept_84 rfl (lv_at hl 2 rfl) ?_
            refine lv_isub hx hb dX3_kept_85 ?_
            refine lv_ishl hx hb dX3_kept_86 ?_
            refine vp_callSi (va_Run.run (va_runS (As := [.int (x <<< ((4 - d) &&& 31)), .int (y <<< ((4 - d) &&& 31)), .int (z <<< ((4 - d) &&& 31))]) (rest := []) ⟨hx, hb, hml, hown, hT⟩ (mX3_packed l (x <<< ((4 - d) &&& 31)) (y <<< ((4 - d) &&& 31)) (z <<< ((4 - d) &&& 31))) (va_cwS 3 hT (ps_gS tw_ml_X3_86 tw_st_X3_packed tw_in_X3 tw_co_X3_packed) rfl rfl rfl ⟨by decide, by decide, by decide +kernel⟩ ⟨Nat.le_of_ble_eq_true rfl, Nat.le_of_ble_eq_true rfl⟩) preEq rfl rfl hl.1 rfl (lv_room (Nat.le_of_ble_eq_true rfl)) dX3_kept_87 ⟨Nat.le_of_ble_eq_true rfl, Nat.le_of_ble_eq_true rfl⟩)) (fun r hr => ?_)
            obtain rfl : r = ps_pk (x <<< ((4 - d) &&& 31)) (y <<< ((4 - d) &&& 31)) (z <<< ((4 - d) &&& 31)) := hr
            refine lv_istore (lv' := [(7, .int (ps_pk (x <<< ((4 - d) &&& 31)) (y <<< ((4 - d) &&& 31)) (z <<< ((4 - d) &&& 31)))), (6, .int (1 <<< (d &&& 31))), (0, .ref w0), (1, .int d), (2, .int x), (3, .int y), (4, .int z), (5, .int i9)]) hx hb dX3_kept_90 hl (by decide) rfl (fun ls hl => ?_)
            refine lv_iconst (v := 0) hx hb dX3_kept_92 (by decide) ?_
            refine lv_istore (lv' := [(8, .int 0), (7, .int (ps_pk (x <<< ((4 - d) &&& 31)) (y <<< ((4 - d) &&& 31)) (z <<< ((4 - d) &&& 31)))), (6, .int (1 <<< (d &&& 31))), (0, .ref w0), (1, .int d), (2, .int x), (3, .int y), (4, .int z), (5, .int i9)]) hx hb dX3_kept_93 hl (by decide) rfl (fun ls hl => ?_)
            have hl : lv_has ls 11 [(8, .int (nI 0)), (7, .int (ps_pk (x <<< ((4 - d) &&& 31)) (y <<< ((4 - d) &&& 31)) (z <<< ((4 - d) &&& 31)))), (6, .int ((1 : Int32) <<< (d &&& 31))), (0, .ref w0), (1, .int d), (2, .int x), (3, .int y), (4, .int z), (5, .int i9)] := hl
            refine ps_loopS (α := Nat) (fun x9 => mn - x9) (fun x9 ls => (x9 ≤ mn) ∧ (∀ j, j < x9 → ps_kz f mn (ps_pk (x <<< ((4 - d) &&& 31)) (y <<< ((4 - d) &&& 31)) (z <<< ((4 - d) &&& 31))) d i9 j = false) ∧ lv_has ls 11 [(0, .ref w0), (1, .int d), (2, .int x), (3, .int y), (4, .int z), (5, .int i9), (7, .int (ps_pk (x <<< ((4 - d) &&& 31)) (y <<< ((4 - d) &&& 31)) (z <<< ((4 - d) &&& 31)))), (8, .int (nI x9))]) ?_ 0 ls ⟨by omega, fun j hj => absurd hj (Nat.not_lt_zero j), lv_sub hl [3, 4, 5, 6, 7, 8, 1, 0] rfl⟩
            intro x9 ls ih95 hI
            obtain ⟨hx9, hj9, hl⟩ := hI
            refine lv_iload hx hb dX3_kept_95 (lv_at hl 7 rfl) ?_
            refine lv_aload_n hx hb dX3_kept_97 rfl (lv_at hl 0 rfl) ?_
            refine va_get (D := (dC, dI)) (ci := 3) (v := .int (nI mn)) (C := RX3) (T := TX3) (N := 17) hx hb hT inX3 hown hK hP 0 rfl rfl 1 (by decide) (hT _ tw_fl_X3_59) (fun _ h9 => h9) rfl dX3_kept_98 ?_
            refine ps_icmp_ge (tgt := 235) (a := x9) (b := mn) hx hb dX3_kept_101 rfl (by omega) (by omega) (fun h101 => ?_) (fun h101 => ?_)
            · skip
              exact Bool.noConfusion ((hj9 k (by have := (ps_fp_spec hf).1; omega)).symm.trans (ps_fp_spec hf).2.1)
            · skip
              refine lv_iconst (v := 0) hx hb dX3_kept_104 (by decide) ?_
              refine lv_istore (lv' := [(9, .int 0), (0, .ref w0), (1, .int d), (2, .int x), (3, .int y), (4, .int z), (5, .int i9), (7, .int (ps_pk (x <<< ((4 - d) &&& 31)) (y <<< ((4 - d) &&& 31)) (z <<< ((4 - d) &&& 31)))), (8, .int (nI x9))]) hx hb dX3_kept_105 hl (by decide) rfl (fun ls hl => ?_)
              refine lv_iconst (v := 0) hx hb dX3_kept_107 (by decide) ?_
              refine lv_istore (lv' := [(10, .int 0), (9, .int 0), (0, .ref w0), (1, .int d), (2, .int x), (3, .int y), (4, .int z), (5, .int i9), (7, .int (ps_pk (x <<< ((4 - d) &&& 31)) (y <<< ((4 - d) &&& 31)) (z <<< ((4 - d) &&& 31)))), (8, .int (nI x9))]) hx hb dX3_kept_108 hl (by decide) rfl (fun ls hl => ?_)
              have hl : lv_has ls 11 [(10, .int (nI 0)), (9, .int (nI (ps_cn (ps_kq f (ps_pk (x <<< ((4 - d) &&& 31)) (y <<< ((4 - d) &&& 31)) (z <<< ((4 - d) &&& 31))) d x9) 0))), (0, .ref w0), (1, .int d), (2, .int x), (3, .int y), (4, .int z), (5, .int i9), (7, .int (ps_pk (x <<< ((4 - d) &&& 31)) (y <<< ((4 - d) &&& 31)) (z <<< ((4 - d) &&& 31)))), (8, .int (nI x9))] := hl
              refine ps_loopS (α := Nat) (fun j => mn - j) (fun j ls => (j ≤ mn) ∧ lv_has ls 11 [(0, .ref w0), (1, .int d), (2, .int x), (3, .int y), (4, .int z), (5, .int i9), (7, .int (ps_pk (x <<< ((4 - d) &&& 31)) (y <<< ((4 - d) &&& 31)) (z <<< ((4 - d) &&& 31)))), (8, .int (nI x9)), (9, .int (nI (ps_cn (ps_kq f (ps_pk (x <<< ((4 - d) &&& 31)) (y <<< ((4 - d) &&& 31)) (z <<< ((4 - d) &&& 31))) d x9) j))), (10, .int (nI j))]) ?_ 0 ls ⟨by omega, lv_sub hl [2, 3, 4, 5, 6, 7, 8, 9, 1, 0] rfl⟩
              intro j ls ih110 hI
              obtain ⟨hj, hl⟩ := hI
              refine lv_iload hx hb dX3_kept_110 (lv_at hl 9 rfl) ?_
              refine lv_aload_n hx hb dX3_kept_112 rfl (lv_at hl 0 rfl) ?_
              refine va_get (D := (dC, dI)) (ci := 3) (v := .int (nI mn)) (C := RX3) (T := TX3) (N := 17) hx hb hT inX3 hown hK hP 0 rfl rfl 1 (by decide) (hT _ tw_fl_X3_59) (fun _ h9 => h9) rfl dX3_kept_113 ?_
              refine ps_icmp_ge (tgt := 187) (a := j) (b := mn) hx hb dX3_kept_116 rfl (by omega) (by omega) (fun h116 => ?_) (fun h116 => ?_)
              · skip
                have ej : j = mn := by omega
                · skip
                  rw [ej] at hl
                  refine lv_aload_n hx hb dX3_kept_187 rfl (lv_at hl 0 rfl) ?_
                  refine va_get (D := (dC, dI)) (ci := 3) (v := .ref (b0 3)) (C := RX3) (T := TX3) (N := 17) hx hb hT inX3 hown hK hP 0 rfl rfl 5 (by decide) (hT _ tw_fl_X3_19) (fun _ h9 => h9) rfl dX3_kept_188 ?_
                  refine lv_iload hx hb dX3_kept_191 (lv_at hl 7 rfl) ?_
                  refine ps_iald (k := x9) (f := f 3) hx hb hK hP 4 0 rfl rfl (by omega) (by decide) dX3_kept_193 ?_
                  refine lv_iload_n hx hb dX3_kept_194 rfl (lv_at hl 1 rfl) ?_
                  refine lv_icmp_ne (tgt := 229) hx hb dX3_kept_195 rfl (fun h195 => ?_) (fun h195 => ?_)
                  · skip
                    have hc9 : ps_kz f mn (ps_pk (x <<< ((4 - d) &&& 31)) (y <<< ((4 - d) &&& 31)) (z <<< ((4 - d) &&& 31))) d i9 x9 = false := by simp [ps_kz, h195]
                    refine lv_iinc (k := 7) (v := nI (x9 + 1)) (lv' := [(8, .int (nI (x9 + 1))), (0, .ref w0), (1, .int d), (2, .int x), (3, .int y), (4, .int z), (5, .int i9), (7, .int (ps_pk (x <<< ((4 - d) &&& 31)) (y <<< ((4 - d) &&& 31)) (z <<< ((4 - d) &&& 31)))), (9, .int (nI (ps_cn (ps_kq f (ps_pk (x <<< ((4 - d) &&& 31)) (y <<< ((4 - d) &&& 31)) (z <<< ((4 - d) &&& 31))) d x9) mn))), (10, .int (nI mn))]) hx hb dX3_kept_229 hl rfl (ps_inc _) (by decide) rfl (fun ls hl => ?_)
                    refine lv_goto (tgt := 95) hx hb dX3_kept_232 rfl ?_
                    exact ih95 ((x9 + 1)) ls (by omega) ⟨by omega, lt_s hj9 hc9, lv_sub hl [1, 2, 3, 4, 5, 6, 7, 0] rfl⟩
                  · skip
                    refine lv_aload_n hx hb dX3_kept_198 rfl (lv_at hl 0 rfl) ?_
                    refine va_get (D := (dC, dI)) (ci := 3) (v := .ref (b0 1)) (C := RX3) (T := TX3) (N := 17) hx hb hT inX3 hown hK hP 0 rfl rfl 3 (by decide) (hT _ tw_fl_X3_13) (fun _ h9 => h9) rfl dX3_kept_199 ?_
                    refine lv_iload hx hb dX3_kept_202 (lv_at hl 7 rfl) ?_
                    refine ps_iald (k := x9) (f := f 1) hx hb hK hP 2 0 rfl rfl (by omega) (by decide) dX3_kept_204 ?_
                    refine lv_iload hx hb dX3_kept_205 (lv_at hl 6 rfl) ?_
                    refine lv_iload_n hx hb dX3_kept_207 rfl (lv_at hl 1 rfl) ?_
                    refine vp_callSi (va_Run.run (va_runS (As := [.int (f 1 x9), .int (ps_pk (x <<< ((4 - d) &&& 31)) (y <<< ((4 - d) &&& 31)) (z <<< ((4 - d) &&& 31))), .int d]) (rest := []) ⟨hx, hb, hml, hown, hT⟩ (mX3_isOne l (f 1 x9) (ps_pk (x <<< ((4 - d) &&& 31)) (y <<< ((4 - d) &&& 31)) (z <<< ((4 - d) &&& 31))) d) (va_cwS 3 hT (ps_gS tw_ml_X3_66 tw_st_X3_isOne tw_in_X3 tw_co_X3_isOne) rfl rfl rfl ⟨by decide, by decide, by decide +kernel⟩ ⟨Nat.le_of_ble_eq_true rfl, Nat.le_of_ble_eq_true rfl⟩) preEq rfl rfl hl.1 rfl (lv_room (Nat.le_of_ble_eq_true rfl)) dX3_kept_208 ⟨Nat.le_of_ble_eq_true rfl, Nat.le_of_ble_eq_true rfl⟩)) (fun r hr => ?_)
                    obtain rfl : r = ps_bi (ps_mo (f 1 x9) (ps_pk (x <<< ((4 - d) &&& 31)) (y <<< ((4 - d) &&& 31)) (z <<< ((4 - d) &&& 31))) d) := hr
                    refine ps_ifb_eq (tgt := 229) hx hb dX3_kept_211 rfl (fun h211 => ?_) (fun h211 => ?_)
                    · skip
                      have hc9 : ps_kz f mn (ps_pk (x <<< ((4 - d) &&& 31)) (y <<< ((4 - d) &&& 31)) (z <<< ((4 - d) &&& 31))) d i9 x9 = false := by simp [ps_kz, h211]
                      refine lv_iinc (k := 7) (v := nI (x9 + 1)) (lv' := [(8, .int (nI (x9 + 1))), (0, .ref w0), (1, .int d), (2, .int x), (3, .int y), (4, .int z), (5, .int i9), (7, .int (ps_pk (x <<< ((4 - d) &&& 31)) (y <<< ((4 - d) &&& 31)) (z <<< ((4 - d) &&& 31)))), (9, .int (nI (ps_cn (ps_kq f (ps_pk (x <<< ((4 - d) &&& 31)) (y <<< ((4 - d) &&& 31)) (z <<< ((4 - d) &&& 31))) d x9) mn))), (10, .int (nI mn))]) hx hb dX3_kept_229 hl rfl (ps_inc _) (by decide) rfl (fun ls hl => ?_)
                      refine lv_goto (tgt := 95) hx hb dX3_kept_232 rfl ?_
                      exact ih95 ((x9 + 1)) ls (by omega) ⟨by omega, lt_s hj9 hc9, lv_sub hl [1, 2, 3, 4, 5, 6, 7, 0] rfl⟩
                    · skip
                      refine lv_iload hx hb dX3_kept_214 (lv_at hl 8 rfl) ?_
                      refine lv_iload hx hb dX3_kept_216 (lv_at hl 5 rfl) ?_
                      refine lv_icmp_ne (tgt := 229) hx hb dX3_kept_218 rfl (fun h218 => ?_) (fun h218 => ?_)
                      · skip
                        have hc9 : ps_kz f mn (ps_pk (x <<< ((4 - d) &&& 31)) (y <<< ((4 - d) &&& 31)) (z <<< ((4 - d) &&& 31))) d i9 x9 = false := by simp [ps_kz, h218]
                        refine lv_iinc (k := 7) (v := nI (x9 + 1)) (lv' := [(8, .int (nI (x9 + 1))), (0, .ref w0), (1, .int d), (2, .int x), (3, .int y), (4, .int z), (5, .int i9), (7, .int (ps_pk (x <<< ((4 - d) &&& 31)) (y <<< ((4 - d) &&& 31)) (z <<< ((4 - d) &&& 31)))), (9, .int (nI (ps_cn (ps_kq f (ps_pk (x <<< ((4 - d) &&& 31)) (y <<< ((4 - d) &&& 31)) (z <<< ((4 - d) &&& 31))) d x9) mn))), (10, .int (nI mn))]) hx hb dX3_kept_229 hl rfl (ps_inc _) (by decide) rfl (fun ls hl => ?_)
                        refine lv_goto (tgt := 95) hx hb dX3_kept_232 rfl ?_
                        exact ih95 ((x9 + 1)) ls (by omega) ⟨by omega, lt_s hj9 hc9, lv_sub hl [1, 2, 3, 4, 5, 6, 7, 0] rfl⟩
                      · skip
                        have hc9 : ps_kz f mn (ps_pk (x <<< ((4 - d) &&& 31)) (y <<< ((4 - d) &&& 31)) (z <<< ((4 - d) &&& 31))) d i9 x9 = true := by simp [ps_kz, h195, h211, h218]
                        refine lv_aload_n hx hb dX3_kept_221 rfl (lv_at hl 0 rfl) ?_
                        refine va_get (D := (dC, dI)) (ci := 3) (v := .ref (b0 0)) (C := RX3) (T := TX3) (N := 17) hx hb hT inX3 hown hK hP 0 rfl rfl 2 (by decide) (hT _ tw_fl_X3_7) (fun _ h9 => h9) rfl dX3_kept_222 ?_
                        refine lv_iload hx hb dX3_kept_225 (lv_at hl 7 rfl) ?_
                        refine ps_iald (k := x9) (f := f 0) hx hb hK hP 1 0 rfl rfl (by omega) (by decide) dX3_kept_227 ?_
                        exact W.iret (v := f 0 x9) hx hb hr (fun t ht hW => ⟨⟨f 0 x9, (), rfl, by have e9 := (ps_fp_some h101 hc9 hj9).symm.trans hf; cases e9; rfl, by rw [ht]; exact hP, va_K.moved hW.alike hK, hD⟩, hS.F ht⟩) hS.2.2 dX3_kept_228
              · skip
                refine lv_aload_n hx hb dX3_kept_119 rfl (lv_at hl 0 rfl) ?_
                refine va_get (D := (dC, dI)) (ci := 3) (v := .ref (b0 3)) (C := RX3) (T := TX3) (N := 17) hx hb hT inX3 hown hK hP 0 rfl rfl 5 (by decide) (hT _ tw_fl_X3_19) (fun _ h9 => h9) rfl dX3_kept_120 ?_
                refine lv_iload hx hb dX3_kept_123 (lv_at hl 9 rfl) ?_
                refine ps_iald (k := j) (f := f 3) hx hb hK hP 4 0 rfl rfl (by omega) (by decide) dX3_kept_125 ?_
                refine lv_iload_n hx hb dX3_kept_126 rfl (lv_at hl 1 rfl) ?_
                refine lv_icmp_ne (tgt := 177) hx hb dX3_kept_127 rfl (fun h127 => ?_) (fun h127 => ?_)
                · skip
                  have hc : ps_kq f (ps_pk (x <<< ((4 - d) &&& 31)) (y <<< ((4 - d) &&& 31)) (z <<< ((4 - d) &&& 31))) d x9 j = false := by simp [ps_kq, h127]
                  refine lv_iload hx hb dX3_kept_177 (lv_at hl 8 rfl) ?_
                  refine lv_istore (lv' := [(9, .int (nI (ps_cn (ps_kq f (ps_pk (x <<< ((4 - d) &&& 31)) (y <<< ((4 - d) &&& 31)) (z <<< ((4 - d) &&& 31))) d x9) j))), (0, .ref w0), (1, .int d), (2, .int x), (3, .int y), (4, .int z), (5, .int i9), (7, .int (ps_pk (x <<< ((4 - d) &&& 31)) (y <<< ((4 - d) &&& 31)) (z <<< ((4 - d) &&& 31)))), (8, .int (nI x9)), (10, .int (nI j))]) hx hb dX3_kept_179 hl (by decide) rfl (fun ls hl => ?_)
                  refine lv_iinc (k := 9) (v := nI (j + 1)) (lv' := [(10, .int (nI (j + 1))), (9, .int (nI (ps_cn (ps_kq f (ps_pk (x <<< ((4 - d) &&& 31)) (y <<< ((4 - d) &&& 31)) (z <<< ((4 - d) &&& 31))) d x9) j))), (0, .ref w0), (1, .int d), (2, .int x), (3, .int y), (4, .int z), (5, .int i9), (7, .int (ps_pk (x <<< ((4 - d) &&& 31)) (y <<< ((4 - d) &&& 31)) (z <<< ((4 - d) &&& 31)))), (8, .int (nI x9))]) hx hb dX3_kept_181 hl rfl (ps_inc _) (by decide) rfl (fun ls hl => ?_)
                  refine lv_goto (tgt := 110) hx hb dX3_kept_184 rfl ?_
                  first | rw [← ps_cnT hc] at hl | rw [← ps_cnF hc] at hl
                  exact ih110 ((j + 1)) ls (by omega) ⟨by omega, lv_sub hl [2, 3, 4, 5, 6, 7, 8, 9, 1, 0] rfl⟩
                · skip
                  refine lv_aload_n hx hb dX3_kept_130 rfl (lv_at hl 0 rfl) ?_
                  refine va_get (D := (dC, dI)) (ci := 3) (v := .ref (b0 1)) (C := RX3) (T := TX3) (N := 17) hx hb hT inX3 hown hK hP 0 rfl rfl 3 (by decide) (hT _ tw_fl_X3_13) (fun _ h9 => h9) rfl dX3_kept_131 ?_
                  refine lv_iload hx hb dX3_kept_134 (lv_at hl 9 rfl) ?_
                  refine ps_iald (k := j) (f := f 1) hx hb hK hP 2 0 rfl rfl (by omega) (by decide) dX3_kept_136 ?_
                  refine lv_iload hx hb dX3_kept_137 (lv_at hl 6 rfl) ?_
                  refine lv_iload_n hx hb dX3_kept_139 rfl (lv_at hl 1 rfl) ?_
                  refine vp_callSi (va_Run.run (va_runS (As := [.int (f 1 j), .int (ps_pk (x <<< ((4 - d) &&& 31)) (y <<< ((4 - d) &&& 31)) (z <<< ((4 - d) &&& 31))), .int d]) (rest := []) ⟨hx, hb, hml, hown, hT⟩ (mX3_isOne l (f 1 j) (ps_pk (x <<< ((4 - d) &&& 31)) (y <<< ((4 - d) &&& 31)) (z <<< ((4 - d) &&& 31))) d) (va_cwS 3 hT (ps_gS tw_ml_X3_66 tw_st_X3_isOne tw_in_X3 tw_co_X3_isOne) rfl rfl rfl ⟨by decide, by decide, by decide +kernel⟩ ⟨Nat.le_of_ble_eq_true rfl, Nat.le_of_ble_eq_true rfl⟩) preEq rfl rfl hl.1 rfl (lv_room (Nat.le_of_ble_eq_true rfl)) dX3_kept_140 ⟨Nat.le_of_ble_eq_true rfl, Nat.le_of_ble_eq_true rfl⟩)) (fun r hr => ?_)
                  obtain rfl : r = ps_bi (ps_mo (f 1 j) (ps_pk (x <<< ((4 - d) &&& 31)) (y <<< ((4 - d) &&& 31)) (z <<< ((4 - d) &&& 31))) d) := hr
                  refine ps_ifb_eq (tgt := 177) hx hb dX3_kept_143 rfl (fun h143 => ?_) (fun h143 => ?_)
                  · skip
                    have hc : ps_kq f (ps_pk (x <<< ((4 - d) &&& 31)) (y <<< ((4 - d) &&& 31)) (z <<< ((4 - d) &&& 31))) d x9 j = false := by simp [ps_kq, h143]
                    refine lv_iload hx hb dX3_kept_177 (lv_at hl 8 rfl) ?_
                    refine lv_istore (lv' := [(9, .int (nI (ps_cn (ps_kq f (ps_pk (x <<< ((4 - d) &&& 31)) (y <<< ((4 - d) &&& 31)) (z <<< ((4 - d) &&& 31))) d x9) j))), (0, .ref w0), (1, .int d), (2, .int x), (3, .int y), (4, .int z), (5, .int i9), (7, .int (ps_pk (x <<< ((4 - d) &&& 31)) (y <<< ((4 - d) &&& 31)) (z <<< ((4 - d) &&& 31)))), (8, .int (nI x9)), (10, .int (nI j))]) hx hb dX3_kept_179 hl (by decide) rfl (fun ls hl => ?_)
                    refine lv_iinc (k := 9) (v := nI (j + 1)) (lv' := [(10, .int (nI (j + 1))), (9, .int (nI (ps_cn (ps_kq f (ps_pk (x <<< ((4 - d) &&& 31)) (y <<< ((4 - d) &&& 31)) (z <<< ((4 - d) &&& 31))) d x9) j))), (0, .ref w0), (1, .int d), (2, .int x), (3, .int y), (4, .int z), (5, .int i9), (7, .int (ps_pk (x <<< ((4 - d) &&& 31)) (y <<< ((4 - d) &&& 31)) (z <<< ((4 - d) &&& 31)))), (8, .int (nI x9))]) hx hb dX3_kept_181 hl rfl (ps_inc _) (by decide) rfl (fun ls hl => ?_)
                    refine lv_goto (tgt := 110) hx hb dX3_kept_184 rfl ?_
                    first | rw [← ps_cnT hc] at hl | rw [← ps_cnF hc] at hl
                    exact ih110 ((j + 1)) ls (by omega) ⟨by omega, lv_sub hl [2, 3, 4, 5, 6, 7, 8, 9, 1, 0] rfl⟩
                  · skip
                    refine lv_aload_n hx hb dX3_kept_146 rfl (lv_at hl 0 rfl) ?_
                    refine va_get (D := (dC, dI)) (ci := 3) (v := .ref (b0 0)) (C := RX3) (T := TX3) (N := 17) hx hb hT inX3 hown hK hP 0 rfl rfl 2 (by decide) (hT _ tw_fl_X3_7) (fun _ h9 => h9) rfl dX3_kept_147 ?_
                    refine lv_iload hx hb dX3_kept_150 (lv_at hl 9 rfl) ?_
                    refine ps_iald (k := j) (f := f 0) hx hb hK hP 1 0 rfl rfl (by omega) (by decide) dX3_kept_152 ?_
                    refine vp_callSl (va_Run.run (va_runS (As := [.int (f 0 j)]) (rest := []) ⟨hx, hb, hml, hown, hT⟩ (mX3_rankOf l (f 0 j)) (va_cwS 1 hT (ps_gS tw_ml_X3_55 tw_st_X3_rankOf tw_in_X3 tw_co_X3_rankOf) rfl rfl rfl ⟨by decide, by decide, by decide +kernel⟩ ⟨Nat.le_of_ble_eq_true rfl, Nat.le_of_ble_eq_true rfl⟩) preEq rfl rfl hl.1 rfl (lv_room (Nat.le_of_ble_eq_true rfl)) dX3_kept_153 ⟨Nat.le_of_ble_eq_true rfl, Nat.le_of_ble_eq_true rfl⟩)) (fun r hr => ?_)
                    obtain rfl : r = lN (ps_rk (f 0 j)) := hr
                    refine lv_aload_n hx hb dX3_kept_156 rfl (lv_at hl 0 rfl) ?_
                    refine va_get (D := (dC, dI)) (ci := 3) (v := .ref (b0 0)) (C := RX3) (T := TX3) (N := 17) hx hb hT inX3 hown hK hP 0 rfl rfl 2 (by decide) (hT _ tw_fl_X3_7) (fun _ h9 => h9) rfl dX3_kept_157 ?_
                    refine lv_iload hx hb dX3_kept_160 (lv_at hl 7 rfl) ?_
                    refine ps_iald (k := x9) (f := f 0) hx hb hK hP 1 0 rfl rfl (by omega) (by decide) dX3_kept_162 ?_
                    refine vp_callSl (va_Run.run (va_runS (As := [.int (f 0 x9)]) (rest := [.long (lN (ps_rk (f 0 j)))]) ⟨hx, hb, hml, hown, hT⟩ (mX3_rankOf l (f 0 x9)) (va_cwS 1 hT (ps_gS tw_ml_X3_55 tw_st_X3_rankOf tw_in_X3 tw_co_X3_rankOf) rfl rfl rfl ⟨by decide, by decide, by decide +kernel⟩ ⟨Nat.le_of_ble_eq_true rfl, Nat.le_of_ble_eq_true rfl⟩) preEq rfl rfl hl.1 rfl (lv_room (Nat.le_of_ble_eq_true rfl)) dX3_kept_163 ⟨Nat.le_of_ble_eq_true rfl, Nat.le_of_ble_eq_true rfl⟩)) (fun r hr => ?_)
                    obtain rfl : r = lN (ps_rk (f 0 x9)) := hr
                    refine W.lcmp hx hb dX3_kept_166 ?_
                    refine lv_if_le (tgt := 177) hx hb dX3_kept_167 rfl (fun h167 => ?_) (fun h167 => ?_)
                    · skip
                      have hc : ps_kq f (ps_pk (x <<< ((4 - d) &&& 31)) (y <<< ((4 - d) &&& 31)) (z <<< ((4 - d) &&& 31))) d x9 j = false := by simp [ps_kq, Nat.not_lt.mp (ps_rk_nl h167)]
                      refine lv_iload hx hb dX3_kept_177 (lv_at hl 8 rfl) ?_
                      refine lv_istore (lv' := [(9, .int (nI (ps_cn (ps_kq f (ps_pk (x <<< ((4 - d) &&& 31)) (y <<< ((4 - d) &&& 31)) (z <<< ((4 - d) &&& 31))) d x9) j))), (0, .ref w0), (1, .int d), (2, .int x), (3, .int y), (4, .int z), (5, .int i9), (7, .int (ps_pk (x <<< ((4 - d) &&& 31)) (y <<< ((4 - d) &&& 31)) (z <<< ((4 - d) &&& 31)))), (8, .int (nI x9)), (10, .int (nI j))]) hx hb dX3_kept_179 hl (by decide) rfl (fun ls hl => ?_)
                      refine lv_iinc (k := 9) (v := nI (j + 1)) (lv' := [(10, .int (nI (j + 1))), (9, .int (nI (ps_cn (ps_kq f (ps_pk (x <<< ((4 - d) &&& 31)) (y <<< ((4 - d) &&& 31)) (z <<< ((4 - d) &&& 31))) d x9) j))), (0, .ref w0), (1, .int d), (2, .int x), (3, .int y), (4, .int z), (5, .int i9), (7, .int (ps_pk (x <<< ((4 - d) &&& 31)) (y <<< ((4 - d) &&& 31)) (z <<< ((4 - d) &&& 31)))), (8, .int (nI x9))]) hx hb dX3_kept_181 hl rfl (ps_inc _) (by decide) rfl (fun ls hl => ?_)
                      refine lv_goto (tgt := 110) hx hb dX3_kept_184 rfl ?_
                      first | rw [← ps_cnT hc] at hl | rw [← ps_cnF hc] at hl
                      exact ih110 ((j + 1)) ls (by omega) ⟨by omega, lv_sub hl [2, 3, 4, 5, 6, 7, 8, 9, 1, 0] rfl⟩
                    · skip
                      have hc : ps_kq f (ps_pk (x <<< ((4 - d) &&& 31)) (y <<< ((4 - d) &&& 31)) (z <<< ((4 - d) &&& 31))) d x9 j = true := by simp [ps_kq, h127, h143, ps_rk_le h167]
                      refine lv_iload hx hb dX3_kept_170 (lv_at hl 8 rfl) ?_
                      refine lv_iconst (v := 1) hx hb dX3_kept_172 (by decide) ?_
                      refine lv_iadd hx hb dX3_kept_173 ?_
                      rw [nI_1]
                      refine lv_goto (tgt := 179) hx hb dX3_kept_174 rfl ?_
                      refine lv_istore (lv' := [(9, .int (nI ((ps_cn (ps_kq f (ps_pk (x <<< ((4 - d) &&& 31)) (y <<< ((4 - d) &&& 31)) (z <<< ((4 - d) &&& 31))) d x9) j) + 1))), (0, .ref w0), (1, .int d), (2, .int x), (3, .int y), (4, .int z), (5, .int i9), (7, .int (ps_pk (x <<< ((4 - d) &&& 31)) (y <<< ((4 - d) &&& 31)) (z <<< ((4 - d) &&& 31)))), (8, .int (nI x9)), (10, .int (nI j))]) hx hb dX3_kept_179 hl (by decide) rfl (fun ls hl => ?_)
                      refine lv_iinc (k := 9) (v := nI (j + 1)) (lv' := [(10, .int (nI (j + 1))), (9, .int (nI ((ps_cn (ps_kq f (ps_pk (x <<< ((4 - d) &&& 31)) (y <<< ((4 - d) &&& 31)) (z <<< ((4 - d) &&& 31))) d x9) j) + 1))), (0, .ref w0), (1, .int d), (2, .int x), (3, .int y), (4, .int z), (5, .int i9), (7, .int (ps_pk (x <<< ((4 - d) &&& 31)) (y <<< ((4 - d) &&& 31)) (z <<< ((4 - d) &&& 31)))), (8, .int (nI x9))]) hx hb dX3_kept_181 hl rfl (ps_inc _) (by decide) rfl (fun ls hl => ?_)
                      refine lv_goto (tgt := 110) hx hb dX3_kept_184 rfl ?_
                      first | rw [← ps_cnT hc] at hl | rw [← ps_cnF hc] at hl
                      exact ih110 ((j + 1)) ls (by omega) ⟨by omega, lv_sub hl [2, 3, 4, 5, 6, 7, 8, 9, 1, 0] rfl⟩
          · skip
            exact Bool.noConfusion (hz0.symm.trans h62)
set_option maxHeartbeats 4000000 in
set_option maxRecDepth 100000 in
theorem mX3_kept_2 (l : Launch) (dC : Nat → ClassId) (dI : Nat → Nat → Nat) (cI cZ : ClassId) (w0 : Nat) (b0 : Nat → Nat) (th : Int32) (mn kn : Nat) (co : Int32) (ln : Nat) (wr lt : Int32) (f : ps_G) (hmn : mn ≤ 48) (d x y z i9 : Int32) (hd0 : ps_inr d 0 4 = true) (hx0 : ps_inr x 0 (((1 : Int32) <<< (d &&& 31)) - 1) = true) (hy0 : ps_inr y 0 (((1 : Int32) <<< (d &&& 31)) - 1) = true) (hz0 : ps_inr z 0 (((1 : Int32) <<< (d &&& 31)) - 1) = true) (hf : ps_fp (ps_kz f mn (ps_pk (x <<< ((4 - d) &&& 31)) (y <<< ((4 - d) &&& 31)) (z <<< ((4 - d) &&& 31))) d i9) mn = none) (sz : Nat) : Met l yX3_kept (.code yX3_kept cX3_kept 11 (some .int) :: ps_T) ({ frames := 2, cells := 0, slots := 0, locals := 44 }) (ps_qc (dC, dI) (ps_ty cI cZ) (ps_mdW cI cZ w0 b0 th mn kn co ln wr lt f) sz [.ref w0, .int d, .int x, .int y, .int z, .int i9]) (va_Qi (fun (r : Int32) (_ : Unit) => r = 0) (ps_qB (dC, dI) (ps_ty cI cZ) (va_A (ps_mdW cI cZ w0 b0 th mn kn co ln wr lt f) sz) (ps_mdW cI cZ w0 b0 2 mn kn co ln wr lt f)) (va_A (ps_mdW cI cZ w0 b0 th mn kn co ln wr lt f) sz)) 0 0 (va_A (ps_mdW cI cZ w0 b0 th mn kn co ln wr lt f) sz) := by
  refine Met.ofW (cc := cX3_kept) (maxL := 11) (ret := (some .int)) (by decide) rfl ?_
  intro p e s m args below meth c s₁ B hml hv
  obtain ⟨rfl, hsz, hN, hP, hK, hD0⟩ := hv
  have hx := B.exec
  have hb := B.bytes
  have hr := B.returns
  have hlocks := B.notSynchronized
  have hT : ∀ w ∈ ps_T, w.before ([.ref w0, .int d, .int x, .int y, .int z, .int i9] : List Value).toArray s = true := fun w h => atoms_spec (ws := (.code yX3_kept cX3_kept 11 (some .int) :: ps_T)) B.pre w (List.mem_cons_of_mem _ h)
  have hown : s.vm.findClass RX3 = some m.cls := findClass_of_methodNamed B.named
  subst hsz
  have hD := hD0.self (sz := s.heap.size)
  generalize hAe : va_A (ps_mdW cI cZ w0 b0 th mn kn co ln wr lt f) s.heap.size = A at hD ⊢
  have hA : ∀ q : Nat, s.heap.size ≤ q → A q := fun q h => by rw [← hAe]; exact Or.inr h
  have hS : va_S A s.heap s.heap [] := va_S.rf
  have hl := lv_entry ([.ref w0, .int d, .int x, .int y, .int z, .int i9]) (n := 11) (Nat.le_of_ble_eq_true rfl)
  rw [lg_entry_eq]
  generalize (lg_sl ([.ref w0, .int d, .int x, .int y, .int z, .int i9]) ++ List.replicate (11 - (lg_sl ([.ref w0, .int d, .int x, .int y, .int z, .int i9])).length) Slot.unset).toArray = ls at hl ⊢
  have hl : lv_has ls 11 [(0, .ref w0), (1, .int d), (2, .int x), (3, .int y), (4, .int z), (5, .int i9)] := hl
  refine lv_aload_n hx hb dX3_kept_0 rfl (lv_at hl 0 rfl) ?_
  refine lv_iconst (v := 0) hx hb dX3_kept_1 (by decide) ?_
  refine va_put (D := (dC, dI)) (ci := 3) (v := .int 0) (ty := .int) (C := RX3) (T := TX3) (N := 17) hx hb hT inX3 tyX3 tyX3_ok nmX3 hown hK hP hD hS 0 rfl rfl 0 (by decide) (hT _ tw_fl_X3_45) (fun _ h9 => h9) rfl (by decide +kernel) rfl rfl (Nat.le_of_ble_eq_true rfl) dX3_kept_2 (fun H locs hP hD hS => ?_)
  have hP : va_P (dC, dI) vwCl (ps_mdW cI cZ w0 b0 0 mn kn co ln wr lt f) H := hP
  have hD : va_D A (ps_mdW cI cZ w0 b0 0 mn kn co ln wr lt f) := hD
  refine lv_iload_n hx hb dX3_kept_5 rfl (lv_at hl 1 rfl) ?_
  refine lv_iconst (v := 0) hx hb dX3_kept_6 (by decide) ?_
  refine lv_iconst (v := 4) hx hb dX3_kept_7 (by decide) ?_
  refine vp_callSi (va_Run.run (va_runS (As := [.int d, .int 0, .int 4]) (rest := []) ⟨hx, hb, hml, hown, hT⟩ (mX3_in l d 0 4) (va_cwS 3 hT (ps_gS tw_ml_X3_48 tw_st_X3_in tw_in_X3 tw_co_X3_in) rfl rfl rfl ⟨by decide, by decide, by decide +kernel⟩ ⟨Nat.le_of_ble_eq_true rfl, Nat.le_of_ble_eq_true rfl⟩) preEq rfl rfl hl.1 rfl (lv_room (Nat.le_of_ble_eq_true rfl)) dX3_kept_8 ⟨Nat.le_of_ble_eq_true rfl, Nat.le_of_ble_eq_true rfl⟩)) (fun r hr => ?_)
  obtain rfl : r = ps_bi (ps_inr d 0 4) := hr
  refine ps_ifb_eq (tgt := 20) hx hb dX3_kept_11 rfl (fun h11 => ?_) (fun h11 => ?_)
  · skip
    exact Bool.noConfusion (hd0.symm.trans h11)
  · skip
    refine lv_iconst (v := 1) hx hb dX3_kept_14 (by decide) ?_
    refine lv_iload_n hx hb dX3_kept_15 rfl (lv_at hl 1 rfl) ?_
    refine lv_ishl hx hb dX3_kept_16 ?_
    refine lv_goto (tgt := 21) hx hb dX3_kept_17 rfl ?_
    refine lv_istore (lv' := [(6, .int (1 <<< (d &&& 31))), (0, .ref w0), (1, .int d), (2, .int x), (3, .int y), (4, .int z), (5, .int i9)]) hx hb dX3_kept_21 hl (by decide) rfl (fun ls hl => ?_)
    refine lv_iload hx hb dX3_kept_23 (lv_at hl 0 rfl) ?_
    refine lv_if_eq (tgt := 65) hx hb dX3_kept_25 rfl (fun h25 => ?_) (fun h25 => ?_)
    · skip
      exact absurd h25 (ps_side hd0)
    · skip
      refine lv_iload_n hx hb dX3_kept_28 rfl (lv_at hl 3 rfl) ?_
      refine lv_iconst (v := 0) hx hb dX3_kept_29 (by decide) ?_
      refine lv_iload hx hb dX3_kept_30 (lv_at hl 0 rfl) ?_
      refine lv_iconst (v := 1) hx hb dX3_kept_32 (by decide) ?_
      refine lv_isub hx hb dX3_kept_33 ?_
      refine vp_callSi (va_Run.run (va_runS (As := [.int x, .int 0, .int ((1 <<< (d &&& 31)) - 1)]) (rest := []) ⟨hx, hb, hml, hown, hT⟩ (mX3_in l x 0 ((1 <<< (d &&& 31)) - 1)) (va_cwS 3 hT (ps_gS tw_ml_X3_48 tw_st_X3_in tw_in_X3 tw_co_X3_in) rfl rfl rfl ⟨by decide, by decide, by decide +kernel⟩ ⟨Nat.le_of_ble_eq_true rfl, Nat.le_of_ble_eq_true rfl⟩) preEq rfl rfl hl.1 rfl (lv_room (Nat.le_of_ble_eq_true rfl)) dX3_kept_34 ⟨Nat.le_of_ble_eq_true rfl, Nat.le_of_ble_eq_true rfl⟩)) (fun r hr => ?_)
      obtain rfl : r = ps_bi (ps_inr x 0 ((1 <<< (d &&& 31)) - 1)) := hr
      refine ps_ifb_eq (tgt := 65) hx hb dX3_kept_37 rfl (fun h37 => ?_) (fun h37 => ?_)
      · skip
        exact Bool.noConfusion (hx0.symm.trans h37)
      · skip
        refine lv_iload_n hx hb dX3_kept_40 rfl (lv_at hl 4 rfl) ?_
        refine lv_iconst (v := 0) hx hb dX3_kept_41 (by decide) ?_
        refine lv_iload hx hb dX3_kept_42 (lv_at hl 0 rfl) ?_
        refine lv_iconst (v := 1) hx hb dX3_kept_44 (by decide) ?_
        refine lv_isub hx hb dX3_kept_45 ?_
        refine vp_callSi (va_Run.run (va_runS (As := [.int y, .int 0, .int ((1 <<< (d &&& 31)) - 1)]) (rest := []) ⟨hx, hb, hml, hown, hT⟩ (mX3_in l y 0 ((1 <<< (d &&& 31)) - 1)) (va_cwS 3 hT (ps_gS tw_ml_X3_48 tw_st_X3_in tw_in_X3 tw_co_X3_in) rfl rfl rfl ⟨by decide, by decide, by decide +kernel⟩ ⟨Nat.le_of_ble_eq_true rfl, Nat.le_of_ble_eq_true rfl⟩) preEq rfl rfl hl.1 rfl (lv_room (Nat.le_of_ble_eq_true rfl)) dX3_kept_46 ⟨Nat.le_of_ble_eq_true rfl, Nat.le_of_ble_eq_true rfl⟩)) (fun r hr => ?_)
        obtain rfl : r = ps_bi (ps_inr y 0 ((1 <<< (d &&& 31)) - 1)) := hr
        refine ps_ifb_eq (tgt := 65) hx hb dX3_kept_49 rfl (fun h49 => ?_) (fun h49 => ?_)
        · skip
          exact Bool.noConfusion (hy0.symm.trans h49)
        · skip
          refine lv_iload hx hb dX3_kept_52 (lv_at hl 5 rfl) ?_
          refine lv_iconst (v := 0) hx hb dX3_kept_54 (by decide) ?_
          refine lv_iload hx hb dX3_kept_55 (lv_at hl 0 rfl) ?_
          refine lv_iconst (v := 1) hx hb dX3_kept_57 (by decide) ?_
          refine lv_isub hx hb dX3_kept_58 ?_
          refine vp_callSi (va_Run.run (va_runS (As := [.int z, .int 0, .int ((1 <<< (d &&& 31)) - 1)]) (rest := []) ⟨hx, hb, hml, hown, hT⟩ (mX3_in l z 0 ((1 <<< (d &&& 31)) - 1)) (va_cwS 3 hT (ps_gS tw_ml_X3_48 tw_st_X3_in tw_in_X3 tw_co_X3_in) rfl rfl rfl ⟨by decide, by decide, by decide +kernel⟩ ⟨Nat.le_of_ble_eq_true rfl, Nat.le_of_ble_eq_true rfl⟩) preEq rfl rfl hl.1 rfl (lv_room (Nat.le_of_ble_eq_true rfl)) dX3_kept_59 ⟨Nat.le_of_ble_eq_true rfl, Nat.le_of_ble_eq_true rfl⟩)) (fun r hr => ?_)
          obtain rfl : r = ps_bi (ps_inr z 0 ((1 <<< (d &&& 31)) - 1)) := hr
          refine ps_ifb_ne (tgt := 71) hx hb dX3_kept_62 rfl (fun h62 => ?_) (fun h62 => ?_)
          · skip
            refine lv_iload_n hx hb dX3_kept_71 rfl (lv_at hl 3 rfl) ?_
            refine lv_iconst (v := 4) hx hb dX3_kept_72 (by decide) ?_
            refine lv_iload_n hx hb dX3_kept_73 rfl (lv_at hl 2 rfl) ?_
            refine lv_isub hx hb dX3_kept_74 ?_
            refine lv_ishl hx hb dX3_kept_75 ?_
            refine lv_iload_n hx hb dX3_kept_76 rfl (lv_at hl 4 rfl) ?_
            refine lv_iconst (v := 4) hx hb dX3_kept_77 (by decide) ?_
            refine lv_iload_n hx hb dX3_kept_78 rfl (lv_at hl 2 rfl) ?_
            refine lv_isub hx hb dX3_kept_79 ?_
            refine lv_ishl hx hb dX3_kept_80 ?_
            refine lv_iload hx hb dX3_kept_81 (lv_at hl 5 rfl) ?_
            refine lv_iconst (v := 4) hx hb dX3_kept_83 (by decide) ?_
            refine lv_iload_n hx hb dX3_kept_84 rfl (lv_at hl 2 rfl) ?_
            refine lv_isub hx hb dX3_kept_85 ?_
            refine lv_ishl hx hb dX3_kept_86 ?_
            refine vp_callSi (va_Run.run (va_runS (As := [.int (x <<< ((4 - d) &&& 31)), .int (y <<< ((4 - d) &&& 31)), .int (z <<< ((4 - d) &&& 31))]) (rest := []) ⟨hx, hb, hml, hown, hT⟩ (mX3_packed l (x <<< ((4 - d) &&& 31)) (y <<< ((4 - d) &&& 31)) (z <<< ((4 - d) &&& 31))) (va_cwS 3 hT (ps_gS tw_ml_X3_86 tw_st_X3_packed tw_in_X3 tw_co_X3_packed) rfl rfl rfl ⟨by decide, by decide, by decide +kernel⟩ ⟨Nat.le_of_ble_eq_true rfl, Nat.le_of_ble_eq_true rfl⟩) preEq rfl rfl hl.1 rfl (lv_room (Nat.le_of_ble_eq_true rfl)) dX3_kept_87 ⟨Nat.le_of_ble_eq_true rfl, Nat.le_of_ble_eq_true rfl⟩)) (fun r hr => ?_)
            obtain rfl : r = ps_pk (x <<< ((4 - d) &&& 31)) (y <<< ((4 - d) &&& 31)) (z <<< ((4 - d) &&& 31)) := hr
            refine lv_istore (lv' := [(7, .int (ps_pk (x <<< ((4 - d) &&& 31)) (y <<< ((4 - d) &&& 31)) (z <<< ((4 - d) &&& 31)))), (6, .int (1 <<< (d &&& 31))), (0, .ref w0), (1, .int d), (2, .int x), (3, .int y), (4, .int z), (5, .int i9)]) hx hb dX3_kept_90 hl (by decide) rfl (fun ls hl => ?_)
            refine lv_iconst (v := 0) hx hb dX3_kept_92 (by decide) ?_
            refine lv_istore (lv' := [(8, .int 0), (7, .int (ps_pk (x <<< ((4 - d) &&& 31)) (y <<< ((4 - d) &&& 31)) (z <<< ((4 - d) &&& 31)))), (6, .int (1 <<< (d &&& 31))), (0, .ref w0), (1, .int d), (2, .int x), (3, .int y), (4, .int z), (5, .int i9)]) hx hb dX3_kept_93 hl (by decide) rfl (fun ls hl => ?_)
            have hl : lv_has ls 11 [(8, .int (nI 0)), (7, .int (ps_pk (x <<< ((4 - d) &&& 31)) (y <<< ((4 - d) &&& 31)) (z <<< ((4 - d) &&& 31)))), (6, .int ((1 : Int32) <<< (d &&& 31))), (0, .ref w0), (1, .int d), (2, .int x), (3, .int y), (4, .int z), (5, .int i9)] := hl
            refine ps_loopS (α := Nat) (fun x9 => mn - x9) (fun x9 ls => (x9 ≤ mn) ∧ (∀ j, j < x9 → ps_kz f mn (ps_pk (x <<< ((4 - d) &&& 31)) (y <<< ((4 - d) &&& 31)) (z <<< ((4 - d) &&& 31))) d i9 j = false) ∧ lv_has ls 11 [(0, .ref w0), (1, .int d), (2, .int x), (3, .int y), (4, .int z), (5, .int i9), (7, .int (ps_pk (x <<< ((4 - d) &&& 31)) (y <<< ((4 - d) &&& 31)) (z <<< ((4 - d) &&& 31)))), (8, .int (nI x9))]) ?_ 0 ls ⟨by omega, fun j hj => absurd hj (Nat.not_lt_zero j), lv_sub hl [3, 4, 5, 6, 7, 8, 1, 0] rfl⟩
            intro x9 ls ih95 hI
            obtain ⟨hx9, hj9, hl⟩ := hI
            refine lv_iload hx hb dX3_kept_95 (lv_at hl 7 rfl) ?_
            refine lv_aload_n hx hb dX3_kept_97 rfl (lv_at hl 0 rfl) ?_
            refine va_get (D := (dC, dI)) (ci := 3) (v := .int (nI mn)) (C := RX3) (T := TX3) (N := 17) hx hb hT inX3 hown hK hP 0 rfl rfl 1 (by decide) (hT _ tw_fl_X3_59) (fun _ h9 => h9) rfl dX3_kept_98 ?_
            refine ps_icmp_ge (tgt := 235) (a := x9) (b := mn) hx hb dX3_kept_101 rfl (by omega) (by omega) (fun h101 => ?_) (fun h101 => ?_)
            · skip
              refine lv_aload_n hx hb dX3_kept_235 rfl (lv_at hl 0 rfl) ?_
              refine lv_iconst (v := 2) hx hb dX3_kept_236 (by decide) ?_
              refine ps_cqi (wc := ps_mdW cI cZ w0 b0 0 mn kn co ln wr lt f) (wr := []) (w1 := ps_mdW cI cZ w0 b0 2 mn kn co ln wr lt f) (ws2 := ps_mdW cI cZ w0 b0 2 mn kn co ln wr lt f) (va_runV (C := RX3) (As := [.int 2]) (rest := []) ⟨hx, hb, hml, hown, hT⟩ (mX3_fails l dC dI cI cZ w0 b0 0 mn kn co ln wr lt f 2 _) (cwV 1 hT (ps_gV tw_ml_X3_79 tw_im_X3_fails tw_se_X3_fails tw_in_X3 tw_co_X3_fails) rfl rfl rfl ⟨rfl, by decide, by decide, by decide +kernel⟩ ⟨Nat.le_of_ble_eq_true rfl, Nat.le_of_ble_eq_true rfl⟩) (ps_qreV (wc := ps_mdW cI cZ w0 b0 0 mn kn co ln wr lt f) (ci := 3) [0, 1, 2, 3, 4, 5, 6, 7, 8, 9, 10] hN hP hK hD rfl rfl rfl rfl rfl) rfl rfl hl.1 rfl (lv_room (Nat.le_of_ble_eq_true rfl)) dX3_kept_237 ⟨Nat.le_of_ble_eq_true rfl, Nat.le_of_ble_eq_true rfl⟩) hS hA hP hD [0, 1, 2, 3, 4, 5, 6, 7, 8, 9, 10] [] [0, 1, 2, 3, 4, 5, 6, 7, 8, 9, 10] rfl rfl rfl (by decide) rfl rfl rfl (fun H locs hP hD hS => ?_)
              exact W.iret (v := 0) hx hb hr (fun t ht hW => ⟨⟨0, (), rfl, rfl, by rw [ht]; exact hP, va_K.moved hW.alike hK, hD⟩, hS.F ht⟩) hS.2.2 dX3_kept_240
            · skip
              refine lv_iconst (v := 0) hx hb dX3_kept_104 (by decide) ?_
              refine lv_istore (lv' := [(9, .int 0), (0, .ref w0), (1, .int d), (2, .int x), (3, .int y), (4, .int z), (5, .int i9), (7, .int (ps_pk (x <<< ((4 - d) &&& 31)) (y <<< ((4 - d) &&& 31)) (z <<< ((4 - d) &&& 31)))), (8, .int (nI x9))]) hx hb dX3_kept_105 hl (by decide) rfl (fun ls hl => ?_)
              refine lv_iconst (v := 0) hx hb dX3_kept_107 (by decide) ?_
              refine lv_istore (lv' := [(10, .int 0), (9, .int 0), (0, .ref w0), (1, .int d), (2, .int x), (3, .int y), (4, .int z), (5, .int i9), (7, .int (ps_pk (x <<< ((4 - d) &&& 31)) (y <<< ((4 - d) &&& 31)) (z <<< ((4 - d) &&& 31)))), (8, .int (nI x9))]) hx hb dX3_kept_108 hl (by decide) rfl (fun ls hl => ?_)
              have hl : lv_has ls 11 [(10, .int (nI 0)), (9, .int (nI (ps_cn (ps_kq f (ps_pk (x <<< ((4 - d) &&& 31)) (y <<< ((4 - d) &&& 31)) (z <<< ((4 - d) &&& 31))) d x9) 0))), (0, .ref w0), (1, .int d), (2, .int x), (3, .int y), (4, .int z), (5, .int i9), (7, .int (ps_pk (x <<< ((4 - d) &&& 31)) (y <<< ((4 - d) &&& 31)) (z <<< ((4 - d) &&& 31)))), (8, .int (nI x9))] := hl
              refine ps_loopS (α := Nat) (fun j => mn - j) (fun j ls => (j ≤ mn) ∧ lv_has ls 11 [(0, .ref w0), (1, .int d), (2, .int x), (3, .int y), (4, .int z), (5, .int i9), (7, .int (ps_pk (x <<< ((4 - d) &&& 31)) (y <<< ((4 - d) &&& 31)) (z <<< ((4 - d) &&& 31)))), (8, .int (nI x9)), (9, .int (nI (ps_cn (ps_kq f (ps_pk (x <<< ((4 - d) &&& 31)) (y <<< ((4 - d) &&& 31)) (z <<< ((4 - d) &&& 31))) d x9) j))), (10, .int (nI j))]) ?_ 0 ls ⟨by omega, lv_sub hl [2, 3, 4, 5, 6, 7, 8, 9, 1, 0] rfl⟩
              intro j ls ih110 hI
              obtain ⟨hj, hl⟩ := hI
              refine lv_iload hx hb dX3_kept_110 (lv_at hl 9 rfl) ?_
              refine lv_aload_n hx hb dX3_kept_112 rfl (lv_at hl 0 rfl) ?_
              refine va_get (D := (dC, dI)) (ci := 3) (v := .int (nI mn)) (C := RX3) (T := TX3) (N := 17) hx hb hT inX3 hown hK hP 0 rfl rfl 1 (by decide) (hT _ tw_fl_X3_59) (fun _ h9 => h9) rfl dX3_kept_113 ?_
              refine ps_icmp_ge (tgt := 187) (a := j) (b := mn) hx hb dX3_kept_116 rfl (by omega) (by omega) (fun h116 => ?_) (fun h116 => ?_)
              · skip
                have ej : j = mn := by omega
                · skip
                  rw [ej] at hl
                  refine lv_aload_n hx hb dX3_kept_187 rfl (lv_at hl 0 rfl) ?_
                  refine va_get (D := (dC, dI)) (ci := 3) (v := .ref (b0 3)) (C := RX3) (T := TX3) (N := 17) hx hb hT inX3 hown hK hP 0 rfl rfl 5 (by decide) (hT _ tw_fl_X3_19) (fun _ h9 => h9) rfl dX3_kept_188 ?_
                  refine lv_iload hx hb dX3_kept_191 (lv_at hl 7 rfl) ?_
                  refine ps_iald (k := x9) (f := f 3) hx hb hK hP 4 0 rfl rfl (by omega) (by decide) dX3_kept_193 ?_
                  refine lv_iload_n hx hb dX3_kept_194 rfl (lv_at hl 1 rfl) ?_
                  refine lv_icmp_ne (tgt := 229) hx hb dX3_kept_195 rfl (fun h195 => ?_) (fun h195 => ?_)
                  · skip
                    have hc9 : ps_kz f mn (ps_pk (x <<< ((4 - d) &&& 31)) (y <<< ((4 - d) &&& 31)) (z <<< ((4 - d) &&& 31))) d i9 x9 = false := by simp [ps_kz, h195]
                    refine lv_iinc (k := 7) (v := nI (x9 + 1)) (lv' := [(8, .int (nI (x9 + 1))), (0, .ref w0), (1, .int d), (2, .int x), (3, .int y), (4, .int z), (5, .int i9), (7, .int (ps_pk (x <<< ((4 - d) &&& 31)) (y <<< ((4 - d) &&& 31)) (z <<< ((4 - d) &&& 31)))), (9, .int (nI (ps_cn (ps_kq f (ps_pk (x <<< ((4 - d) &&& 31)) (y <<< ((4 - d) &&& 31)) (z <<< ((4 - d) &&& 31))) d x9) mn))), (10, .int (nI mn))]) hx hb dX3_kept_229 hl rfl (ps_inc _) (by decide) rfl (fun ls hl => ?_)
                    refine lv_goto (tgt := 95) hx hb dX3_kept_232 rfl ?_
                    exact ih95 ((x9 + 1)) ls (by omega) ⟨by omega, lt_s hj9 hc9, lv_sub hl [1, 2, 3, 4, 5, 6, 7, 0] rfl⟩
                  · skip
                    refine lv_aload_n hx hb dX3_kept_198 rfl (lv_at hl 0 rfl) ?_
                    refine va_get (D := (dC, dI)) (ci := 3) (v := .ref (b0 1)) (C := RX3) (T := TX3) (N := 17) hx hb hT inX3 hown hK hP 0 rfl rfl 3 (by decide) (hT _ tw_fl_X3_13) (fun _ h9 => h9) rfl dX3_kept_199 ?_
                    refine lv_iload hx hb dX3_kept_202 (lv_at hl 7 rfl) ?_
                    refine ps_iald (k := x9) (f := f 1) hx hb hK hP 2 0 rfl rfl (by omega) (by decide) dX3_kept_204 ?_
                    refine lv_iload hx hb dX3_kept_205 (lv_at hl 6 rfl) ?_
                    refine lv_iload_n hx hb dX3_kept_207 rfl (lv_at hl 1 rfl) ?_
                    refine vp_callSi (va_Run.run (va_runS (As := [.int (f 1 x9), .int (ps_pk (x <<< ((4 - d) &&& 31)) (y <<< ((4 - d) &&& 31)) (z <<< ((4 - d) &&& 31))), .int d]) (rest := []) ⟨hx, hb, hml, hown, hT⟩ (mX3_isOne l (f 1 x9) (ps_pk (x <<< ((4 - d) &&& 31)) (y <<< ((4 - d) &&& 31)) (z <<< ((4 - d) &&& 31))) d) (va_cwS 3 hT (ps_gS tw_ml_X3_66 tw_st_X3_isOne tw_in_X3 tw_co_X3_isOne) rfl rfl rfl ⟨by decide, by decide, by decide +kernel⟩ ⟨Nat.le_of_ble_eq_true rfl, Nat.le_of_ble_eq_true rfl⟩) preEq rfl rfl hl.1 rfl (lv_room (Nat.le_of_ble_eq_true rfl)) dX3_kept_208 ⟨Nat.le_of_ble_eq_true rfl, Nat.le_of_ble_eq_true rfl⟩)) (fun r hr => ?_)
                    obtain rfl : r = ps_bi (ps_mo (f 1 x9) (ps_pk (x <<< ((4 - d) &&& 31)) (y <<< ((4 - d) &&& 31)) (z <<< ((4 - d) &&& 31))) d) := hr
                    refine ps_ifb_eq (tgt := 229) hx hb dX3_kept_211 rfl (fun h211 => ?_) (fun h211 => ?_)
                    · skip
                      have hc9 : ps_kz f mn (ps_pk (x <<< ((4 - d) &&& 31)) (y <<< ((4 - d) &&& 31)) (z <<< ((4 - d) &&& 31))) d i9 x9 = false := by simp [ps_kz, h211]
                      refine lv_iinc (k := 7) (v := nI (x9 + 1)) (lv' := [(8, .int (nI (x9 + 1))), (0, .ref w0), (1, .int d), (2, .int x), (3, .int y), (4, .int z), (5, .int i9), (7, .int (ps_pk (x <<< ((4 - d) &&& 31)) (y <<< ((4 - d) &&& 31)) (z <<< ((4 - d) &&& 31)))), (9, .int (nI (ps_cn (ps_kq f (ps_pk (x <<< ((4 - d) &&& 31)) (y <<< ((4 - d) &&& 31)) (z <<< ((4 - d) &&& 31))) d x9) mn))), (10, .int (nI mn))]) hx hb dX3_kept_229 hl rfl (ps_inc _) (by decide) rfl (fun ls hl => ?_)
                      refine lv_goto (tgt := 95) hx hb dX3_kept_232 rfl ?_
                      exact ih95 ((x9 + 1)) ls (by omega) ⟨by omega, lt_s hj9 hc9, lv_sub hl [1, 2, 3, 4, 5, 6, 7, 0] rfl⟩
                    · skip
                      refine lv_iload hx hb dX3_kept_214 (lv_at hl 8 rfl) ?_
                      refine lv_iload hx hb dX3_kept_216 (lv_at hl 5 rfl) ?_
                      refine lv_icmp_ne (tgt := 229) hx hb dX3_kept_218 rfl (fun h218 => ?_) (fun h218 => ?_)
                      · skip
                        have hc9 : ps_kz f mn (ps_pk (x <<< ((4 - d) &&& 31)) (y <<< ((4 - d) &&& 31)) (z <<< ((4 - d) &&& 31))) d i9 x9 = false := by simp [ps_kz, h218]
                        refine lv_iinc (k := 7) (v := nI (x9 + 1)) (lv' := [(8, .int (nI (x9 + 1))), (0, .ref w0), (1, .int d), (2, .int x), (3, .int y), (4, .int z), (5, .int i9), (7, .int (ps_pk (x <<< ((4 - d) &&& 31)) (y <<< ((4 - d) &&& 31)) (z <<< ((4 - d) &&& 31)))), (9, .int (nI (ps_cn (ps_kq f (ps_pk (x <<< ((4 - d) &&& 31)) (y <<< ((4 - d) &&& 31)) (z <<< ((4 - d) &&& 31))) d x9) mn))), (10, .int (nI mn))]) hx hb dX3_kept_229 hl rfl (ps_inc _) (by decide) rfl (fun ls hl => ?_)
                        refine lv_goto (tgt := 95) hx hb dX3_kept_232 rfl ?_
                        exact ih95 ((x9 + 1)) ls (by omega) ⟨by omega, lt_s hj9 hc9, lv_sub hl [1, 2, 3, 4, 5, 6, 7, 0] rfl⟩
                      · skip
                        have hc9 : ps_kz f mn (ps_pk (x <<< ((4 - d) &&& 31)) (y <<< ((4 - d) &&& 31)) (z <<< ((4 - d) &&& 31))) d i9 x9 = true := by simp [ps_kz, h195, h211, h218]
                        exact Bool.noConfusion ((ps_fp_spec0 hf x9 h101).symm.trans (show ps_kz f mn (ps_pk (x <<< ((4 - d) &&& 31)) (y <<< ((4 - d) &&& 31)) (z <<< ((4 - d) &&& 31))) d i9 x9 = true by simp [ps_kz, h195, h211, h218]))
              · skip
                refine lv_aload_n hx hb dX3_kept_119 rfl (lv_at hl 0 rfl) ?_
                refine va_get (D := (dC, dI)) (ci := 3) (v := .ref (b0 3)) (C := RX3) (T := TX3) (N := 17) hx hb hT inX3 hown hK hP 0 rfl rfl 5 (by decide) (hT _ tw_fl_X3_19) (fun _ h9 => h9) rfl dX3_kept_120 ?_
                refine lv_iload hx hb dX3_kept_123 (lv_at hl 9 rfl) ?_
                refine ps_iald (k := j) (f := f 3) hx hb hK hP 4 0 rfl rfl (by omega) (by decide) dX3_kept_125 ?_
                refine lv_iload_n hx hb dX3_kept_126 rfl (lv_at hl 1 rfl) ?_
                refine lv_icmp_ne (tgt := 177) hx hb dX3_kept_127 rfl (fun h127 => ?_) (fun h127 => ?_)
                · skip
                  have hc : ps_kq f (ps_pk (x <<< ((4 - d) &&& 31)) (y <<< ((4 - d) &&& 31)) (z <<< ((4 - d) &&& 31))) d x9 j = false := by simp [ps_kq, h127]
                  refine lv_iload hx hb dX3_kept_177 (lv_at hl 8 rfl) ?_
                  refine lv_istore (lv' := [(9, .int (nI (ps_cn (ps_kq f (ps_pk (x <<< ((4 - d) &&& 31)) (y <<< ((4 - d) &&& 31)) (z <<< ((4 - d) &&& 31))) d x9) j))), (0, .ref w0), (1, .int d), (2, .int x), (3, .int y), (4, .int z), (5, .int i9), (7, .int (ps_pk (x <<< ((4 - d) &&& 31)) (y <<< ((4 - d) &&& 31)) (z <<< ((4 - d) &&& 31)))), (8, .int (nI x9)), (10, .int (nI j))]) hx hb dX3_kept_179 hl (by decide) rfl (fun ls hl => ?_)
                  refine lv_iinc (k := 9) (v := nI (j + 1)) (lv' := [(10, .int (nI (j + 1))), (9, .int (nI (ps_cn (ps_kq f (ps_pk (x <<< ((4 - d) &&& 31)) (y <<< ((4 - d) &&& 31)) (z <<< ((4 - d) &&& 31))) d x9) j))), (0, .ref w0), (1, .int d), (2, .int x), (3, .int y), (4, .int z), (5, .int i9), (7, .int (ps_pk (x <<< ((4 - d) &&& 31)) (y <<< ((4 - d) &&& 31)) (z <<< ((4 - d) &&& 31)))), (8, .int (nI x9))]) hx hb dX3_kept_181 hl rfl (ps_inc _) (by decide) rfl (fun ls hl => ?_)
                  refine lv_goto (tgt := 110) hx hb dX3_kept_184 rfl ?_
                  first | rw [← ps_cnT hc] at hl | rw [← ps_cnF hc] at hl
                  exact ih110 ((j + 1)) ls (by omega) ⟨by omega, lv_sub hl [2, 3, 4, 5, 6, 7, 8, 9, 1, 0] rfl⟩
                · skip
                  refine lv_aload_n hx hb dX3_kept_130 rfl (lv_at hl 0 rfl) ?_
                  refine va_get (D := (dC, dI)) (ci := 3) (v := .ref (b0 1)) (C := RX3) (T := TX3) (N := 17) hx hb hT inX3 hown hK hP 0 rfl rfl 3 (by decide) (hT _ tw_fl_X3_13) (fun _ h9 => h9) rfl dX3_kept_131 ?_
                  refine lv_iload hx hb dX3_kept_134 (lv_at hl 9 rfl) ?_
                  refine ps_iald (k := j) (f := f 1) hx hb hK hP 2 0 rfl rfl (by omega) (by decide) dX3_kept_136 ?_
                  refine lv_iload hx hb dX3_kept_137 (lv_at hl 6 rfl) ?_
                  refine lv_iload_n hx hb dX3_kept_139 rfl (lv_at hl 1 rfl) ?_
                  refine vp_callSi (va_Run.run (va_runS (As := [.int (f 1 j), .int (ps_pk (x <<< ((4 - d) &&& 31)) (y <<< ((4 - d) &&& 31)) (z <<< ((4 - d) &&& 31))), .int d]) (rest := []) ⟨hx, hb, hml, hown, hT⟩ (mX3_isOne l (f 1 j) (ps_pk (x <<< ((4 - d) &&& 31)) (y <<< ((4 - d) &&& 31)) (z <<< ((4 - d) &&& 31))) d) (va_cwS 3 hT (ps_gS tw_ml_X3_66 tw_st_X3_isOne tw_in_X3 tw_co_X3_isOne) rfl rfl rfl ⟨by decide, by decide, by decide +kernel⟩ ⟨Nat.le_of_ble_eq_true rfl, Nat.le_of_ble_eq_true rfl⟩) preEq rfl rfl hl.1 rfl (lv_room (Nat.le_of_ble_eq_true rfl)) dX3_kept_140 ⟨Nat.le_of_ble_eq_true rfl, Nat.le_of_ble_eq_true rfl⟩)) (fun r hr => ?_)
                  obtain rfl : r = ps_bi (ps_mo (f 1 j) (ps_pk (x <<< ((4 - d) &&& 31)) (y <<< ((4 - d) &&& 31)) (z <<< ((4 - d) &&& 31))) d) := hr
                  refine ps_ifb_eq (tgt := 177) hx hb dX3_kept_143 rfl (fun h143 => ?_) (fun h143 => ?_)
                  · skip
                    have hc : ps_kq f (ps_pk (x <<< ((4 - d) &&& 31)) (y <<< ((4 - d) &&& 31)) (z <<< ((4 - d) &&& 31))) d x9 j = false := by simp [ps_kq, h143]
                    refine lv_iload hx hb dX3_kept_177 (lv_at hl 8 rfl) ?_
                    refine lv_istore (lv' := [(9, .int (nI (ps_cn (ps_kq f (ps_pk (x <<< ((4 - d) &&& 31)) (y <<< ((4 - d) &&& 31)) (z <<< ((4 - d) &&& 31))) d x9) j))), (0, .ref w0), (1, .int d), (2, .int x), (3, .int y), (4, .int z), (5, .int i9), (7, .int (ps_pk (x <<< ((4 - d) &&& 31)) (y <<< ((4 - d) &&& 31)) (z <<< ((4 - d) &&& 31)))), (8, .int (nI x9)), (10, .int (nI j))]) hx hb dX3_kept_179 hl (by decide) rfl (fun ls hl => ?_)
                    refine lv_iinc (k := 9) (v := nI (j + 1)) (lv' := [(10, .int (nI (j + 1))), (9, .int (nI (ps_cn (ps_kq f (ps_pk (x <<< ((4 - d) &&& 31)) (y <<< ((4 - d) &&& 31)) (z <<< ((4 - d) &&& 31))) d x9) j))), (0, .ref w0), (1, .int d), (2, .int x), (3, .int y), (4, .int z), (5, .int i9), (7, .int (ps_pk (x <<< ((4 - d) &&& 31)) (y <<< ((4 - d) &&& 31)) (z <<< ((4 - d) &&& 31)))), (8, .int (nI x9))]) hx hb dX3_kept_181 hl rfl (ps_inc _) (by decide) rfl (fun ls hl => ?_)
                    refine lv_goto (tgt := 110) hx hb dX3_kept_184 rfl ?_
                    first | rw [← ps_cnT hc] at hl | rw [← ps_cnF hc] at hl
                    exact ih110 ((j + 1)) ls (by omega) ⟨by omega, lv_sub hl [2, 3, 4, 5, 6, 7, 8, 9, 1, 0] rfl⟩
                  · skip
                    refine lv_aload_n hx hb dX3_kept_146 rfl (lv_at hl 0 rfl) ?_
                    refine va_get (D := (dC, dI)) (ci := 3) (v := .ref (b0 0)) (C := RX3) (T := TX3) (N := 17) hx hb hT inX3 hown hK hP 0 rfl rfl 2 (by decide) (hT _ tw_fl_X3_7) (fun _ h9 => h9) rfl dX3_kept_147 ?_
                    refine lv_iload hx hb dX3_kept_150 (lv_at hl 9 rfl) ?_
                    refine ps_iald (k := j) (f := f 0) hx hb hK hP 1 0 rfl rfl (by omega) (by decide) dX3_kept_152 ?_
                    refine vp_callSl (va_Run.run (va_runS (As := [.int (f 0 j)]) (rest := []) ⟨hx, hb, hml, hown, hT⟩ (mX3_rankOf l (f 0 j)) (va_cwS 1 hT (ps_gS tw_ml_X3_55 tw_st_X3_rankOf tw_in_X3 tw_co_X3_rankOf) rfl rfl rfl ⟨by decide, by decide, by decide +kernel⟩ ⟨Nat.le_of_ble_eq_true rfl, Nat.le_of_ble_eq_true rfl⟩) preEq rfl rfl hl.1 rfl (lv_room (Nat.le_of_ble_eq_true rfl)) dX3_kept_153 ⟨Nat.le_of_ble_eq_true rfl, Nat.le_of_ble_eq_true rfl⟩)) (fun r hr => ?_)
                    obtain rfl : r = lN (ps_rk (f 0 j)) := hr
                    refine lv_aload_n hx hb dX3_kept_156 rfl (lv_at hl 0 rfl) ?_
                    refine va_get (D := (dC, dI)) (ci := 3) (v := .ref (b0 0)) (C := RX3) (T := TX3) (N := 17) hx hb hT inX3 hown hK hP 0 rfl rfl 2 (by decide) (hT _ tw_fl_X3_7) (fun _ h9 => h9) rfl dX3_kept_157 ?_
                    refine lv_iload hx hb dX3_kept_160 (lv_at hl 7 rfl) ?_
                    refine ps_iald (k := x9) (f := f 0) hx hb hK hP 1 0 rfl rfl (by omega) (by decide) dX3_kept_162 ?_
                    refine vp_callSl (va_Run.run (va_runS (As := [.int (f 0 x9)]) (rest := [.long (lN (ps_rk (f 0 j)))]) ⟨hx, hb, hml, hown, hT⟩ (mX3_rankOf l (f 0 x9)) (va_cwS 1 hT (ps_gS tw_ml_X3_55 tw_st_X3_rankOf tw_in_X3 tw_co_X3_rankOf) rfl rfl rfl ⟨by decide, by decide, by decide +kernel⟩ ⟨Nat.le_of_ble_eq_true rfl, Nat.le_of_ble_eq_true rfl⟩) preEq rfl rfl hl.1 rfl (lv_room (Nat.le_of_ble_eq_true rfl)) dX3_kept_163 ⟨Nat.le_of_ble_eq_true rfl, Nat.le_of_ble_eq_true rfl⟩)) (fun r hr => ?_)
                    obtain rfl : r = lN (ps_rk (f 0 x9)) := hr
                    refine W.lcmp hx hb dX3_kept_166 ?_
                    refine lv_if_le (tgt := 177) hx hb dX3_kept_167 rfl (fun h167 => ?_) (fun h167 => ?_)
                    · skip
                      have hc : ps_kq f (ps_pk (x <<< ((4 - d) &&& 31)) (y <<< ((4 - d) &&& 31)) (z <<< ((4 - d) &&& 31))) d x9 j = false := by simp [ps_kq, Nat.not_lt.mp (ps_rk_nl h167)]
                      refine lv_iload hx hb dX3_kept_177 (lv_at hl 8 rfl) ?_
                      refine lv_istore (lv' := [(9, .int (nI (ps_cn (ps_kq f (ps_pk (x <<< ((4 - d) &&& 31)) (y <<< ((4 - d) &&& 31)) (z <<< ((4 - d) &&& 31))) d x9) j))), (0, .ref w0), (1, .int d), (2, .int x), (3, .int y), (4, .int z), (5, .int i9), (7, .int (ps_pk (x <<< ((4 - d) &&& 31)) (y <<< ((4 - d) &&& 31)) (z <<< ((4 - d) &&& 31)))), (8, .int (nI x9)), (10, .int (nI j))]) hx hb dX3_kept_179 hl (by decide) rfl (fun ls hl => ?_)
                      refine lv_iinc (k := 9) (v := nI (j + 1)) (lv' := [(10, .int (nI (j + 1))), (9, .int (nI (ps_cn (ps_kq f (ps_pk (x <<< ((4 - d) &&& 31)) (y <<< ((4 - d) &&& 31)) (z <<< ((4 - d) &&& 31))) d x9) j))), (0, .ref w0), (1, .int d), (2, .int x), (3, .int y), (4, .int z), (5, .int i9), (7, .int (ps_pk (x <<< ((4 - d) &&& 31)) (y <<< ((4 - d) &&& 31)) (z <<< ((4 - d) &&& 31)))), (8, .int (nI x9))]) hx hb dX3_kept_181 hl rfl (ps_inc _) (by decide) rfl (fun ls hl => ?_)
                      refine lv_goto (tgt := 110) hx hb dX3_kept_184 rfl ?_
                      first | rw [← ps_cnT hc] at hl | rw [← ps_cnF hc] at hl
                      exact ih110 ((j + 1)) ls (by omega) ⟨by omega, lv_sub hl [2, 3, 4, 5, 6, 7, 8, 9, 1, 0] rfl⟩
                    · skip
                      have hc : ps_kq f (ps_pk (x <<< ((4 - d) &&& 31)) (y <<< ((4 - d) &&& 31)) (z <<< ((4 - d) &&& 31))) d x9 j = true := by simp [ps_kq, h127, h143, ps_rk_le h167]
                      refine lv_iload hx hb dX3_kept_170 (lv_at hl 8 rfl) ?_
                      refine lv_iconst (v := 1) hx hb dX3_kept_172 (by decide) ?_
                      refine lv_iadd hx hb dX3_kept_173 ?_
                      rw [nI_1]
                      refine lv_goto (tgt := 179) hx hb dX3_kept_174 rfl ?_
                      refine lv_istore (lv' := [(9, .int (nI ((ps_cn (ps_kq f (ps_pk (x <<< ((4 - d) &&& 31)) (y <<< ((4 - d) &&& 31)) (z <<< ((4 - d) &&& 31))) d x9) j) + 1))), (0, .ref w0), (1, .int d), (2, .int x), (3, .int y), (4, .int z), (5, .int i9), (7, .int (ps_pk (x <<< ((4 - d) &&& 31)) (y <<< ((4 - d) &&& 31)) (z <<< ((4 - d) &&& 31)))), (8, .int (nI x9)), (10, .int (nI j))]) hx hb dX3_kept_179 hl (by decide) rfl (fun ls hl => ?_)
                      refine lv_iinc (k := 9) (v := nI (j + 1)) (lv' := [(10, .int (nI (j + 1))), (9, .int (nI ((ps_cn (ps_kq f (ps_pk (x <<< ((4 - d) &&& 31)) (y <<< ((4 - d) &&& 31)) (z <<< ((4 - d) &&& 31))) d x9) j) + 1))), (0, .ref w0), (1, .int d), (2, .int x), (3, .int y), (4, .int z), (5, .int i9), (7, .int (ps_pk (x <<< ((4 - d) &&& 31)) (y <<< ((4 - d) &&& 31)) (z <<< ((4 - d) &&& 31)))), (8, .int (nI x9))]) hx hb dX3_kept_181 hl rfl (ps_inc _) (by decide) rfl (fun ls hl => ?_)
                      refine lv_goto (tgt := 110) hx hb dX3_kept_184 rfl ?_
                      first | rw [← ps_cnT hc] at hl | rw [← ps_cnF hc] at hl
                      exact ih110 ((j + 1)) ls (by omega) ⟨by omega, lv_sub hl [2, 3, 4, 5, 6, 7, 8, 9, 1, 0] rfl⟩
          · skip
            exact Bool.noConfusion (hz0.symm.trans h62)
set_option maxHeartbeats 4000000 in
set_option maxRecDepth 100000 in
theorem mX3_kept_1 (l : Launch) (dC : Nat → ClassId) (dI : Nat → Nat → Nat) (cI cZ : ClassId) (w0 : Nat) (b0 : Nat → Nat) (th : Int32) (mn kn : Nat) (co : Int32) (ln : Nat) (wr lt : Int32) (f : ps_G) (d x y z i9 : Int32) (hbad : ¬ (ps_inr d 0 4 = true ∧ ps_inr x 0 (((1 : Int32) <<< (d &&& 31)) - 1) = true ∧ ps_inr y 0 (((1 : Int32) <<< (d &&& 31)) - 1) = true ∧ ps_inr z 0 (((1 : Int32) <<< (d &&& 31)) - 1) = true)) (sz : Nat) : Met l yX3_kept (.code yX3_kept cX3_kept 11 (some .int) :: ps_T) ({ frames := 2, cells := 0, slots := 0, locals := 44 }) (ps_qc (dC, dI) (ps_ty cI cZ) (ps_mdW cI cZ w0 b0 th mn kn co ln wr lt f) sz [.ref w0, .int d, .int x, .int y, .int z, .int i9]) (va_Qi (fun (r : Int32) (_ : Unit) => r = 0) (ps_qB (dC, dI) (ps_ty cI cZ) (va_A (ps_mdW cI cZ w0 b0 th mn kn co ln wr lt f) sz) (ps_mdW cI cZ w0 b0 1 mn kn co ln wr lt f)) (va_A (ps_mdW cI cZ w0 b0 th mn kn co ln wr lt f) sz)) 0 0 (va_A (ps_mdW cI cZ w0 b0 th mn kn co ln wr lt f) sz) := by
  refine Met.ofW (cc := cX3_kept) (maxL := 11) (ret := (some .int)) (by decide) rfl ?_
  intro p e s m args below meth c s₁ B hml hv
  obtain ⟨rfl, hsz, hN, hP, hK, hD0⟩ := hv
  have hx := B.exec
  have hb := B.bytes
  have hr := B.returns
  have hlocks := B.notSynchronized
  have hT : ∀ w ∈ ps_T, w.before ([.ref w0, .int d, .int x, .int y, .int z, .int i9] : List Value).toArray s = true := fun w h => atoms_spec (ws := (.code yX3_kept cX3_kept 11 (some .int) :: ps_T)) B.pre w (List.mem_cons_of_mem _ h)
  have hown : s.vm.findClass RX3 = some m.cls := findClass_of_methodNamed B.named
  subst hsz
  have hD := hD0.self (sz := s.heap.size)
  generalize hAe : va_A (ps_mdW cI cZ w0 b0 th mn kn co ln wr lt f) s.heap.size = A at hD ⊢
  have hA : ∀ q : Nat, s.heap.size ≤ q → A q := fun q h => by rw [← hAe]; exact Or.inr h
  have hS : va_S A s.heap s.heap [] := va_S.rf
  have hl := lv_entry ([.ref w0, .int d, .int x, .int y, .int z, .int i9]) (n := 11) (Nat.le_of_ble_eq_true rfl)
  rw [lg_entry_eq]
  generalize (lg_sl ([.ref w0, .int d, .int x, .int y, .int z, .int i9]) ++ List.replicate (11 - (lg_sl ([.ref w0, .int d, .int x, .int y, .int z, .int i9])).length) Slot.unset).toArray = ls at hl ⊢
  have hl : lv_has ls 11 [(0, .ref w0), (1, .int d), (2, .int x), (3, .int y), (4, .int z), (5, .int i9)] := hl
  refine lv_aload_n hx hb dX3_kept_0 rfl (lv_at hl 0 rfl) ?_
  refine lv_iconst (v := 0) hx hb dX3_kept_1 (by decide) ?_
  refine va_put (D := (dC, dI)) (ci := 3) (v := .int 0) (ty := .int) (C := RX3) (T := TX3) (N := 17) hx hb hT inX3 tyX3 tyX3_ok nmX3 hown hK hP hD hS 0 rfl rfl 0 (by decide) (hT _ tw_fl_X3_45) (fun _ h9 => h9) rfl (by decide +kernel) rfl rfl (Nat.le_of_ble_eq_true rfl) dX3_kept_2 (fun H locs hP hD hS => ?_)
  have hP : va_P (dC, dI) vwCl (ps_mdW cI cZ w0 b0 0 mn kn co ln wr lt f) H := hP
  have hD : va_D A (ps_mdW cI cZ w0 b0 0 mn kn co ln wr lt f) := hD
  refine lv_iload_n hx hb dX3_kept_5 rfl (lv_at hl 1 rfl) ?_
  refine lv_iconst (v := 0) hx hb dX3_kept_6 (by decide) ?_
  refine lv_iconst (v := 4) hx hb dX3_kept_7 (by decide) ?_
  refine vp_callSi (va_Run.run (va_runS (As := [.int d, .int 0, .int 4]) (rest := []) ⟨hx, hb, hml, hown, hT⟩ (mX3_in l d 0 4) (va_cwS 3 hT (ps_gS tw_ml_X3_48 tw_st_X3_in tw_in_X3 tw_co_X3_in) rfl rfl rfl ⟨by decide, by decide, by decide +kernel⟩ ⟨Nat.le_of_ble_eq_true rfl, Nat.le_of_ble_eq_true rfl⟩) preEq rfl rfl hl.1 rfl (lv_room (Nat.le_of_ble_eq_true rfl)) dX3_kept_8 ⟨Nat.le_of_ble_eq_true rfl, Nat.le_of_ble_eq_true rfl⟩)) (fun r hr => ?_)
  obtain rfl : r = ps_bi (ps_inr d 0 4) := hr
  rcases hin : ps_inr d 0 4 with _ | _
  · skip
    show W _ _ _ _ _ _ _ _ _ _ _ _ _ _ _ (F0 _ _ _ (.int (ps_bi false) :: _))
    refine ps_ifb_eq (tgt := 20) hx hb dX3_kept_11 rfl (fun h11 => ?_) (fun h11 => ?_)
    · skip
      refine lv_iconst (v := 0) hx hb dX3_kept_20 (by decide) ?_
      refine lv_istore (lv' := [(6, .int 0), (0, .ref w0), (1, .int d), (2, .int x), (3, .int y), (4, .int z), (5, .int i9)]) hx hb dX3_kept_21 hl (by decide) rfl (fun ls hl => ?_)
      refine lv_iload hx hb dX3_kept_23 (lv_at hl 0 rfl) ?_
      refine lv_if_eq (tgt := 65) hx hb dX3_kept_25 rfl (fun h25 => ?_) (fun h25 => ?_)
      · skip
        refine lv_aload_n hx hb dX3_kept_65 rfl (lv_at hl 1 rfl) ?_
        refine lv_iconst (v := 1) hx hb dX3_kept_66 (by decide) ?_
        refine ps_cqi (wc := ps_mdW cI cZ w0 b0 0 mn kn co ln wr lt f) (wr := []) (w1 := ps_mdW cI cZ w0 b0 1 mn kn co ln wr lt f) (ws2 := ps_mdW cI cZ w0 b0 1 mn kn co ln wr lt f) (va_runV (C := RX3) (As := [.int 1]) (rest := []) ⟨hx, hb, hml, hown, hT⟩ (mX3_fails l dC dI cI cZ w0 b0 0 mn kn co ln wr lt f 1 _) (cwV 1 hT (ps_gV tw_ml_X3_79 tw_im_X3_fails tw_se_X3_fails tw_in_X3 tw_co_X3_fails) rfl rfl rfl ⟨rfl, by decide, by decide, by decide +kernel⟩ ⟨Nat.le_of_ble_eq_true rfl, Nat.le_of_ble_eq_true rfl⟩) (ps_qreV (wc := ps_mdW cI cZ w0 b0 0 mn kn co ln wr lt f) (ci := 3) [0, 1, 2, 3, 4, 5, 6, 7, 8, 9, 10] hN hP hK hD rfl rfl rfl rfl rfl) rfl rfl hl.1 rfl (lv_room (Nat.le_of_ble_eq_true rfl)) dX3_kept_67 ⟨Nat.le_of_ble_eq_true rfl, Nat.le_of_ble_eq_true rfl⟩) hS hA hP hD [0, 1, 2, 3, 4, 5, 6, 7, 8, 9, 10] [] [0, 1, 2, 3, 4, 5, 6, 7, 8, 9, 10] rfl rfl rfl (by decide) rfl rfl rfl (fun H locs hP hD hS => ?_)
        exact W.iret (v := 0) hx hb hr (fun t ht hW => ⟨⟨0, (), rfl, rfl, by rw [ht]; exact hP, va_K.moved hW.alike hK, hD⟩, hS.F ht⟩) hS.2.2 dX3_kept_70
      · skip
        exact absurd rfl h25
    · skip
      exact Bool.noConfusion h11
  · skip
    show W _ _ _ _ _ _ _ _ _ _ _ _ _ _ _ (F0 _ _ _ (.int (ps_bi true) :: _))
    refine ps_ifb_eq (tgt := 20) hx hb dX3_kept_11 rfl (fun h11 => ?_) (fun h11 => ?_)
    · skip
      exact Bool.noConfusion h11
    · skip
      refine lv_iconst (v := 1) hx hb dX3_kept_14 (by decide) ?_
      refine lv_iload_n hx hb dX3_kept_15 rfl (lv_at hl 1 rfl) ?_
      refine lv_ishl hx hb dX3_kept_16 ?_
      refine lv_goto (tgt := 21) hx hb dX3_kept_17 rfl ?_
      refine lv_istore (lv' := [(6, .int (1 <<< (d &&& 31))), (0, .ref w0), (1, .int d), (2, .int x), (3, .int y), (4, .int z), (5, .int i9)]) hx hb dX3_kept_21 hl (by decide) rfl (fun ls hl => ?_)
      refine lv_iload hx hb dX3_kept_23 (lv_at hl 0 rfl) ?_
      refine lv_if_eq (tgt := 65) hx hb dX3_kept_25 rfl (fun h25 => ?_) (fun h25 => ?_)
      · skip
        exact absurd h25 (ps_side hin)
      · skip
        refine lv_iload_n hx hb dX3_kept_28 rfl (lv_at hl 3 rfl) ?_
        refine lv_iconst (v := 0) hx hb dX3_kept_29 (by decide) ?_
        refine lv_iload hx hb dX3_kept_30 (lv_at hl 0 rfl) ?_
        refine lv_iconst (v := 1) hx hb dX3_kept_32 (by decide) ?_
        refine lv_isub hx hb dX3_kept_33 ?_
        refine vp_callSi (va_Run.run (va_runS (As := [.int x, .int 0, .int ((1 <<< (d &&& 31)) - 1)]) (rest := []) ⟨hx, hb, hml, hown, hT⟩ (mX3_in l x 0 ((1 <<< (d &&& 31)) - 1)) (va_cwS 3 hT (ps_gS tw_ml_X3_48 tw_st_X3_in tw_in_X3 tw_co_X3_in) rfl rfl rfl ⟨by decide, by decide, by decide +kernel⟩ ⟨Nat.le_of_ble_eq_true rfl, Nat.le_of_ble_eq_true rfl⟩) preEq rfl rfl hl.1 rfl (lv_room (Nat.le_of_ble_eq_true rfl)) dX3_kept_34 ⟨Nat.le_of_ble_eq_true rfl, Nat.le_of_ble_eq_true rfl⟩)) (fun r hr => ?_)
        obtain rfl : r = ps_bi (ps_inr x 0 ((1 <<< (d &&& 31)) - 1)) := hr
        refine ps_ifb_eq (tgt := 65) hx hb dX3_kept_37 rfl (fun h37 => ?_) (fun h37 => ?_)
        · skip
          refine lv_aload_n hx hb dX3_kept_65 rfl (lv_at hl 1 rfl) ?_
          refine lv_iconst (v := 1) hx hb dX3_kept_66 (by decide) ?_
          refine ps_cqi (wc := ps_mdW cI cZ w0 b0 0 mn kn co ln wr lt f) (wr := []) (w1 := ps_mdW cI cZ w0 b0 1 mn kn co ln wr lt f) (ws2 := ps_mdW cI cZ w0 b0 1 mn kn co ln wr lt f) (va_runV (C := RX3) (As := [.int 1]) (rest := []) ⟨hx, hb, hml, hown, hT⟩ (mX3_fails l dC dI cI cZ w0 b0 0 mn kn co ln wr lt f 1 _) (cwV 1 hT (ps_gV tw_ml_X3_79 tw_im_X3_fails tw_se_X3_fails tw_in_X3 tw_co_X3_fails) rfl rfl rfl ⟨rfl, by decide, by decide, by decide +kernel⟩ ⟨Nat.le_of_ble_eq_true rfl, Nat.le_of_ble_eq_true rfl⟩) (ps_qreV (wc := ps_mdW cI cZ w0 b0 0 mn kn co ln wr lt f) (ci := 3) [0, 1, 2, 3, 4, 5, 6, 7, 8, 9, 10] hN hP hK hD rfl rfl rfl rfl rfl) rfl rfl hl.1 rfl (lv_room (Nat.le_of_ble_eq_true rfl)) dX3_kept_67 ⟨Nat.le_of_ble_eq_true rfl, Nat.le_of_ble_eq_true rfl⟩) hS hA hP hD [0, 1, 2, 3, 4, 5, 6, 7, 8, 9, 10] [] [0, 1, 2, 3, 4, 5, 6, 7, 8, 9, 10] rfl rfl rfl (by decide) rfl rfl rfl (fun H locs hP hD hS => ?_)
          exact W.iret (v := 0) hx hb hr (fun t ht hW => ⟨⟨0, (), rfl, rfl, by rw [ht]; exact hP, va_K.moved hW.alike hK, hD⟩, hS.F ht⟩) hS.2.2 dX3_kept_70
        · skip
          refine lv_iload_n hx hb dX3_kept_40 rfl (lv_at hl 4 rfl) ?_
          refine lv_iconst (v := 0) hx hb dX3_kept_41 (by decide) ?_
          refine lv_iload hx hb dX3_kept_42 (lv_at hl 0 rfl) ?_
          refine lv_iconst (v := 1) hx hb dX3_kept_44 (by decide) ?_
          refine lv_isub hx hb dX3_kept_45 ?_
          refine vp_callSi (va_Run.run (va_runS (As := [.int y, .int 0, .int ((1 <<< (d &&& 31)) - 1)]) (rest := []) ⟨hx, hb, hml, hown, hT⟩ (mX3_in l y 0 ((1 <<< (d &&& 31)) - 1)) (va_cwS 3 hT (ps_gS tw_ml_X3_48 tw_st_X3_in tw_in_X3 tw_co_X3_in) rfl rfl rfl ⟨by decide, by decide, by decide +kernel⟩ ⟨Nat.le_of_ble_eq_true rfl, Nat.le_of_ble_eq_true rfl⟩) preEq rfl rfl hl.1 rfl (lv_room (Nat.le_of_ble_eq_true rfl)) dX3_kept_46 ⟨Nat.le_of_ble_eq_true rfl, Nat.le_of_ble_eq_true rfl⟩)) (fun r hr => ?_)
          obtain rfl : r = ps_bi (ps_inr y 0 ((1 <<< (d &&& 31)) - 1)) := hr
          refine ps_ifb_eq (tgt := 65) hx hb dX3_kept_49 rfl (fun h49 => ?_) (fun h49 => ?_)
          · skip
            refine lv_aload_n hx hb dX3_kept_65 rfl (lv_at hl 1 rfl) ?_
            refine lv_iconst (v := 1) hx hb dX3_kept_66 (by decide) ?_
            refine ps_cqi (wc := ps_mdW cI cZ w0 b0 0 mn kn co ln wr lt f) (wr := []) (w1 := ps_mdW cI cZ w0 b0 1 mn kn co ln wr lt f) (ws2 := ps_mdW cI cZ w0 b0 1 mn kn co ln wr lt f) (va_runV (C := RX3) (As := [.int 1]) (rest := []) ⟨hx, hb, hml, hown, hT⟩ (mX3_fails l dC dI cI cZ w0 b0 0 mn kn co ln wr lt f 1 _) (cwV 1 hT (ps_gV tw_ml_X3_79 tw_im_X3_fails tw_se_X3_fails tw_in_X3 tw_co_X3_fails) rfl rfl rfl ⟨rfl, by decide, by decide, by decide +kernel⟩ ⟨Nat.le_of_ble_eq_true rfl, Nat.le_of_ble_eq_true rfl⟩) (ps_qreV (wc := ps_mdW cI cZ w0 b0 0 mn kn co ln wr lt f) (ci := 3) [0, 1, 2, 3, 4, 5, 6, 7, 8, 9, 10] hN hP hK hD rfl rfl rfl rfl rfl) rfl rfl hl.1 rfl (lv_room (Nat.le_of_ble_eq_true rfl)) dX3_kept_67 ⟨Nat.le_of_ble_eq_true rfl, Nat.le_of_ble_eq_true rfl⟩) hS hA hP hD [0, 1, 2, 3, 4, 5, 6, 7, 8, 9, 10] [] [0, 1, 2, 3, 4, 5, 6, 7, 8, 9, 10] rfl rfl rfl (by decide) rfl rfl rfl (fun H locs hP hD hS => ?_)
            exact W.iret (v := 0) hx hb hr (fun t ht hW => ⟨⟨0, (), rfl, rfl, by rw [ht]; exact hP, va_K.moved hW.alike hK, hD⟩, hS.F ht⟩) hS.2.2 dX3_kept_70
          · skip
            refine lv_iload hx hb dX3_kept_52 (lv_at hl 5 rfl) ?_
            refine lv_iconst (v := 0) hx hb dX3_kept_54 (by decide) ?_
            refine lv_iload hx hb dX3_kept_55 (lv_at hl 0 rfl) ?_
            refine lv_iconst (v := 1) hx hb dX3_kept_57 (by decide) ?_
            refine lv_isub hx hb dX3_kept_58 ?_
            refine vp_callSi (va_Run.run (va_runS (As := [.int z, .int 0, .int ((1 <<< (d &&& 31)) - 1)]) (rest := []) ⟨hx, hb, hml, hown, hT⟩ (mX3_in l z 0 ((1 <<< (d &&& 31)) - 1)) (va_cwS 3 hT (ps_gS tw_ml_X3_48 tw_st_X3_in tw_in_X3 tw_co_X3_in) rfl rfl rfl ⟨by decide, by decide, by decide +kernel⟩ ⟨Nat.le_of_ble_eq_true rfl, Nat.le_of_ble_eq_true rfl⟩) preEq rfl rfl hl.1 rfl (lv_room (Nat.le_of_ble_eq_true rfl)) dX3_kept_59 ⟨Nat.le_of_ble_eq_true rfl, Nat.le_of_ble_eq_true rfl⟩)) (fun r hr => ?_)
            obtain rfl : r = ps_bi (ps_inr z 0 ((1 <<< (d &&& 31)) - 1)) := hr
            refine ps_ifb_ne (tgt := 71) hx hb dX3_kept_62 rfl (fun h62 => ?_) (fun h62 => ?_)
            · skip
              exact absurd ⟨hin, h37, h49, h62⟩ hbad
            · skip
              refine lv_aload_n hx hb dX3_kept_65 rfl (lv_at hl 1 rfl) ?_
              refine lv_iconst (v := 1) hx hb dX3_kept_66 (by decide) ?_
              refine ps_cqi (wc := ps_mdW cI cZ w0 b0 0 mn kn co ln wr lt f) (wr := []) (w1 := ps_mdW cI cZ w0 b0 1 mn kn co ln wr lt f) (ws2 := ps_mdW cI cZ w0 b0 1 mn kn co ln wr lt f) (va_runV (C := RX3) (As := [.int 1]) (rest := []) ⟨hx, hb, hml, hown, hT⟩ (mX3_fails l dC dI cI cZ w0 b0 0 mn kn co ln wr lt f 1 _) (cwV 1 hT (ps_gV tw_ml_X3_79 tw_im_X3_fails tw_se_X3_fails tw_in_X3 tw_co_X3_fails) rfl rfl rfl ⟨rfl, by decide, by decide, by decide +kernel⟩ ⟨Nat.le_of_ble_eq_true rfl, Nat.le_of_ble_eq_true rfl⟩) (ps_qreV (wc := ps_mdW cI cZ w0 b0 0 mn kn co ln wr lt f) (ci := 3) [0, 1, 2, 3, 4, 5, 6, 7, 8, 9, 10] hN hP hK hD rfl rfl rfl rfl rfl) rfl rfl hl.1 rfl (lv_room (Nat.le_of_ble_eq_true rfl)) dX3_kept_67 ⟨Nat.le_of_ble_eq_true rfl, Nat.le_of_ble_eq_true rfl⟩) hS hA hP hD [0, 1, 2, 3, 4, 5, 6, 7, 8, 9, 10] [] [0, 1, 2, 3, 4, 5, 6, 7, 8, 9, 10] rfl rfl rfl (by decide) rfl rfl rfl (fun H locs hP hD hS => ?_)
              exact W.iret (v := 0) hx hb hr (fun t ht hW => ⟨⟨0, (), rfl, rfl, by rw [ht]; exact hP, va_K.moved hW.alike hK, hD⟩, hS.F ht⟩) hS.2.2 dX3_kept_70
set_option maxHeartbeats 4000000 in
set_option maxRecDepth 100000 in
theorem mX3_open (l : Launch) (dC : Nat → ClassId) (dI : Nat → Nat → Nat) (cI cZ : ClassId) (w0 : Nat) (b0 : Nat → Nat) (th : Int32) (mn kn : Nat) (co : Int32) (ln : Nat) (wr lt : Int32) (f : ps_G) (hkn : kn ≤ 48) (sz : Nat) : Met l yX3_open (.code yX3_open cX3_open 2 (some .int) :: ps_T) ({ frames := 4, cells := 0, slots := 0, locals := 91 }) (ps_qc (dC, dI) (ps_ty cI cZ) (ps_mdW cI cZ w0 b0 th mn kn co ln wr lt f) sz [.ref w0]) (va_Qi (fun (r : Int32) (_ : Unit) => r = nI kn) (ps_qB (dC, dI) (ps_ty cI cZ) (va_A (ps_mdW cI cZ w0 b0 th mn kn co ln wr lt f) sz) (ps_mdW cI cZ w0 b0 0 kn kn 0 0 wr lt ((ps_st (ps_oG f kn) kn)))) (va_A (ps_mdW cI cZ w0 b0 th mn kn co ln wr lt f) sz)) 0 0 (va_A (ps_mdW cI cZ w0 b0 th mn kn co ln wr lt f) sz) := by
  refine Met.ofW (cc := cX3_open) (maxL := 2) (ret := (some .int)) (by decide) rfl ?_
  intro p e s m args below meth c s₁ B hml hv
  obtain ⟨rfl, hsz, hN, hP, hK, hD0⟩ := hv
  have hx := B.exec
  have hb := B.bytes
  have hr := B.returns
  have hlocks := B.notSynchronized
  have hT : ∀ w ∈ ps_T, w.before ([.ref w0] : List Value).toArray s = true := fun w h => atoms_spec (ws := (.code yX3_open cX3_open 2 (some .int) :: ps_T)) B.pre w (List.mem_cons_of_mem _ h)
  have hown : s.vm.findClass RX3 = some m.cls := findClass_of_methodNamed B.named
  subst hsz
  have hD := hD0.self (sz := s.heap.size)
  generalize hAe : va_A (ps_mdW cI cZ w0 b0 th mn kn co ln wr lt f) s.heap.size = A at hD ⊢
  have hA : ∀ q : Nat, s.heap.size ≤ q → A q := fun q h => by rw [← hAe]; exact Or.inr h
  have hS : va_S A s.heap s.heap [] := va_S.rf
  have hl := lv_entry ([.ref w0]) (n := 2) (Nat.le_of_ble_eq_true rfl)
  rw [lg_entry_eq]
  generalize (lg_sl ([.ref w0]) ++ List.replicate (2 - (lg_sl ([.ref w0])).length) Slot.unset).toArray = ls at hl ⊢
  have hl : lv_has ls 2 [(0, .ref w0)] := hl
  refine lv_aload_n hx hb dX3_open_0 rfl (lv_at hl 0 rfl) ?_
  refine lv_iconst (v := 0) hx hb dX3_open_1 (by decide) ?_
  refine va_put (D := (dC, dI)) (ci := 3) (v := .int 0) (ty := .int) (C := RX3) (T := TX3) (N := 17) hx hb hT inX3 tyX3 tyX3_ok nmX3 hown hK hP hD hS 0 rfl rfl 0 (by decide) (hT _ tw_fl_X3_45) (fun _ h9 => h9) rfl (by decide +kernel) rfl rfl (Nat.le_of_ble_eq_true rfl) dX3_open_2 (fun H locs hP hD hS => ?_)
  have hP : va_P (dC, dI) vwCl (ps_mdW cI cZ w0 b0 0 mn kn co ln wr lt f) H := hP
  have hD : va_D A (ps_mdW cI cZ w0 b0 0 mn kn co ln wr lt f) := hD
  refine lv_aload_n hx hb dX3_open_5 rfl (lv_at hl 0 rfl) ?_
  refine lv_aload_n hx hb dX3_open_6 rfl (lv_at hl 0 rfl) ?_
  refine va_get (D := (dC, dI)) (ci := 3) (v := .int (nI kn)) (C := RX3) (T := TX3) (N := 17) hx hb hT inX3 hown hK hP 0 rfl rfl 6 (by decide) (hT _ tw_fl_X3_109) (fun _ h9 => h9) rfl dX3_open_7 ?_
  refine va_put (D := (dC, dI)) (ci := 3) (v := .int (nI kn)) (ty := .int) (C := RX3) (T := TX3) (N := 17) hx hb hT inX3 tyX3 tyX3_ok nmX3 hown hK hP hD hS 0 rfl rfl 1 (by decide) (hT _ tw_fl_X3_59) (fun _ h9 => h9) rfl (by decide +kernel) rfl rfl (Nat.le_of_ble_eq_true rfl) dX3_open_10 (fun H locs hP hD hS => ?_)
  have hP : va_P (dC, dI) vwCl (ps_mdW cI cZ w0 b0 0 kn kn co ln wr lt f) H := hP
  have hD : va_D A (ps_mdW cI cZ w0 b0 0 kn kn co ln wr lt f) := hD
  refine lv_iconst (v := 0) hx hb dX3_open_13 (by decide) ?_
  refine lv_istore_n (lv' := [(1, .int 0), (0, .ref w0)]) hx hb dX3_open_14 rfl hl (by decide) rfl (fun ls hl => ?_)
  have hl : lv_has ls 2 [(1, .int (nI 0)), (0, .ref w0)] := hl
  have hP : va_P (dC, dI) vwCl (ps_mdW cI cZ w0 b0 0 kn kn co ln wr lt ((ps_oG f 0))) H := by rw [← ps_oG_0 f]; exact hP
  have hD : va_D A (ps_mdW cI cZ w0 b0 0 kn kn co ln wr lt ((ps_oG f 0))) := by rw [← ps_oG_0 f]; exact hD
  refine ps_loopQ (α := Nat) (fun k => kn - k) (fun k ls H locs => (k ≤ kn) ∧ lv_has ls 2 [(0, .ref w0), (1, .int (nI k))] ∧ va_P (dC, dI) vwCl (ps_mdW cI cZ w0 b0 0 kn kn co ln wr lt ((ps_oG f k))) H ∧ va_D A (ps_mdW cI cZ w0 b0 0 kn kn co ln wr lt ((ps_oG f k))) ∧ va_S A s.heap H locs) ?_ 0 ls _ _ ⟨by omega, lv_sub hl [1, 0] rfl, hP, hD, hS⟩
  intro k ls H locs ih15 hI
  obtain ⟨hk, hl, hP, hD, hS⟩ := hI
  refine lv_iload_n hx hb dX3_open_15 rfl (lv_at hl 1 rfl) ?_
  refine lv_aload_n hx hb dX3_open_16 rfl (lv_at hl 0 rfl) ?_
  refine va_get (D := (dC, dI)) (ci := 3) (v := .int (nI kn)) (C := RX3) (T := TX3) (N := 17) hx hb hT inX3 hown hK hP 0 rfl rfl 1 (by decide) (hT _ tw_fl_X3_59) (fun _ h9 => h9) rfl dX3_open_17 ?_
  refine ps_icmp_ge (tgt := 65) (a := k) (b := kn) hx hb dX3_open_20 rfl (by omega) (by omega) (fun h20 => ?_) (fun h20 => ?_)
  · skip
    have ek : k = kn := by omega
    rw [ek] at hP hD
    refine lv_aload_n hx hb dX3_open_65 rfl (lv_at hl 0 rfl) ?_
    refine ps_cqv (wc := ps_mdW cI cZ w0 b0 0 kn kn co ln wr lt ((ps_oG f kn))) (wr := []) (w1 := ps_mdW cI cZ w0 b0 0 kn kn co ln wr lt ((ps_st ((ps_oG f kn)) kn))) (ws2 := ps_mdW cI cZ w0 b0 0 kn kn co ln wr lt ((ps_st ((ps_oG f kn)) kn))) (va_runV (C := RX3) (As := []) (rest := []) ⟨hx, hb, hml, hown, hT⟩ (mX3_settle l dC dI cI cZ w0 b0 0 kn kn co ln wr lt ((ps_oG f kn)) (hkn) _) (cwV 0 hT (ps_gV tw_ml_X3_90 tw_im_X3_settle tw_se_X3_settle tw_in_X3 tw_co_X3_settle) rfl rfl rfl ⟨rfl, by decide, by decide, by decide +kernel⟩ ⟨Nat.le_of_ble_eq_true rfl, Nat.le_of_ble_eq_true rfl⟩) (ps_qreV (wc := ps_mdW cI cZ w0 b0 0 kn kn co ln wr lt ((ps_oG f kn))) (ci := 3) [0, 1, 2, 3, 4, 5, 6, 7, 8, 9, 10] hN hP hK hD rfl rfl rfl rfl rfl) rfl rfl hl.1 rfl (lv_room (Nat.le_of_ble_eq_true rfl)) dX3_open_66 ⟨Nat.le_of_ble_eq_true rfl, Nat.le_of_ble_eq_true rfl⟩) hS hA hP hD [0, 1, 2, 3, 4, 5, 6, 7, 8, 9, 10] [] [0, 1, 2, 3, 4, 5, 6, 7, 8, 9, 10] rfl rfl rfl (by decide) rfl rfl rfl (fun H locs hP hD hS => ?_)
    refine lv_aload_n hx hb dX3_open_69 rfl (lv_at hl 0 rfl) ?_
    refine lv_iconst (v := 0) hx hb dX3_open_70 (by decide) ?_
    refine va_put (D := (dC, dI)) (ci := 3) (v := .int 0) (ty := .int) (C := RX3) (T := TX3) (N := 17) hx hb hT inX3 tyX3 tyX3_ok nmX3 hown hK hP hD hS 0 rfl rfl 13 (by decide) (hT _ tw_fl_X3_99) (fun _ h9 => h9) rfl (by decide +kernel) rfl rfl (Nat.le_of_ble_eq_true rfl) dX3_open_71 (fun H locs hP hD hS => ?_)
    have hP : va_P (dC, dI) vwCl (ps_mdW cI cZ w0 b0 0 kn kn co 0 wr lt ((ps_st ((ps_oG f kn)) kn))) H := hP
    have hD : va_D A (ps_mdW cI cZ w0 b0 0 kn kn co 0 wr lt ((ps_st ((ps_oG f kn)) kn))) := hD
    refine lv_aload_n hx hb dX3_open_74 rfl (lv_at hl 0 rfl) ?_
    refine lv_iconst (v := 0) hx hb dX3_open_75 (by decide) ?_
    refine va_put (D := (dC, dI)) (ci := 3) (v := .int 0) (ty := .int) (C := RX3) (T := TX3) (N := 17) hx hb hT inX3 tyX3 tyX3_ok nmX3 hown hK hP hD hS 0 rfl rfl 12 (by decide) (hT _ tw_fl_X3_93) (fun _ h9 => h9) rfl (by decide +kernel) rfl rfl (Nat.le_of_ble_eq_true rfl) dX3_open_76 (fun H locs hP hD hS => ?_)
    have hP : va_P (dC, dI) vwCl (ps_mdW cI cZ w0 b0 0 kn kn 0 0 wr lt ((ps_st ((ps_oG f kn)) kn))) H := hP
    have hD : va_D A (ps_mdW cI cZ w0 b0 0 kn kn 0 0 wr lt ((ps_st ((ps_oG f kn)) kn))) := hD
    refine lv_aload_n hx hb dX3_open_79 rfl (lv_at hl 0 rfl) ?_
    refine va_get (D := (dC, dI)) (ci := 3) (v := .int (nI kn)) (C := RX3) (T := TX3) (N := 17) hx hb hT inX3 hown hK hP 0 rfl rfl 1 (by decide) (hT _ tw_fl_X3_59) (fun _ h9 => h9) rfl dX3_open_80 ?_
    exact W.iret (v := nI kn) hx hb hr (fun t ht hW => ⟨⟨nI kn, (), rfl, rfl, by rw [ht]; exact hP, va_K.moved hW.alike hK, hD⟩, hS.F ht⟩) hS.2.2 dX3_open_83
  · skip
    refine lv_aload_n hx hb dX3_open_23 rfl (lv_at hl 0 rfl) ?_
    refine va_get (D := (dC, dI)) (ci := 3) (v := .ref (b0 0)) (C := RX3) (T := TX3) (N := 17) hx hb hT inX3 hown hK hP 0 rfl rfl 2 (by decide) (hT _ tw_fl_X3_7) (fun _ h9 => h9) rfl dX3_open_24 ?_
    refine lv_iload_n hx hb dX3_open_27 rfl (lv_at hl 1 rfl) ?_
    refine lv_aload_n hx hb dX3_open_28 rfl (lv_at hl 0 rfl) ?_
    refine va_get (D := (dC, dI)) (ci := 3) (v := .ref (b0 4)) (C := RX3) (T := TX3) (N := 17) hx hb hT inX3 hown hK hP 0 rfl rfl 7 (by decide) (hT _ tw_fl_X3_22) (fun _ h9 => h9) rfl dX3_open_29 ?_
    refine lv_iload_n hx hb dX3_open_32 rfl (lv_at hl 1 rfl) ?_
    refine ps_iald (k := k) (f := (ps_oG f k) 4) hx hb hK hP 5 0 rfl rfl (by omega) (by decide) dX3_open_33 ?_
    refine ps_iast (k := k) hx hb hK hP hD hS 1 0 rfl rfl (by omega) (by decide) dX3_open_34 (fun H locs hP hD hS => ?_)
    have hP : va_P (dC, dI) vwCl (ps_mdW cI cZ w0 b0 0 kn kn co ln wr lt (va_up ((ps_oG f k)) 0 (upd ((ps_oG f k) 0) k (((ps_oG f k) 4) k)))) H := hP
    have hD : va_D A (ps_mdW cI cZ w0 b0 0 kn kn co ln wr lt (va_up ((ps_oG f k)) 0 (upd ((ps_oG f k) 0) k (((ps_oG f k) 4) k)))) := hD
    refine lv_aload_n hx hb dX3_open_35 rfl (lv_at hl 0 rfl) ?_
    refine va_get (D := (dC, dI)) (ci := 3) (v := .ref (b0 1)) (C := RX3) (T := TX3) (N := 17) hx hb hT inX3 hown hK hP 0 rfl rfl 3 (by decide) (hT _ tw_fl_X3_13) (fun _ h9 => h9) rfl dX3_open_36 ?_
    refine lv_iload_n hx hb dX3_open_39 rfl (lv_at hl 1 rfl) ?_
    refine lv_aload_n hx hb dX3_open_40 rfl (lv_at hl 0 rfl) ?_
    refine va_get (D := (dC, dI)) (ci := 3) (v := .ref (b0 5)) (C := RX3) (T := TX3) (N := 17) hx hb hT inX3 hown hK hP 0 rfl rfl 8 (by decide) (hT _ tw_fl_X3_25) (fun _ h9 => h9) rfl dX3_open_41 ?_
    refine lv_iload_n hx hb dX3_open_44 rfl (lv_at hl 1 rfl) ?_
    refine ps_iald (k := k) (f := (ps_oG f k) 5) hx hb hK hP 6 0 rfl rfl (by omega) (by decide) dX3_open_45 ?_
    refine ps_iast (k := k) hx hb hK hP hD hS 2 0 rfl rfl (by omega) (by decide) dX3_open_46 (fun H locs hP hD hS => ?_)
    have hP : va_P (dC, dI) vwCl (ps_mdW cI cZ w0 b0 0 kn kn co ln wr lt (va_up (va_up ((ps_oG f k)) 0 (upd ((ps_oG f k) 0) k (((ps_oG f k) 4) k))) 1 (upd ((ps_oG f k) 1) k (((ps_oG f k) 5) k)))) H := hP
    have hD : va_D A (ps_mdW cI cZ w0 b0 0 kn kn co ln wr lt (va_up (va_up ((ps_oG f k)) 0 (upd ((ps_oG f k) 0) k (((ps_oG f k) 4) k))) 1 (upd ((ps_oG f k) 1) k (((ps_oG f k) 5) k)))) := hD
    refine lv_aload_n hx hb dX3_open_47 rfl (lv_at hl 0 rfl) ?_
    refine va_get (D := (dC, dI)) (ci := 3) (v := .ref (b0 2)) (C := RX3) (T := TX3) (N := 17) hx hb hT inX3 hown hK hP 0 rfl rfl 4 (by decide) (hT _ tw_fl_X3_16) (fun _ h9 => h9) rfl dX3_open_48 ?_
    refine lv_iload_n hx hb dX3_open_51 rfl (lv_at hl 1 rfl) ?_
    refine lv_aload_n hx hb dX3_open_52 rfl (lv_at hl 0 rfl) ?_
    refine va_get (D := (dC, dI)) (ci := 3) (v := .ref (b0 6)) (C := RX3) (T := TX3) (N := 17) hx hb hT inX3 hown hK hP 0 rfl rfl 9 (by decide) (hT _ tw_fl_X3_28) (fun _ h9 => h9) rfl dX3_open_53 ?_
    refine lv_iload_n hx hb dX3_open_56 rfl (lv_at hl 1 rfl) ?_
    refine ps_iald (k := k) (f := (ps_oG f k) 6) hx hb hK hP 7 0 rfl rfl (by omega) (by decide) dX3_open_57 ?_
    refine ps_iast (k := k) hx hb hK hP hD hS 3 0 rfl rfl (by omega) (by decide) dX3_open_58 (fun H locs hP hD hS => ?_)
    have hP : va_P (dC, dI) vwCl (ps_mdW cI cZ w0 b0 0 kn kn co ln wr lt (va_up (va_up (va_up ((ps_oG f k)) 0 (upd ((ps_oG f k) 0) k (((ps_oG f k) 4) k))) 1 (upd ((ps_oG f k) 1) k (((ps_oG f k) 5) k))) 2 (upd ((ps_oG f k) 2) k (((ps_oG f k) 6) k)))) H := hP
    have hD : va_D A (ps_mdW cI cZ w0 b0 0 kn kn co ln wr lt (va_up (va_up (va_up ((ps_oG f k)) 0 (upd ((ps_oG f k) 0) k (((ps_oG f k) 4) k))) 1 (upd ((ps_oG f k) 1) k (((ps_oG f k) 5) k))) 2 (upd ((ps_oG f k) 2) k (((ps_oG f k) 6) k)))) := hD
    have hP : va_P (dC, dI) vwCl (ps_mdW cI cZ w0 b0 0 kn kn co ln wr lt ((ps_oG f (k + 1)))) H := by rw [← ps_oG_S f k]; exact hP
    have hD : va_D A (ps_mdW cI cZ w0 b0 0 kn kn co ln wr lt ((ps_oG f (k + 1)))) := by rw [← ps_oG_S f k]; exact hD
    refine lv_iinc (k := 1) (v := nI (k + 1)) (lv' := [(1, .int (nI (k + 1))), (0, .ref w0)]) hx hb dX3_open_59 hl rfl (ps_inc _) (by decide) rfl (fun ls hl => ?_)
    refine lv_goto (tgt := 15) hx hb dX3_open_62 rfl ?_
    exact ih15 ((k + 1)) ls _ _ (by omega) ⟨by omega, lv_sub hl [1, 0] rfl, hP, hD, hS⟩
set_option maxHeartbeats 4000000 in
set_option maxRecDepth 100000 in
theorem mX3_commit_0 (l : Launch) (dC : Nat → ClassId) (dI : Nat → Nat → Nat) (cI cZ : ClassId) (w0 : Nat) (b0 : Nat → Nat) (th : Int32) (mn kn : Nat) (co : Int32) (ln : Nat) (wr lt : Int32) (f : ps_G) (hmn : mn ≤ 48) (hkn : kn ≤ 48) (hcl : ps_cl f mn kn 0 0 = true) (sz : Nat) : Met l yX3_commit (.code yX3_commit cX3_commit 3 (some .int) :: ps_T) ({ frames := 4, cells := 0, slots := 0, locals := 92 }) (ps_qc (dC, dI) (ps_ty cI cZ) (ps_mdW cI cZ w0 b0 th mn kn co ln wr lt f) sz [.ref w0]) (va_Qi (fun (r : Int32) (_ : Unit) => r = 0) (ps_qB (dC, dI) (ps_ty cI cZ) (va_A (ps_mdW cI cZ w0 b0 th mn kn co ln wr lt f) sz) (ps_mdW cI cZ w0 b0 0 mn kn co ln wr lt f)) (va_A (ps_mdW cI cZ w0 b0 th mn kn co ln wr lt f) sz)) 0 0 (va_A (ps_mdW cI cZ w0 b0 th mn kn co ln wr lt f) sz) := by
  refine Met.ofW (cc := cX3_commit) (maxL := 3) (ret := (some .int)) (by decide) rfl ?_
  intro p e s m args below meth c s₁ B hml hv
  obtain ⟨rfl, hsz, hN, hP, hK, hD0⟩ := hv
  have hx := B.exec
  have hb := B.bytes
  have hr := B.returns
  have hlocks := B.notSynchronized
  have hT : ∀ w ∈ ps_T, w.before ([.ref w0] : List Value).toArray s = true := fun w h => atoms_spec (ws := (.code yX3_commit cX3_commit 3 (some .int) :: ps_T)) B.pre w (List.mem_cons_of_mem _ h)
  have hown : s.vm.findClass RX3 = some m.cls := findClass_of_methodNamed B.named
  subst hsz
  have hD := hD0.self (sz := s.heap.size)
  generalize hAe : va_A (ps_mdW cI cZ w0 b0 th mn kn co ln wr lt f) s.heap.size = A at hD ⊢
  have hA : ∀ q : Nat, s.heap.size ≤ q → A q := fun q h => by rw [← hAe]; exact Or.inr h
  have hS : va_S A s.heap s.heap [] := va_S.rf
  have hl := lv_entry ([.ref w0]) (n := 3) (Nat.le_of_ble_eq_true rfl)
  rw [lg_entry_eq]
  generalize (lg_sl ([.ref w0]) ++ List.replicate (3 - (lg_sl ([.ref w0])).length) Slot.unset).toArray = ls at hl ⊢
  have hl : lv_has ls 3 [(0, .ref w0)] := hl
  refine lv_aload_n hx hb dX3_commit_0 rfl (lv_at hl 0 rfl) ?_
  refine lv_iconst (v := 0) hx hb dX3_commit_1 (by decide) ?_
  refine va_put (D := (dC, dI)) (ci := 3) (v := .int 0) (ty := .int) (C := RX3) (T := TX3) (N := 17) hx hb hT inX3 tyX3 tyX3_ok nmX3 hown hK hP hD hS 0 rfl rfl 0 (by decide) (hT _ tw_fl_X3_45) (fun _ h9 => h9) rfl (by decide +kernel) rfl rfl (Nat.le_of_ble_eq_true rfl) dX3_commit_2 (fun H locs hP hD hS => ?_)
  have hP : va_P (dC, dI) vwCl (ps_mdW cI cZ w0 b0 0 mn kn co ln wr lt f) H := hP
  have hD : va_D A (ps_mdW cI cZ w0 b0 0 mn kn co ln wr lt f) := hD
  refine lv_aload_n hx hb dX3_commit_5 rfl (lv_at hl 0 rfl) ?_
  refine lv_iconst (v := 0) hx hb dX3_commit_6 (by decide) ?_
  refine lv_iconst (v := 0) hx hb dX3_commit_7 (by decide) ?_
  refine vp_callSi (va_Run.run (va_runV (C := RX3) (As := [.int 0, .int 0]) (rest := []) ⟨hx, hb, hml, hown, hT⟩ (mX3_isClean l dC dI cI cZ w0 b0 0 mn kn co ln wr lt f (hmn) (hkn) 0 0) (cwV 2 hT (ps_gV tw_ml_X3_125 tw_im_X3_isClean tw_se_X3_isClean tw_in_X3 tw_co_X3_isClean) rfl rfl rfl ⟨rfl, by decide, by decide, by decide +kernel⟩ ⟨Nat.le_of_ble_eq_true rfl, Nat.le_of_ble_eq_true rfl⟩) (ps_preV (ci := 3) (q0 := 0) hN hP hK rfl rfl) rfl rfl hl.1 rfl (lv_room (Nat.le_of_ble_eq_true rfl)) dX3_commit_8 ⟨Nat.le_of_ble_eq_true rfl, Nat.le_of_ble_eq_true rfl⟩)) (fun r hr => ?_)
  obtain rfl : r = ps_bi (ps_cl f mn kn 0 0) := hr
  refine ps_ifb_eq (tgt := 16) hx hb dX3_commit_11 rfl (fun h11 => ?_) (fun h11 => ?_)
  · skip
    exact Bool.noConfusion (hcl.symm.trans h11)
  · skip
    refine lv_iconst (v := 0) hx hb dX3_commit_14 (by decide) ?_
    exact W.iret (v := 0) hx hb hr (fun t ht hW => ⟨⟨0, (), rfl, rfl, by rw [ht]; exact hP, va_K.moved hW.alike hK, hD⟩, hS.F ht⟩) hS.2.2 dX3_commit_15
set_option maxHeartbeats 4000000 in
set_option maxRecDepth 100000 in
theorem mX3_commit_1 (l : Launch) (dC : Nat → ClassId) (dI : Nat → Nat → Nat) (cI cZ : ClassId) (w0 : Nat) (b0 : Nat → Nat) (th : Int32) (mn kn : Nat) (co : Int32) (ln : Nat) (wr lt : Int32) (f : ps_G) (hmn : mn ≤ 48) (hkn : kn ≤ 48) (hcl : ps_cl f mn kn 0 0 = false) (hnp : ¬ nI (ps_tp (ps_wq f mn kn) (ps_wc f mn) mn) ≤ 64 - nI (ps_tp (fun k => ps_all (ps_nf (f 7) (f 5) k) k) (fun k => ps_cn (ps_tq (f 7) (f 5) k) kn) kn)) (sz : Nat) : Met l yX3_commit (.code yX3_commit cX3_commit 3 (some .int) :: ps_T) ({ frames := 4, cells := 0, slots := 0, locals := 92 }) (ps_qc (dC, dI) (ps_ty cI cZ) (ps_mdW cI cZ w0 b0 th mn kn co ln wr lt f) sz [.ref w0]) (va_Qi (fun (r : Int32) (_ : Unit) => r = 0) (ps_qB (dC, dI) (ps_ty cI cZ) (va_A (ps_mdW cI cZ w0 b0 th mn kn co ln wr lt f) sz) (ps_mdW cI cZ w0 b0 1 mn kn co ln wr lt f)) (va_A (ps_mdW cI cZ w0 b0 th mn kn co ln wr lt f) sz)) 0 0 (va_A (ps_mdW cI cZ w0 b0 th mn kn co ln wr lt f) sz) := by
  refine Met.ofW (cc := cX3_commit) (maxL := 3) (ret := (some .int)) (by decide) rfl ?_
  intro p e s m args below meth c s₁ B hml hv
  obtain ⟨rfl, hsz, hN, hP, hK, hD0⟩ := hv
  have hx := B.exec
  have hb := B.bytes
  have hr := B.returns
  have hlocks := B.notSynchronized
  have hT : ∀ w ∈ ps_T, w.before ([.ref w0] : List Value).toArray s = true := fun w h => atoms_spec (ws := (.code yX3_commit cX3_commit 3 (some .int) :: ps_T)) B.pre w (List.mem_cons_of_mem _ h)
  have hown : s.vm.findClass RX3 = some m.cls := findClass_of_methodNamed B.named
  subst hsz
  have hD := hD0.self (sz := s.heap.size)
  generalize hAe : va_A (ps_mdW cI cZ w0 b0 th mn kn co ln wr lt f) s.heap.size = A at hD ⊢
  have hA : ∀ q : Nat, s.heap.size ≤ q → A q := fun q h => by rw [← hAe]; exact Or.inr h
  have hS : va_S A s.heap s.heap [] := va_S.rf
  have hl := lv_entry ([.ref w0]) (n := 3) (Nat.le_of_ble_eq_true rfl)
  rw [lg_entry_eq]
  generalize (lg_sl ([.ref w0]) ++ List.replicate (3 - (lg_sl ([.ref w0])).length) Slot.unset).toArray = ls at hl ⊢
  have hl : lv_has ls 3 [(0, .ref w0)] := hl
  have hb1 : ps_tp (ps_wq f mn kn) (ps_wc f mn) mn ≤ mn * ((mn + 5) / 6) := ps_tp_le mn (fun k _ => ps_cn_le _ _)
  have hb2 : ps_tp (ps_wq f mn kn) (ps_wc f mn) mn < 2 ^ 20 := Nat.lt_of_le_of_lt (Nat.le_trans hb1 (Nat.mul_le_mul hmn (show (mn + 5) / 6 ≤ 8 by omega))) (by decide)
  refine lv_aload_n hx hb dX3_commit_0 rfl (lv_at hl 0 rfl) ?_
  refine lv_iconst (v := 0) hx hb dX3_commit_1 (by decide) ?_
  refine va_put (D := (dC, dI)) (ci := 3) (v := .int 0) (ty := .int) (C := RX3) (T := TX3) (N := 17) hx hb hT inX3 tyX3 tyX3_ok nmX3 hown hK hP hD hS 0 rfl rfl 0 (by decide) (hT _ tw_fl_X3_45) (fun _ h9 => h9) rfl (by decide +kernel) rfl rfl (Nat.le_of_ble_eq_true rfl) dX3_commit_2 (fun H locs hP hD hS => ?_)
  have hP : va_P (dC, dI) vwCl (ps_mdW cI cZ w0 b0 0 mn kn co ln wr lt f) H := hP
  have hD : va_D A (ps_mdW cI cZ w0 b0 0 mn kn co ln wr lt f) := hD
  refine lv_aload_n hx hb dX3_commit_5 rfl (lv_at hl 0 rfl) ?_
  refine lv_iconst (v := 0) hx hb dX3_commit_6 (by decide) ?_
  refine lv_iconst (v := 0) hx hb dX3_commit_7 (by decide) ?_
  refine vp_callSi (va_Run.run (va_runV (C := RX3) (As := [.int 0, .int 0]) (rest := []) ⟨hx, hb, hml, hown, hT⟩ (mX3_isClean l dC dI cI cZ w0 b0 0 mn kn co ln wr lt f (hmn) (hkn) 0 0) (cwV 2 hT (ps_gV tw_ml_X3_125 tw_im_X3_isClean tw_se_X3_isClean tw_in_X3 tw_co_X3_isClean) rfl rfl rfl ⟨rfl, by decide, by decide, by decide +kernel⟩ ⟨Nat.le_of_ble_eq_true rfl, Nat.le_of_ble_eq_true rfl⟩) (ps_preV (ci := 3) (q0 := 0) hN hP hK rfl rfl) rfl rfl hl.1 rfl (lv_room (Nat.le_of_ble_eq_true rfl)) dX3_commit_8 ⟨Nat.le_of_ble_eq_true rfl, Nat.le_of_ble_eq_true rfl⟩)) (fun r hr => ?_)
  obtain rfl : r = ps_bi (ps_cl f mn kn 0 0) := hr
  refine ps_ifb_eq (tgt := 16) hx hb dX3_commit_11 rfl (fun h11 => ?_) (fun h11 => ?_)
  · skip
    refine lv_aload_n hx hb dX3_commit_16 rfl (lv_at hl 0 rfl) ?_
    refine vp_callSi (va_Run.run (va_runV (C := RX3) (As := []) (rest := []) ⟨hx, hb, hml, hown, hT⟩ (mX3_pagesToWrite l dC dI cI cZ w0 b0 0 mn kn co ln wr lt f (hmn) (hkn)) (cwV 0 hT (ps_gV tw_ml_X3_128 tw_im_X3_pagesToWrite tw_se_X3_pagesToWrite tw_in_X3 tw_co_X3_pagesToWrite) rfl rfl rfl ⟨rfl, by decide, by decide, by decide +kernel⟩ ⟨Nat.le_of_ble_eq_true rfl, Nat.le_of_ble_eq_true rfl⟩) (ps_preV (ci := 3) (q0 := 0) hN hP hK rfl rfl) rfl rfl hl.1 rfl (lv_room (Nat.le_of_ble_eq_true rfl)) dX3_commit_17 ⟨Nat.le_of_ble_eq_true rfl, Nat.le_of_ble_eq_true rfl⟩)) (fun r hr => ?_)
    obtain rfl : r = nI (ps_tp (ps_wq f mn kn) (ps_wc f mn) mn) := hr
    refine lv_istore_n (lv' := [(1, .int (nI (ps_tp (ps_wq f mn kn) (ps_wc f mn) mn))), (0, .ref w0)]) hx hb dX3_commit_20 rfl hl (by decide) rfl (fun ls hl => ?_)
    refine lv_iload_n hx hb dX3_commit_21 rfl (lv_at hl 0 rfl) ?_
    refine lv_bipush (v := 64) hx hb dX3_commit_22 (by decide) ?_
    refine lv_aload_n hx hb dX3_commit_24 rfl (lv_at hl 1 rfl) ?_
    refine vp_callSi (va_Run.run (va_runV (C := RX3) (As := []) (rest := [.int 64, .int (nI (ps_tp (ps_wq f mn kn) (ps_wc f mn) mn))]) ⟨hx, hb, hml, hown, hT⟩ (mX3_takenPages l dC dI cI cZ w0 b0 0 mn kn co ln wr lt f (hkn)) (cwV 0 hT (ps_gV tw_ml_X3_131 tw_im_X3_takenPages tw_se_X3_takenPages tw_in_X3 tw_co_X3_takenPages) rfl rfl rfl ⟨rfl, by decide, by decide, by decide +kernel⟩ ⟨Nat.le_of_ble_eq_true rfl, Nat.le_of_ble_eq_true rfl⟩) (ps_preV (ci := 3) (q0 := 0) hN hP hK rfl rfl) rfl rfl hl.1 rfl (lv_room (Nat.le_of_ble_eq_true rfl)) dX3_commit_25 ⟨Nat.le_of_ble_eq_true rfl, Nat.le_of_ble_eq_true rfl⟩)) (fun r hr => ?_)
    obtain rfl : r = nI (ps_tp (fun k => ps_all (ps_nf (f 7) (f 5) k) k) (fun k => ps_cn (ps_tq (f 7) (f 5) k) kn) kn) := hr
    refine lv_isub hx hb dX3_commit_28 ?_
    refine lv_icmp_le (tgt := 38) hx hb dX3_commit_29 rfl (fun h29 => ?_) (fun h29 => ?_)
    · skip
      exact absurd h29 hnp
    · skip
      refine lv_aload_n hx hb dX3_commit_32 rfl (lv_at hl 1 rfl) ?_
      refine lv_iconst (v := 1) hx hb dX3_commit_33 (by decide) ?_
      refine ps_cqi (wc := ps_mdW cI cZ w0 b0 0 mn kn co ln wr lt f) (wr := []) (w1 := ps_mdW cI cZ w0 b0 1 mn kn co ln wr lt f) (ws2 := ps_mdW cI cZ w0 b0 1 mn kn co ln wr lt f) (va_runV (C := RX3) (As := [.int 1]) (rest := []) ⟨hx, hb, hml, hown, hT⟩ (mX3_fails l dC dI cI cZ w0 b0 0 mn kn co ln wr lt f 1 _) (cwV 1 hT (ps_gV tw_ml_X3_79 tw_im_X3_fails tw_se_X3_fails tw_in_X3 tw_co_X3_fails) rfl rfl rfl ⟨rfl, by decide, by decide, by decide +kernel⟩ ⟨Nat.le_of_ble_eq_true rfl, Nat.le_of_ble_eq_true rfl⟩) (ps_qreV (wc := ps_mdW cI cZ w0 b0 0 mn kn co ln wr lt f) (ci := 3) [0, 1, 2, 3, 4, 5, 6, 7, 8, 9, 10] hN hP hK hD rfl rfl rfl rfl rfl) rfl rfl hl.1 rfl (lv_room (Nat.le_of_ble_eq_true rfl)) dX3_commit_34 ⟨Nat.le_of_ble_eq_true rfl, Nat.le_of_ble_eq_true rfl⟩) hS hA hP hD [0, 1, 2, 3, 4, 5, 6, 7, 8, 9, 10] [] [0, 1, 2, 3, 4, 5, 6, 7, 8, 9, 10] rfl rfl rfl (by decide) rfl rfl rfl (fun H locs hP hD hS => ?_)
      exact W.iret (v := 0) hx hb hr (fun t ht hW => ⟨⟨0, (), rfl, rfl, by rw [ht]; exact hP, va_K.moved hW.alike hK, hD⟩, hS.F ht⟩) hS.2.2 dX3_commit_37
  · skip
    exact Bool.noConfusion (hcl.symm.trans h11)
set_option maxHeartbeats 4000000 in
set_option maxRecDepth 100000 in
theorem mX3_commit_2 (l : Launch) (dC : Nat → ClassId) (dI : Nat → Nat → Nat) (cI cZ : ClassId) (w0 : Nat) (b0 : Nat → Nat) (th : Int32) (mn kn : Nat) (co : Int32) (ln : Nat) (wr lt : Int32) (f : ps_G) (hmn : mn ≤ 48) (hkn : kn ≤ 48) (hcl : ps_cl f mn kn 0 0 = false) (hnp : nI (ps_tp (ps_wq f mn kn) (ps_wc f mn) mn) ≤ 64 - nI (ps_tp (fun k => ps_all (ps_nf (f 7) (f 5) k) k) (fun k => ps_cn (ps_tq (f 7) (f 5) k) kn) kn)) (hl0 : ¬ lt < 0) (hl1 : ¬ nI (ps_tp (ps_wq f mn kn) (ps_wc f mn) mn + 1) ≤ lt) (sz : Nat) : Met l yX3_commit (.code yX3_commit cX3_commit 3 (some .int) :: ps_T) ({ frames := 5, cells := 0, slots := 0, locals := 112 }) (ps_qc (dC, dI) (ps_ty cI cZ) (ps_mdW cI cZ w0 b0 th mn kn co ln wr lt f) sz [.ref w0]) (va_Qi (fun (r : Int32) (_ : Unit) => r = 0) (ps_qB (dC, dI) (ps_ty cI cZ) (va_A (ps_mdW cI cZ w0 b0 th mn kn co ln wr lt f) sz) (ps_mdW cI cZ w0 b0 2 kn kn 0 0 ((wr + lt)) ((-1)) ((ps_st (ps_oG f kn) kn)))) (va_A (ps_mdW cI cZ w0 b0 th mn kn co ln wr lt f) sz)) 0 0 (va_A (ps_mdW cI cZ w0 b0 th mn kn co ln wr lt f) sz) := by
  refine Met.ofW (cc := cX3_commit) (maxL := 3) (ret := (some .int)) (by decide) rfl ?_
  intro p e s m args below meth c s₁ B hml hv
  obtain ⟨rfl, hsz, hN, hP, hK, hD0⟩ := hv
  have hx := B.exec
  have hb := B.bytes
  have hr := B.returns
  have hlocks := B.notSynchronized
  have hT : ∀ w ∈ ps_T, w.before ([.ref w0] : List Value).toArray s = true := fun w h => atoms_spec (ws := (.code yX3_commit cX3_commit 3 (some .int) :: ps_T)) B.pre w (List.mem_cons_of_mem _ h)
  have hown : s.vm.findClass RX3 = some m.cls := findClass_of_methodNamed B.named
  subst hsz
  have hD := hD0.self (sz := s.heap.size)
  generalize hAe : va_A (ps_mdW cI cZ w0 b0 th mn kn co ln wr lt f) s.heap.size = A at hD ⊢
  have hA : ∀ q : Nat, s.heap.size ≤ q → A q := fun q h => by rw [← hAe]; exact Or.inr h
  have hS : va_S A s.heap s.heap [] := va_S.rf
  have hl := lv_entry ([.ref w0]) (n := 3) (Nat.le_of_ble_eq_true rfl)
  rw [lg_entry_eq]
  generalize (lg_sl ([.ref w0]) ++ List.replicate (3 - (lg_sl ([.ref w0])).length) Slot.unset).toArray = ls at hl ⊢
  have hl : lv_has ls 3 [(0, .ref w0)] := hl
  have hb1 : ps_tp (ps_wq f mn kn) (ps_wc f mn) mn ≤ mn * ((mn + 5) / 6) := ps_tp_le mn (fun k _ => ps_cn_le _ _)
  have hb2 : ps_tp (ps_wq f mn kn) (ps_wc f mn) mn < 2 ^ 20 := Nat.lt_of_le_of_lt (Nat.le_trans hb1 (Nat.mul_le_mul hmn (show (mn + 5) / 6 ≤ 8 by omega))) (by decide)
  refine lv_aload_n hx hb dX3_commit_0 rfl (lv_at hl 0 rfl) ?_
  refine lv_iconst (v := 0) hx hb dX3_commit_1 (by decide) ?_
  refine va_put (D := (dC, dI)) (ci := 3) (v := .int 0) (ty := .int) (C := RX3) (T := TX3) (N := 17) hx hb hT inX3 tyX3 tyX3_ok nmX3 hown hK hP hD hS 0 rfl rfl 0 (by decide) (hT _ tw_fl_X3_45) (fun _ h9 => h9) rfl (by decide +kernel) rfl rfl (Nat.le_of_ble_eq_true rfl) dX3_commit_2 (fun H locs hP hD hS => ?_)
  have hP : va_P (dC, dI) vwCl (ps_mdW cI cZ w0 b0 0 mn kn co ln wr lt f) H := hP
  have hD : va_D A (ps_mdW cI cZ w0 b0 0 mn kn co ln wr lt f) := hD
  refine lv_aload_n hx hb dX3_commit_5 rfl (lv_at hl 0 rfl) ?_
  refine lv_iconst (v := 0) hx hb dX3_commit_6 (by decide) ?_
  refine lv_iconst (v := 0) hx hb dX3_commit_7 (by decide) ?_
  refine vp_callSi (va_Run.run (va_runV (C := RX3) (As := [.int 0, .int 0]) (rest := []) ⟨hx, hb, hml, hown, hT⟩ (mX3_isClean l dC dI cI cZ w0 b0 0 mn kn co ln wr lt f (hmn) (hkn) 0 0) (cwV 2 hT (ps_gV tw_ml_X3_125 tw_im_X3_isClean tw_se_X3_isClean tw_in_X3 tw_co_X3_isClean) rfl rfl rfl ⟨rfl, by decide, by decide, by decide +kernel⟩ ⟨Nat.le_of_ble_eq_true rfl, Nat.le_of_ble_eq_true rfl⟩) (ps_preV (ci := 3) (q0 := 0) hN hP hK rfl rfl) rfl rfl hl.1 rfl (lv_room (Nat.le_of_ble_eq_true rfl)) dX3_commit_8 ⟨Nat.le_of_ble_eq_true rfl, Nat.le_of_ble_eq_true rfl⟩)) (fun r hr => ?_)
  obtain rfl : r = ps_bi (ps_cl f mn kn 0 0) := hr
  refine ps_ifb_eq (tgt := 16) hx hb dX3_commit_11 rfl (fun h11 => ?_) (fun h11 => ?_)
  · skip
    refine lv_aload_n hx hb dX3_commit_16 rfl (lv_at hl 0 rfl) ?_
    refine vp_callSi (va_Run.run (va_runV (C := RX3) (As := []) (rest := []) ⟨hx, hb, hml, hown, hT⟩ (mX3_pagesToWrite l dC dI cI cZ w0 b0 0 mn kn co ln wr lt f (hmn) (hkn)) (cwV 0 hT (ps_gV tw_ml_X3_128 tw_im_X3_pagesToWrite tw_se_X3_pagesToWrite tw_in_X3 tw_co_X3_pagesToWrite) rfl rfl rfl ⟨rfl, by decide, by decide, by decide +kernel⟩ ⟨Nat.le_of_ble_eq_true rfl, Nat.le_of_ble_eq_true rfl⟩) (ps_preV (ci := 3) (q0 := 0) hN hP hK rfl rfl) rfl rfl hl.1 rfl (lv_room (Nat.le_of_ble_eq_true rfl)) dX3_commit_17 ⟨Nat.le_of_ble_eq_true rfl, Nat.le_of_ble_eq_true rfl⟩)) (fun r hr => ?_)
    obtain rfl : r = nI (ps_tp (ps_wq f mn kn) (ps_wc f mn) mn) := hr
    refine lv_istore_n (lv' := [(1, .int (nI (ps_tp (ps_wq f mn kn) (ps_wc f mn) mn))), (0, .ref w0)]) hx hb dX3_commit_20 rfl hl (by decide) rfl (fun ls hl => ?_)
    refine lv_iload_n hx hb dX3_commit_21 rfl (lv_at hl 0 rfl) ?_
    refine lv_bipush (v := 64) hx hb dX3_commit_22 (by decide) ?_
    refine lv_aload_n hx hb dX3_commit_24 rfl (lv_at hl 1 rfl) ?_
    refine vp_callSi (va_Run.run (va_runV (C := RX3) (As := []) (rest := [.int 64, .int (nI (ps_tp (ps_wq f mn kn) (ps_wc f mn) mn))]) ⟨hx, hb, hml, hown, hT⟩ (mX3_takenPages l dC dI cI cZ w0 b0 0 mn kn co ln wr lt f (hkn)) (cwV 0 hT (ps_gV tw_ml_X3_131 tw_im_X3_takenPages tw_se_X3_takenPages tw_in_X3 tw_co_X3_takenPages) rfl rfl rfl ⟨rfl, by decide, by decide, by decide +kernel⟩ ⟨Nat.le_of_ble_eq_true rfl, Nat.le_of_ble_eq_true rfl⟩) (ps_preV (ci := 3) (q0 := 0) hN hP hK rfl rfl) rfl rfl hl.1 rfl (lv_room (Nat.le_of_ble_eq_true rfl)) dX3_commit_25 ⟨Nat.le_of_ble_eq_true rfl, Nat.le_of_ble_eq_true rfl⟩)) (fun r hr => ?_)
    obtain rfl : r = nI (ps_tp (fun k => ps_all (ps_nf (f 7) (f 5) k) k) (fun k => ps_cn (ps_tq (f 7) (f 5) k) kn) kn) := hr
    refine lv_isub hx hb dX3_commit_28 ?_
    refine lv_icmp_le (tgt := 38) hx hb dX3_commit_29 rfl (fun h29 => ?_) (fun h29 => ?_)
    · skip
      refine lv_aload_n hx hb dX3_commit_38 rfl (lv_at hl 1 rfl) ?_
      refine va_get (D := (dC, dI)) (ci := 3) (v := .int lt) (C := RX3) (T := TX3) (N := 17) hx hb hT inX3 hown hK hP 0 rfl rfl 16 (by decide) (hT _ tw_fl_X3_41) (fun _ h9 => h9) rfl dX3_commit_39 ?_
      refine lv_if_lt (tgt := 84) hx hb dX3_commit_42 rfl (fun h42 => ?_) (fun h42 => ?_)
      · skip
        exact absurd h42 hl0
      · skip
        refine lv_aload_n hx hb dX3_commit_45 rfl (lv_at hl 1 rfl) ?_
        refine va_get (D := (dC, dI)) (ci := 3) (v := .int lt) (C := RX3) (T := TX3) (N := 17) hx hb hT inX3 hown hK hP 0 rfl rfl 16 (by decide) (hT _ tw_fl_X3_41) (fun _ h9 => h9) rfl dX3_commit_46 ?_
        refine lv_iload_n hx hb dX3_commit_49 rfl (lv_at hl 0 rfl) ?_
        refine lv_iconst (v := 1) hx hb dX3_commit_50 (by decide) ?_
        refine lv_iadd hx hb dX3_commit_51 ?_
        rw [nI_1]
        refine lv_icmp_ge (tgt := 84) hx hb dX3_commit_52 rfl (fun h52 => ?_) (fun h52 => ?_)
        · skip
          exact absurd h52 hl1
        · skip
          refine lv_aload_n hx hb dX3_commit_55 rfl (lv_at hl 1 rfl) ?_
          refine lv_aload_n hx hb dX3_commit_56 rfl (lv_at hl 1 rfl) ?_
          refine va_get (D := (dC, dI)) (ci := 3) (v := .int wr) (C := RX3) (T := TX3) (N := 17) hx hb hT inX3 hown hK hP 0 rfl rfl 15 (by decide) (hT _ tw_fl_X3_134) (fun _ h9 => h9) rfl dX3_commit_57 ?_
          refine lv_aload_n hx hb dX3_commit_60 rfl (lv_at hl 1 rfl) ?_
          refine va_get (D := (dC, dI)) (ci := 3) (v := .int lt) (C := RX3) (T := TX3) (N := 17) hx hb hT inX3 hown hK hP 0 rfl rfl 16 (by decide) (hT _ tw_fl_X3_41) (fun _ h9 => h9) rfl dX3_commit_61 ?_
          refine lv_iadd hx hb dX3_commit_64 ?_
          refine va_put (D := (dC, dI)) (ci := 3) (v := .int (wr + lt)) (ty := .int) (C := RX3) (T := TX3) (N := 17) hx hb hT inX3 tyX3 tyX3_ok nmX3 hown hK hP hD hS 0 rfl rfl 15 (by decide) (hT _ tw_fl_X3_134) (fun _ h9 => h9) rfl (by decide +kernel) rfl rfl (Nat.le_of_ble_eq_true rfl) dX3_commit_65 (fun H locs hP hD hS => ?_)
          have hP : va_P (dC, dI) vwCl (ps_mdW cI cZ w0 b0 0 mn kn co ln (wr + lt) lt f) H := hP
          have hD : va_D A (ps_mdW cI cZ w0 b0 0 mn kn co ln (wr + lt) lt f) := hD
          refine lv_aload_n hx hb dX3_commit_68 rfl (lv_at hl 1 rfl) ?_
          refine lv_iconst (v := (-1)) hx hb dX3_commit_69 (by decide) ?_
          refine va_put (D := (dC, dI)) (ci := 3) (v := .int ((-1))) (ty := .int) (C := RX3) (T := TX3) (N := 17) hx hb hT inX3 tyX3 tyX3_ok nmX3 hown hK hP hD hS 0 rfl rfl 16 (by decide) (hT _ tw_fl_X3_41) (fun _ h9 => h9) rfl (by decide +kernel) rfl rfl (Nat.le_of_ble_eq_true rfl) dX3_commit_70 (fun H locs hP hD hS => ?_)
          have hP : va_P (dC, dI) vwCl (ps_mdW cI cZ w0 b0 0 mn kn co ln (wr + lt) ((-1)) f) H := hP
          have hD : va_D A (ps_mdW cI cZ w0 b0 0 mn kn co ln (wr + lt) ((-1)) f) := hD
          refine lv_aload_n hx hb dX3_commit_73 rfl (lv_at hl 1 rfl) ?_
          refine ps_cqi (wc := ps_mdW cI cZ w0 b0 0 mn kn co ln (wr + lt) ((-1)) f) (wr := []) (w1 := ps_mdW cI cZ w0 b0 0 kn kn 0 0 (wr + lt) ((-1)) ((ps_st (ps_oG f kn) kn))) (ws2 := ps_mdW cI cZ w0 b0 0 kn kn 0 0 (wr + lt) ((-1)) ((ps_st (ps_oG f kn) kn))) (va_runV (C := RX3) (As := []) (rest := []) ⟨hx, hb, hml, hown, hT⟩ (mX3_open l dC dI cI cZ w0 b0 0 mn kn co ln (wr + lt) ((-1)) f (hkn) _) (cwV 0 hT (ps_gV tw_ml_X3_137 tw_im_X3_open tw_se_X3_open tw_in_X3 tw_co_X3_open) rfl rfl rfl ⟨rfl, by decide, by decide, by decide +kernel⟩ ⟨Nat.le_of_ble_eq_true rfl, Nat.le_of_ble_eq_true rfl⟩) (ps_qreV (wc := ps_mdW cI cZ w0 b0 0 mn kn co ln (wr + lt) ((-1)) f) (ci := 3) [0, 1, 2, 3, 4, 5, 6, 7, 8, 9, 10] hN hP hK hD rfl rfl rfl rfl rfl) rfl rfl hl.1 rfl (lv_room (Nat.le_of_ble_eq_true rfl)) dX3_commit_74 ⟨Nat.le_of_ble_eq_true rfl, Nat.le_of_ble_eq_true rfl⟩) hS hA hP hD [0, 1, 2, 3, 4, 5, 6, 7, 8, 9, 10] [] [0, 1, 2, 3, 4, 5, 6, 7, 8, 9, 10] rfl rfl rfl (by decide) rfl rfl rfl (fun H locs hP hD hS => ?_)
          refine lv_istore_n (lv' := [(2, .int (nI kn)), (1, .int (nI (ps_tp (ps_wq f mn kn) (ps_wc f mn) mn))), (0, .ref w0)]) hx hb dX3_commit_77 rfl hl (by decide) rfl (fun ls hl => ?_)
          refine lv_aload_n hx hb dX3_commit_78 rfl (lv_at hl 2 rfl) ?_
          refine lv_iconst (v := 2) hx hb dX3_commit_79 (by decide) ?_
          refine ps_cqi (wc := ps_mdW cI cZ w0 b0 0 kn kn 0 0 (wr + lt) ((-1)) ((ps_st (ps_oG f kn) kn))) (wr := []) (w1 := ps_mdW cI cZ w0 b0 2 kn kn 0 0 (wr + lt) ((-1)) ((ps_st (ps_oG f kn) kn))) (ws2 := ps_mdW cI cZ w0 b0 2 kn kn 0 0 (wr + lt) ((-1)) ((ps_st (ps_oG f kn) kn))) (va_runV (C := RX3) (As := [.int 2]) (rest := []) ⟨hx, hb, hml, hown, hT⟩ (mX3_fails l dC dI cI cZ w0 b0 0 kn kn 0 0 (wr + lt) ((-1)) ((ps_st (ps_oG f kn) kn)) 2 _) (cwV 1 hT (ps_gV tw_ml_X3_79 tw_im_X3_fails tw_se_X3_fails tw_in_X3 tw_co_X3_fails) rfl rfl rfl ⟨rfl, by decide, by decide, by decide +kernel⟩ ⟨Nat.le_of_ble_eq_true rfl, Nat.le_of_ble_eq_true rfl⟩) (ps_qreV (wc := ps_mdW cI cZ w0 b0 0 kn kn 0 0 (wr + lt) ((-1)) ((ps_st (ps_oG f kn) kn))) (ci := 3) [0, 1, 2, 3, 4, 5, 6, 7, 8, 9, 10] hN hP hK hD rfl rfl rfl rfl rfl) rfl rfl hl.1 rfl (lv_room (Nat.le_of_ble_eq_true rfl)) dX3_commit_80 ⟨Nat.le_of_ble_eq_true rfl, Nat.le_of_ble_eq_true rfl⟩) hS hA hP hD [0, 1, 2, 3, 4, 5, 6, 7, 8, 9, 10] [] [0, 1, 2, 3, 4, 5, 6, 7, 8, 9, 10] rfl rfl rfl (by decide) rfl rfl rfl (fun H locs hP hD hS => ?_)
          exact W.iret (v := 0) hx hb hr (fun t ht hW => ⟨⟨0, (), rfl, rfl, by rw [ht]; exact hP, va_K.moved hW.alike hK, hD⟩, hS.F ht⟩) hS.2.2 dX3_commit_83
    · skip
      exact absurd hnp h29
  · skip
    exact Bool.noConfusion (hcl.symm.trans h11)
set_option maxHeartbeats 4000000 in
set_option maxRecDepth 100000 in
theorem mX3_commit_n (l : Launch) (dC : Nat → ClassId) (dI : Nat → Nat → Nat) (cI cZ : ClassId) (w0 : Nat) (b0 : Nat → Nat) (th : Int32) (mn kn : Nat) (co : Int32) (ln : Nat) (wr lt : Int32) (f : ps_G) (hmn : mn ≤ 48) (hkn : kn ≤ 48) (hcl : ps_cl f mn kn 0 0 = false) (hnp : nI (ps_tp (ps_wq f mn kn) (ps_wc f mn) mn) ≤ 64 - nI (ps_tp (fun k => ps_all (ps_nf (f 7) (f 5) k) k) (fun k => ps_cn (ps_tq (f 7) (f 5) k) kn) kn)) (hpl : lt < 0 ∨ nI (ps_tp (ps_wq f mn kn) (ps_wc f mn) mn + 1) ≤ lt) (sz : Nat) : Met l yX3_commit (.code yX3_commit cX3_commit 3 (some .int) :: ps_T) ({ frames := 4, cells := 0, slots := 0, locals := 92 }) (ps_qc (dC, dI) (ps_ty cI cZ) (ps_mdW cI cZ w0 b0 th mn kn co ln wr lt f) sz [.ref w0]) (va_Qi (fun (r : Int32) (_ : Unit) => r = nI (ps_tp (ps_wq f mn kn) (ps_wc f mn) mn + 1)) (ps_qB (dC, dI) (ps_ty cI cZ) (va_A (ps_mdW cI cZ w0 b0 th mn kn co ln wr lt f) sz) (ps_mdW cI cZ w0 b0 0 mn mn co ln ((wr + nI (ps_tp (ps_wq f mn kn) (ps_wc f mn) mn) + 1)) ((if lt < 0 then lt else lt - nI (ps_tp (ps_wq f mn kn) (ps_wc f mn) mn) - 1)) ((ps_kG f mn)))) (va_A (ps_mdW cI cZ w0 b0 th mn kn co ln wr lt f) sz)) 0 0 (va_A (ps_mdW cI cZ w0 b0 th mn kn co ln wr lt f) sz) := by
  refine Met.ofW (cc := cX3_commit) (maxL := 3) (ret := (some .int)) (by decide) rfl ?_
  intro p e s m args below meth c s₁ B hml hv
  obtain ⟨rfl, hsz, hN, hP, hK, hD0⟩ := hv
  have hx := B.exec
  have hb := B.bytes
  have hr := B.returns
  have hlocks := B.notSynchronized
  have hT : ∀ w ∈ ps_T, w.before ([.ref w0] : List Value).toArray s = true := fun w h => atoms_spec (ws := (.code yX3_commit cX3_commit 3 (some .int) :: ps_T)) B.pre w (List.mem_cons_of_mem _ h)
  have hown : s.vm.findClass RX3 = some m.cls := findClass_of_methodNamed B.named
  subst hsz
  have hD := hD0.self (sz := s.heap.size)
  generalize hAe : va_A (ps_mdW cI cZ w0 b0 th mn kn co ln wr lt f) s.heap.size = A at hD ⊢
  have hA : ∀ q : Nat, s.heap.size ≤ q → A q := fun q h => by rw [← hAe]; exact Or.inr h
  have hS : va_S A s.heap s.heap [] := va_S.rf
  have hl := lv_entry ([.ref w0]) (n := 3) (Nat.le_of_ble_eq_true rfl)
  rw [lg_entry_eq]
  generalize (lg_sl ([.ref w0]) ++ List.replicate (3 - (lg_sl ([.ref w0])).length) Slot.unset).toArray = ls at hl ⊢
  have hl : lv_has ls 3 [(0, .ref w0)] := hl
  have hb1 : ps_tp (ps_wq f mn kn) (ps_wc f mn) mn ≤ mn * ((mn + 5) / 6) := ps_tp_le mn (fun k _ => ps_cn_le _ _)
  have hb2 : ps_tp (ps_wq f mn kn) (ps_wc f mn) mn < 2 ^ 20 := Nat.lt_of_le_of_lt (Nat.le_trans hb1 (Nat.mul_le_mul hmn (show (mn + 5) / 6 ≤ 8 by omega))) (by decide)
  refine lv_aload_n hx hb dX3_commit_0 rfl (lv_at hl 0 rfl) ?_
  refine lv_iconst (v := 0) hx hb dX3_commit_1 (by decide) ?_
  refine va_put (D := (dC, dI)) (ci := 3) (v := .int 0) (ty := .int) (C := RX3) (T := TX3) (N := 17) hx hb hT inX3 tyX3 tyX3_ok nmX3 hown hK hP hD hS 0 rfl rfl 0 (by decide) (hT _ tw_fl_X3_45) (fun _ h9 => h9) rfl (by decide +kernel) rfl rfl (Nat.le_of_ble_eq_true rfl) dX3_commit_2 (fun H locs hP hD hS => ?_)
  have hP : va_P (dC, dI) vwCl (ps_mdW cI cZ w0 b0 0 mn kn co ln wr lt f) H := hP
  have hD : va_D A (ps_mdW cI cZ w0 b0 0 mn kn co ln wr lt f) := hD
  refine lv_aload_n hx hb dX3_commit_5 rfl (lv_at hl 0 rfl) ?_
  refine lv_iconst (v := 0) hx hb dX3_commit_6 (by decide) ?_
  refine lv_iconst (v := 0) hx hb dX3_commit_7 (by decide) ?_
  refine vp_callSi (va_Run.run (va_runV (C := RX3) (As := [.int 0, .int 0]) (rest := []) ⟨hx, hb, hml, hown, hT⟩ (mX3_isClean l dC dI cI cZ w0 b0 0 mn kn co ln wr lt f (hmn) (hkn) 0 0) (cwV 2 hT (ps_gV tw_ml_X3_125 tw_im_X3_isClean tw_se_X3_isClean tw_in_X3 tw_co_X3_isClean) rfl rfl rfl ⟨rfl, by decide, by decide, by decide +kernel⟩ ⟨Nat.le_of_ble_eq_true rfl, Nat.le_of_ble_eq_true rfl⟩) (ps_preV (ci := 3) (q0 := 0) hN hP hK rfl rfl) rfl rfl hl.1 rfl (lv_room (Nat.le_of_ble_eq_true rfl)) dX3_commit_8 ⟨Nat.le_of_ble_eq_true rfl, Nat.le_of_ble_eq_true rfl⟩)) (fun r hr => ?_)
  obtain rfl : r = ps_bi (ps_cl f mn kn 0 0) := hr
  refine ps_ifb_eq (tgt := 16) hx hb dX3_commit_11 rfl (fun h11 => ?_) (fun h11 => ?_)
  · skip
    refine lv_aload_n hx hb dX3_commit_16 rfl (lv_at hl 0 rfl) ?_
    refine vp_callSi (va_Run.run (va_runV (C := RX3) (As := []) (rest := []) ⟨hx, hb, hml, hown, hT⟩ (mX3_pagesToWrite l dC dI cI cZ w0 b0 0 mn kn co ln wr lt f (hmn) (hkn)) (cwV 0 hT (ps_gV tw_ml_X3_128 tw_im_X3_pagesToWrite tw_se_X3_pagesToWrite tw_in_X3 tw_co_X3_pagesToWrite) rfl rfl rfl ⟨rfl, by decide, by decide, by decide +kernel⟩ ⟨Nat.le_of_ble_eq_true rfl, Nat.le_of_ble_eq_true rfl⟩) (ps_preV (ci := 3) (q0 := 0) hN hP hK rfl rfl) rfl rfl hl.1 rfl (lv_room (Nat.le_of_ble_eq_true rfl)) dX3_commit_17 ⟨Nat.le_of_ble_eq_true rfl, Nat.le_of_ble_eq_true rfl⟩)) (fun r hr => ?_)
    obtain rfl : r = nI (ps_tp (ps_wq f mn kn) (ps_wc f mn) mn) := hr
    refine lv_istore_n (lv' := [(1, .int (nI (ps_tp (ps_wq f mn kn) (ps_wc f mn) mn))), (0, .ref w0)]) hx hb dX3_commit_20 rfl hl (by decide) rfl (fun ls hl => ?_)
    refine lv_iload_n hx hb dX3_commit_21 rfl (lv_at hl 0 rfl) ?_
    refine lv_bipush (v := 64) hx hb dX3_commit_22 (by decide) ?_
    refine lv_aload_n hx hb dX3_commit_24 rfl (lv_at hl 1 rfl) ?_
    refine vp_callSi (va_Run.run (va_runV (C := RX3) (As := []) (rest := [.int 64, .int (nI (ps_tp (ps_wq f mn kn) (ps_wc f mn) mn))]) ⟨hx, hb, hml, hown, hT⟩ (mX3_takenPages l dC dI cI cZ w0 b0 0 mn kn co ln wr lt f (hkn)) (cwV 0 hT (ps_gV tw_ml_X3_131 tw_im_X3_takenPages tw_se_X3_takenPages tw_in_X3 tw_co_X3_takenPages) rfl rfl rfl ⟨rfl, by decide, by decide, by decide +kernel⟩ ⟨Nat.le_of_ble_eq_true rfl, Nat.le_of_ble_eq_true rfl⟩) (ps_preV (ci := 3) (q0 := 0) hN hP hK rfl rfl) rfl rfl hl.1 rfl (lv_room (Nat.le_of_ble_eq_true rfl)) dX3_commit_25 ⟨Nat.le_of_ble_eq_true rfl, Nat.le_of_ble_eq_true rfl⟩)) (fun r hr => ?_)
    obtain rfl : r = nI (ps_tp (fun k => ps_all (ps_nf (f 7) (f 5) k) k) (fun k => ps_cn (ps_tq (f 7) (f 5) k) kn) kn) := hr
    refine lv_isub hx hb dX3_commit_28 ?_
    refine lv_icmp_le (tgt := 38) hx hb dX3_commit_29 rfl (fun h29 => ?_) (fun h29 => ?_)
    · skip
      refine lv_aload_n hx hb dX3_commit_38 rfl (lv_at hl 1 rfl) ?_
      refine va_get (D := (dC, dI)) (ci := 3) (v := .int lt) (C := RX3) (T := TX3) (N := 17) hx hb hT inX3 hown hK hP 0 rfl rfl 16 (by decide) (hT _ tw_fl_X3_41) (fun _ h9 => h9) rfl dX3_commit_39 ?_
      refine lv_if_lt (tgt := 84) hx hb dX3_commit_42 rfl (fun h42 => ?_) (fun h42 => ?_)
      · skip
        refine lv_aload_n hx hb dX3_commit_84 rfl (lv_at hl 1 rfl) ?_
        refine lv_aload_n hx hb dX3_commit_85 rfl (lv_at hl 1 rfl) ?_
        refine va_get (D := (dC, dI)) (ci := 3) (v := .int wr) (C := RX3) (T := TX3) (N := 17) hx hb hT inX3 hown hK hP 0 rfl rfl 15 (by decide) (hT _ tw_fl_X3_134) (fun _ h9 => h9) rfl dX3_commit_86 ?_
        refine lv_iload_n hx hb dX3_commit_89 rfl (lv_at hl 0 rfl) ?_
        refine lv_iadd hx hb dX3_commit_90 ?_
        refine lv_iconst (v := 1) hx hb dX3_commit_91 (by decide) ?_
        refine lv_iadd hx hb dX3_commit_92 ?_
        refine va_put (D := (dC, dI)) (ci := 3) (v := .int ((wr + (nI (ps_tp (ps_wq f mn kn) (ps_wc f mn) mn))) + 1)) (ty := .int) (C := RX3) (T := TX3) (N := 17) hx hb hT inX3 tyX3 tyX3_ok nmX3 hown hK hP hD hS 0 rfl rfl 15 (by decide) (hT _ tw_fl_X3_134) (fun _ h9 => h9) rfl (by decide +kernel) rfl rfl (Nat.le_of_ble_eq_true rfl) dX3_commit_93 (fun H locs hP hD hS => ?_)
        have hP : va_P (dC, dI) vwCl (ps_mdW cI cZ w0 b0 0 mn kn co ln ((wr + (nI (ps_tp (ps_wq f mn kn) (ps_wc f mn) mn))) + 1) lt f) H := hP
        have hD : va_D A (ps_mdW cI cZ w0 b0 0 mn kn co ln ((wr + (nI (ps_tp (ps_wq f mn kn) (ps_wc f mn) mn))) + 1) lt f) := hD
        refine lv_aload_n hx hb dX3_commit_96 rfl (lv_at hl 1 rfl) ?_
        refine lv_aload_n hx hb dX3_commit_97 rfl (lv_at hl 1 rfl) ?_
        refine va_get (D := (dC, dI)) (ci := 3) (v := .int lt) (C := RX3) (T := TX3) (N := 17) hx hb hT inX3 hown hK hP 0 rfl rfl 16 (by decide) (hT _ tw_fl_X3_41) (fun _ h9 => h9) rfl dX3_commit_98 ?_
        refine lv_if_ge (tgt := 111) hx hb dX3_commit_101 rfl (fun h101 => ?_) (fun h101 => ?_)
        · skip
          refine lv_aload_n hx hb dX3_commit_111 rfl (lv_at hl 1 rfl) ?_
          refine va_get (D := (dC, dI)) (ci := 3) (v := .int lt) (C := RX3) (T := TX3) (N := 17) hx hb hT inX3 hown hK hP 0 rfl rfl 16 (by decide) (hT _ tw_fl_X3_41) (fun _ h9 => h9) rfl dX3_commit_112 ?_
          refine lv_iload_n hx hb dX3_commit_115 rfl (lv_at hl 0 rfl) ?_
          refine lv_isub hx hb dX3_commit_116 ?_
          refine lv_iconst (v := 1) hx hb dX3_commit_117 (by decide) ?_
          refine lv_isub hx hb dX3_commit_118 ?_
          refine lv_topi (fun y9 hy9 => ?_)
          obtain rfl : y9 = (if lt < 0 then lt else lt - nI (ps_tp (ps_wq f mn kn) (ps_wc f mn) mn) - 1) := hy9.trans (by rw [if_neg (Int32.not_lt.mpr h101)])
          refine va_put (D := (dC, dI)) (ci := 3) (v := .int ((if lt < 0 then lt else lt - nI (ps_tp (ps_wq f mn kn) (ps_wc f mn) mn) - 1))) (ty := .int) (C := RX3) (T := TX3) (N := 17) hx hb hT inX3 tyX3 tyX3_ok nmX3 hown hK hP hD hS 0 rfl rfl 16 (by decide) (hT _ tw_fl_X3_41) (fun _ h9 => h9) rfl (by decide +kernel) rfl rfl (Nat.le_of_ble_eq_true rfl) dX3_commit_119 (fun H locs hP hD hS => ?_)
          have hP : va_P (dC, dI) vwCl (ps_mdW cI cZ w0 b0 0 mn kn co ln ((wr + (nI (ps_tp (ps_wq f mn kn) (ps_wc f mn) mn))) + 1) ((if lt < 0 then lt else lt - nI (ps_tp (ps_wq f mn kn) (ps_wc f mn) mn) - 1)) f) H := hP
          have hD : va_D A (ps_mdW cI cZ w0 b0 0 mn kn co ln ((wr + (nI (ps_tp (ps_wq f mn kn) (ps_wc f mn) mn))) + 1) ((if lt < 0 then lt else lt - nI (ps_tp (ps_wq f mn kn) (ps_wc f mn) mn) - 1)) f) := hD
          refine lv_aload_n hx hb dX3_commit_122 rfl (lv_at hl 1 rfl) ?_
          refine lv_aload_n hx hb dX3_commit_123 rfl (lv_at hl 1 rfl) ?_
          refine va_get (D := (dC, dI)) (ci := 3) (v := .int (nI mn)) (C := RX3) (T := TX3) (N := 17) hx hb hT inX3 hown hK hP 0 rfl rfl 1 (by decide) (hT _ tw_fl_X3_59) (fun _ h9 => h9) rfl dX3_commit_124 ?_
          refine va_put (D := (dC, dI)) (ci := 3) (v := .int (nI mn)) (ty := .int) (C := RX3) (T := TX3) (N := 17) hx hb hT inX3 tyX3 tyX3_ok nmX3 hown hK hP hD hS 0 rfl rfl 6 (by decide) (hT _ tw_fl_X3_109) (fun _ h9 => h9) rfl (by decide +kernel) rfl rfl (Nat.le_of_ble_eq_true rfl) dX3_commit_127 (fun H locs hP hD hS => ?_)
          have hP : va_P (dC, dI) vwCl (ps_mdW cI cZ w0 b0 0 mn mn co ln ((wr + (nI (ps_tp (ps_wq f mn kn) (ps_wc f mn) mn))) + 1) ((if lt < 0 then lt else lt - nI (ps_tp (ps_wq f mn kn) (ps_wc f mn) mn) - 1)) f) H := hP
          have hD : va_D A (ps_mdW cI cZ w0 b0 0 mn mn co ln ((wr + (nI (ps_tp (ps_wq f mn kn) (ps_wc f mn) mn))) + 1) ((if lt < 0 then lt else lt - nI (ps_tp (ps_wq f mn kn) (ps_wc f mn) mn) - 1)) f) := hD
          refine lv_iconst (v := 0) hx hb dX3_commit_130 (by decide) ?_
          refine lv_istore_n (lv' := [(2, .int 0), (1, .int (nI (ps_tp (ps_wq f mn kn) (ps_wc f mn) mn))), (0, .ref w0)]) hx hb dX3_commit_131 rfl hl (by decide) rfl (fun ls hl => ?_)
          have hP : va_P (dC, dI) vwCl (ps_mdW cI cZ w0 b0 0 mn mn co ln ((wr + nI (ps_tp (ps_wq f mn kn) (ps_wc f mn) mn) + 1)) ((if lt < 0 then lt else lt - nI (ps_tp (ps_wq f mn kn) (ps_wc f mn) mn) - 1)) ((ps_kG f 0))) H := by rw [← ps_kG_0 f]; exact hP
          have hD : va_D A (ps_mdW cI cZ w0 b0 0 mn mn co ln ((wr + nI (ps_tp (ps_wq f mn kn) (ps_wc f mn) mn) + 1)) ((if lt < 0 then lt else lt - nI (ps_tp (ps_wq f mn kn) (ps_wc f mn) mn) - 1)) ((ps_kG f 0))) := by rw [← ps_kG_0 f]; exact hD
          refine ps_loopQ (α := Nat) (fun k => mn - k) (fun k ls H locs => (k ≤ mn) ∧ lv_has ls 3 [(0, .ref w0), (1, .int (nI (ps_tp (ps_wq f mn kn) (ps_wc f mn) mn))), (2, .int (nI k))] ∧ va_P (dC, dI) vwCl (ps_mdW cI cZ w0 b0 0 mn mn co ln ((wr + nI (ps_tp (ps_wq f mn kn) (ps_wc f mn) mn) + 1)) ((if lt < 0 then lt else lt - nI (ps_tp (ps_wq f mn kn) (ps_wc f mn) mn) - 1)) ((ps_kG f k))) H ∧ va_D A (ps_mdW cI cZ w0 b0 0 mn mn co ln ((wr + nI (ps_tp (ps_wq f mn kn) (ps_wc f mn) mn) + 1)) ((if lt < 0 then lt else lt - nI (ps_tp (ps_wq f mn kn) (ps_wc f mn) mn) - 1)) ((ps_kG f k))) ∧ va_S A s.heap H locs) ?_ 0 ls _ _ ⟨by omega, lv_sub hl [2, 1, 0] rfl, hP, hD, hS⟩
          intro k ls H locs ih132 hI
          obtain ⟨hk, hl, hP, hD, hS⟩ := hI
          refine lv_iload_n hx hb dX3_commit_132 rfl (lv_at hl 2 rfl) ?_
          refine lv_aload_n hx hb dX3_commit_133 rfl (lv_at hl 0 rfl) ?_
          refine va_get (D := (dC, dI)) (ci := 3) (v := .int (nI mn)) (C := RX3) (T := TX3) (N := 17) hx hb hT inX3 hown hK hP 0 rfl rfl 1 (by decide) (hT _ tw_fl_X3_59) (fun _ h9 => h9) rfl dX3_commit_134 ?_
          refine ps_icmp_ge (tgt := 194) (a := k) (b := mn) hx hb dX3_commit_137 rfl (by omega) (by omega) (fun h137 => ?_) (fun h137 => ?_)
          · skip
            have ek : k = mn := by omega
            rw [ek] at hP hD
            refine lv_iload_n hx hb dX3_commit_194 rfl (lv_at hl 1 rfl) ?_
            refine lv_iconst (v := 1) hx hb dX3_commit_195 (by decide) ?_
            refine lv_iadd hx hb dX3_commit_196 ?_
            rw [nI_1]
            exact W.iret (v := nI ((ps_tp (ps_wq f mn kn) (ps_wc f mn) mn) + 1)) hx hb hr (fun t ht hW => ⟨⟨nI ((ps_tp (ps_wq f mn kn) (ps_wc f mn) mn) + 1), (), rfl, rfl, by rw [ht]; exact hP, va_K.moved hW.alike hK, hD⟩, hS.F ht⟩) hS.2.2 dX3_commit_197
          · skip
            refine lv_aload_n hx hb dX3_commit_140 rfl (lv_at hl 0 rfl) ?_
            refine va_get (D := (dC, dI)) (ci := 3) (v := .ref (b0 4)) (C := RX3) (T := TX3) (N := 17) hx hb hT inX3 hown hK hP 0 rfl rfl 7 (by decide) (hT _ tw_fl_X3_22) (fun _ h9 => h9) rfl dX3_commit_141 ?_
            refine lv_iload_n hx hb dX3_commit_144 rfl (lv_at hl 2 rfl) ?_
            refine lv_aload_n hx hb dX3_commit_145 rfl (lv_at hl 0 rfl) ?_
            refine va_get (D := (dC, dI)) (ci := 3) (v := .ref (b0 0)) (C := RX3) (T := TX3) (N := 17) hx hb hT inX3 hown hK hP 0 rfl rfl 2 (by decide) (hT _ tw_fl_X3_7) (fun _ h9 => h9) rfl dX3_commit_146 ?_
            refine lv_iload_n hx hb dX3_commit_149 rfl (lv_at hl 2 rfl) ?_
            refine ps_iald (k := k) (f := (ps_kG f k) 0) hx hb hK hP 1 0 rfl rfl (by omega) (by decide) dX3_commit_150 ?_
            refine ps_iast (k := k) hx hb hK hP hD hS 5 0 rfl rfl (by omega) (by decide) dX3_commit_151 (fun H locs hP hD hS => ?_)
            have hP : va_P (dC, dI) vwCl (ps_mdW cI cZ w0 b0 0 mn mn co ln ((wr + nI (ps_tp (ps_wq f mn kn) (ps_wc f mn) mn) + 1)) ((if lt < 0 then lt else lt - nI (ps_tp (ps_wq f mn kn) (ps_wc f mn) mn) - 1)) (va_up ((ps_kG f k)) 4 (upd ((ps_kG f k) 4) k (((ps_kG f k) 0) k)))) H := hP
            have hD : va_D A (ps_mdW cI cZ w0 b0 0 mn mn co ln ((wr + nI (ps_tp (ps_wq f mn kn) (ps_wc f mn) mn) + 1)) ((if lt < 0 then lt else lt - nI (ps_tp (ps_wq f mn kn) (ps_wc f mn) mn) - 1)) (va_up ((ps_kG f k)) 4 (upd ((ps_kG f k) 4) k (((ps_kG f k) 0) k)))) := hD
            refine lv_aload_n hx hb dX3_commit_152 rfl (lv_at hl 0 rfl) ?_
            refine va_get (D := (dC, dI)) (ci := 3) (v := .ref (b0 5)) (C := RX3) (T := TX3) (N := 17) hx hb hT inX3 hown hK hP 0 rfl rfl 8 (by decide) (hT _ tw_fl_X3_25) (fun _ h9 => h9) rfl dX3_commit_153 ?_
            refine lv_iload_n hx hb dX3_commit_156 rfl (lv_at hl 2 rfl) ?_
            refine lv_aload_n hx hb dX3_commit_157 rfl (lv_at hl 0 rfl) ?_
            refine va_get (D := (dC, dI)) (ci := 3) (v := .ref (b0 1)) (C := RX3) (T := TX3) (N := 17) hx hb hT inX3 hown hK hP 0 rfl rfl 3 (by decide) (hT _ tw_fl_X3_13) (fun _ h9 => h9) rfl dX3_commit_158 ?_
            refine lv_iload_n hx hb dX3_commit_161 rfl (lv_at hl 2 rfl) ?_
            refine ps_iald (k := k) (f := (ps_kG f k) 1) hx hb hK hP 2 0 rfl rfl (by omega) (by decide) dX3_commit_162 ?_
            refine ps_iast (k := k) hx hb hK hP hD hS 6 0 rfl rfl (by omega) (by decide) dX3_commit_163 (fun H locs hP hD hS => ?_)
            have hP : va_P (dC, dI) vwCl (ps_mdW cI cZ w0 b0 0 mn mn co ln ((wr + nI (ps_tp (ps_wq f mn kn) (ps_wc f mn) mn) + 1)) ((if lt < 0 then lt else lt - nI (ps_tp (ps_wq f mn kn) (ps_wc f mn) mn) - 1)) (va_up (va_up ((ps_kG f k)) 4 (upd ((ps_kG f k) 4) k (((ps_kG f k) 0) k))) 5 (upd ((ps_kG f k) 5) k (((ps_kG f k) 1) k)))) H := hP
            have hD : va_D A (ps_mdW cI cZ w0 b0 0 mn mn co ln ((wr + nI (ps_tp (ps_wq f mn kn) (ps_wc f mn) mn) + 1)) ((if lt < 0 then lt else lt - nI (ps_tp (ps_wq f mn kn) (ps_wc f mn) mn) - 1)) (va_up (va_up ((ps_kG f k)) 4 (upd ((ps_kG f k) 4) k (((ps_kG f k) 0) k))) 5 (upd ((ps_kG f k) 5) k (((ps_kG f k) 1) k)))) := hD
            refine lv_aload_n hx hb dX3_commit_164 rfl (lv_at hl 0 rfl) ?_
            refine va_get (D := (dC, dI)) (ci := 3) (v := .ref (b0 6)) (C := RX3) (T := TX3) (N := 17) hx hb hT inX3 hown hK hP 0 rfl rfl 9 (by decide) (hT _ tw_fl_X3_28) (fun _ h9 => h9) rfl dX3_commit_165 ?_
            refine lv_iload_n hx hb dX3_commit_168 rfl (lv_at hl 2 rfl) ?_
            refine lv_aload_n hx hb dX3_commit_169 rfl (lv_at hl 0 rfl) ?_
            refine va_get (D := (dC, dI)) (ci := 3) (v := .ref (b0 2)) (C := RX3) (T := TX3) (N := 17) hx hb hT inX3 hown hK hP 0 rfl rfl 4 (by decide) (hT _ tw_fl_X3_16) (fun _ h9 => h9) rfl dX3_commit_170 ?_
            refine lv_iload_n hx hb dX3_commit_173 rfl (lv_at hl 2 rfl) ?_
            refine ps_iald (k := k) (f := (ps_kG f k) 2) hx hb hK hP 3 0 rfl rfl (by omega) (by decide) dX3_commit_174 ?_
            refine ps_iast (k := k) hx hb hK hP hD hS 7 0 rfl rfl (by omega) (by decide) dX3_commit_175 (fun H locs hP hD hS => ?_)
            have hP : va_P (dC, dI) vwCl (ps_mdW cI cZ w0 b0 0 mn mn co ln ((wr + nI (ps_tp (ps_wq f mn kn) (ps_wc f mn) mn) + 1)) ((if lt < 0 then lt else lt - nI (ps_tp (ps_wq f mn kn) (ps_wc f mn) mn) - 1)) (va_up (va_up (va_up ((ps_kG f k)) 4 (upd ((ps_kG f k) 4) k (((ps_kG f k) 0) k))) 5 (upd ((ps_kG f k) 5) k (((ps_kG f k) 1) k))) 6 (upd ((ps_kG f k) 6) k (((ps_kG f k) 2) k)))) H := hP
            have hD : va_D A (ps_mdW cI cZ w0 b0 0 mn mn co ln ((wr + nI (ps_tp (ps_wq f mn kn) (ps_wc f mn) mn) + 1)) ((if lt < 0 then lt else lt - nI (ps_tp (ps_wq f mn kn) (ps_wc f mn) mn) - 1)) (va_up (va_up (va_up ((ps_kG f k)) 4 (upd ((ps_kG f k) 4) k (((ps_kG f k) 0) k))) 5 (upd ((ps_kG f k) 5) k (((ps_kG f k) 1) k))) 6 (upd ((ps_kG f k) 6) k (((ps_kG f k) 2) k)))) := hD
            refine lv_aload_n hx hb dX3_commit_176 rfl (lv_at hl 0 rfl) ?_
            refine va_get (D := (dC, dI)) (ci := 3) (v := .ref (b0 7)) (C := RX3) (T := TX3) (N := 17) hx hb hT inX3 hown hK hP 0 rfl rfl 10 (by decide) (hT _ tw_fl_X3_31) (fun _ h9 => h9) rfl dX3_commit_177 ?_
            refine lv_iload_n hx hb dX3_commit_180 rfl (lv_at hl 2 rfl) ?_
            refine lv_aload_n hx hb dX3_commit_181 rfl (lv_at hl 0 rfl) ?_
            refine va_get (D := (dC, dI)) (ci := 3) (v := .ref (b0 3)) (C := RX3) (T := TX3) (N := 17) hx hb hT inX3 hown hK hP 0 rfl rfl 5 (by decide) (hT _ tw_fl_X3_19) (fun _ h9 => h9) rfl dX3_commit_182 ?_
            refine lv_iload_n hx hb dX3_commit_185 rfl (lv_at hl 2 rfl) ?_
            refine ps_iald (k := k) (f := (ps_kG f k) 3) hx hb hK hP 4 0 rfl rfl (by omega) (by decide) dX3_commit_186 ?_
            refine ps_iast (k := k) hx hb hK hP hD hS 8 0 rfl rfl (by omega) (by decide) dX3_commit_187 (fun H locs hP hD hS => ?_)
            have hP : va_P (dC, dI) vwCl (ps_mdW cI cZ w0 b0 0 mn mn co ln ((wr + nI (ps_tp (ps_wq f mn kn) (ps_wc f mn) mn) + 1)) ((if lt < 0 then lt else lt - nI (ps_tp (ps_wq f mn kn) (ps_wc f mn) mn) - 1)) (va_up (va_up (va_up (va_up ((ps_kG f k)) 4 (upd ((ps_kG f k) 4) k (((ps_kG f k) 0) k))) 5 (upd ((ps_kG f k) 5) k (((ps_kG f k) 1) k))) 6 (upd ((ps_kG f k) 6) k (((ps_kG f k) 2) k))) 7 (upd ((ps_kG f k) 7) k (((ps_kG f k) 3) k)))) H := hP
            have hD : va_D A (ps_mdW cI cZ w0 b0 0 mn mn co ln ((wr + nI (ps_tp (ps_wq f mn kn) (ps_wc f mn) mn) + 1)) ((if lt < 0 then lt else lt - nI (ps_tp (ps_wq f mn kn) (ps_wc f mn) mn) - 1)) (va_up (va_up (va_up (va_up ((ps_kG f k)) 4 (upd ((ps_kG f k) 4) k (((ps_kG f k) 0) k))) 5 (upd ((ps_kG f k) 5) k (((ps_kG f k) 1) k))) 6 (upd ((ps_kG f k) 6) k (((ps_kG f k) 2) k))) 7 (upd ((ps_kG f k) 7) k (((ps_kG f k) 3) k)))) := hD
            have hP : va_P (dC, dI) vwCl (ps_mdW cI cZ w0 b0 0 mn mn co ln ((wr + nI (ps_tp (ps_wq f mn kn) (ps_wc f mn) mn) + 1)) ((if lt < 0 then lt else lt - nI (ps_tp (ps_wq f mn kn) (ps_wc f mn) mn) - 1)) ((ps_kG f (k + 1)))) H := by rw [← ps_kG_S f k]; exact hP
            have hD : va_D A (ps_mdW cI cZ w0 b0 0 mn mn co ln ((wr + nI (ps_tp (ps_wq f mn kn) (ps_wc f mn) mn) + 1)) ((if lt < 0 then lt else lt - nI (ps_tp (ps_wq f mn kn) (ps_wc f mn) mn) - 1)) ((ps_kG f (k + 1)))) := by rw [← ps_kG_S f k]; exact hD
            refine lv_iinc (k := 2) (v := nI (k + 1)) (lv' := [(2, .int (nI (k + 1))), (0, .ref w0), (1, .int (nI (ps_tp (ps_wq f mn kn) (ps_wc f mn) mn)))]) hx hb dX3_commit_188 hl rfl (ps_inc _) (by decide) rfl (fun ls hl => ?_)
            refine lv_goto (tgt := 132) hx hb dX3_commit_191 rfl ?_
            exact ih132 ((k + 1)) ls _ _ (by omega) ⟨by omega, lv_sub hl [1, 2, 0] rfl, hP, hD, hS⟩
        · skip
          refine lv_aload_n hx hb dX3_commit_104 rfl (lv_at hl 1 rfl) ?_
          refine va_get (D := (dC, dI)) (ci := 3) (v := .int lt) (C := RX3) (T := TX3) (N := 17) hx hb hT inX3 hown hK hP 0 rfl rfl 16 (by decide) (hT _ tw_fl_X3_41) (fun _ h9 => h9) rfl dX3_commit_105 ?_
          refine lv_topi (fun y9 hy9 => ?_)
          obtain rfl : y9 = (if lt < 0 then lt else lt - nI (ps_tp (ps_wq f mn kn) (ps_wc f mn) mn) - 1) := hy9.trans (by rw [if_pos (Int32.not_le.mp h101)])
          refine lv_goto (tgt := 119) hx hb dX3_commit_108 rfl ?_
          refine va_put (D := (dC, dI)) (ci := 3) (v := .int ((if lt < 0 then lt else lt - nI (ps_tp (ps_wq f mn kn) (ps_wc f mn) mn) - 1))) (ty := .int) (C := RX3) (T := TX3) (N := 17) hx hb hT inX3 tyX3 tyX3_ok nmX3 hown hK hP hD hS 0 rfl rfl 16 (by decide) (hT _ tw_fl_X3_41) (fun _ h9 => h9) rfl (by decide +kernel) rfl rfl (Nat.le_of_ble_eq_true rfl) dX3_commit_119 (fun H locs hP hD hS => ?_)
          have hP : va_P (dC, dI) vwCl (ps_mdW cI cZ w0 b0 0 mn kn co ln ((wr + (nI (ps_tp (ps_wq f mn kn) (ps_wc f mn) mn))) + 1) ((if lt < 0 then lt else lt - nI (ps_tp (ps_wq f mn kn) (ps_wc f mn) mn) - 1)) f) H := hP
          have hD : va_D A (ps_mdW cI cZ w0 b0 0 mn kn co ln ((wr + (nI (ps_tp (ps_wq f mn kn) (ps_wc f mn) mn))) + 1) ((if lt < 0 then lt else lt - nI (ps_tp (ps_wq f mn kn) (ps_wc f mn) mn) - 1)) f) := hD
          refine lv_aload_n hx hb dX3_commit_122 rfl (lv_at hl 1 rfl) ?_
          refine lv_aload_n hx hb dX3_commit_123 rfl (lv_at hl 1 rfl) ?_
          refine va_get (D := (dC, dI)) (ci := 3) (v := .int (nI mn)) (C := RX3) (T := TX3) (N := 17) hx hb hT inX3 hown hK hP 0 rfl rfl 1 (by decide) (hT _ tw_fl_X3_59) (fun _ h9 => h9) rfl dX3_commit_124 ?_
          refine va_put (D := (dC, dI)) (ci := 3) (v := .int (nI mn)) (ty := .int) (C := RX3) (T := TX3) (N := 17) hx hb hT inX3 tyX3 tyX3_ok nmX3 hown hK hP hD hS 0 rfl rfl 6 (by decide) (hT _ tw_fl_X3_109) (fun _ h9 => h9) rfl (by decide +kernel) rfl rfl (Nat.le_of_ble_eq_true rfl) dX3_commit_127 (fun H locs hP hD hS => ?_)
          have hP : va_P (dC, dI) vwCl (ps_mdW cI cZ w0 b0 0 mn mn co ln ((wr + (nI (ps_tp (ps_wq f mn kn) (ps_wc f mn) mn))) + 1) ((if lt < 0 then lt else lt - nI (ps_tp (ps_wq f mn kn) (ps_wc f mn) mn) - 1)) f) H := hP
          have hD : va_D A (ps_mdW cI cZ w0 b0 0 mn mn co ln ((wr + (nI (ps_tp (ps_wq f mn kn) (ps_wc f mn) mn))) + 1) ((if lt < 0 then lt else lt - nI (ps_tp (ps_wq f mn kn) (ps_wc f mn) mn) - 1)) f) := hD
          refine lv_iconst (v := 0) hx hb dX3_commit_130 (by decide) ?_
          refine lv_istore_n (lv' := [(2, .int 0), (1, .int (nI (ps_tp (ps_wq f mn kn) (ps_wc f mn) mn))), (0, .ref w0)]) hx hb dX3_commit_131 rfl hl (by decide) rfl (fun ls hl => ?_)
          have hP : va_P (dC, dI) vwCl (ps_mdW cI cZ w0 b0 0 mn mn co ln ((wr + nI (ps_tp (ps_wq f mn kn) (ps_wc f mn) mn) + 1)) ((if lt < 0 then lt else lt - nI (ps_tp (ps_wq f mn kn) (ps_wc f mn) mn) - 1)) ((ps_kG f 0))) H := by rw [← ps_kG_0 f]; exact hP
          have hD : va_D A (ps_mdW cI cZ w0 b0 0 mn mn co ln ((wr + nI (ps_tp (ps_wq f mn kn) (ps_wc f mn) mn) + 1)) ((if lt < 0 then lt else lt - nI (ps_tp (ps_wq f mn kn) (ps_wc f mn) mn) - 1)) ((ps_kG f 0))) := by rw [← ps_kG_0 f]; exact hD
          refine ps_loopQ (α := Nat) (fun k => mn - k) (fun k ls H locs => (k ≤ mn) ∧ lv_has ls 3 [(0, .ref w0), (1, .int (nI (ps_tp (ps_wq f mn kn) (ps_wc f mn) mn))), (2, .int (nI k))] ∧ va_P (dC, dI) vwCl (ps_mdW cI cZ w0 b0 0 mn mn co ln ((wr + nI (ps_tp (ps_wq f mn kn) (ps_wc f mn) mn) + 1)) ((if lt < 0 then lt else lt - nI (ps_tp (ps_wq f mn kn) (ps_wc f mn) mn) - 1)) ((ps_kG f k))) H ∧ va_D A (ps_mdW cI cZ w0 b0 0 mn mn co ln ((wr + nI (ps_tp (ps_wq f mn kn) (ps_wc f mn) mn) + 1)) ((if lt < 0 then lt else lt - nI (ps_tp (ps_wq f mn kn) (ps_wc f mn) mn) - 1)) ((ps_kG f k))) ∧ va_S A s.heap H locs) ?_ 0 ls _ _ ⟨by omega, lv_sub hl [2, 1, 0] rfl, hP, hD, hS⟩
          intro k ls H locs ih132 hI
          obtain ⟨hk, hl, hP, hD, hS⟩ := hI
          refine lv_iload_n hx hb dX3_commit_132 rfl (lv_at hl 2 rfl) ?_
          refine lv_aload_n hx hb dX3_commit_133 rfl (lv_at hl 0 rfl) ?_
          refine va_get (D := (dC, dI)) (ci := 3) (v := .int (nI mn)) (C := RX3) (T := TX3) (N := 17) hx hb hT inX3 hown hK hP 0 rfl rfl 1 (by decide) (hT _ tw_fl_X3_59) (fun _ h9 => h9) rfl dX3_commit_134 ?_
          refine ps_icmp_ge (tgt := 194) (a := k) (b := mn) hx hb dX3_commit_137 rfl (by omega) (by omega) (fun h137 => ?_) (fun h137 => ?_)
          · skip
            have ek : k = mn := by omega
            rw [ek] at hP hD
            refine lv_iload_n hx hb dX3_commit_194 rfl (lv_at hl 1 rfl) ?_
            refine lv_iconst (v := 1) hx hb dX3_commit_195 (by decide) ?_
            refine lv_iadd hx hb dX3_commit_196 ?_
            rw [nI_1]
            exact W.iret (v := nI ((ps_tp (ps_wq f mn kn) (ps_wc f mn) mn) + 1)) hx hb hr (fun t ht hW => ⟨⟨nI ((ps_tp (ps_wq f mn kn) (ps_wc f mn) mn) + 1), (), rfl, rfl, by rw [ht]; exact hP, va_K.moved hW.alike hK, hD⟩, hS.F ht⟩) hS.2.2 dX3_commit_197
          · skip
            refine lv_aload_n hx hb dX3_commit_140 rfl (lv_at hl 0 rfl) ?_
            refine va_get (D := (dC, dI)) (ci := 3) (v := .ref (b0 4)) (C := RX3) (T := TX3) (N := 17) hx hb hT inX3 hown hK hP 0 rfl rfl 7 (by decide) (hT _ tw_fl_X3_22) (fun _ h9 => h9) rfl dX3_commit_141 ?_
            refine lv_iload_n hx hb dX3_commit_144 rfl (lv_at hl 2 rfl) ?_
            refine lv_aload_n hx hb dX3_commit_145 rfl (lv_at hl 0 rfl) ?_
            refine va_get (D := (dC, dI)) (ci := 3) (v := .ref (b0 0)) (C := RX3) (T := TX3) (N := 17) hx hb hT inX3 hown hK hP 0 rfl rfl 2 (by decide) (hT _ tw_fl_X3_7) (fun _ h9 => h9) rfl dX3_commit_146 ?_
            refine lv_iload_n hx hb dX3_commit_149 rfl (lv_at hl 2 rfl) ?_
            refine ps_iald (k := k) (f := (ps_kG f k) 0) hx hb hK hP 1 0 rfl rfl (by omega) (by decide) dX3_commit_150 ?_
            refine ps_iast (k := k) hx hb hK hP hD hS 5 0 rfl rfl (by omega) (by decide) dX3_commit_151 (fun H locs hP hD hS => ?_)
            have hP : va_P (dC, dI) vwCl (ps_mdW cI cZ w0 b0 0 mn mn co ln ((wr + nI (ps_tp (ps_wq f mn kn) (ps_wc f mn) mn) + 1)) ((if lt < 0 then lt else lt - nI (ps_tp (ps_wq f mn kn) (ps_wc f mn) mn) - 1)) (va_up ((ps_kG f k)) 4 (upd ((ps_kG f k) 4) k (((ps_kG f k) 0) k)))) H := hP
            have hD : va_D A (ps_mdW cI cZ w0 b0 0 mn mn co ln ((wr + nI (ps_tp (ps_wq f mn kn) (ps_wc f mn) mn) + 1)) ((if lt < 0 then lt else lt - nI (ps_tp (ps_wq f mn kn) (ps_wc f mn) mn) - 1)) (va_up ((ps_kG f k)) 4 (upd ((ps_kG f k) 4) k (((ps_kG f k) 0) k)))) := hD
            refine lv_aload_n hx hb dX3_commit_152 rfl (lv_at hl 0 rfl) ?_
            refine va_get (D := (dC, dI)) (ci := 3) (v := .ref (b0 5)) (C := RX3) (T := TX3) (N := 17) hx hb hT inX3 hown hK hP 0 rfl rfl 8 (by decide) (hT _ tw_fl_X3_25) (fun _ h9 => h9) rfl dX3_commit_153 ?_
            refine lv_iload_n hx hb dX3_commit_156 rfl (lv_at hl 2 rfl) ?_
            refine lv_aload_n hx hb dX3_commit_157 rfl (lv_at hl 0 rfl) ?_
            refine va_get (D := (dC, dI)) (ci := 3) (v := .ref (b0 1)) (C := RX3) (T := TX3) (N := 17) hx hb hT inX3 hown hK hP 0 rfl rfl 3 (by decide) (hT _ tw_fl_X3_13) (fun _ h9 => h9) rfl dX3_commit_158 ?_
            refine lv_iload_n hx hb dX3_commit_161 rfl (lv_at hl 2 rfl) ?_
            refine ps_iald (k := k) (f := (ps_kG f k) 1) hx hb hK hP 2 0 rfl rfl (by omega) (by decide) dX3_commit_162 ?_
            refine ps_iast (k := k) hx hb hK hP hD hS 6 0 rfl rfl (by omega) (by decide) dX3_commit_163 (fun H locs hP hD hS => ?_)
            have hP : va_P (dC, dI) vwCl (ps_mdW cI cZ w0 b0 0 mn mn co ln ((wr + nI (ps_tp (ps_wq f mn kn) (ps_wc f mn) mn) + 1)) ((if lt < 0 then lt else lt - nI (ps_tp (ps_wq f mn kn) (ps_wc f mn) mn) - 1)) (va_up (va_up ((ps_kG f k)) 4 (upd ((ps_kG f k) 4) k (((ps_kG f k) 0) k))) 5 (upd ((ps_kG f k) 5) k (((ps_kG f k) 1) k)))) H := hP
            have hD : va_D A (ps_mdW cI cZ w0 b0 0 mn mn co ln ((wr + nI (ps_tp (ps_wq f mn kn) (ps_wc f mn) mn) + 1)) ((if lt < 0 then lt else lt - nI (ps_tp (ps_wq f mn kn) (ps_wc f mn) mn) - 1)) (va_up (va_up ((ps_kG f k)) 4 (upd ((ps_kG f k) 4) k (((ps_kG f k) 0) k))) 5 (upd ((ps_kG f k) 5) k (((ps_kG f k) 1) k)))) := hD
            refine lv_aload_n hx hb dX3_commit_164 rfl (lv_at hl 0 rfl) ?_
            refine va_get (D := (dC, dI)) (ci := 3) (v := .ref (b0 6)) (C := RX3) (T := TX3) (N := 17) hx hb hT inX3 hown hK hP 0 rfl rfl 9 (by decide) (hT _ tw_fl_X3_28) (fun _ h9 => h9) rfl dX3_commit_165 ?_
            refine lv_iload_n hx hb dX3_commit_168 rfl (lv_at hl 2 rfl) ?_
            refine lv_aload_n hx hb dX3_commit_169 rfl (lv_at hl 0 rfl) ?_
            refine va_get (D := (dC, dI)) (ci := 3) (v := .ref (b0 2)) (C := RX3) (T := TX3) (N := 17) hx hb hT inX3 hown hK hP 0 rfl rfl 4 (by decide) (hT _ tw_fl_X3_16) (fun _ h9 => h9) rfl dX3_commit_170 ?_
            refine lv_iload_n hx hb dX3_commit_173 rfl (lv_at hl 2 rfl) ?_
            refine ps_iald (k := k) (f := (ps_kG f k) 2) hx hb hK hP 3 0 rfl rfl (by omega) (by decide) dX3_commit_174 ?_
            refine ps_iast (k := k) hx hb hK hP hD hS 7 0 rfl rfl (by omega) (by decide) dX3_commit_175 (fun H locs hP hD hS => ?_)
            have hP : va_P (dC, dI) vwCl (ps_mdW cI cZ w0 b0 0 mn mn co ln ((wr + nI (ps_tp (ps_wq f mn kn) (ps_wc f mn) mn) + 1)) ((if lt < 0 then lt else lt - nI (ps_tp (ps_wq f mn kn) (ps_wc f mn) mn) - 1)) (va_up (va_up (va_up ((ps_kG f k)) 4 (upd ((ps_kG f k) 4) k (((ps_kG f k) 0) k))) 5 (upd ((ps_kG f k) 5) k (((ps_kG f k) 1) k))) 6 (upd ((ps_kG f k) 6) k (((ps_kG f k) 2) k)))) H := hP
            have hD : va_D A (ps_mdW cI cZ w0 b0 0 mn mn co ln ((wr + nI (ps_tp (ps_wq f mn kn) (ps_wc f mn) mn) + 1)) ((if lt < 0 then lt else lt - nI (ps_tp (ps_wq f mn kn) (ps_wc f mn) mn) - 1)) (va_up (va_up (va_up ((ps_kG f k)) 4 (upd ((ps_kG f k) 4) k (((ps_kG f k) 0) k))) 5 (upd ((ps_kG f k) 5) k (((ps_kG f k) 1) k))) 6 (upd ((ps_kG f k) 6) k (((ps_kG f k) 2) k)))) := hD
            refine lv_aload_n hx hb dX3_commit_176 rfl (lv_at hl 0 rfl) ?_
            refine va_get (D := (dC, dI)) (ci := 3) (v := .ref (b0 7)) (C := RX3) (T := TX3) (N := 17) hx hb hT inX3 hown hK hP 0 rfl rfl 10 (by decide) (hT _ tw_fl_X3_31) (fun _ h9 => h9) rfl dX3_commit_177 ?_
            refine lv_iload_n hx hb dX3_commit_180 rfl (lv_at hl 2 rfl) ?_
            refine lv_aload_n hx hb dX3_commit_181 rfl (lv_at hl 0 rfl) ?_
            refine va_get (D := (dC, dI)) (ci := 3) (v := .ref (b0 3)) (C := RX3) (T := TX3) (N := 17) hx hb hT inX3 hown hK hP 0 rfl rfl 5 (by decide) (hT _ tw_fl_X3_19) (fun _ h9 => h9) rfl dX3_commit_182 ?_
            refine lv_iload_n hx hb dX3_commit_185 rfl (lv_at hl 2 rfl) ?_
            refine ps_iald (k := k) (f := (ps_kG f k) 3) hx hb hK hP 4 0 rfl rfl (by omega) (by decide) dX3_commit_186 ?_
            refine ps_iast (k := k) hx hb hK hP hD hS 8 0 rfl rfl (by omega) (by decide) dX3_commit_187 (fun H locs hP hD hS => ?_)
            have hP : va_P (dC, dI) vwCl (ps_mdW cI cZ w0 b0 0 mn mn co ln ((wr + nI (ps_tp (ps_wq f mn kn) (ps_wc f mn) mn) + 1)) ((if lt < 0 then lt else lt - nI (ps_tp (ps_wq f mn kn) (ps_wc f mn) mn) - 1)) (va_up (va_up (va_up (va_up ((ps_kG f k)) 4 (upd ((ps_kG f k) 4) k (((ps_kG f k) 0) k))) 5 (upd ((ps_kG f k) 5) k (((ps_kG f k) 1) k))) 6 (upd ((ps_kG f k) 6) k (((ps_kG f k) 2) k))) 7 (upd ((ps_kG f k) 7) k (((ps_kG f k) 3) k)))) H := hP
            have hD : va_D A (ps_mdW cI cZ w0 b0 0 mn mn co ln ((wr + nI (ps_tp (ps_wq f mn kn) (ps_wc f mn) mn) + 1)) ((if lt < 0 then lt else lt - nI (ps_tp (ps_wq f mn kn) (ps_wc f mn) mn) - 1)) (va_up (va_up (va_up (va_up ((ps_kG f k)) 4 (upd ((ps_kG f k) 4) k (((ps_kG f k) 0) k))) 5 (upd ((ps_kG f k) 5) k (((ps_kG f k) 1) k))) 6 (upd ((ps_kG f k) 6) k (((ps_kG f k) 2) k))) 7 (upd ((ps_kG f k) 7) k (((ps_kG f k) 3) k)))) := hD
            have hP : va_P (dC, dI) vwCl (ps_mdW cI cZ w0 b0 0 mn mn co ln ((wr + nI (ps_tp (ps_wq f mn kn) (ps_wc f mn) mn) + 1)) ((if lt < 0 then lt else lt - nI (ps_tp (ps_wq f mn kn) (ps_wc f mn) mn) - 1)) ((ps_kG f (k + 1)))) H := by rw [← ps_kG_S f k]; exact hP
            have hD : va_D A (ps_mdW cI cZ w0 b0 0 mn mn co ln ((wr + nI (ps_tp (ps_wq f mn kn) (ps_wc f mn) mn) + 1)) ((if lt < 0 then lt else lt - nI (ps_tp (ps_wq f mn kn) (ps_wc f mn) mn) - 1)) ((ps_kG f (k + 1)))) := by rw [← ps_kG_S f k]; exact hD
            refine lv_iinc (k := 2) (v := nI (k + 1)) (lv' := [(2, .int (nI (k + 1))), (0, .ref w0), (1, .int (nI (ps_tp (ps_wq f mn kn) (ps_wc f mn) mn)))]) hx hb dX3_commit_188 hl rfl (ps_inc _) (by decide) rfl (fun ls hl => ?_)
            refine lv_goto (tgt := 132) hx hb dX3_commit_191 rfl ?_
            exact ih132 ((k + 1)) ls _ _ (by omega) ⟨by omega, lv_sub hl [1, 2, 0] rfl, hP, hD, hS⟩
      · skip
        refine lv_aload_n hx hb dX3_commit_45 rfl (lv_at hl 1 rfl) ?_
        refine va_get (D := (dC, dI)) (ci := 3) (v := .int lt) (C := RX3) (T := TX3) (N := 17) hx hb hT inX3 hown hK hP 0 rfl rfl 16 (by decide) (hT _ tw_fl_X3_41) (fun _ h9 => h9) rfl dX3_commit_46 ?_
        refine lv_iload_n hx hb dX3_commit_49 rfl (lv_at hl 0 rfl) ?_
        refine lv_iconst (v := 1) hx hb dX3_commit_50 (by decide) ?_
        refine lv_iadd hx hb dX3_commit_51 ?_
        rw [nI_1]
        refine lv_icmp_ge (tgt := 84) hx hb dX3_commit_52 rfl (fun h52 => ?_) (fun h52 => ?_)
        · skip
          refine lv_aload_n hx hb dX3_commit_84 rfl (lv_at hl 1 rfl) ?_
          refine lv_aload_n hx hb dX3_commit_85 rfl (lv_at hl 1 rfl) ?_
          refine va_get (D := (dC, dI)) (ci := 3) (v := .int wr) (C := RX3) (T := TX3) (N := 17) hx hb hT inX3 hown hK hP 0 rfl rfl 15 (by decide) (hT _ tw_fl_X3_134) (fun _ h9 => h9) rfl dX3_commit_86 ?_
          refine lv_iload_n hx hb dX3_commit_89 rfl (lv_at hl 0 rfl) ?_
          refine lv_iadd hx hb dX3_commit_90 ?_
          refine lv_iconst (v := 1) hx hb dX3_commit_91 (by decide) ?_
          refine lv_iadd hx hb dX3_commit_92 ?_
          refine va_put (D := (dC, dI)) (ci := 3) (v := .int ((wr + (nI (ps_tp (ps_wq f mn kn) (ps_wc f mn) mn))) + 1)) (ty := .int) (C := RX3) (T := TX3) (N := 17) hx hb hT inX3 tyX3 tyX3_ok nmX3 hown hK hP hD hS 0 rfl rfl 15 (by decide) (hT _ tw_fl_X3_134) (fun _ h9 => h9) rfl (by decide +kernel) rfl rfl (Nat.le_of_ble_eq_true rfl) dX3_commit_93 (fun H locs hP hD hS => ?_)
          have hP : va_P (dC, dI) vwCl (ps_mdW cI cZ w0 b0 0 mn kn co ln ((wr + (nI (ps_tp (ps_wq f mn kn) (ps_wc f mn) mn))) + 1) lt f) H := hP
          have hD : va_D A (ps_mdW cI cZ w0 b0 0 mn kn co ln ((wr + (nI (ps_tp (ps_wq f mn kn) (ps_wc f mn) mn))) + 1) lt f) := hD
          refine lv_aload_n hx hb dX3_commit_96 rfl (lv_at hl 1 rfl) ?_
          refine lv_aload_n hx hb dX3_commit_97 rfl (lv_at hl 1 rfl) ?_
          refine va_get (D := (dC, dI)) (ci := 3) (v := .int lt) (C := RX3) (T := TX3) (N := 17) hx hb hT inX3 hown hK hP 0 rfl rfl 16 (by decide) (hT _ tw_fl_X3_41) (fun _ h9 => h9) rfl dX3_commit_98 ?_
          refine lv_if_ge (tgt := 111) hx hb dX3_commit_101 rfl (fun h101 => ?_) (fun h101 => ?_)
          · skip
            refine lv_aload_n hx hb dX3_commit_111 rfl (lv_at hl 1 rfl) ?_
            refine va_get (D := (dC, dI)) (ci := 3) (v := .int lt) (C := RX3) (T := TX3) (N := 17) hx hb hT inX3 hown hK hP 0 rfl rfl 16 (by decide) (hT _ tw_fl_X3_41) (fun _ h9 => h9) rfl dX3_commit_112 ?_
            refine lv_iload_n hx hb dX3_commit_115 rfl (lv_at hl 0 rfl) ?_
            refine lv_isub hx hb dX3_commit_116 ?_
            refine lv_iconst (v := 1) hx hb dX3_commit_117 (by decide) ?_
            refine lv_isub hx hb dX3_commit_118 ?_
            refine lv_topi (fun y9 hy9 => ?_)
            obtain rfl : y9 = (if lt < 0 then lt else lt - nI (ps_tp (ps_wq f mn kn) (ps_wc f mn) mn) - 1) := hy9.trans (by rw [if_neg (Int32.not_lt.mpr h101)])
            refine va_put (D := (dC, dI)) (ci := 3) (v := .int ((if lt < 0 then lt else lt - nI (ps_tp (ps_wq f mn kn) (ps_wc f mn) mn) - 1))) (ty := .int) (C := RX3) (T := TX3) (N := 17) hx hb hT inX3 tyX3 tyX3_ok nmX3 hown hK hP hD hS 0 rfl rfl 16 (by decide) (hT _ tw_fl_X3_41) (fun _ h9 => h9) rfl (by decide +kernel) rfl rfl (Nat.le_of_ble_eq_true rfl) dX3_commit_119 (fun H locs hP hD hS => ?_)
            have hP : va_P (dC, dI) vwCl (ps_mdW cI cZ w0 b0 0 mn kn co ln ((wr + (nI (ps_tp (ps_wq f mn kn) (ps_wc f mn) mn))) + 1) ((if lt < 0 then lt else lt - nI (ps_tp (ps_wq f mn kn) (ps_wc f mn) mn) - 1)) f) H := hP
            have hD : va_D A (ps_mdW cI cZ w0 b0 0 mn kn co ln ((wr + (nI (ps_tp (ps_wq f mn kn) (ps_wc f mn) mn))) + 1) ((if lt < 0 then lt else lt - nI (ps_tp (ps_wq f mn kn) (ps_wc f mn) mn) - 1)) f) := hD
            refine lv_aload_n hx hb dX3_commit_122 rfl (lv_at hl 1 rfl) ?_
            refine lv_aload_n hx hb dX3_commit_123 rfl (lv_at hl 1 rfl) ?_
            refine va_get (D := (dC, dI)) (ci := 3) (v := .int (nI mn)) (C := RX3) (T := TX3) (N := 17) hx hb hT inX3 hown hK hP 0 rfl rfl 1 (by decide) (hT _ tw_fl_X3_59) (fun _ h9 => h9) rfl dX3_commit_124 ?_
            refine va_put (D := (dC, dI)) (ci := 3) (v := .int (nI mn)) (ty := .int) (C := RX3) (T := TX3) (N := 17) hx hb hT inX3 tyX3 tyX3_ok nmX3 hown hK hP hD hS 0 rfl rfl 6 (by decide) (hT _ tw_fl_X3_109) (fun _ h9 => h9) rfl (by decide +kernel) rfl rfl (Nat.le_of_ble_eq_true rfl) dX3_commit_127 (fun H locs hP hD hS => ?_)
            have hP : va_P (dC, dI) vwCl (ps_mdW cI cZ w0 b0 0 mn mn co ln ((wr + (nI (ps_tp (ps_wq f mn kn) (ps_wc f mn) mn))) + 1) ((if lt < 0 then lt else lt - nI (ps_tp (ps_wq f mn kn) (ps_wc f mn) mn) - 1)) f) H := hP
            have hD : va_D A (ps_mdW cI cZ w0 b0 0 mn mn co ln ((wr + (nI (ps_tp (ps_wq f mn kn) (ps_wc f mn) mn))) + 1) ((if lt < 0 then lt else lt - nI (ps_tp (ps_wq f mn kn) (ps_wc f mn) mn) - 1)) f) := hD
            refine lv_iconst (v := 0) hx hb dX3_commit_130 (by decide) ?_
            refine lv_istore_n (lv' := [(2, .int 0), (1, .int (nI (ps_tp (ps_wq f mn kn) (ps_wc f mn) mn))), (0, .ref w0)]) hx hb dX3_commit_131 rfl hl (by decide) rfl (fun ls hl => ?_)
            have hP : va_P (dC, dI) vwCl (ps_mdW cI cZ w0 b0 0 mn mn co ln ((wr + nI (ps_tp (ps_wq f mn kn) (ps_wc f mn) mn) + 1)) ((if lt < 0 then lt else lt - nI (ps_tp (ps_wq f mn kn) (ps_wc f mn) mn) - 1)) ((ps_kG f 0))) H := by rw [← ps_kG_0 f]; exact hP
            have hD : va_D A (ps_mdW cI cZ w0 b0 0 mn mn co ln ((wr + nI (ps_tp (ps_wq f mn kn) (ps_wc f mn) mn) + 1)) ((if lt < 0 then lt else lt - nI (ps_tp (ps_wq f mn kn) (ps_wc f mn) mn) - 1)) ((ps_kG f 0))) := by rw [← ps_kG_0 f]; exact hD
            refine ps_loopQ (α := Nat) (fun k => mn - k) (fun k ls H locs => (k ≤ mn) ∧ lv_has ls 3 [(0, .ref w0), (1, .int (nI (ps_tp (ps_wq f mn kn) (ps_wc f mn) mn))), (2, .int (nI k))] ∧ va_P (dC, dI) vwCl (ps_mdW cI cZ w0 b0 0 mn mn co ln ((wr + nI (ps_tp (ps_wq f mn kn) (ps_wc f mn) mn) + 1)) ((if lt < 0 then lt else lt - nI (ps_tp (ps_wq f mn kn) (ps_wc f mn) mn) - 1)) ((ps_kG f k))) H ∧ va_D A (ps_mdW cI cZ w0 b0 0 mn mn co ln ((wr + nI (ps_tp (ps_wq f mn kn) (ps_wc f mn) mn) + 1)) ((if lt < 0 then lt else lt - nI (ps_tp (ps_wq f mn kn) (ps_wc f mn) mn) - 1)) ((ps_kG f k))) ∧ va_S A s.heap H locs) ?_ 0 ls _ _ ⟨by omega, lv_sub hl [2, 1, 0] rfl, hP, hD, hS⟩
            intro k ls H locs ih132 hI
            obtain ⟨hk, hl, hP, hD, hS⟩ := hI
            refine lv_iload_n hx hb dX3_commit_132 rfl (lv_at hl 2 rfl) ?_
            refine lv_aload_n hx hb dX3_commit_133 rfl (lv_at hl 0 rfl) ?_
            refine va_get (D := (dC, dI)) (ci := 3) (v := .int (nI mn)) (C := RX3) (T := TX3) (N := 17) hx hb hT inX3 hown hK hP 0 rfl rfl 1 (by decide) (hT _ tw_fl_X3_59) (fun _ h9 => h9) rfl dX3_commit_134 ?_
            refine ps_icmp_ge (tgt := 194) (a := k) (b := mn) hx hb dX3_commit_137 rfl (by omega) (by omega) (fun h137 => ?_) (fun h137 => ?_)
            · skip
              have ek : k = mn := by omega
              rw [ek] at hP hD
              refine lv_iload_n hx hb dX3_commit_194 rfl (lv_at hl 1 rfl) ?_
              refine lv_iconst (v := 1) hx hb dX3_commit_195 (by decide) ?_
              refine lv_iadd hx hb dX3_commit_196 ?_
              rw [nI_1]
              exact W.iret (v := nI ((ps_tp (ps_wq f mn kn) (ps_wc f mn) mn) + 1)) hx hb hr (fun t ht hW => ⟨⟨nI ((ps_tp (ps_wq f mn kn) (ps_wc f mn) mn) + 1), (), rfl, rfl, by rw [ht]; exact hP, va_K.moved hW.alike hK, hD⟩, hS.F ht⟩) hS.2.2 dX3_commit_197
            · skip
              refine lv_aload_n hx hb dX3_commit_140 rfl (lv_at hl 0 rfl) ?_
              refine va_get (D := (dC, dI)) (ci := 3) (v := .ref (b0 4)) (C := RX3) (T := TX3) (N := 17) hx hb hT inX3 hown hK hP 0 rfl rfl 7 (by decide) (hT _ tw_fl_X3_22) (fun _ h9 => h9) rfl dX3_commit_141 ?_
              refine lv_iload_n hx hb dX3_commit_144 rfl (lv_at hl 2 rfl) ?_
              refine lv_aload_n hx hb dX3_commit_145 rfl (lv_at hl 0 rfl) ?_
              refine va_get (D := (dC, dI)) (ci := 3) (v := .ref (b0 0)) (C := RX3) (T := TX3) (N := 17) hx hb hT inX3 hown hK hP 0 rfl rfl 2 (by decide) (hT _ tw_fl_X3_7) (fun _ h9 => h9) rfl dX3_commit_146 ?_
              refine lv_iload_n hx hb dX3_commit_149 rfl (lv_at hl 2 rfl) ?_
              refine ps_iald (k := k) (f := (ps_kG f k) 0) hx hb hK hP 1 0 rfl rfl (by omega) (by decide) dX3_commit_150 ?_
              refine ps_iast (k := k) hx hb hK hP hD hS 5 0 rfl rfl (by omega) (by decide) dX3_commit_151 (fun H locs hP hD hS => ?_)
              have hP : va_P (dC, dI) vwCl (ps_mdW cI cZ w0 b0 0 mn mn co ln ((wr + nI (ps_tp (ps_wq f mn kn) (ps_wc f mn) mn) + 1)) ((if lt < 0 then lt else lt - nI (ps_tp (ps_wq f mn kn) (ps_wc f mn) mn) - 1)) (va_up ((ps_kG f k)) 4 (upd ((ps_kG f k) 4) k (((ps_kG f k) 0) k)))) H := hP
              have hD : va_D A (ps_mdW cI cZ w0 b0 0 mn mn co ln ((wr + nI (ps_tp (ps_wq f mn kn) (ps_wc f mn) mn) + 1)) ((if lt < 0 then lt else lt - nI (ps_tp (ps_wq f mn kn) (ps_wc f mn) mn) - 1)) (va_up ((ps_kG f k)) 4 (upd ((ps_kG f k) 4) k (((ps_kG f k) 0) k)))) := hD
              refine lv_aload_n hx hb dX3_commit_152 rfl (lv_at hl 0 rfl) ?_
              refine va_get (D := (dC, dI)) (ci := 3) (v := .ref (b0 5)) (C := RX3) (T := TX3) (N := 17) hx hb hT inX3 hown hK hP 0 rfl rfl 8 (by decide) (hT _ tw_fl_X3_25) (fun _ h9 => h9) rfl dX3_commit_153 ?_
              refine lv_iload_n hx hb dX3_commit_156 rfl (lv_at hl 2 rfl) ?_
              refine lv_aload_n hx hb dX3_commit_157 rfl (lv_at hl 0 rfl) ?_
              refine va_get (D := (dC, dI)) (ci := 3) (v := .ref (b0 1)) (C := RX3) (T := TX3) (N := 17) hx hb hT inX3 hown hK hP 0 rfl rfl 3 (by decide) (hT _ tw_fl_X3_13) (fun _ h9 => h9) rfl dX3_commit_158 ?_
              refine lv_iload_n hx hb dX3_commit_161 rfl (lv_at hl 2 rfl) ?_
              refine ps_iald (k := k) (f := (ps_kG f k) 1) hx hb hK hP 2 0 rfl rfl (by omega) (by decide) dX3_commit_162 ?_
              refine ps_iast (k := k) hx hb hK hP hD hS 6 0 rfl rfl (by omega) (by decide) dX3_commit_163 (fun H locs hP hD hS => ?_)
              have hP : va_P (dC, dI) vwCl (ps_mdW cI cZ w0 b0 0 mn mn co ln ((wr + nI (ps_tp (ps_wq f mn kn) (ps_wc f mn) mn) + 1)) ((if lt < 0 then lt else lt - nI (ps_tp (ps_wq f mn kn) (ps_wc f mn) mn) - 1)) (va_up (va_up ((ps_kG f k)) 4 (upd ((ps_kG f k) 4) k (((ps_kG f k) 0) k))) 5 (upd ((ps_kG f k) 5) k (((ps_kG f k) 1) k)))) H := hP
              have hD : va_D A (ps_mdW cI cZ w0 b0 0 mn mn co ln ((wr + nI (ps_tp (ps_wq f mn kn) (ps_wc f mn) mn) + 1)) ((if lt < 0 then lt else lt - nI (ps_tp (ps_wq f mn kn) (ps_wc f mn) mn) - 1)) (va_up (va_up ((ps_kG f k)) 4 (upd ((ps_kG f k) 4) k (((ps_kG f k) 0) k))) 5 (upd ((ps_kG f k) 5) k (((ps_kG f k) 1) k)))) := hD
              refine lv_aload_n hx hb dX3_commit_164 rfl (lv_at hl 0 rfl) ?_
              refine va_get (D := (dC, dI)) (ci := 3) (v := .ref (b0 6)) (C := RX3) (T := TX3) (N := 17) hx hb hT inX3 hown hK hP 0 rfl rfl 9 (by decide) (hT _ tw_fl_X3_28) (fun _ h9 => h9) rfl dX3_commit_165 ?_
              refine lv_iload_n hx hb dX3_commit_168 rfl (lv_at hl 2 rfl) ?_
              refine lv_aload_n hx hb dX3_commit_169 rfl (lv_at hl 0 rfl) ?_
              refine va_get (D := (dC, dI)) (ci := 3) (v := .ref (b0 2)) (C := RX3) (T := TX3) (N := 17) hx hb hT inX3 hown hK hP 0 rfl rfl 4 (by decide) (hT _ tw_fl_X3_16) (fun _ h9 => h9) rfl dX3_commit_170 ?_
              refine lv_iload_n hx hb dX3_commit_173 rfl (lv_at hl 2 rfl) ?_
              refine ps_iald (k := k) (f := (ps_kG f k) 2) hx hb hK hP 3 0 rfl rfl (by omega) (by decide) dX3_commit_174 ?_
              refine ps_iast (k := k) hx hb hK hP hD hS 7 0 rfl rfl (by omega) (by decide) dX3_commit_175 (fun H locs hP hD hS => ?_)
              have hP : va_P (dC, dI) vwCl (ps_mdW cI cZ w0 b0 0 mn mn co ln ((wr + nI (ps_tp (ps_wq f mn kn) (ps_wc f mn) mn) + 1)) ((if lt < 0 then lt else lt - nI (ps_tp (ps_wq f mn kn) (ps_wc f mn) mn) - 1)) (va_up (va_up (va_up ((ps_kG f k)) 4 (upd ((ps_kG f k) 4) k (((ps_kG f k) 0) k))) 5 (upd ((ps_kG f k) 5) k (((ps_kG f k) 1) k))) 6 (upd ((ps_kG f k) 6) k (((ps_kG f k) 2) k)))) H := hP
              have hD : va_D A (ps_mdW cI cZ w0 b0 0 mn mn co ln ((wr + nI (ps_tp (ps_wq f mn kn) (ps_wc f mn) mn) + 1)) ((if lt < 0 then lt else lt - nI (ps_tp (ps_wq f mn kn) (ps_wc f mn) mn) - 1)) (va_up (va_up (va_up ((ps_kG f k)) 4 (upd ((ps_kG f k) 4) k (((ps_kG f k) 0) k))) 5 (upd ((ps_kG f k) 5) k (((ps_kG f k) 1) k))) 6 (upd ((ps_kG f k) 6) k (((ps_kG f k) 2) k)))) := hD
              refine lv_aload_n hx hb dX3_commit_176 rfl (lv_at hl 0 rfl) ?_
              refine va_get (D := (dC, dI)) (ci := 3) (v := .ref (b0 7)) (C := RX3) (T := TX3) (N := 17) hx hb hT inX3 hown hK hP 0 rfl rfl 10 (by decide) (hT _ tw_fl_X3_31) (fun _ h9 => h9) rfl dX3_commit_177 ?_
              refine lv_iload_n hx hb dX3_commit_180 rfl (lv_at hl 2 rfl) ?_
              refine lv_aload_n hx hb dX3_commit_181 rfl (lv_at hl 0 rfl) ?_
              refine va_get (D := (dC, dI)) (ci := 3) (v := .ref (b0 3)) (C := RX3) (T := TX3) (N := 17) hx hb hT inX3 hown hK hP 0 rfl rfl 5 (by decide) (hT _ tw_fl_X3_19) (fun _ h9 => h9) rfl dX3_commit_182 ?_
              refine lv_iload_n hx hb dX3_commit_185 rfl (lv_at hl 2 rfl) ?_
              refine ps_iald (k := k) (f := (ps_kG f k) 3) hx hb hK hP 4 0 rfl rfl (by omega) (by decide) dX3_commit_186 ?_
              refine ps_iast (k := k) hx hb hK hP hD hS 8 0 rfl rfl (by omega) (by decide) dX3_commit_187 (fun H locs hP hD hS => ?_)
              have hP : va_P (dC, dI) vwCl (ps_mdW cI cZ w0 b0 0 mn mn co ln ((wr + nI (ps_tp (ps_wq f mn kn) (ps_wc f mn) mn) + 1)) ((if lt < 0 then lt else lt - nI (ps_tp (ps_wq f mn kn) (ps_wc f mn) mn) - 1)) (va_up (va_up (va_up (va_up ((ps_kG f k)) 4 (upd ((ps_kG f k) 4) k (((ps_kG f k) 0) k))) 5 (upd ((ps_kG f k) 5) k (((ps_kG f k) 1) k))) 6 (upd ((ps_kG f k) 6) k (((ps_kG f k) 2) k))) 7 (upd ((ps_kG f k) 7) k (((ps_kG f k) 3) k)))) H := hP
              have hD : va_D A (ps_mdW cI cZ w0 b0 0 mn mn co ln ((wr + nI (ps_tp (ps_wq f mn kn) (ps_wc f mn) mn) + 1)) ((if lt < 0 then lt else lt - nI (ps_tp (ps_wq f mn kn) (ps_wc f mn) mn) - 1)) (va_up (va_up (va_up (va_up ((ps_kG f k)) 4 (upd ((ps_kG f k) 4) k (((ps_kG f k) 0) k))) 5 (upd ((ps_kG f k) 5) k (((ps_kG f k) 1) k))) 6 (upd ((ps_kG f k) 6) k (((ps_kG f k) 2) k))) 7 (upd ((ps_kG f k) 7) k (((ps_kG f k) 3) k)))) := hD
              have hP : va_P (dC, dI) vwCl (ps_mdW cI cZ w0 b0 0 mn mn co ln ((wr + nI (ps_tp (ps_wq f mn kn) (ps_wc f mn) mn) + 1)) ((if lt < 0 then lt else lt - nI (ps_tp (ps_wq f mn kn) (ps_wc f mn) mn) - 1)) ((ps_kG f (k + 1)))) H := by rw [← ps_kG_S f k]; exact hP
              have hD : va_D A (ps_mdW cI cZ w0 b0 0 mn mn co ln ((wr + nI (ps_tp (ps_wq f mn kn) (ps_wc f mn) mn) + 1)) ((if lt < 0 then lt else lt - nI (ps_tp (ps_wq f mn kn) (ps_wc f mn) mn) - 1)) ((ps_kG f (k + 1)))) := by rw [← ps_kG_S f k]; exact hD
              refine lv_iinc (k := 2) (v := nI (k + 1)) (lv' := [(2, .int (nI (k + 1))), (0, .ref w0), (1, .int (nI (ps_tp (ps_wq f mn kn) (ps_wc f mn) mn)))]) hx hb dX3_commit_188 hl rfl (ps_inc _) (by decide) rfl (fun ls hl => ?_)
              refine lv_goto (tgt := 132) hx hb dX3_commit_191 rfl ?_
              exact ih132 ((k + 1)) ls _ _ (by omega) ⟨by omega, lv_sub hl [1, 2, 0] rfl, hP, hD, hS⟩
          · skip
            refine lv_aload_n hx hb dX3_commit_104 rfl (lv_at hl 1 rfl) ?_
            refine va_get (D := (dC, dI)) (ci := 3) (v := .int lt) (C := RX3) (T := TX3) (N := 17) hx hb hT inX3 hown hK hP 0 rfl rfl 16 (by decide) (hT _ tw_fl_X3_41) (fun _ h9 => h9) rfl dX3_commit_105 ?_
            refine lv_topi (fun y9 hy9 => ?_)
            obtain rfl : y9 = (if lt < 0 then lt else lt - nI (ps_tp (ps_wq f mn kn) (ps_wc f mn) mn) - 1) := hy9.trans (by rw [if_pos (Int32.not_le.mp h101)])
            refine lv_goto (tgt := 119) hx hb dX3_commit_108 rfl ?_
            refine va_put (D := (dC, dI)) (ci := 3) (v := .int ((if lt < 0 then lt else lt - nI (ps_tp (ps_wq f mn kn) (ps_wc f mn) mn) - 1))) (ty := .int) (C := RX3) (T := TX3) (N := 17) hx hb hT inX3 tyX3 tyX3_ok nmX3 hown hK hP hD hS 0 rfl rfl 16 (by decide) (hT _ tw_fl_X3_41) (fun _ h9 => h9) rfl (by decide +kernel) rfl rfl (Nat.le_of_ble_eq_true rfl) dX3_commit_119 (fun H locs hP hD hS => ?_)
            have hP : va_P (dC, dI) vwCl (ps_mdW cI cZ w0 b0 0 mn kn co ln ((wr + (nI (ps_tp (ps_wq f mn kn) (ps_wc f mn) mn))) + 1) ((if lt < 0 then lt else lt - nI (ps_tp (ps_wq f mn kn) (ps_wc f mn) mn) - 1)) f) H := hP
            have hD : va_D A (ps_mdW cI cZ w0 b0 0 mn kn co ln ((wr + (nI (ps_tp (ps_wq f mn kn) (ps_wc f mn) mn))) + 1) ((if lt < 0 then lt else lt - nI (ps_tp (ps_wq f mn kn) (ps_wc f mn) mn) - 1)) f) := hD
            refine lv_aload_n hx hb dX3_commit_122 rfl (lv_at hl 1 rfl) ?_
            refine lv_aload_n hx hb dX3_commit_123 rfl (lv_at hl 1 rfl) ?_
            refine va_get (D := (dC, dI)) (ci := 3) (v := .int (nI mn)) (C := RX3) (T := TX3) (N := 17) hx hb hT inX3 hown hK hP 0 rfl rfl 1 (by decide) (hT _ tw_fl_X3_59) (fun _ h9 => h9) rfl dX3_commit_124 ?_
            refine va_put (D := (dC, dI)) (ci := 3) (v := .int (nI mn)) (ty := .int) (C := RX3) (T := TX3) (N := 17) hx hb hT inX3 tyX3 tyX3_ok nmX3 hown hK hP hD hS 0 rfl rfl 6 (by decide) (hT _ tw_fl_X3_109) (fun _ h9 => h9) rfl (by decide +kernel) rfl rfl (Nat.le_of_ble_eq_true rfl) dX3_commit_127 (fun H locs hP hD hS => ?_)
            have hP : va_P (dC, dI) vwCl (ps_mdW cI cZ w0 b0 0 mn mn co ln ((wr + (nI (ps_tp (ps_wq f mn kn) (ps_wc f mn) mn))) + 1) ((if lt < 0 then lt else lt - nI (ps_tp (ps_wq f mn kn) (ps_wc f mn) mn) - 1)) f) H := hP
            have hD : va_D A (ps_mdW cI cZ w0 b0 0 mn mn co ln ((wr + (nI (ps_tp (ps_wq f mn kn) (ps_wc f mn) mn))) + 1) ((if lt < 0 then lt else lt - nI (ps_tp (ps_wq f mn kn) (ps_wc f mn) mn) - 1)) f) := hD
            refine lv_iconst (v := 0) hx hb dX3_commit_130 (by decide) ?_
            refine lv_istore_n (lv' := [(2, .int 0), (1, .int (nI (ps_tp (ps_wq f mn kn) (ps_wc f mn) mn))), (0, .ref w0)]) hx hb dX3_commit_131 rfl hl (by decide) rfl (fun ls hl => ?_)
            have hP : va_P (dC, dI) vwCl (ps_mdW cI cZ w0 b0 0 mn mn co ln ((wr + nI (ps_tp (ps_wq f mn kn) (ps_wc f mn) mn) + 1)) ((if lt < 0 then lt else lt - nI (ps_tp (ps_wq f mn kn) (ps_wc f mn) mn) - 1)) ((ps_kG f 0))) H := by rw [← ps_kG_0 f]; exact hP
            have hD : va_D A (ps_mdW cI cZ w0 b0 0 mn mn co ln ((wr + nI (ps_tp (ps_wq f mn kn) (ps_wc f mn) mn) + 1)) ((if lt < 0 then lt else lt - nI (ps_tp (ps_wq f mn kn) (ps_wc f mn) mn) - 1)) ((ps_kG f 0))) := by rw [← ps_kG_0 f]; exact hD
            refine ps_loopQ (α := Nat) (fun k => mn - k) (fun k ls H locs => (k ≤ mn) ∧ lv_has ls 3 [(0, .ref w0), (1, .int (nI (ps_tp (ps_wq f mn kn) (ps_wc f mn) mn))), (2, .int (nI k))] ∧ va_P (dC, dI) vwCl (ps_mdW cI cZ w0 b0 0 mn mn co ln ((wr + nI (ps_tp (ps_wq f mn kn) (ps_wc f mn) mn) + 1)) ((if lt < 0 then lt else lt - nI (ps_tp (ps_wq f mn kn) (ps_wc f mn) mn) - 1)) ((ps_kG f k))) H ∧ va_D A (ps_mdW cI cZ w0 b0 0 mn mn co ln ((wr + nI (ps_tp (ps_wq f mn kn) (ps_wc f mn) mn) + 1)) ((if lt < 0 then lt else lt - nI (ps_tp (ps_wq f mn kn) (ps_wc f mn) mn) - 1)) ((ps_kG f k))) ∧ va_S A s.heap H locs) ?_ 0 ls _ _ ⟨by omega, lv_sub hl [2, 1, 0] rfl, hP, hD, hS⟩
            intro k ls H locs ih132 hI
            obtain ⟨hk, hl, hP, hD, hS⟩ := hI
            refine lv_iload_n hx hb dX3_commit_132 rfl (lv_at hl 2 rfl) ?_
            refine lv_aload_n hx hb dX3_commit_133 rfl (lv_at hl 0 rfl) ?_
            refine va_get (D := (dC, dI)) (ci := 3) (v := .int (nI mn)) (C := RX3) (T := TX3) (N := 17) hx hb hT inX3 hown hK hP 0 rfl rfl 1 (by decide) (hT _ tw_fl_X3_59) (fun _ h9 => h9) rfl dX3_commit_134 ?_
            refine ps_icmp_ge (tgt := 194) (a := k) (b := mn) hx hb dX3_commit_137 rfl (by omega) (by omega) (fun h137 => ?_) (fun h137 => ?_)
            · skip
              have ek : k = mn := by omega
              rw [ek] at hP hD
              refine lv_iload_n hx hb dX3_commit_194 rfl (lv_at hl 1 rfl) ?_
              refine lv_iconst (v := 1) hx hb dX3_commit_195 (by decide) ?_
              refine lv_iadd hx hb dX3_commit_196 ?_
              rw [nI_1]
              exact W.iret (v := nI ((ps_tp (ps_wq f mn kn) (ps_wc f mn) mn) + 1)) hx hb hr (fun t ht hW => ⟨⟨nI ((ps_tp (ps_wq f mn kn) (ps_wc f mn) mn) + 1), (), rfl, rfl, by rw [ht]; exact hP, va_K.moved hW.alike hK, hD⟩, hS.F ht⟩) hS.2.2 dX3_commit_197
            · skip
              refine lv_aload_n hx hb dX3_commit_140 rfl (lv_at hl 0 rfl) ?_
              refine va_get (D := (dC, dI)) (ci := 3) (v := .ref (b0 4)) (C := RX3) (T := TX3) (N := 17) hx hb hT inX3 hown hK hP 0 rfl rfl 7 (by decide) (hT _ tw_fl_X3_22) (fun _ h9 => h9) rfl dX3_commit_141 ?_
              refine lv_iload_n hx hb dX3_commit_144 rfl (lv_at hl 2 rfl) ?_
              refine lv_aload_n hx hb dX3_commit_145 rfl (lv_at hl 0 rfl) ?_
              refine va_get (D := (dC, dI)) (ci := 3) (v := .ref (b0 0)) (C := RX3) (T := TX3) (N := 17) hx hb hT inX3 hown hK hP 0 rfl rfl 2 (by decide) (hT _ tw_fl_X3_7) (fun _ h9 => h9) rfl dX3_commit_146 ?_
              refine lv_iload_n hx hb dX3_commit_149 rfl (lv_at hl 2 rfl) ?_
              refine ps_iald (k := k) (f := (ps_kG f k) 0) hx hb hK hP 1 0 rfl rfl (by omega) (by decide) dX3_commit_150 ?_
              refine ps_iast (k := k) hx hb hK hP hD hS 5 0 rfl rfl (by omega) (by decide) dX3_commit_151 (fun H locs hP hD hS => ?_)
              have hP : va_P (dC, dI) vwCl (ps_mdW cI cZ w0 b0 0 mn mn co ln ((wr + nI (ps_tp (ps_wq f mn kn) (ps_wc f mn) mn) + 1)) ((if lt < 0 then lt else lt - nI (ps_tp (ps_wq f mn kn) (ps_wc f mn) mn) - 1)) (va_up ((ps_kG f k)) 4 (upd ((ps_kG f k) 4) k (((ps_kG f k) 0) k)))) H := hP
              have hD : va_D A (ps_mdW cI cZ w0 b0 0 mn mn co ln ((wr + nI (ps_tp (ps_wq f mn kn) (ps_wc f mn) mn) + 1)) ((if lt < 0 then lt else lt - nI (ps_tp (ps_wq f mn kn) (ps_wc f mn) mn) - 1)) (va_up ((ps_kG f k)) 4 (upd ((ps_kG f k) 4) k (((ps_kG f k) 0) k)))) := hD
              refine lv_aload_n hx hb dX3_commit_152 rfl (lv_at hl 0 rfl) ?_
              refine va_get (D := (dC, dI)) (ci := 3) (v := .ref (b0 5)) (C := RX3) (T := TX3) (N := 17) hx hb hT inX3 hown hK hP 0 rfl rfl 8 (by decide) (hT _ tw_fl_X3_25) (fun _ h9 => h9) rfl dX3_commit_153 ?_
              refine lv_iload_n hx hb dX3_commit_156 rfl (lv_at hl 2 rfl) ?_
              refine lv_aload_n hx hb dX3_commit_157 rfl (lv_at hl 0 rfl) ?_
              refine va_get (D := (dC, dI)) (ci := 3) (v := .ref (b0 1)) (C := RX3) (T := TX3) (N := 17) hx hb hT inX3 hown hK hP 0 rfl rfl 3 (by decide) (hT _ tw_fl_X3_13) (fun _ h9 => h9) rfl dX3_commit_158 ?_
              refine lv_iload_n hx hb dX3_commit_161 rfl (lv_at hl 2 rfl) ?_
              refine ps_iald (k := k) (f := (ps_kG f k) 1) hx hb hK hP 2 0 rfl rfl (by omega) (by decide) dX3_commit_162 ?_
              refine ps_iast (k := k) hx hb hK hP hD hS 6 0 rfl rfl (by omega) (by decide) dX3_commit_163 (fun H locs hP hD hS => ?_)
              have hP : va_P (dC, dI) vwCl (ps_mdW cI cZ w0 b0 0 mn mn co ln ((wr + nI (ps_tp (ps_wq f mn kn) (ps_wc f mn) mn) + 1)) ((if lt < 0 then lt else lt - nI (ps_tp (ps_wq f mn kn) (ps_wc f mn) mn) - 1)) (va_up (va_up ((ps_kG f k)) 4 (upd ((ps_kG f k) 4) k (((ps_kG f k) 0) k))) 5 (upd ((ps_kG f k) 5) k (((ps_kG f k) 1) k)))) H := hP
              have hD : va_D A (ps_mdW cI cZ w0 b0 0 mn mn co ln ((wr + nI (ps_tp (ps_wq f mn kn) (ps_wc f mn) mn) + 1)) ((if lt < 0 then lt else lt - nI (ps_tp (ps_wq f mn kn) (ps_wc f mn) mn) - 1)) (va_up (va_up ((ps_kG f k)) 4 (upd ((ps_kG f k) 4) k (((ps_kG f k) 0) k))) 5 (upd ((ps_kG f k) 5) k (((ps_kG f k) 1) k)))) := hD
              refine lv_aload_n hx hb dX3_commit_164 rfl (lv_at hl 0 rfl) ?_
              refine va_get (D := (dC, dI)) (ci := 3) (v := .ref (b0 6)) (C := RX3) (T := TX3) (N := 17) hx hb hT inX3 hown hK hP 0 rfl rfl 9 (by decide) (hT _ tw_fl_X3_28) (fun _ h9 => h9) rfl dX3_commit_165 ?_
              refine lv_iload_n hx hb dX3_commit_168 rfl (lv_at hl 2 rfl) ?_
              refine lv_aload_n hx hb dX3_commit_169 rfl (lv_at hl 0 rfl) ?_
              refine va_get (D := (dC, dI)) (ci := 3) (v := .ref (b0 2)) (C := RX3) (T := TX3) (N := 17) hx hb hT inX3 hown hK hP 0 rfl rfl 4 (by decide) (hT _ tw_fl_X3_16) (fun _ h9 => h9) rfl dX3_commit_170 ?_
              refine lv_iload_n hx hb dX3_commit_173 rfl (lv_at hl 2 rfl) ?_
              refine ps_iald (k := k) (f := (ps_kG f k) 2) hx hb hK hP 3 0 rfl rfl (by omega) (by decide) dX3_commit_174 ?_
              refine ps_iast (k := k) hx hb hK hP hD hS 7 0 rfl rfl (by omega) (by decide) dX3_commit_175 (fun H locs hP hD hS => ?_)
              have hP : va_P (dC, dI) vwCl (ps_mdW cI cZ w0 b0 0 mn mn co ln ((wr + nI (ps_tp (ps_wq f mn kn) (ps_wc f mn) mn) + 1)) ((if lt < 0 then lt else lt - nI (ps_tp (ps_wq f mn kn) (ps_wc f mn) mn) - 1)) (va_up (va_up (va_up ((ps_kG f k)) 4 (upd ((ps_kG f k) 4) k (((ps_kG f k) 0) k))) 5 (upd ((ps_kG f k) 5) k (((ps_kG f k) 1) k))) 6 (upd ((ps_kG f k) 6) k (((ps_kG f k) 2) k)))) H := hP
              have hD : va_D A (ps_mdW cI cZ w0 b0 0 mn mn co ln ((wr + nI (ps_tp (ps_wq f mn kn) (ps_wc f mn) mn) + 1)) ((if lt < 0 then lt else lt - nI (ps_tp (ps_wq f mn kn) (ps_wc f mn) mn) - 1)) (va_up (va_up (va_up ((ps_kG f k)) 4 (upd ((ps_kG f k) 4) k (((ps_kG f k) 0) k))) 5 (upd ((ps_kG f k) 5) k (((ps_kG f k) 1) k))) 6 (upd ((ps_kG f k) 6) k (((ps_kG f k) 2) k)))) := hD
              refine lv_aload_n hx hb dX3_commit_176 rfl (lv_at hl 0 rfl) ?_
              refine va_get (D := (dC, dI)) (ci := 3) (v := .ref (b0 7)) (C := RX3) (T := TX3) (N := 17) hx hb hT inX3 hown hK hP 0 rfl rfl 10 (by decide) (hT _ tw_fl_X3_31) (fun _ h9 => h9) rfl dX3_commit_177 ?_
              refine lv_iload_n hx hb dX3_commit_180 rfl (lv_at hl 2 rfl) ?_
              refine lv_aload_n hx hb dX3_commit_181 rfl (lv_at hl 0 rfl) ?_
              refine va_get (D := (dC, dI)) (ci := 3) (v := .ref (b0 3)) (C := RX3) (T := TX3) (N := 17) hx hb hT inX3 hown hK hP 0 rfl rfl 5 (by decide) (hT _ tw_fl_X3_19) (fun _ h9 => h9) rfl dX3_commit_182 ?_
              refine lv_iload_n hx hb dX3_commit_185 rfl (lv_at hl 2 rfl) ?_
              refine ps_iald (k := k) (f := (ps_kG f k) 3) hx hb hK hP 4 0 rfl rfl (by omega) (by decide) dX3_commit_186 ?_
              refine ps_iast (k := k) hx hb hK hP hD hS 8 0 rfl rfl (by omega) (by decide) dX3_commit_187 (fun H locs hP hD hS => ?_)
              have hP : va_P (dC, dI) vwCl (ps_mdW cI cZ w0 b0 0 mn mn co ln ((wr + nI (ps_tp (ps_wq f mn kn) (ps_wc f mn) mn) + 1)) ((if lt < 0 then lt else lt - nI (ps_tp (ps_wq f mn kn) (ps_wc f mn) mn) - 1)) (va_up (va_up (va_up (va_up ((ps_kG f k)) 4 (upd ((ps_kG f k) 4) k (((ps_kG f k) 0) k))) 5 (upd ((ps_kG f k) 5) k (((ps_kG f k) 1) k))) 6 (upd ((ps_kG f k) 6) k (((ps_kG f k) 2) k))) 7 (upd ((ps_kG f k) 7) k (((ps_kG f k) 3) k)))) H := hP
              have hD : va_D A (ps_mdW cI cZ w0 b0 0 mn mn co ln ((wr + nI (ps_tp (ps_wq f mn kn) (ps_wc f mn) mn) + 1)) ((if lt < 0 then lt else lt - nI (ps_tp (ps_wq f mn kn) (ps_wc f mn) mn) - 1)) (va_up (va_up (va_up (va_up ((ps_kG f k)) 4 (upd ((ps_kG f k) 4) k (((ps_kG f k) 0) k))) 5 (upd ((ps_kG f k) 5) k (((ps_kG f k) 1) k))) 6 (upd ((ps_kG f k) 6) k (((ps_kG f k) 2) k))) 7 (upd ((ps_kG f k) 7) k (((ps_kG f k) 3) k)))) := hD
              have hP : va_P (dC, dI) vwCl (ps_mdW cI cZ w0 b0 0 mn mn co ln ((wr + nI (ps_tp (ps_wq f mn kn) (ps_wc f mn) mn) + 1)) ((if lt < 0 then lt else lt - nI (ps_tp (ps_wq f mn kn) (ps_wc f mn) mn) - 1)) ((ps_kG f (k + 1)))) H := by rw [← ps_kG_S f k]; exact hP
              have hD : va_D A (ps_mdW cI cZ w0 b0 0 mn mn co ln ((wr + nI (ps_tp (ps_wq f mn kn) (ps_wc f mn) mn) + 1)) ((if lt < 0 then lt else lt - nI (ps_tp (ps_wq f mn kn) (ps_wc f mn) mn) - 1)) ((ps_kG f (k + 1)))) := by rw [← ps_kG_S f k]; exact hD
              refine lv_iinc (k := 2) (v := nI (k + 1)) (lv' := [(2, .int (nI (k + 1))), (0, .ref w0), (1, .int (nI (ps_tp (ps_wq f mn kn) (ps_wc f mn) mn)))]) hx hb dX3_commit_188 hl rfl (ps_inc _) (by decide) rfl (fun ls hl => ?_)
              refine lv_goto (tgt := 132) hx hb dX3_commit_191 rfl ?_
              exact ih132 ((k + 1)) ls _ _ (by omega) ⟨by omega, lv_sub hl [1, 2, 0] rfl, hP, hD, hS⟩
        · skip
          exact absurd (hpl.resolve_left h42) h52
    · skip
      exact absurd hnp h29
  · skip
    exact Bool.noConfusion (hcl.symm.trans h11)
set_option maxHeartbeats 4000000 in
set_option maxRecDepth 100000 in
theorem mX3_state (l : Launch) (dC : Nat → ClassId) (dI : Nat → Nat → Nat) (cI cZ : ClassId) (w0 : Nat) (b0 : Nat → Nat) (th : Int32) (mn kn : Nat) (co : Int32) (ln : Nat) (wr lt : Int32) (f : ps_G) (hmn : mn ≤ 48) (hkn : kn ≤ 48) (w9 : Int32) (sz : Nat) : Met l yX3_state (.code yX3_state cX3_state 4 (some .int) :: ps_T) ({ frames := 4, cells := 0, slots := 0, locals := 91 }) (ps_qc (dC, dI) (ps_ty cI cZ) (ps_mdW cI cZ w0 b0 th mn kn co ln wr lt f) sz [.ref w0, .int w9]) (va_Qi (fun (r : Int32) (_ : Unit) => r = ps_sv2 f mn kn ln wr w9) (ps_qB (dC, dI) (ps_ty cI cZ) (va_A (ps_mdW cI cZ w0 b0 th mn kn co ln wr lt f) sz) (ps_mdW cI cZ w0 b0 0 mn kn co ln wr lt f)) (va_A (ps_mdW cI cZ w0 b0 th mn kn co ln wr lt f) sz)) 0 0 (va_A (ps_mdW cI cZ w0 b0 th mn kn co ln wr lt f) sz) := by
  refine Met.ofW (cc := cX3_state) (maxL := 4) (ret := (some .int)) (by decide) rfl ?_
  intro p e s m args below meth c s₁ B hml hv
  obtain ⟨rfl, hsz, hN, hP, hK, hD0⟩ := hv
  have hx := B.exec
  have hb := B.bytes
  have hr := B.returns
  have hlocks := B.notSynchronized
  have hT : ∀ w ∈ ps_T, w.before ([.ref w0, .int w9] : List Value).toArray s = true := fun w h => atoms_spec (ws := (.code yX3_state cX3_state 4 (some .int) :: ps_T)) B.pre w (List.mem_cons_of_mem _ h)
  have hown : s.vm.findClass RX3 = some m.cls := findClass_of_methodNamed B.named
  subst hsz
  have hD := hD0.self (sz := s.heap.size)
  generalize hAe : va_A (ps_mdW cI cZ w0 b0 th mn kn co ln wr lt f) s.heap.size = A at hD ⊢
  have hA : ∀ q : Nat, s.heap.size ≤ q → A q := fun q h => by rw [← hAe]; exact Or.inr h
  have hS : va_S A s.heap s.heap [] := va_S.rf
  have hl := lv_entry ([.ref w0, .int w9]) (n := 4) (Nat.le_of_ble_eq_true rfl)
  rw [lg_entry_eq]
  generalize (lg_sl ([.ref w0, .int w9]) ++ List.replicate (4 - (lg_sl ([.ref w0, .int w9])).length) Slot.unset).toArray = ls at hl ⊢
  have hl : lv_has ls 4 [(0, .ref w0), (1, .int w9)] := hl
  refine lv_aload_n hx hb dX3_state_0 rfl (lv_at hl 0 rfl) ?_
  refine lv_iconst (v := 0) hx hb dX3_state_1 (by decide) ?_
  refine va_put (D := (dC, dI)) (ci := 3) (v := .int 0) (ty := .int) (C := RX3) (T := TX3) (N := 17) hx hb hT inX3 tyX3 tyX3_ok nmX3 hown hK hP hD hS 0 rfl rfl 0 (by decide) (hT _ tw_fl_X3_45) (fun _ h9 => h9) rfl (by decide +kernel) rfl rfl (Nat.le_of_ble_eq_true rfl) dX3_state_2 (fun H locs hP hD hS => ?_)
  have hP : va_P (dC, dI) vwCl (ps_mdW cI cZ w0 b0 0 mn kn co ln wr lt f) H := hP
  have hD : va_D A (ps_mdW cI cZ w0 b0 0 mn kn co ln wr lt f) := hD
  refine lv_iconst (v := 0) hx hb dX3_state_5 (by decide) ?_
  refine lv_istore_n (lv' := [(2, .int 0), (0, .ref w0), (1, .int w9)]) hx hb dX3_state_6 rfl hl (by decide) rfl (fun ls hl => ?_)
  refine lv_iconst (v := 0) hx hb dX3_state_7 (by decide) ?_
  refine lv_istore_n (lv' := [(3, .int 0), (2, .int 0), (0, .ref w0), (1, .int w9)]) hx hb dX3_state_8 rfl hl (by decide) rfl (fun ls hl => ?_)
  have hl : lv_has ls 4 [(3, .int (nI 0)), (2, .int (nI (ps_cn (fun k => ps_all (ps_nf (f 3) (f 1) k) k) 0))), (0, .ref w0), (1, .int w9)] := hl
  refine ps_loopS (α := Nat) (fun k => mn - k) (fun k ls => (k ≤ mn) ∧ lv_has ls 4 [(0, .ref w0), (1, .int w9), (2, .int (nI (ps_cn (fun k => ps_all (ps_nf (f 3) (f 1) k) k) k))), (3, .int (nI k))]) ?_ 0 ls ⟨by omega, lv_sub hl [2, 3, 1, 0] rfl⟩
  intro k ls ih9 hI
  obtain ⟨hk, hl⟩ := hI
  refine lv_iload_n hx hb dX3_state_9 rfl (lv_at hl 3 rfl) ?_
  refine lv_aload_n hx hb dX3_state_10 rfl (lv_at hl 0 rfl) ?_
  refine va_get (D := (dC, dI)) (ci := 3) (v := .int (nI mn)) (C := RX3) (T := TX3) (N := 17) hx hb hT inX3 hown hK hP 0 rfl rfl 1 (by decide) (hT _ tw_fl_X3_59) (fun _ h9 => h9) rfl dX3_state_11 ?_
  refine ps_icmp_ge (tgt := 39) (a := k) (b := mn) hx hb dX3_state_14 rfl (by omega) (by omega) (fun h14 => ?_) (fun h14 => ?_)
  · skip
    have ej : k = mn := by omega
    · skip
      rw [ej] at hl
      refine lv_iload_n hx hb dX3_state_39 rfl (lv_at hl 1 rfl) ?_
      refine lv_if_ne (tgt := 50) hx hb dX3_state_40 rfl (fun h40 => ?_) (fun h40 => ?_)
      · skip
        refine lv_iload_n hx hb dX3_state_50 rfl (lv_at hl 1 rfl) ?_
        refine lv_iconst (v := 1) hx hb dX3_state_51 (by decide) ?_
        refine lv_icmp_ne (tgt := 59) hx hb dX3_state_52 rfl (fun h52 => ?_) (fun h52 => ?_)
        · skip
          refine lv_iload_n hx hb dX3_state_59 rfl (lv_at hl 1 rfl) ?_
          refine lv_iconst (v := 2) hx hb dX3_state_60 (by decide) ?_
          refine lv_icmp_ne (tgt := 74) hx hb dX3_state_61 rfl (fun h61 => ?_) (fun h61 => ?_)
          · skip
            refine lv_iload_n hx hb dX3_state_74 rfl (lv_at hl 1 rfl) ?_
            refine lv_iconst (v := 3) hx hb dX3_state_75 (by decide) ?_
            refine lv_icmp_ne (tgt := 86) hx hb dX3_state_76 rfl (fun h76 => ?_) (fun h76 => ?_)
            · skip
              refine lv_iload_n hx hb dX3_state_86 rfl (lv_at hl 1 rfl) ?_
              refine lv_iconst (v := 4) hx hb dX3_state_87 (by decide) ?_
              refine lv_icmp_ne (tgt := 98) hx hb dX3_state_88 rfl (fun h88 => ?_) (fun h88 => ?_)
              · skip
                refine lv_iload_n hx hb dX3_state_98 rfl (lv_at hl 1 rfl) ?_
                refine lv_iconst (v := 5) hx hb dX3_state_99 (by decide) ?_
                refine lv_icmp_ne (tgt := 110) hx hb dX3_state_100 rfl (fun h100 => ?_) (fun h100 => ?_)
                · skip
                  refine lv_iconst (v := (-1)) hx hb dX3_state_110 (by decide) ?_
                  exact W.iret (v := (-1)) hx hb hr (fun t ht hW => ⟨⟨(-1), (), rfl, by simp [ps_sv2, *], by rw [ht]; exact hP, va_K.moved hW.alike hK, hD⟩, hS.F ht⟩) hS.2.2 dX3_state_111
                · skip
                  refine lv_aload_n hx hb dX3_state_103 rfl (lv_at hl 0 rfl) ?_
                  refine va_get (D := (dC, dI)) (ci := 3) (v := .int (nI kn)) (C := RX3) (T := TX3) (N := 17) hx hb hT inX3 hown hK hP 0 rfl rfl 6 (by decide) (hT _ tw_fl_X3_109) (fun _ h9 => h9) rfl dX3_state_104 ?_
                  refine lv_goto (tgt := 111) hx hb dX3_state_107 rfl ?_
                  exact W.iret (v := nI kn) hx hb hr (fun t ht hW => ⟨⟨nI kn, (), rfl, by simp [ps_sv2, *], by rw [ht]; exact hP, va_K.moved hW.alike hK, hD⟩, hS.F ht⟩) hS.2.2 dX3_state_111
              · skip
                refine lv_aload_n hx hb dX3_state_91 rfl (lv_at hl 0 rfl) ?_
                refine va_get (D := (dC, dI)) (ci := 3) (v := .int (nI ln)) (C := RX3) (T := TX3) (N := 17) hx hb hT inX3 hown hK hP 0 rfl rfl 13 (by decide) (hT _ tw_fl_X3_99) (fun _ h9 => h9) rfl dX3_state_92 ?_
                refine lv_goto (tgt := 111) hx hb dX3_state_95 rfl ?_
                exact W.iret (v := nI ln) hx hb hr (fun t ht hW => ⟨⟨nI ln, (), rfl, by simp [ps_sv2, *], by rw [ht]; exact hP, va_K.moved hW.alike hK, hD⟩, hS.F ht⟩) hS.2.2 dX3_state_111
            · skip
              refine lv_aload_n hx hb dX3_state_79 rfl (lv_at hl 0 rfl) ?_
              refine va_get (D := (dC, dI)) (ci := 3) (v := .int wr) (C := RX3) (T := TX3) (N := 17) hx hb hT inX3 hown hK hP 0 rfl rfl 15 (by decide) (hT _ tw_fl_X3_134) (fun _ h9 => h9) rfl dX3_state_80 ?_
              refine lv_goto (tgt := 111) hx hb dX3_state_83 rfl ?_
              exact W.iret (v := wr) hx hb hr (fun t ht hW => ⟨⟨wr, (), rfl, by simp [ps_sv2, *], by rw [ht]; exact hP, va_K.moved hW.alike hK, hD⟩, hS.F ht⟩) hS.2.2 dX3_state_111
          · skip
            refine lv_bipush (v := 64) hx hb dX3_state_64 (by decide) ?_
            refine lv_aload_n hx hb dX3_state_66 rfl (lv_at hl 0 rfl) ?_
            refine vp_callSi (va_Run.run (va_runV (C := RX3) (As := []) (rest := [.int 64]) ⟨hx, hb, hml, hown, hT⟩ (mX3_takenPages l dC dI cI cZ w0 b0 0 mn kn co ln wr lt f (hkn)) (cwV 0 hT (ps_gV tw_ml_X3_131 tw_im_X3_takenPages tw_se_X3_takenPages tw_in_X3 tw_co_X3_takenPages) rfl rfl rfl ⟨rfl, by decide, by decide, by decide +kernel⟩ ⟨Nat.le_of_ble_eq_true rfl, Nat.le_of_ble_eq_true rfl⟩) (ps_preV (ci := 3) (q0 := 0) hN hP hK rfl rfl) rfl rfl hl.1 rfl (lv_room (Nat.le_of_ble_eq_true rfl)) dX3_state_67 ⟨Nat.le_of_ble_eq_true rfl, Nat.le_of_ble_eq_true rfl⟩)) (fun r hr => ?_)
            obtain rfl : r = nI (ps_tp (fun k => ps_all (ps_nf (f 7) (f 5) k) k) (fun k => ps_cn (ps_tq (f 7) (f 5) k) kn) kn) := hr
            refine lv_isub hx hb dX3_state_70 ?_
            refine lv_goto (tgt := 111) hx hb dX3_state_71 rfl ?_
            exact W.iret (v := 64 - (nI (ps_tp (fun k => ps_all (ps_nf (f 7) (f 5) k) k) (fun k => ps_cn (ps_tq (f 7) (f 5) k) kn) kn))) hx hb hr (fun t ht hW => ⟨⟨64 - (nI (ps_tp (fun k => ps_all (ps_nf (f 7) (f 5) k) k) (fun k => ps_cn (ps_tq (f 7) (f 5) k) kn) kn)), (), rfl, by simp [ps_sv2, *], by rw [ht]; exact hP, va_K.moved hW.alike hK, hD⟩, hS.F ht⟩) hS.2.2 dX3_state_111
        · skip
          refine lv_iload_n hx hb dX3_state_55 rfl (lv_at hl 2 rfl) ?_
          refine lv_goto (tgt := 111) hx hb dX3_state_56 rfl ?_
          exact W.iret (v := nI (ps_cn (fun k => ps_all (ps_nf (f 3) (f 1) k) k) mn)) hx hb hr (fun t ht hW => ⟨⟨nI (ps_cn (fun k => ps_all (ps_nf (f 3) (f 1) k) k) mn), (), rfl, by simp [ps_sv2, *], by rw [ht]; exact hP, va_K.moved hW.alike hK, hD⟩, hS.F ht⟩) hS.2.2 dX3_state_111
      · skip
        refine lv_aload_n hx hb dX3_state_43 rfl (lv_at hl 0 rfl) ?_
        refine va_get (D := (dC, dI)) (ci := 3) (v := .int (nI mn)) (C := RX3) (T := TX3) (N := 17) hx hb hT inX3 hown hK hP 0 rfl rfl 1 (by decide) (hT _ tw_fl_X3_59) (fun _ h9 => h9) rfl dX3_state_44 ?_
        refine lv_goto (tgt := 111) hx hb dX3_state_47 rfl ?_
        exact W.iret (v := nI mn) hx hb hr (fun t ht hW => ⟨⟨nI mn, (), rfl, by simp [ps_sv2, *], by rw [ht]; exact hP, va_K.moved hW.alike hK, hD⟩, hS.F ht⟩) hS.2.2 dX3_state_111
  · skip
    refine lv_aload_n hx hb dX3_state_17 rfl (lv_at hl 0 rfl) ?_
    refine lv_iload_n hx hb dX3_state_18 rfl (lv_at hl 3 rfl) ?_
    refine vp_callSi (va_Run.run (va_runV (C := RX3) (As := [.int (nI k)]) (rest := []) ⟨hx, hb, hml, hown, hT⟩ (mX3_isFirst l dC dI cI cZ w0 b0 0 mn kn co ln wr lt f k (by omega)) (cwV 1 hT (ps_gV tw_ml_X3_122 tw_im_X3_isFirst tw_se_X3_isFirst tw_in_X3 tw_co_X3_isFirst) rfl rfl rfl ⟨rfl, by decide, by decide, by decide +kernel⟩ ⟨Nat.le_of_ble_eq_true rfl, Nat.le_of_ble_eq_true rfl⟩) (ps_preV (ci := 3) (q0 := 0) hN hP hK rfl rfl) rfl rfl hl.1 rfl (lv_room (Nat.le_of_ble_eq_true rfl)) dX3_state_19 ⟨Nat.le_of_ble_eq_true rfl, Nat.le_of_ble_eq_true rfl⟩)) (fun r hr => ?_)
    obtain rfl : r = ps_bi (ps_all (ps_nf (f 3) (f 1) k) k) := hr
    refine ps_ifb_eq (tgt := 31) hx hb dX3_state_22 rfl (fun h22 => ?_) (fun h22 => ?_)
    · skip
      have hc : (fun k => ps_all (ps_nf (f 3) (f 1) k) k) k = false := h22
      refine lv_iload_n hx hb dX3_state_31 rfl (lv_at hl 2 rfl) ?_
      refine lv_istore_n (lv' := [(2, .int (nI (ps_cn (fun k => ps_all (ps_nf (f 3) (f 1) k) k) k))), (0, .ref w0), (1, .int w9), (3, .int (nI k))]) hx hb dX3_state_32 rfl hl (by decide) rfl (fun ls hl => ?_)
      refine lv_iinc (k := 3) (v := nI (k + 1)) (lv' := [(3, .int (nI (k + 1))), (2, .int (nI (ps_cn (fun k => ps_all (ps_nf (f 3) (f 1) k) k) k))), (0, .ref w0), (1, .int w9)]) hx hb dX3_state_33 hl rfl (ps_inc _) (by decide) rfl (fun ls hl => ?_)
      refine lv_goto (tgt := 9) hx hb dX3_state_36 rfl ?_
      first | rw [← ps_cnT (P := fun k => ps_all (ps_nf (f 3) (f 1) k) k) hc] at hl | rw [← ps_cnF (P := fun k => ps_all (ps_nf (f 3) (f 1) k) k) hc] at hl
      exact ih9 ((k + 1)) ls (by omega) ⟨by omega, lv_sub hl [2, 3, 1, 0] rfl⟩
    · skip
      have hc : (fun k => ps_all (ps_nf (f 3) (f 1) k) k) k = true := h22
      refine lv_iload_n hx hb dX3_state_25 rfl (lv_at hl 2 rfl) ?_
      refine lv_iconst (v := 1) hx hb dX3_state_26 (by decide) ?_
      refine lv_iadd hx hb dX3_state_27 ?_
      rw [nI_1]
      refine lv_goto (tgt := 32) hx hb dX3_state_28 rfl ?_
      refine lv_istore_n (lv' := [(2, .int (nI ((ps_cn (fun k => ps_all (ps_nf (f 3) (f 1) k) k) k) + 1))), (0, .ref w0), (1, .int w9), (3, .int (nI k))]) hx hb dX3_state_32 rfl hl (by decide) rfl (fun ls hl => ?_)
      refine lv_iinc (k := 3) (v := nI (k + 1)) (lv' := [(3, .int (nI (k + 1))), (2, .int (nI ((ps_cn (fun k => ps_all (ps_nf (f 3) (f 1) k) k) k) + 1))), (0, .ref w0), (1, .int w9)]) hx hb dX3_state_33 hl rfl (ps_inc _) (by decide) rfl (fun ls hl => ?_)
      refine lv_goto (tgt := 9) hx hb dX3_state_36 rfl ?_
      first | rw [← ps_cnT (P := fun k => ps_all (ps_nf (f 3) (f 1) k) k) hc] at hl | rw [← ps_cnF (P := fun k => ps_all (ps_nf (f 3) (f 1) k) k) hc] at hl
      exact ih9 ((k + 1)) ls (by omega) ⟨by omega, lv_sub hl [2, 3, 1, 0] rfl⟩
