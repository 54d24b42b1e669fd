/-! contracts: the shelf, where something is thrown. By wip/throws.py. -/
set_option maxHeartbeats 4000000 in
set_option maxRecDepth 100000 in
theorem mX2_requirePlace_x (l : Launch) (hlt : l.stackTraces = false) (dC : Nat → ClassId) (dI : Nat → Nat → Nat) (cI cZ : ClassId) (x y z : Int32) (hbad : ¬ (ps_co x = true ∧ ps_co y = true ∧ ps_co z = true)) (sz : Nat) : vx_Met l yX2_requirePlace (.code yX2_requirePlace cX2_requirePlace 3 none :: ps_T) ({ frames := 6, cells := 1, slots := 6, locals := 90 }) (ps_xc (dC, dI) (ps_ty cI cZ) ([]) sz [.int x, .int y, .int z]) ps_no (ps_XC "java/lang/IllegalArgumentException" (dC, dI) (ps_ty cI cZ) (va_A ([]) sz) ([])) 1 6 (va_A ([]) sz) := by
  refine vx_ofW (cc := cX2_requirePlace) (maxL := 3) (ret := none) (by decide) rfl ?_
  intro p e s m args below meth c s₁ B hml htab hv
  obtain ⟨rfl, hsz, hN, hE, hZ, hP, hK, hD0⟩ := hv
  have hx := B.exec
  have hb := B.bytes
  have hlocks := B.notSynchronized
  have hT : ∀ w ∈ ps_T, w.before ([.int x, .int y, .int z] : List Value).toArray s = true := fun w h => atoms_spec (ws := (.code yX2_requirePlace cX2_requirePlace 3 none :: ps_T)) B.pre w (List.mem_cons_of_mem _ h)
  have hown : s.vm.findClass RX2 = some m.cls := findClass_of_methodNamed B.named
  subst hsz
  have hD := hD0.self (sz := s.heap.size)
  generalize hAe : va_A ([]) s.heap.size = A at hD hZ ⊢
  have hA : ∀ q : Nat, s.heap.size ≤ q → A q := fun q h => by rw [← hAe]; exact Or.inr h
  have hS : va_S A s.heap s.heap [] := va_S.rf
  have hl := lv_entry ([.int x, .int y, .int z]) (n := 3) (Nat.le_of_ble_eq_true rfl)
  rw [lg_entry_eq]
  generalize (lg_sl ([.int x, .int y, .int z]) ++ List.replicate (3 - (lg_sl ([.int x, .int y, .int z])).length) Slot.unset).toArray = ls at hl ⊢
  have hl : lv_has ls 3 [(0, .int x), (1, .int y), (2, .int z)] := hl
  refine lv_iload_n hx hb dX2_requirePlace_0 rfl (lv_at hl 0 rfl) ?_
  refine vp_callSi (va_Run.run (va_runS (As := [.int x]) (rest := []) ⟨hx, hb, hml, hown, hT⟩ (mX2_isCoordinate l x) (va_cwS 1 hT (ps_gS tw_ml_X2_177 tw_st_X2_isCoordinate tw_in_X2 tw_co_X2_isCoordinate) rfl rfl rfl ⟨by decide, by decide, by decide +kernel⟩ ⟨Nat.le_of_ble_eq_true rfl, Nat.le_of_ble_eq_true rfl⟩) preEq rfl rfl hl.1 rfl (lv_room (Nat.le_of_ble_eq_true rfl)) dX2_requirePlace_1 ⟨Nat.le_of_ble_eq_true rfl, Nat.le_of_ble_eq_true rfl⟩)) (fun r hr => ?_)
  obtain rfl : r = ps_bi (ps_co x) := hr
  refine ps_ifb_eq (tgt := 21) hx hb dX2_requirePlace_4 rfl (fun h4 => ?_) (fun h4 => ?_)
  · skip
    exact ps_throw (ik := 72) (is := 180) (ic := 76) (text := "a coordinate is 0 to 15") (cls := "java/lang/IllegalArgumentException") hx hb hlt hown hT hE hZ hS (hl.1.trans hml.symm) Bundle.six_0 Bundle.six_1 Bundle.six_2 Bundle.six_5 tw_cl_X2_72 tw_in_IllegalArgumentException (by decide +kernel) (by decide +kernel) (by decide +kernel) xa_X2_IAE xb_X2_IAE xg_X2_IAE dX2_requirePlace_21 dX2_requirePlace_24 dX2_requirePlace_25 dX2_requirePlace_27 dX2_requirePlace_30 htab hlocks hK hP hD (Nat.le_of_ble_eq_true rfl) (Nat.le_of_ble_eq_true rfl) (Nat.le_of_ble_eq_true rfl) (Nat.le_of_ble_eq_true rfl) (Nat.le_of_ble_eq_true rfl) (Nat.le_of_ble_eq_true rfl)
  · skip
    refine lv_iload_n hx hb dX2_requirePlace_7 rfl (lv_at hl 1 rfl) ?_
    refine vp_callSi (va_Run.run (va_runS (As := [.int y]) (rest := []) ⟨hx, hb, hml, hown, hT⟩ (mX2_isCoordinate l y) (va_cwS 1 hT (ps_gS tw_ml_X2_177 tw_st_X2_isCoordinate tw_in_X2 tw_co_X2_isCoordinate) rfl rfl rfl ⟨by decide, by decide, by decide +kernel⟩ ⟨Nat.le_of_ble_eq_true rfl, Nat.le_of_ble_eq_true rfl⟩) preEq rfl rfl hl.1 rfl (lv_room (Nat.le_of_ble_eq_true rfl)) dX2_requirePlace_8 ⟨Nat.le_of_ble_eq_true rfl, Nat.le_of_ble_eq_true rfl⟩)) (fun r hr => ?_)
    obtain rfl : r = ps_bi (ps_co y) := hr
    refine ps_ifb_eq (tgt := 21) hx hb dX2_requirePlace_11 rfl (fun h11 => ?_) (fun h11 => ?_)
    · skip
      exact ps_throw (ik := 72) (is := 180) (ic := 76) (text := "a coordinate is 0 to 15") (cls := "java/lang/IllegalArgumentException") hx hb hlt hown hT hE hZ hS (hl.1.trans hml.symm) Bundle.six_0 Bundle.six_1 Bundle.six_2 Bundle.six_5 tw_cl_X2_72 tw_in_IllegalArgumentException (by decide +kernel) (by decide +kernel) (by decide +kernel) xa_X2_IAE xb_X2_IAE xg_X2_IAE dX2_requirePlace_21 dX2_requirePlace_24 dX2_requirePlace_25 dX2_requirePlace_27 dX2_requirePlace_30 htab hlocks hK hP hD (Nat.le_of_ble_eq_true rfl) (Nat.le_of_ble_eq_true rfl) (Nat.le_of_ble_eq_true rfl) (Nat.le_of_ble_eq_true rfl) (Nat.le_of_ble_eq_true rfl) (Nat.le_of_ble_eq_true rfl)
    · skip
      refine lv_iload_n hx hb dX2_requirePlace_14 rfl (lv_at hl 2 rfl) ?_
      refine vp_callSi (va_Run.run (va_runS (As := [.int z]) (rest := []) ⟨hx, hb, hml, hown, hT⟩ (mX2_isCoordinate l z) (va_cwS 1 hT (ps_gS tw_ml_X2_177 tw_st_X2_isCoordinate tw_in_X2 tw_co_X2_isCoordinate) rfl rfl rfl ⟨by decide, by decide, by decide +kernel⟩ ⟨Nat.le_of_ble_eq_true rfl, Nat.le_of_ble_eq_true rfl⟩) preEq rfl rfl hl.1 rfl (lv_room (Nat.le_of_ble_eq_true rfl)) dX2_requirePlace_15 ⟨Nat.le_of_ble_eq_true rfl, Nat.le_of_ble_eq_true rfl⟩)) (fun r hr => ?_)
      obtain rfl : r = ps_bi (ps_co z) := hr
      refine ps_ifb_ne (tgt := 31) hx hb dX2_requirePlace_18 rfl (fun h18 => ?_) (fun h18 => ?_)
      · skip
        exact absurd ⟨h4, h11, h18⟩ hbad
      · skip
        exact ps_throw (ik := 72) (is := 180) (ic := 76) (text := "a coordinate is 0 to 15") (cls := "java/lang/IllegalArgumentException") hx hb hlt hown hT hE hZ hS (hl.1.trans hml.symm) Bundle.six_0 Bundle.six_1 Bundle.six_2 Bundle.six_5 tw_cl_X2_72 tw_in_IllegalArgumentException (by decide +kernel) (by decide +kernel) (by decide +kernel) xa_X2_IAE xb_X2_IAE xg_X2_IAE dX2_requirePlace_21 dX2_requirePlace_24 dX2_requirePlace_25 dX2_requirePlace_27 dX2_requirePlace_30 htab hlocks hK hP hD (Nat.le_of_ble_eq_true rfl) (Nat.le_of_ble_eq_true rfl) (Nat.le_of_ble_eq_true rfl) (Nat.le_of_ble_eq_true rfl) (Nat.le_of_ble_eq_true rfl) (Nat.le_of_ble_eq_true rfl)
set_option maxHeartbeats 4000000 in
set_option maxRecDepth 100000 in
theorem mX2_findPoint_x (l : Launch) (hlt : l.stackTraces = false) (dC : Nat → ClassId) (dI : Nat → Nat → Nat) (cI cZ : ClassId) (h0 q1 q2 q3 b : Nat) (a1 a2 : Nat → Nat) (n1 n2 : Nat) (g1 g2 : ps_G) (lf le : Nat) (lh : Nat → Int32) (cx cy cz pl pw : Int32) (hn1 : n1 ≤ 48) (id : Int32) (hf : ps_fi (g1 0) id n1 = none) (sz : Nat) : vx_Met l yX2_findPoint (.code yX2_findPoint cX2_findPoint 3 (some .int) :: ps_T) ({ frames := 6, cells := 1, slots := 6, locals := 90 }) (ps_xc (dC, dI) (ps_ty cI cZ) (ps_shW h0 q1 q2 q3 cx cy cz pl pw ++ ps_trW cI cZ q1 a1 n1 g1 ++ ps_trW cI cZ q2 a2 n2 g2 ++ ps_lsW cI q3 b lf le lh) sz [.ref h0, .int id]) ps_no (ps_XC "java/util/NoSuchElementException" (dC, dI) (ps_ty cI cZ) (va_A (ps_shW h0 q1 q2 q3 cx cy cz pl pw ++ ps_trW cI cZ q1 a1 n1 g1 ++ ps_trW cI cZ q2 a2 n2 g2 ++ ps_lsW cI q3 b lf le lh) sz) (ps_shW h0 q1 q2 q3 cx cy cz pl pw ++ ps_trW cI cZ q1 a1 n1 g1 ++ ps_trW cI cZ q2 a2 n2 g2 ++ ps_lsW cI q3 b lf le lh)) 1 6 (va_A (ps_shW h0 q1 q2 q3 cx cy cz pl pw ++ ps_trW cI cZ q1 a1 n1 g1 ++ ps_trW cI cZ q2 a2 n2 g2 ++ ps_lsW cI q3 b lf le lh) sz) := by
  refine vx_ofW (cc := cX2_findPoint) (maxL := 3) (ret := (some .int)) (by decide) rfl ?_
  intro p e s m args below meth c s₁ B hml htab hv
  obtain ⟨rfl, hsz, hN, hE, hZ, hP, hK, hD0⟩ := hv
  have hx := B.exec
  have hb := B.bytes
  have hlocks := B.notSynchronized
  have hT : ∀ w ∈ ps_T, w.before ([.ref h0, .int id] : List Value).toArray s = true := fun w h => atoms_spec (ws := (.code yX2_findPoint cX2_findPoint 3 (some .int) :: ps_T)) B.pre w (List.mem_cons_of_mem _ h)
  have hown : s.vm.findClass RX2 = some m.cls := findClass_of_methodNamed B.named
  subst hsz
  have hD := hD0.self (sz := s.heap.size)
  generalize hAe : va_A (ps_shW h0 q1 q2 q3 cx cy cz pl pw ++ ps_trW cI cZ q1 a1 n1 g1 ++ ps_trW cI cZ q2 a2 n2 g2 ++ ps_lsW cI q3 b lf le lh) s.heap.size = A at hD hZ ⊢
  have hA : ∀ q : Nat, s.heap.size ≤ q → A q := fun q h => by rw [← hAe]; exact Or.inr h
  have hS : va_S A s.heap s.heap [] := va_S.rf
  have hl := lv_entry ([.ref h0, .int id]) (n := 3) (Nat.le_of_ble_eq_true rfl)
  rw [lg_entry_eq]
  generalize (lg_sl ([.ref h0, .int id]) ++ List.replicate (3 - (lg_sl ([.ref h0, .int id])).length) Slot.unset).toArray = ls at hl ⊢
  have hl : lv_has ls 3 [(0, .ref h0), (1, .int id)] := hl
  refine lv_aload_n hx hb dX2_findPoint_0 rfl (lv_at hl 0 rfl) ?_
  refine va_get (D := (dC, dI)) (ci := 2) (v := .ref q1) (C := RX2) (T := TX2) (N := 8) hx hb hT inX2 hown hK hP 0 rfl rfl 0 (by decide) (hT _ tw_fl_X2_10) (fun _ h9 => h9) rfl dX2_findPoint_1 ?_
  refine lv_iload_n hx hb dX2_findPoint_4 rfl (lv_at hl 1 rfl) ?_
  refine vp_callSi (va_Run.run (va_runV (C := RX1) (As := [.int id]) (rest := []) ⟨hx, hb, hml, hown, hT⟩ (mX1_find l dC dI cI cZ q1 a1 n1 g1 (hn1) id) (cwV 1 hT (ps_gV tw_ml_X2_34 tw_im_X1_find tw_se_X1_find tw_in_X1 tw_co_X1_find) rfl rfl rfl ⟨rfl, by decide, by decide, by decide +kernel⟩ ⟨Nat.le_of_ble_eq_true rfl, Nat.le_of_ble_eq_true rfl⟩) (ps_preV (ci := 1) (q0 := 0) hN (hP.sub (ws' := ps_trW cI cZ q1 a1 n1 g1) [1, 2, 3, 4, 5, 6, 7, 8, 9] rfl) hK rfl rfl) rfl rfl hl.1 rfl (lv_room (Nat.le_of_ble_eq_true rfl)) dX2_findPoint_5 ⟨Nat.le_of_ble_eq_true rfl, Nat.le_of_ble_eq_true rfl⟩)) (fun r hr => ?_)
  obtain rfl : r = ps_fr (ps_fi (g1 0) id n1) := hr
  rw [hf]
  show W _ _ _ _ _ _ _ _ _ _ _ _ _ _ _ (F0 _ _ _ (.int (-1) :: []))
  refine lv_istore_n (lv' := [(2, .int ((-1))), (0, .ref h0), (1, .int id)]) hx hb dX2_findPoint_8 rfl hl (by decide) rfl (fun ls hl => ?_)
  refine lv_iload_n hx hb dX2_findPoint_9 rfl (lv_at hl 0 rfl) ?_
  refine lv_iconst (v := (-1)) hx hb dX2_findPoint_10 (by decide) ?_
  refine lv_icmp_ne (tgt := 24) hx hb dX2_findPoint_11 rfl (fun h11 => ?_) (fun h11 => ?_)
  · skip
    exact absurd rfl h11
  · skip
    exact ps_throw (ik := 113) (is := 208) (ic := 117) (text := "there is no point with that id") (cls := "java/util/NoSuchElementException") hx hb hlt hown hT hE hZ hS (hl.1.trans hml.symm) rNSE_0 rNSE_1 rNSE_2 rNSE_5 tw_cl_X2_113 tw_in_NoSuchElementException (by decide +kernel) (by decide +kernel) (by decide +kernel) xa_X2_NSE xb_X2_NSE xg_X2_NSE dX2_findPoint_14 dX2_findPoint_17 dX2_findPoint_18 dX2_findPoint_20 dX2_findPoint_23 htab hlocks hK hP hD (Nat.le_of_ble_eq_true rfl) (Nat.le_of_ble_eq_true rfl) (Nat.le_of_ble_eq_true rfl) (Nat.le_of_ble_eq_true rfl) (Nat.le_of_ble_eq_true rfl) (Nat.le_of_ble_eq_true rfl)
set_option maxHeartbeats 4000000 in
set_option maxRecDepth 100000 in
theorem mX2_remove_x (l : Launch) (hlt : l.stackTraces = false) (dC : Nat → ClassId) (dI : Nat → Nat → Nat) (cI cZ : ClassId) (h0 q1 q2 q3 b : Nat) (a1 a2 : Nat → Nat) (n1 n2 : Nat) (g1 g2 : ps_G) (lf le : Nat) (lh : Nat → Int32) (cx cy cz pl pw : Int32) (hn1 : n1 ≤ 48) (id : Int32) (hf : ps_fi (g1 0) id n1 = none) (sz : Nat) : vx_Met l yX2_remove (.code yX2_remove cX2_remove 4 (some .int) :: ps_T) ({ frames := 7, cells := 1, slots := 6, locals := 112 }) (ps_xc (dC, dI) (ps_ty cI cZ) (ps_shW h0 q1 q2 q3 cx cy cz pl pw ++ ps_trW cI cZ q1 a1 n1 g1 ++ ps_trW cI cZ q2 a2 n2 g2 ++ ps_lsW cI q3 b lf le lh) sz [.ref h0, .int id]) ps_no (ps_XC "java/util/NoSuchElementException" (dC, dI) (ps_ty cI cZ) (va_A (ps_shW h0 q1 q2 q3 cx cy cz pl pw ++ ps_trW cI cZ q1 a1 n1 g1 ++ ps_trW cI cZ q2 a2 n2 g2 ++ ps_lsW cI q3 b lf le lh) sz) (ps_shW h0 q1 q2 q3 cx cy cz pl pw ++ ps_trW cI cZ q1 a1 n1 g1 ++ ps_trW cI cZ q2 a2 n2 g2 ++ ps_lsW cI q3 b lf le lh)) 1 6 (va_A (ps_shW h0 q1 q2 q3 cx cy cz pl pw ++ ps_trW cI cZ q1 a1 n1 g1 ++ ps_trW cI cZ q2 a2 n2 g2 ++ ps_lsW cI q3 b lf le lh) sz) := by
  refine vx_ofW (cc := cX2_remove) (maxL := 4) (ret := (some .int)) (by decide) rfl ?_
  intro p e s m args below meth c s₁ B hml htab hv
  obtain ⟨rfl, hsz, hN, hE, hZ, hP, hK, hD0⟩ := hv
  have hx := B.exec
  have hb := B.bytes
  have hlocks := B.notSynchronized
  have hT : ∀ w ∈ ps_T, w.before ([.ref h0, .int id] : List Value).toArray s = true := fun w h => atoms_spec (ws := (.code yX2_remove cX2_remove 4 (some .int) :: ps_T)) B.pre w (List.mem_cons_of_mem _ h)
  have hown : s.vm.findClass RX2 = some m.cls := findClass_of_methodNamed B.named
  subst hsz
  have hD := hD0.self (sz := s.heap.size)
  generalize hAe : va_A (ps_shW h0 q1 q2 q3 cx cy cz pl pw ++ ps_trW cI cZ q1 a1 n1 g1 ++ ps_trW cI cZ q2 a2 n2 g2 ++ ps_lsW cI q3 b lf le lh) s.heap.size = A at hD hZ ⊢
  have hA : ∀ q : Nat, s.heap.size ≤ q → A q := fun q h => by rw [← hAe]; exact Or.inr h
  have hS : va_S A s.heap s.heap [] := va_S.rf
  have hl := lv_entry ([.ref h0, .int id]) (n := 4) (Nat.le_of_ble_eq_true rfl)
  rw [lg_entry_eq]
  generalize (lg_sl ([.ref h0, .int id]) ++ List.replicate (4 - (lg_sl ([.ref h0, .int id])).length) Slot.unset).toArray = ls at hl ⊢
  have hl : lv_has ls 4 [(0, .ref h0), (1, .int id)] := hl
  refine lv_aload_n hx hb dX2_remove_0 rfl (lv_at hl 0 rfl) ?_
  refine lv_iload_n hx hb dX2_remove_1 rfl (lv_at hl 1 rfl) ?_
  refine ps_cx (wc := ps_shW h0 q1 q2 q3 cx cy cz pl pw ++ ps_trW cI cZ q1 a1 n1 g1 ++ ps_trW cI cZ q2 a2 n2 g2 ++ ps_lsW cI q3 b lf le lh) (wr := []) (w1 := ps_shW h0 q1 q2 q3 cx cy cz pl pw ++ ps_trW cI cZ q1 a1 n1 g1 ++ ps_trW cI cZ q2 a2 n2 g2 ++ ps_lsW cI q3 b lf le lh) (ws2 := ps_shW h0 q1 q2 q3 cx cy cz pl pw ++ ps_trW cI cZ q1 a1 n1 g1 ++ ps_trW cI cZ q2 a2 n2 g2 ++ ps_lsW cI q3 b lf le lh) (vx_runV (C := RX2) (As := [.int id]) (rest := []) ⟨hx, hb, hml, hown, hT⟩ (mX2_findPoint_x l hlt dC dI cI cZ h0 q1 q2 q3 b a1 a2 n1 n2 g1 g2 lf le lh cx cy cz pl pw hn1 id hf _) (cwV 1 hT (ps_gV tw_ml_X2_58 tw_im_X2_findPoint tw_se_X2_findPoint tw_in_X2 tw_co_X2_findPoint) rfl rfl rfl ⟨rfl, by decide, by decide, by decide +kernel⟩ ⟨Nat.le_of_ble_eq_true rfl, Nat.le_of_ble_eq_true rfl⟩) (ps_xreV (wc := ps_shW h0 q1 q2 q3 cx cy cz pl pw ++ ps_trW cI cZ q1 a1 n1 g1 ++ ps_trW cI cZ q2 a2 n2 g2 ++ ps_lsW cI q3 b lf le lh) (ci := 2) [0, 1, 2, 3, 4, 5, 6, 7, 8, 9, 10, 11, 12, 13, 14, 15, 16, 17, 18, 19, 20] hN hE hZ hS hA hP hK hD rfl rfl rfl rfl rfl) rfl rfl hl.1 rfl (lv_room (Nat.le_of_ble_eq_true rfl)) dX2_remove_2 ⟨Nat.le_of_ble_eq_true rfl, Nat.le_of_ble_eq_true rfl⟩) hS hA hP hD [0, 1, 2, 3, 4, 5, 6, 7, 8, 9, 10, 11, 12, 13, 14, 15, 16, 17, 18, 19, 20] [] [0, 1, 2, 3, 4, 5, 6, 7, 8, 9, 10, 11, 12, 13, 14, 15, 16, 17, 18, 19, 20] rfl rfl rfl (by decide) rfl rfl rfl (fun ce q9 H locs hP hD hS hce hcv hcl => ?_)
  exact ps_xout htab hlocks hK hP hD hS hce hcv hcl (Nat.le_of_ble_eq_true rfl) (Nat.le_of_ble_eq_true rfl)
set_option maxHeartbeats 4000000 in
set_option maxRecDepth 100000 in
theorem mX2_recolour_x (l : Launch) (hlt : l.stackTraces = false) (dC : Nat → ClassId) (dI : Nat → Nat → Nat) (cI cZ : ClassId) (h0 q1 q2 q3 b : Nat) (a1 a2 : Nat → Nat) (n1 n2 : Nat) (g1 g2 : ps_G) (lf le : Nat) (lh : Nat → Int32) (cx cy cz pl pw : Int32) (hn1 : n1 ≤ 48) (id : Int32) (hf : ps_fi (g1 0) id n1 = none) (v : Int32) (sz : Nat) : vx_Met l yX2_recolour (.code yX2_recolour cX2_recolour 5 (some .int) :: ps_T) ({ frames := 7, cells := 1, slots := 6, locals := 112 }) (ps_xc (dC, dI) (ps_ty cI cZ) (ps_shW h0 q1 q2 q3 cx cy cz pl pw ++ ps_trW cI cZ q1 a1 n1 g1 ++ ps_trW cI cZ q2 a2 n2 g2 ++ ps_lsW cI q3 b lf le lh) sz [.ref h0, .int id, .int v]) ps_no (ps_XC "java/util/NoSuchElementException" (dC, dI) (ps_ty cI cZ) (va_A (ps_shW h0 q1 q2 q3 cx cy cz pl pw ++ ps_trW cI cZ q1 a1 n1 g1 ++ ps_trW cI cZ q2 a2 n2 g2 ++ ps_lsW cI q3 b lf le lh) sz) (ps_shW h0 q1 q2 q3 cx cy cz pl pw ++ ps_trW cI cZ q1 a1 n1 g1 ++ ps_trW cI cZ q2 a2 n2 g2 ++ ps_lsW cI q3 b lf le lh)) 1 6 (va_A (ps_shW h0 q1 q2 q3 cx cy cz pl pw ++ ps_trW cI cZ q1 a1 n1 g1 ++ ps_trW cI cZ q2 a2 n2 g2 ++ ps_lsW cI q3 b lf le lh) sz) := by
  refine vx_ofW (cc := cX2_recolour) (maxL := 5) (ret := (some .int)) (by decide) rfl ?_
  intro p e s m args below meth c s₁ B hml htab hv
  obtain ⟨rfl, hsz, hN, hE, hZ, hP, hK, hD0⟩ := hv
  have hx := B.exec
  have hb := B.bytes
  have hlocks := B.notSynchronized
  have hT : ∀ w ∈ ps_T, w.before ([.ref h0, .int id, .int v] : List Value).toArray s = true := fun w h => atoms_spec (ws := (.code yX2_recolour cX2_recolour 5 (some .int) :: ps_T)) B.pre w (List.mem_cons_of_mem _ h)
  have hown : s.vm.findClass RX2 = some m.cls := findClass_of_methodNamed B.named
  subst hsz
  have hD := hD0.self (sz := s.heap.size)
  generalize hAe : va_A (ps_shW h0 q1 q2 q3 cx cy cz pl pw ++ ps_trW cI cZ q1 a1 n1 g1 ++ ps_trW cI cZ q2 a2 n2 g2 ++ ps_lsW cI q3 b lf le lh) s.heap.size = A at hD hZ ⊢
  have hA : ∀ q : Nat, s.heap.size ≤ q → A q := fun q h => by rw [← hAe]; exact Or.inr h
  have hS : va_S A s.heap s.heap [] := va_S.rf
  have hl := lv_entry ([.ref h0, .int id, .int v]) (n := 5) (Nat.le_of_ble_eq_true rfl)
  rw [lg_entry_eq]
  generalize (lg_sl ([.ref h0, .int id, .int v]) ++ List.replicate (5 - (lg_sl ([.ref h0, .int id, .int v])).length) Slot.unset).toArray = ls at hl ⊢
  have hl : lv_has ls 5 [(0, .ref h0), (1, .int id), (2, .int v)] := hl
  refine lv_aload_n hx hb dX2_recolour_0 rfl (lv_at hl 0 rfl) ?_
  refine lv_iload_n hx hb dX2_recolour_1 rfl (lv_at hl 1 rfl) ?_
  refine ps_cx (wc := ps_shW h0 q1 q2 q3 cx cy cz pl pw ++ ps_trW cI cZ q1 a1 n1 g1 ++ ps_trW cI cZ q2 a2 n2 g2 ++ ps_lsW cI q3 b lf le lh) (wr := []) (w1 := ps_shW h0 q1 q2 q3 cx cy cz pl pw ++ ps_trW cI cZ q1 a1 n1 g1 ++ ps_trW cI cZ q2 a2 n2 g2 ++ ps_lsW cI q3 b lf le lh) (ws2 := ps_shW h0 q1 q2 q3 cx cy cz pl pw ++ ps_trW cI cZ q1 a1 n1 g1 ++ ps_trW cI cZ q2 a2 n2 g2 ++ ps_lsW cI q3 b lf le lh) (vx_runV (C := RX2) (As := [.int id]) (rest := []) ⟨hx, hb, hml, hown, hT⟩ (mX2_findPoint_x l hlt dC dI cI cZ h0 q1 q2 q3 b a1 a2 n1 n2 g1 g2 lf le lh cx cy cz pl pw hn1 id hf _) (cwV 1 hT (ps_gV tw_ml_X2_58 tw_im_X2_findPoint tw_se_X2_findPoint tw_in_X2 tw_co_X2_findPoint) rfl rfl rfl ⟨rfl, by decide, by decide, by decide +kernel⟩ ⟨Nat.le_of_ble_eq_true rfl, Nat.le_of_ble_eq_true rfl⟩) (ps_xreV (wc := ps_shW h0 q1 q2 q3 cx cy cz pl pw ++ ps_trW cI cZ q1 a1 n1 g1 ++ ps_trW cI cZ q2 a2 n2 g2 ++ ps_lsW cI q3 b lf le lh) (ci := 2) [0, 1, 2, 3, 4, 5, 6, 7, 8, 9, 10, 11, 12, 13, 14, 15, 16, 17, 18, 19, 20] hN hE hZ hS hA hP hK hD rfl rfl rfl rfl rfl) rfl rfl hl.1 rfl (lv_room (Nat.le_of_ble_eq_true rfl)) dX2_recolour_2 ⟨Nat.le_of_ble_eq_true rfl, Nat.le_of_ble_eq_true rfl⟩) hS hA hP hD [0, 1, 2, 3, 4, 5, 6, 7, 8, 9, 10, 11, 12, 13, 14, 15, 16, 17, 18, 19, 20] [] [0, 1, 2, 3, 4, 5, 6, 7, 8, 9, 10, 11, 12, 13, 14, 15, 16, 17, 18, 19, 20] rfl rfl rfl (by decide) rfl rfl rfl (fun ce q9 H locs hP hD hS hce hcv hcl => ?_)
  exact ps_xout htab hlocks hK hP hD hS hce hcv hcl (Nat.le_of_ble_eq_true rfl) (Nat.le_of_ble_eq_true rfl)
set_option maxHeartbeats 4000000 in
set_option maxRecDepth 100000 in
theorem mX2_field_x1 (l : Launch) (hlt : l.stackTraces = false) (dC : Nat → ClassId) (dI : Nat → Nat → Nat) (cI cZ : ClassId) (h0 q1 q2 q3 b : Nat) (a1 a2 : Nat → Nat) (n1 n2 : Nat) (g1 g2 : ps_G) (lf le : Nat) (lh : Nat → Int32) (cx cy cz pl pw : Int32) (id fd : Int32) (hbad : fd < 0 ∨ 4 < fd) (sz : Nat) : vx_Met l yX2_field (.code yX2_field cX2_field 4 (some .int) :: ps_T) ({ frames := 6, cells := 1, slots := 6, locals := 90 }) (ps_xc (dC, dI) (ps_ty cI cZ) (ps_shW h0 q1 q2 q3 cx cy cz pl pw ++ ps_trW cI cZ q1 a1 n1 g1 ++ ps_trW cI cZ q2 a2 n2 g2 ++ ps_lsW cI q3 b lf le lh) sz [.ref h0, .int id, .int fd]) ps_no (ps_XC "java/lang/IllegalArgumentException" (dC, dI) (ps_ty cI cZ) (va_A (ps_shW h0 q1 q2 q3 cx cy cz pl pw ++ ps_trW cI cZ q1 a1 n1 g1 ++ ps_trW cI cZ q2 a2 n2 g2 ++ ps_lsW cI q3 b lf le lh) sz) (ps_shW h0 q1 q2 q3 cx cy cz pl pw ++ ps_trW cI cZ q1 a1 n1 g1 ++ ps_trW cI cZ q2 a2 n2 g2 ++ ps_lsW cI q3 b lf le lh)) 1 6 (va_A (ps_shW h0 q1 q2 q3 cx cy cz pl pw ++ ps_trW cI cZ q1 a1 n1 g1 ++ ps_trW cI cZ q2 a2 n2 g2 ++ ps_lsW cI q3 b lf le lh) sz) := by
  refine vx_ofW (cc := cX2_field) (maxL := 4) (ret := (some .int)) (by decide) rfl ?_
  intro p e s m args below meth c s₁ B hml htab hv
  obtain ⟨rfl, hsz, hN, hE, hZ, hP, hK, hD0⟩ := hv
  have hx := B.exec
  have hb := B.bytes
  have hlocks := B.notSynchronized
  have hT : ∀ w ∈ ps_T, w.before ([.ref h0, .int id, .int fd] : List Value).toArray s = true := fun w h => atoms_spec (ws := (.code yX2_field cX2_field 4 (some .int) :: ps_T)) B.pre w (List.mem_cons_of_mem _ h)
  have hown : s.vm.findClass RX2 = some m.cls := findClass_of_methodNamed B.named
  subst hsz
  have hD := hD0.self (sz := s.heap.size)
  generalize hAe : va_A (ps_shW h0 q1 q2 q3 cx cy cz pl pw ++ ps_trW cI cZ q1 a1 n1 g1 ++ ps_trW cI cZ q2 a2 n2 g2 ++ ps_lsW cI q3 b lf le lh) s.heap.size = A at hD hZ ⊢
  have hA : ∀ q : Nat, s.heap.size ≤ q → A q := fun q h => by rw [← hAe]; exact Or.inr h
  have hS : va_S A s.heap s.heap [] := va_S.rf
  have hl := lv_entry ([.ref h0, .int id, .int fd]) (n := 4) (Nat.le_of_ble_eq_true rfl)
  rw [lg_entry_eq]
  generalize (lg_sl ([.ref h0, .int id, .int fd]) ++ List.replicate (4 - (lg_sl ([.ref h0, .int id, .int fd])).length) Slot.unset).toArray = ls at hl ⊢
  have hl : lv_has ls 4 [(0, .ref h0), (1, .int id), (2, .int fd)] := hl
  refine lv_iload_n hx hb dX2_field_0 rfl (lv_at hl 2 rfl) ?_
  refine lv_if_lt (tgt := 9) hx hb dX2_field_1 rfl (fun h1 => ?_) (fun h1 => ?_)
  · skip
    exact ps_throw (ik := 72) (is := 74) (ic := 76) (text := "a point has the fields 0 to 4") (cls := "java/lang/IllegalArgumentException") hx hb hlt hown hT hE hZ hS (hl.1.trans hml.symm) Bundle.six_0 Bundle.six_1 Bundle.six_2 Bundle.six_5 tw_cl_X2_72 tw_in_IllegalArgumentException (by decide +kernel) (by decide +kernel) (by decide +kernel) xa_X2_IAE xb_X2_IAE xg_X2_IAE dX2_field_9 dX2_field_12 dX2_field_13 dX2_field_15 dX2_field_18 htab hlocks hK hP hD (Nat.le_of_ble_eq_true rfl) (Nat.le_of_ble_eq_true rfl) (Nat.le_of_ble_eq_true rfl) (Nat.le_of_ble_eq_true rfl) (Nat.le_of_ble_eq_true rfl) (Nat.le_of_ble_eq_true rfl)
  · skip
    refine lv_iload_n hx hb dX2_field_4 rfl (lv_at hl 2 rfl) ?_
    refine lv_iconst (v := 4) hx hb dX2_field_5 (by decide) ?_
    refine lv_icmp_le (tgt := 19) hx hb dX2_field_6 rfl (fun h6 => ?_) (fun h6 => ?_)
    · skip
      exact hbad.elim (fun h => absurd h h1) (fun h => absurd h6 (Int32.not_le.mpr h))
    · skip
      exact ps_throw (ik := 72) (is := 74) (ic := 76) (text := "a point has the fields 0 to 4") (cls := "java/lang/IllegalArgumentException") hx hb hlt hown hT hE hZ hS (hl.1.trans hml.symm) Bundle.six_0 Bundle.six_1 Bundle.six_2 Bundle.six_5 tw_cl_X2_72 tw_in_IllegalArgumentException (by decide +kernel) (by decide +kernel) (by decide +kernel) xa_X2_IAE xb_X2_IAE xg_X2_IAE dX2_field_9 dX2_field_12 dX2_field_13 dX2_field_15 dX2_field_18 htab hlocks hK hP hD (Nat.le_of_ble_eq_true rfl) (Nat.le_of_ble_eq_true rfl) (Nat.le_of_ble_eq_true rfl) (Nat.le_of_ble_eq_true rfl) (Nat.le_of_ble_eq_true rfl) (Nat.le_of_ble_eq_true rfl)
set_option maxHeartbeats 4000000 in
set_option maxRecDepth 100000 in
theorem mX2_field_x2 (l : Launch) (hlt : l.stackTraces = false) (dC : Nat → ClassId) (dI : Nat → Nat → Nat) (cI cZ : ClassId) (h0 q1 q2 q3 b : Nat) (a1 a2 : Nat → Nat) (n1 n2 : Nat) (g1 g2 : ps_G) (lf le : Nat) (lh : Nat → Int32) (cx cy cz pl pw : Int32) (hn1 : n1 ≤ 48) (id : Int32) (hf : ps_fi (g1 0) id n1 = none) (fd : Int32) (h0f : ¬ fd < 0) (h4f : fd ≤ 4) (sz : Nat) : vx_Met l yX2_field (.code yX2_field cX2_field 4 (some .int) :: ps_T) ({ frames := 7, cells := 1, slots := 6, locals := 112 }) (ps_xc (dC, dI) (ps_ty cI cZ) (ps_shW h0 q1 q2 q3 cx cy cz pl pw ++ ps_trW cI cZ q1 a1 n1 g1 ++ ps_trW cI cZ q2 a2 n2 g2 ++ ps_lsW cI q3 b lf le lh) sz [.ref h0, .int id, .int fd]) ps_no (ps_XC "java/util/NoSuchElementException" (dC, dI) (ps_ty cI cZ) (va_A (ps_shW h0 q1 q2 q3 cx cy cz pl pw ++ ps_trW cI cZ q1 a1 n1 g1 ++ ps_trW cI cZ q2 a2 n2 g2 ++ ps_lsW cI q3 b lf le lh) sz) (ps_shW h0 q1 q2 q3 cx cy cz pl pw ++ ps_trW cI cZ q1 a1 n1 g1 ++ ps_trW cI cZ q2 a2 n2 g2 ++ ps_lsW cI q3 b lf le lh)) 1 6 (va_A (ps_shW h0 q1 q2 q3 cx cy cz pl pw ++ ps_trW cI cZ q1 a1 n1 g1 ++ ps_trW cI cZ q2 a2 n2 g2 ++ ps_lsW cI q3 b lf le lh) sz) := by
  refine vx_ofW (cc := cX2_field) (maxL := 4) (ret := (some .int)) (by decide) rfl ?_
  intro p e s m args below meth c s₁ B hml htab hv
  obtain ⟨rfl, hsz, hN, hE, hZ, hP, hK, hD0⟩ := hv
  have hx := B.exec
  have hb := B.bytes
  have hlocks := B.notSynchronized
  have hT : ∀ w ∈ ps_T, w.before ([.ref h0, .int id, .int fd] : List Value).toArray s = true := fun w h => atoms_spec (ws := (.code yX2_field cX2_field 4 (some .int) :: ps_T)) B.pre w (List.mem_cons_of_mem _ h)
  have hown : s.vm.findClass RX2 = some m.cls := findClass_of_methodNamed B.named
  subst hsz
  have hD := hD0.self (sz := s.heap.size)
  generalize hAe : va_A (ps_shW h0 q1 q2 q3 cx cy cz pl pw ++ ps_trW cI cZ q1 a1 n1 g1 ++ ps_trW cI cZ q2 a2 n2 g2 ++ ps_lsW cI q3 b lf le lh) s.heap.size = A at hD hZ ⊢
  have hA : ∀ q : Nat, s.heap.size ≤ q → A q := fun q h => by rw [← hAe]; exact Or.inr h
  have hS : va_S A s.heap s.heap [] := va_S.rf
  have hl := lv_entry ([.ref h0, .int id, .int fd]) (n := 4) (Nat.le_of_ble_eq_true rfl)
  rw [lg_entry_eq]
  generalize (lg_sl ([.ref h0, .int id, .int fd]) ++ List.replicate (4 - (lg_sl ([.ref h0, .int id, .int fd])).length) Slot.unset).toArray = ls at hl ⊢
  have hl : lv_has ls 4 [(0, .ref h0), (1, .int id), (2, .int fd)] := hl
  refine lv_iload_n hx hb dX2_field_0 rfl (lv_at hl 2 rfl) ?_
  refine lv_if_lt (tgt := 9) hx hb dX2_field_1 rfl (fun h1 => ?_) (fun h1 => ?_)
  · skip
    exact absurd h1 h0f
  · skip
    refine lv_iload_n hx hb dX2_field_4 rfl (lv_at hl 2 rfl) ?_
    refine lv_iconst (v := 4) hx hb dX2_field_5 (by decide) ?_
    refine lv_icmp_le (tgt := 19) hx hb dX2_field_6 rfl (fun h6 => ?_) (fun h6 => ?_)
    · skip
      refine lv_aload_n hx hb dX2_field_19 rfl (lv_at hl 0 rfl) ?_
      refine lv_iload_n hx hb dX2_field_20 rfl (lv_at hl 1 rfl) ?_
      refine ps_cx (wc := ps_shW h0 q1 q2 q3 cx cy cz pl pw ++ ps_trW cI cZ q1 a1 n1 g1 ++ ps_trW cI cZ q2 a2 n2 g2 ++ ps_lsW cI q3 b lf le lh) (wr := []) (w1 := ps_shW h0 q1 q2 q3 cx cy cz pl pw ++ ps_trW cI cZ q1 a1 n1 g1 ++ ps_trW cI cZ q2 a2 n2 g2 ++ ps_lsW cI q3 b lf le lh) (ws2 := ps_shW h0 q1 q2 q3 cx cy cz pl pw ++ ps_trW cI cZ q1 a1 n1 g1 ++ ps_trW cI cZ q2 a2 n2 g2 ++ ps_lsW cI q3 b lf le lh) (vx_runV (C := RX2) (As := [.int id]) (rest := []) ⟨hx, hb, hml, hown, hT⟩ (mX2_findPoint_x l hlt dC dI cI cZ h0 q1 q2 q3 b a1 a2 n1 n2 g1 g2 lf le lh cx cy cz pl pw hn1 id hf _) (cwV 1 hT (ps_gV tw_ml_X2_58 tw_im_X2_findPoint tw_se_X2_findPoint tw_in_X2 tw_co_X2_findPoint) rfl rfl rfl ⟨rfl, by decide, by decide, by decide +kernel⟩ ⟨Nat.le_of_ble_eq_true rfl, Nat.le_of_ble_eq_true rfl⟩) (ps_xreV (wc := ps_shW h0 q1 q2 q3 cx cy cz pl pw ++ ps_trW cI cZ q1 a1 n1 g1 ++ ps_trW cI cZ q2 a2 n2 g2 ++ ps_lsW cI q3 b lf le lh) (ci := 2) [0, 1, 2, 3, 4, 5, 6, 7, 8, 9, 10, 11, 12, 13, 14, 15, 16, 17, 18, 19, 20] hN hE hZ hS hA hP hK hD rfl rfl rfl rfl rfl) rfl rfl hl.1 rfl (lv_room (Nat.le_of_ble_eq_true rfl)) dX2_field_21 ⟨Nat.le_of_ble_eq_true rfl, Nat.le_of_ble_eq_true rfl⟩) hS hA hP hD [0, 1, 2, 3, 4, 5, 6, 7, 8, 9, 10, 11, 12, 13, 14, 15, 16, 17, 18, 19, 20] [] [0, 1, 2, 3, 4, 5, 6, 7, 8, 9, 10, 11, 12, 13, 14, 15, 16, 17, 18, 19, 20] rfl rfl rfl (by decide) rfl rfl rfl (fun ce q9 H locs hP hD hS hce hcv hcl => ?_)
      exact ps_xout htab hlocks hK hP hD hS hce hcv hcl (Nat.le_of_ble_eq_true rfl) (Nat.le_of_ble_eq_true rfl)
    · skip
      exact absurd h4f h6
set_option maxHeartbeats 4000000 in
set_option maxRecDepth 100000 in
theorem mX2_corner_x (l : Launch) (hlt : l.stackTraces = false) (dC : Nat → ClassId) (dI : Nat → Nat → Nat) (cI cZ : ClassId) (h0 q1 q2 q3 b : Nat) (a1 a2 : Nat → Nat) (n1 n2 : Nat) (g1 g2 : ps_G) (lf le : Nat) (lh : Nat → Int32) (cx cy cz pl pw : Int32) (x y z : Int32) (hbad : ¬ (ps_co x = true ∧ ps_co y = true ∧ ps_co z = true)) (sz : Nat) : vx_Met l yX2_corner (.code yX2_corner cX2_corner 4 none :: ps_T) ({ frames := 7, cells := 1, slots := 6, locals := 112 }) (ps_xc (dC, dI) (ps_ty cI cZ) (ps_shW h0 q1 q2 q3 cx cy cz pl pw ++ ps_trW cI cZ q1 a1 n1 g1 ++ ps_trW cI cZ q2 a2 n2 g2 ++ ps_lsW cI q3 b lf le lh) sz [.ref h0, .int x, .int y, .int z]) ps_no (ps_XC "java/lang/IllegalArgumentException" (dC, dI) (ps_ty cI cZ) (va_A (ps_shW h0 q1 q2 q3 cx cy cz pl pw ++ ps_trW cI cZ q1 a1 n1 g1 ++ ps_trW cI cZ q2 a2 n2 g2 ++ ps_lsW cI q3 b lf le lh) sz) (ps_shW h0 q1 q2 q3 cx cy cz pl pw ++ ps_trW cI cZ q1 a1 n1 g1 ++ ps_trW cI cZ q2 a2 n2 g2 ++ ps_lsW cI q3 b lf le lh)) 1 6 (va_A (ps_shW h0 q1 q2 q3 cx cy cz pl pw ++ ps_trW cI cZ q1 a1 n1 g1 ++ ps_trW cI cZ q2 a2 n2 g2 ++ ps_lsW cI q3 b lf le lh) sz) := by
  refine vx_ofW (cc := cX2_corner) (maxL := 4) (ret := none) (by decide) rfl ?_
  intro p e s m args below meth c s₁ B hml htab hv
  obtain ⟨rfl, hsz, hN, hE, hZ, hP, hK, hD0⟩ := hv
  have hx := B.exec
  have hb := B.bytes
  have hlocks := B.notSynchronized
  have hT : ∀ w ∈ ps_T, w.before ([.ref h0, .int x, .int y, .int z] : List Value).toArray s = true := fun w h => atoms_spec (ws := (.code yX2_corner cX2_corner 4 none :: ps_T)) B.pre w (List.mem_cons_of_mem _ h)
  have hown : s.vm.findClass RX2 = some m.cls := findClass_of_methodNamed B.named
  subst hsz
  have hD := hD0.self (sz := s.heap.size)
  generalize hAe : va_A (ps_shW h0 q1 q2 q3 cx cy cz pl pw ++ ps_trW cI cZ q1 a1 n1 g1 ++ ps_trW cI cZ q2 a2 n2 g2 ++ ps_lsW cI q3 b lf le lh) s.heap.size = A at hD hZ ⊢
  have hA : ∀ q : Nat, s.heap.size ≤ q → A q := fun q h => by rw [← hAe]; exact Or.inr h
  have hS : va_S A s.heap s.heap [] := va_S.rf
  have hl := lv_entry ([.ref h0, .int x, .int y, .int z]) (n := 4) (Nat.le_of_ble_eq_true rfl)
  rw [lg_entry_eq]
  generalize (lg_sl ([.ref h0, .int x, .int y, .int z]) ++ List.replicate (4 - (lg_sl ([.ref h0, .int x, .int y, .int z])).length) Slot.unset).toArray = ls at hl ⊢
  have hl : lv_has ls 4 [(0, .ref h0), (1, .int x), (2, .int y), (3, .int z)] := hl
  refine lv_iload_n hx hb dX2_corner_0 rfl (lv_at hl 1 rfl) ?_
  refine lv_iload_n hx hb dX2_corner_1 rfl (lv_at hl 2 rfl) ?_
  refine lv_iload_n hx hb dX2_corner_2 rfl (lv_at hl 3 rfl) ?_
  refine ps_cx (wc := ([] : va_W)) (wr := ps_shW h0 q1 q2 q3 cx cy cz pl pw ++ ps_trW cI cZ q1 a1 n1 g1 ++ ps_trW cI cZ q2 a2 n2 g2 ++ ps_lsW cI q3 b lf le lh) (w1 := ([] : va_W)) (ws2 := ps_shW h0 q1 q2 q3 cx cy cz pl pw ++ ps_trW cI cZ q1 a1 n1 g1 ++ ps_trW cI cZ q2 a2 n2 g2 ++ ps_lsW cI q3 b lf le lh) (vx_runS (As := [.int x, .int y, .int z]) (rest := []) ⟨hx, hb, hml, hown, hT⟩ (mX2_requirePlace_x l hlt dC dI cI cZ x y z hbad _) (va_cwS 3 hT (ps_gS tw_ml_X2_30 tw_st_X2_requirePlace tw_in_X2 tw_co_X2_requirePlace) rfl rfl rfl ⟨by decide, by decide, by decide +kernel⟩ ⟨Nat.le_of_ble_eq_true rfl, Nat.le_of_ble_eq_true rfl⟩) (ps_xreS (wc := ([] : va_W)) [] hN hE hZ hS hA hP hK hD rfl rfl rfl) rfl rfl hl.1 rfl (lv_room (Nat.le_of_ble_eq_true rfl)) dX2_corner_3 ⟨Nat.le_of_ble_eq_true rfl, Nat.le_of_ble_eq_true rfl⟩) hS hA hP hD [] [0, 1, 2, 3, 4, 5, 6, 7, 8, 9, 10, 11, 12, 13, 14, 15, 16, 17, 18, 19, 20] [0, 1, 2, 3, 4, 5, 6, 7, 8, 9, 10, 11, 12, 13, 14, 15, 16, 17, 18, 19, 20] rfl rfl rfl (by decide) rfl rfl rfl (fun ce q9 H locs hP hD hS hce hcv hcl => ?_)
  exact ps_xout htab hlocks hK hP hD hS hce hcv hcl (Nat.le_of_ble_eq_true rfl) (Nat.le_of_ble_eq_true rfl)
set_option maxHeartbeats 4000000 in
set_option maxRecDepth 100000 in
theorem mX2_count_x (l : Launch) (hlt : l.stackTraces = false) (dC : Nat → ClassId) (dI : Nat → Nat → Nat) (cI cZ : ClassId) (h0 q1 q2 q3 b : Nat) (a1 a2 : Nat → Nat) (n1 n2 : Nat) (g1 g2 : ps_G) (lf le : Nat) (lh : Nat → Int32) (cx cy cz pl pw : Int32) (x y z : Int32) (hbad : ¬ (ps_co x = true ∧ ps_co y = true ∧ ps_co z = true)) (sz : Nat) : vx_Met l yX2_count (.code yX2_count cX2_count 6 (some .int) :: ps_T) ({ frames := 7, cells := 1, slots := 6, locals := 112 }) (ps_xc (dC, dI) (ps_ty cI cZ) (ps_shW h0 q1 q2 q3 cx cy cz pl pw ++ ps_trW cI cZ q1 a1 n1 g1 ++ ps_trW cI cZ q2 a2 n2 g2 ++ ps_lsW cI q3 b lf le lh) sz [.ref h0, .int x, .int y, .int z]) ps_no (ps_XC "java/lang/IllegalArgumentException" (dC, dI) (ps_ty cI cZ) (va_A (ps_shW h0 q1 q2 q3 cx cy cz pl pw ++ ps_trW cI cZ q1 a1 n1 g1 ++ ps_trW cI cZ q2 a2 n2 g2 ++ ps_lsW cI q3 b lf le lh) sz) (ps_shW h0 q1 q2 q3 cx cy cz pl pw ++ ps_trW cI cZ q1 a1 n1 g1 ++ ps_trW cI cZ q2 a2 n2 g2 ++ ps_lsW cI q3 b lf le lh)) 1 6 (va_A (ps_shW h0 q1 q2 q3 cx cy cz pl pw ++ ps_trW cI cZ q1 a1 n1 g1 ++ ps_trW cI cZ q2 a2 n2 g2 ++ ps_lsW cI q3 b lf le lh) sz) := by
  refine vx_ofW (cc := cX2_count) (maxL := 6) (ret := (some .int)) (by decide) rfl ?_
  intro p e s m args below meth c s₁ B hml htab hv
  obtain ⟨rfl, hsz, hN, hE, hZ, hP, hK, hD0⟩ := hv
  have hx := B.exec
  have hb := B.bytes
  have hlocks := B.notSynchronized
  have hT : ∀ w ∈ ps_T, w.before ([.ref h0, .int x, .int y, .int z] : List Value).toArray s = true := fun w h => atoms_spec (ws := (.code yX2_count cX2_count 6 (some .int) :: ps_T)) B.pre w (List.mem_cons_of_mem _ h)
  have hown : s.vm.findClass RX2 = some m.cls := findClass_of_methodNamed B.named
  subst hsz
  have hD := hD0.self (sz := s.heap.size)
  generalize hAe : va_A (ps_shW h0 q1 q2 q3 cx cy cz pl pw ++ ps_trW cI cZ q1 a1 n1 g1 ++ ps_trW cI cZ q2 a2 n2 g2 ++ ps_lsW cI q3 b lf le lh) s.heap.size = A at hD hZ ⊢
  have hA : ∀ q : Nat, s.heap.size ≤ q → A q := fun q h => by rw [← hAe]; exact Or.inr h
  have hS : va_S A s.heap s.heap [] := va_S.rf
  have hl := lv_entry ([.ref h0, .int x, .int y, .int z]) (n := 6) (Nat.le_of_ble_eq_true rfl)
  rw [lg_entry_eq]
  generalize (lg_sl ([.ref h0, .int x, .int y, .int z]) ++ List.replicate (6 - (lg_sl ([.ref h0, .int x, .int y, .int z])).length) Slot.unset).toArray = ls at hl ⊢
  have hl : lv_has ls 6 [(0, .ref h0), (1, .int x), (2, .int y), (3, .int z)] := hl
  refine lv_iload_n hx hb dX2_count_0 rfl (lv_at hl 1 rfl) ?_
  refine lv_iload_n hx hb dX2_count_1 rfl (lv_at hl 2 rfl) ?_
  refine lv_iload_n hx hb dX2_count_2 rfl (lv_at hl 3 rfl) ?_
  refine ps_cx (wc := ([] : va_W)) (wr := ps_shW h0 q1 q2 q3 cx cy cz pl pw ++ ps_trW cI cZ q1 a1 n1 g1 ++ ps_trW cI cZ q2 a2 n2 g2 ++ ps_lsW cI q3 b lf le lh) (w1 := ([] : va_W)) (ws2 := ps_shW h0 q1 q2 q3 cx cy cz pl pw ++ ps_trW cI cZ q1 a1 n1 g1 ++ ps_trW cI cZ q2 a2 n2 g2 ++ ps_lsW cI q3 b lf le lh) (vx_runS (As := [.int x, .int y, .int z]) (rest := []) ⟨hx, hb, hml, hown, hT⟩ (mX2_requirePlace_x l hlt dC dI cI cZ x y z hbad _) (va_cwS 3 hT (ps_gS tw_ml_X2_30 tw_st_X2_requirePlace tw_in_X2 tw_co_X2_requirePlace) rfl rfl rfl ⟨by decide, by decide, by decide +kernel⟩ ⟨Nat.le_of_ble_eq_true rfl, Nat.le_of_ble_eq_true rfl⟩) (ps_xreS (wc := ([] : va_W)) [] hN hE hZ hS hA hP hK hD rfl rfl rfl) rfl rfl hl.1 rfl (lv_room (Nat.le_of_ble_eq_true rfl)) dX2_count_3 ⟨Nat.le_of_ble_eq_true rfl, Nat.le_of_ble_eq_true rfl⟩) hS hA hP hD [] [0, 1, 2, 3, 4, 5, 6, 7, 8, 9, 10, 11, 12, 13, 14, 15, 16, 17, 18, 19, 20] [0, 1, 2, 3, 4, 5, 6, 7, 8, 9, 10, 11, 12, 13, 14, 15, 16, 17, 18, 19, 20] rfl rfl rfl (by decide) rfl rfl rfl (fun ce q9 H locs hP hD hS hce hcv hcl => ?_)
  exact ps_xout htab hlocks hK hP hD hS hce hcv hcl (Nat.le_of_ble_eq_true rfl) (Nat.le_of_ble_eq_true rfl)
set_option maxHeartbeats 4000000 in
set_option maxRecDepth 100000 in
theorem mX2_box_x1 (l : Launch) (hlt : l.stackTraces = false) (dC : Nat → ClassId) (dI : Nat → Nat → Nat) (cI cZ : ClassId) (h0 q1 q2 q3 b : Nat) (a1 a2 : Nat → Nat) (n1 n2 : Nat) (g1 g2 : ps_G) (lf le : Nat) (lh : Nat → Int32) (cx cy cz pl pw : Int32) (x y z : Int32) (hbad : ¬ (ps_co x = true ∧ ps_co y = true ∧ ps_co z = true)) (d : Int32) (sz : Nat) : vx_Met l yX2_box (.code yX2_box cX2_box 6 (some .int) :: ps_T) ({ frames := 7, cells := 1, slots := 6, locals := 112 }) (ps_xc (dC, dI) (ps_ty cI cZ) (ps_shW h0 q1 q2 q3 cx cy cz pl pw ++ ps_trW cI cZ q1 a1 n1 g1 ++ ps_trW cI cZ q2 a2 n2 g2 ++ ps_lsW cI q3 b lf le lh) sz [.ref h0, .int x, .int y, .int z, .int d]) ps_no (ps_XC "java/lang/IllegalArgumentException" (dC, dI) (ps_ty cI cZ) (va_A (ps_shW h0 q1 q2 q3 cx cy cz pl pw ++ ps_trW cI cZ q1 a1 n1 g1 ++ ps_trW cI cZ q2 a2 n2 g2 ++ ps_lsW cI q3 b lf le lh) sz) (ps_shW h0 q1 q2 q3 cx cy cz pl pw ++ ps_trW cI cZ q1 a1 n1 g1 ++ ps_trW cI cZ q2 a2 n2 g2 ++ ps_lsW cI q3 b lf le lh)) 1 6 (va_A (ps_shW h0 q1 q2 q3 cx cy cz pl pw ++ ps_trW cI cZ q1 a1 n1 g1 ++ ps_trW cI cZ q2 a2 n2 g2 ++ ps_lsW cI q3 b lf le lh) sz) := by
  refine vx_ofW (cc := cX2_box) (maxL := 6) (ret := (some .int)) (by decide) rfl ?_
  intro p e s m args below meth c s₁ B hml htab hv
  obtain ⟨rfl, hsz, hN, hE, hZ, hP, hK, hD0⟩ := hv
  have hx := B.exec
  have hb := B.bytes
  have hlocks := B.notSynchronized
  have hT : ∀ w ∈ ps_T, w.before ([.ref h0, .int x, .int y, .int z, .int d] : List Value).toArray s = true := fun w h => atoms_spec (ws := (.code yX2_box cX2_box 6 (some .int) :: ps_T)) B.pre w (List.mem_cons_of_mem _ h)
  have hown : s.vm.findClass RX2 = some m.cls := findClass_of_methodNamed B.named
  subst hsz
  have hD := hD0.self (sz := s.heap.size)
  generalize hAe : va_A (ps_shW h0 q1 q2 q3 cx cy cz pl pw ++ ps_trW cI cZ q1 a1 n1 g1 ++ ps_trW cI cZ q2 a2 n2 g2 ++ ps_lsW cI q3 b lf le lh) s.heap.size = A at hD hZ ⊢
  have hA : ∀ q : Nat, s.heap.size ≤ q → A q := fun q h => by rw [← hAe]; exact Or.inr h
  have hS : va_S A s.heap s.heap [] := va_S.rf
  have hl := lv_entry ([.ref h0, .int x, .int y, .int z, .int d]) (n := 6) (Nat.le_of_ble_eq_true rfl)
  rw [lg_entry_eq]
  generalize (lg_sl ([.ref h0, .int x, .int y, .int z, .int d]) ++ List.replicate (6 - (lg_sl ([.ref h0, .int x, .int y, .int z, .int d])).length) Slot.unset).toArray = ls at hl ⊢
  have hl : lv_has ls 6 [(0, .ref h0), (1, .int x), (2, .int y), (3, .int z), (4, .int d)] := hl
  refine lv_iload_n hx hb dX2_box_0 rfl (lv_at hl 1 rfl) ?_
  refine lv_iload_n hx hb dX2_box_1 rfl (lv_at hl 2 rfl) ?_
  refine lv_iload_n hx hb dX2_box_2 rfl (lv_at hl 3 rfl) ?_
  refine ps_cx (wc := ([] : va_W)) (wr := ps_shW h0 q1 q2 q3 cx cy cz pl pw ++ ps_trW cI cZ q1 a1 n1 g1 ++ ps_trW cI cZ q2 a2 n2 g2 ++ ps_lsW cI q3 b lf le lh) (w1 := ([] : va_W)) (ws2 := ps_shW h0 q1 q2 q3 cx cy cz pl pw ++ ps_trW cI cZ q1 a1 n1 g1 ++ ps_trW cI cZ q2 a2 n2 g2 ++ ps_lsW cI q3 b lf le lh) (vx_runS (As := [.int x, .int y, .int z]) (rest := []) ⟨hx, hb, hml, hown, hT⟩ (mX2_requirePlace_x l hlt dC dI cI cZ x y z hbad _) (va_cwS 3 hT (ps_gS tw_ml_X2_30 tw_st_X2_requirePlace tw_in_X2 tw_co_X2_requirePlace) rfl rfl rfl ⟨by decide, by decide, by decide +kernel⟩ ⟨Nat.le_of_ble_eq_true rfl, Nat.le_of_ble_eq_true rfl⟩) (ps_xreS (wc := ([] : va_W)) [] hN hE hZ hS hA hP hK hD rfl rfl rfl) rfl rfl hl.1 rfl (lv_room (Nat.le_of_ble_eq_true rfl)) dX2_box_3 ⟨Nat.le_of_ble_eq_true rfl, Nat.le_of_ble_eq_true rfl⟩) hS hA hP hD [] [0, 1, 2, 3, 4, 5, 6, 7, 8, 9, 10, 11, 12, 13, 14, 15, 16, 17, 18, 19, 20] [0, 1, 2, 3, 4, 5, 6, 7, 8, 9, 10, 11, 12, 13, 14, 15, 16, 17, 18, 19, 20] rfl rfl rfl (by decide) rfl rfl rfl (fun ce q9 H locs hP hD hS hce hcv hcl => ?_)
  exact ps_xout htab hlocks hK hP hD hS hce hcv hcl (Nat.le_of_ble_eq_true rfl) (Nat.le_of_ble_eq_true rfl)
set_option maxHeartbeats 4000000 in
set_option maxRecDepth 100000 in
theorem mX2_box_x2 (l : Launch) (hlt : l.stackTraces = false) (dC : Nat → ClassId) (dI : Nat → Nat → Nat) (cI cZ : ClassId) (h0 q1 q2 q3 b : Nat) (a1 a2 : Nat → Nat) (n1 n2 : Nat) (g1 g2 : ps_G) (lf le : Nat) (lh : Nat → Int32) (cx cy cz pl pw : Int32) (x y z : Int32) (hx0 : ps_co x = true) (hy0 : ps_co y = true) (hz0 : ps_co z = true) (d : Int32) (hd0 : ps_de d = false) (sz : Nat) : vx_Met l yX2_box (.code yX2_box cX2_box 6 (some .int) :: ps_T) ({ frames := 6, cells := 1, slots := 6, locals := 90 }) (ps_xc (dC, dI) (ps_ty cI cZ) (ps_shW h0 q1 q2 q3 cx cy cz pl pw ++ ps_trW cI cZ q1 a1 n1 g1 ++ ps_trW cI cZ q2 a2 n2 g2 ++ ps_lsW cI q3 b lf le lh) sz [.ref h0, .int x, .int y, .int z, .int d]) ps_no (ps_XC "java/lang/IllegalArgumentException" (dC, dI) (ps_ty cI cZ) (va_A (ps_shW h0 q1 q2 q3 cx cy cz pl pw ++ ps_trW cI cZ q1 a1 n1 g1 ++ ps_trW cI cZ q2 a2 n2 g2 ++ ps_lsW cI q3 b lf le lh) sz) (ps_shW h0 q1 q2 q3 cx cy cz pl pw ++ ps_trW cI cZ q1 a1 n1 g1 ++ ps_trW cI cZ q2 a2 n2 g2 ++ ps_lsW cI q3 b lf le lh)) 1 6 (va_A (ps_shW h0 q1 q2 q3 cx cy cz pl pw ++ ps_trW cI cZ q1 a1 n1 g1 ++ ps_trW cI cZ q2 a2 n2 g2 ++ ps_lsW cI q3 b lf le lh) sz) := by
  refine vx_ofW (cc := cX2_box) (maxL := 6) (ret := (some .int)) (by decide) rfl ?_
  intro p e s m args below meth c s₁ B hml htab hv
  obtain ⟨rfl, hsz, hN, hE, hZ, hP, hK, hD0⟩ := hv
  have hx := B.exec
  have hb := B.bytes
  have hlocks := B.notSynchronized
  have hT : ∀ w ∈ ps_T, w.before ([.ref h0, .int x, .int y, .int z, .int d] : List Value).toArray s = true := fun w h => atoms_spec (ws := (.code yX2_box cX2_box 6 (some .int) :: ps_T)) B.pre w (List.mem_cons_of_mem _ h)
  have hown : s.vm.findClass RX2 = some m.cls := findClass_of_methodNamed B.named
  subst hsz
  have hD := hD0.self (sz := s.heap.size)
  generalize hAe : va_A (ps_shW h0 q1 q2 q3 cx cy cz pl pw ++ ps_trW cI cZ q1 a1 n1 g1 ++ ps_trW cI cZ q2 a2 n2 g2 ++ ps_lsW cI q3 b lf le lh) s.heap.size = A at hD hZ ⊢
  have hA : ∀ q : Nat, s.heap.size ≤ q → A q := fun q h => by rw [← hAe]; exact Or.inr h
  have hS : va_S A s.heap s.heap [] := va_S.rf
  have hl := lv_entry ([.ref h0, .int x, .int y, .int z, .int d]) (n := 6) (Nat.le_of_ble_eq_true rfl)
  rw [lg_entry_eq]
  generalize (lg_sl ([.ref h0, .int x, .int y, .int z, .int d]) ++ List.replicate (6 - (lg_sl ([.ref h0, .int x, .int y, .int z, .int d])).length) Slot.unset).toArray = ls at hl ⊢
  have hl : lv_has ls 6 [(0, .ref h0), (1, .int x), (2, .int y), (3, .int z), (4, .int d)] := hl
  refine lv_iload_n hx hb dX2_box_0 rfl (lv_at hl 1 rfl) ?_
  refine lv_iload_n hx hb dX2_box_1 rfl (lv_at hl 2 rfl) ?_
  refine lv_iload_n hx hb dX2_box_2 rfl (lv_at hl 3 rfl) ?_
  refine va_csv (va_Run.run (va_runS (As := [.int x, .int y, .int z]) (rest := []) ⟨hx, hb, hml, hown, hT⟩ (mX2_requirePlace_n l x y z hx0 hy0 hz0) (va_cwS 3 hT (ps_gS tw_ml_X2_30 tw_st_X2_requirePlace tw_in_X2 tw_co_X2_requirePlace) rfl rfl rfl ⟨by decide, by decide, by decide +kernel⟩ ⟨Nat.le_of_ble_eq_true rfl, Nat.le_of_ble_eq_true rfl⟩) preEq rfl rfl hl.1 rfl (lv_room (Nat.le_of_ble_eq_true rfl)) dX2_box_3 ⟨Nat.le_of_ble_eq_true rfl, Nat.le_of_ble_eq_true rfl⟩)) (fun _ => ?_)
  refine lv_iload hx hb dX2_box_6 (lv_at hl 4 rfl) ?_
  refine vp_callSi (va_Run.run (va_runS (As := [.int d]) (rest := []) ⟨hx, hb, hml, hown, hT⟩ (mX2_isDepth l d) (va_cwS 1 hT (ps_gS tw_ml_X2_89 tw_st_X2_isDepth tw_in_X2 tw_co_X2_isDepth) rfl rfl rfl ⟨by decide, by decide, by decide +kernel⟩ ⟨Nat.le_of_ble_eq_true rfl, Nat.le_of_ble_eq_true rfl⟩) preEq rfl rfl hl.1 rfl (lv_room (Nat.le_of_ble_eq_true rfl)) dX2_box_8 ⟨Nat.le_of_ble_eq_true rfl, Nat.le_of_ble_eq_true rfl⟩)) (fun r hr => ?_)
  obtain rfl : r = ps_bi (ps_de d) := hr
  refine ps_ifb_ne (tgt := 24) hx hb dX2_box_11 rfl (fun h11 => ?_) (fun h11 => ?_)
  · skip
    exact Bool.noConfusion (hd0.symm.trans h11)
  · skip
    exact ps_throw (ik := 72) (is := 93) (ic := 76) (text := "a depth is 0 to 4") (cls := "java/lang/IllegalArgumentException") hx hb hlt hown hT hE hZ hS (hl.1.trans hml.symm) Bundle.six_0 Bundle.six_1 Bundle.six_2 Bundle.six_5 tw_cl_X2_72 tw_in_IllegalArgumentException (by decide +kernel) (by decide +kernel) (by decide +kernel) xa_X2_IAE xb_X2_IAE xg_X2_IAE dX2_box_14 dX2_box_17 dX2_box_18 dX2_box_20 dX2_box_23 htab hlocks hK hP hD (Nat.le_of_ble_eq_true rfl) (Nat.le_of_ble_eq_true rfl) (Nat.le_of_ble_eq_true rfl) (Nat.le_of_ble_eq_true rfl) (Nat.le_of_ble_eq_true rfl) (Nat.le_of_ble_eq_true rfl)
set_option maxHeartbeats 4000000 in
set_option maxRecDepth 100000 in
theorem mX2_nearest_x1 (l : Launch) (hlt : l.stackTraces = false) (dC : Nat → ClassId) (dI : Nat → Nat → Nat) (cI cZ : ClassId) (h0 q1 q2 q3 b : Nat) (a1 a2 : Nat → Nat) (n1 n2 : Nat) (g1 g2 : ps_G) (lf le : Nat) (lh : Nat → Int32) (cx cy cz pl pw : Int32) (x y z : Int32) (hbad : ¬ (ps_co x = true ∧ ps_co y = true ∧ ps_co z = true)) (k : Int32) (sz : Nat) : vx_Met l yX2_nearest (.code yX2_nearest cX2_nearest 5 (some .int) :: ps_T) ({ frames := 7, cells := 1, slots := 6, locals := 112 }) (ps_xc (dC, dI) (ps_ty cI cZ) (ps_shW h0 q1 q2 q3 cx cy cz pl pw ++ ps_trW cI cZ q1 a1 n1 g1 ++ ps_trW cI cZ q2 a2 n2 g2 ++ ps_lsW cI q3 b lf le lh) sz [.ref h0, .int x, .int y, .int z, .int k]) ps_no (ps_XC "java/lang/IllegalArgumentException" (dC, dI) (ps_ty cI cZ) (va_A (ps_shW h0 q1 q2 q3 cx cy cz pl pw ++ ps_trW cI cZ q1 a1 n1 g1 ++ ps_trW cI cZ q2 a2 n2 g2 ++ ps_lsW cI q3 b lf le lh) sz) (ps_shW h0 q1 q2 q3 cx cy cz pl pw ++ ps_trW cI cZ q1 a1 n1 g1 ++ ps_trW cI cZ q2 a2 n2 g2 ++ ps_lsW cI q3 b lf le lh)) 1 6 (va_A (ps_shW h0 q1 q2 q3 cx cy cz pl pw ++ ps_trW cI cZ q1 a1 n1 g1 ++ ps_trW cI cZ q2 a2 n2 g2 ++ ps_lsW cI q3 b lf le lh) sz) := by
  refine vx_ofW (cc := cX2_nearest) (maxL := 5) (ret := (some .int)) (by decide) rfl ?_
  intro p e s m args below meth c s₁ B hml htab hv
  obtain ⟨rfl, hsz, hN, hE, hZ, hP, hK, hD0⟩ := hv
  have hx := B.exec
  have hb := B.bytes
  have hlocks := B.notSynchronized
  have hT : ∀ w ∈ ps_T, w.before ([.ref h0, .int x, .int y, .int z, .int k] : List Value).toArray s = true := fun w h => atoms_spec (ws := (.code yX2_nearest cX2_nearest 5 (some .int) :: ps_T)) B.pre w (List.mem_cons_of_mem _ h)
  have hown : s.vm.findClass RX2 = some m.cls := findClass_of_methodNamed B.named
  subst hsz
  have hD := hD0.self (sz := s.heap.size)
  generalize hAe : va_A (ps_shW h0 q1 q2 q3 cx cy cz pl pw ++ ps_trW cI cZ q1 a1 n1 g1 ++ ps_trW cI cZ q2 a2 n2 g2 ++ ps_lsW cI q3 b lf le lh) s.heap.size = A at hD hZ ⊢
  have hA : ∀ q : Nat, s.heap.size ≤ q → A q := fun q h => by rw [← hAe]; exact Or.inr h
  have hS : va_S A s.heap s.heap [] := va_S.rf
  have hl := lv_entry ([.ref h0, .int x, .int y, .int z, .int k]) (n := 5) (Nat.le_of_ble_eq_true rfl)
  rw [lg_entry_eq]
  generalize (lg_sl ([.ref h0, .int x, .int y, .int z, .int k]) ++ List.replicate (5 - (lg_sl ([.ref h0, .int x, .int y, .int z, .int k])).length) Slot.unset).toArray = ls at hl ⊢
  have hl : lv_has ls 5 [(0, .ref h0), (1, .int x), (2, .int y), (3, .int z), (4, .int k)] := hl
  refine lv_iload_n hx hb dX2_nearest_0 rfl (lv_at hl 1 rfl) ?_
  refine lv_iload_n hx hb dX2_nearest_1 rfl (lv_at hl 2 rfl) ?_
  refine lv_iload_n hx hb dX2_nearest_2 rfl (lv_at hl 3 rfl) ?_
  refine ps_cx (wc := ([] : va_W)) (wr := ps_shW h0 q1 q2 q3 cx cy cz pl pw ++ ps_trW cI cZ q1 a1 n1 g1 ++ ps_trW cI cZ q2 a2 n2 g2 ++ ps_lsW cI q3 b lf le lh) (w1 := ([] : va_W)) (ws2 := ps_shW h0 q1 q2 q3 cx cy cz pl pw ++ ps_trW cI cZ q1 a1 n1 g1 ++ ps_trW cI cZ q2 a2 n2 g2 ++ ps_lsW cI q3 b lf le lh) (vx_runS (As := [.int x, .int y, .int z]) (rest := []) ⟨hx, hb, hml, hown, hT⟩ (mX2_requirePlace_x l hlt dC dI cI cZ x y z hbad _) (va_cwS 3 hT (ps_gS tw_ml_X2_30 tw_st_X2_requirePlace tw_in_X2 tw_co_X2_requirePlace) rfl rfl rfl ⟨by decide, by decide, by decide +kernel⟩ ⟨Nat.le_of_ble_eq_true rfl, Nat.le_of_ble_eq_true rfl⟩) (ps_xreS (wc := ([] : va_W)) [] hN hE hZ hS hA hP hK hD rfl rfl rfl) rfl rfl hl.1 rfl (lv_room (Nat.le_of_ble_eq_true rfl)) dX2_nearest_3 ⟨Nat.le_of_ble_eq_true rfl, Nat.le_of_ble_eq_true rfl⟩) hS hA hP hD [] [0, 1, 2, 3, 4, 5, 6, 7, 8, 9, 10, 11, 12, 13, 14, 15, 16, 17, 18, 19, 20] [0, 1, 2, 3, 4, 5, 6, 7, 8, 9, 10, 11, 12, 13, 14, 15, 16, 17, 18, 19, 20] rfl rfl rfl (by decide) rfl rfl rfl (fun ce q9 H locs hP hD hS hce hcv hcl => ?_)
  exact ps_xout htab hlocks hK hP hD hS hce hcv hcl (Nat.le_of_ble_eq_true rfl) (Nat.le_of_ble_eq_true rfl)
set_option maxHeartbeats 4000000 in
set_option maxRecDepth 100000 in
theorem mX2_nearest_x2 (l : Launch) (hlt : l.stackTraces = false) (dC : Nat → ClassId) (dI : Nat → Nat → Nat) (cI cZ : ClassId) (h0 q1 q2 q3 b : Nat) (a1 a2 : Nat → Nat) (n1 n2 : Nat) (g1 g2 : ps_G) (lf le : Nat) (lh : Nat → Int32) (cx cy cz pl pw : Int32) (x y z : Int32) (hx0 : ps_co x = true) (hy0 : ps_co y = true) (hz0 : ps_co z = true) (k : Int32) (hk : k < 1) (sz : Nat) : vx_Met l yX2_nearest (.code yX2_nearest cX2_nearest 5 (some .int) :: ps_T) ({ frames := 6, cells := 1, slots := 6, locals := 90 }) (ps_xc (dC, dI) (ps_ty cI cZ) (ps_shW h0 q1 q2 q3 cx cy cz pl pw ++ ps_trW cI cZ q1 a1 n1 g1 ++ ps_trW cI cZ q2 a2 n2 g2 ++ ps_lsW cI q3 b lf le lh) sz [.ref h0, .int x, .int y, .int z, .int k]) ps_no (ps_XC "java/lang/IllegalArgumentException" (dC, dI) (ps_ty cI cZ) (va_A (ps_shW h0 q1 q2 q3 cx cy cz pl pw ++ ps_trW cI cZ q1 a1 n1 g1 ++ ps_trW cI cZ q2 a2 n2 g2 ++ ps_lsW cI q3 b lf le lh) sz) (ps_shW h0 q1 q2 q3 cx cy cz pl pw ++ ps_trW cI cZ q1 a1 n1 g1 ++ ps_trW cI cZ q2 a2 n2 g2 ++ ps_lsW cI q3 b lf le lh)) 1 6 (va_A (ps_shW h0 q1 q2 q3 cx cy cz pl pw ++ ps_trW cI cZ q1 a1 n1 g1 ++ ps_trW cI cZ q2 a2 n2 g2 ++ ps_lsW cI q3 b lf le lh) sz) := by
  refine vx_ofW (cc := cX2_nearest) (maxL := 5) (ret := (some .int)) (by decide) rfl ?_
  intro p e s m args below meth c s₁ B hml htab hv
  obtain ⟨rfl, hsz, hN, hE, hZ, hP, hK, hD0⟩ := hv
  have hx := B.exec
  have hb := B.bytes
  have hlocks := B.notSynchronized
  have hT : ∀ w ∈ ps_T, w.before ([.ref h0, .int x, .int y, .int z, .int k] : List Value).toArray s = true := fun w h => atoms_spec (ws := (.code yX2_nearest cX2_nearest 5 (some .int) :: ps_T)) B.pre w (List.mem_cons_of_mem _ h)
  have hown : s.vm.findClass RX2 = some m.cls := findClass_of_methodNamed B.named
  subst hsz
  have hD := hD0.self (sz := s.heap.size)
  generalize hAe : va_A (ps_shW h0 q1 q2 q3 cx cy cz pl pw ++ ps_trW cI cZ q1 a1 n1 g1 ++ ps_trW cI cZ q2 a2 n2 g2 ++ ps_lsW cI q3 b lf le lh) s.heap.size = A at hD hZ ⊢
  have hA : ∀ q : Nat, s.heap.size ≤ q → A q := fun q h => by rw [← hAe]; exact Or.inr h
  have hS : va_S A s.heap s.heap [] := va_S.rf
  have hl := lv_entry ([.ref h0, .int x, .int y, .int z, .int k]) (n := 5) (Nat.le_of_ble_eq_true rfl)
  rw [lg_entry_eq]
  generalize (lg_sl ([.ref h0, .int x, .int y, .int z, .int k]) ++ List.replicate (5 - (lg_sl ([.ref h0, .int x, .int y, .int z, .int k])).length) Slot.unset).toArray = ls at hl ⊢
  have hl : lv_has ls 5 [(0, .ref h0), (1, .int x), (2, .int y), (3, .int z), (4, .int k)] := hl
  refine lv_iload_n hx hb dX2_nearest_0 rfl (lv_at hl 1 rfl) ?_
  refine lv_iload_n hx hb dX2_nearest_1 rfl (lv_at hl 2 rfl) ?_
  refine lv_iload_n hx hb dX2_nearest_2 rfl (lv_at hl 3 rfl) ?_
  refine va_csv (va_Run.run (va_runS (As := [.int x, .int y, .int z]) (rest := []) ⟨hx, hb, hml, hown, hT⟩ (mX2_requirePlace_n l x y z hx0 hy0 hz0) (va_cwS 3 hT (ps_gS tw_ml_X2_30 tw_st_X2_requirePlace tw_in_X2 tw_co_X2_requirePlace) rfl rfl rfl ⟨by decide, by decide, by decide +kernel⟩ ⟨Nat.le_of_ble_eq_true rfl, Nat.le_of_ble_eq_true rfl⟩) preEq rfl rfl hl.1 rfl (lv_room (Nat.le_of_ble_eq_true rfl)) dX2_nearest_3 ⟨Nat.le_of_ble_eq_true rfl, Nat.le_of_ble_eq_true rfl⟩)) (fun _ => ?_)
  refine lv_iload hx hb dX2_nearest_6 (lv_at hl 4 rfl) ?_
  refine lv_iconst (v := 1) hx hb dX2_nearest_8 (by decide) ?_
  refine lv_icmp_ge (tgt := 22) hx hb dX2_nearest_9 rfl (fun h9 => ?_) (fun h9 => ?_)
  · skip
    exact absurd hk (Int32.not_lt.mpr h9)
  · skip
    exact ps_throw (ik := 72) (is := 111) (ic := 76) (text := "the nearest point is the first one") (cls := "java/lang/IllegalArgumentException") hx hb hlt hown hT hE hZ hS (hl.1.trans hml.symm) Bundle.six_0 Bundle.six_1 Bundle.six_2 Bundle.six_5 tw_cl_X2_72 tw_in_IllegalArgumentException (by decide +kernel) (by decide +kernel) (by decide +kernel) xa_X2_IAE xb_X2_IAE xg_X2_IAE dX2_nearest_12 dX2_nearest_15 dX2_nearest_16 dX2_nearest_18 dX2_nearest_21 htab hlocks hK hP hD (Nat.le_of_ble_eq_true rfl) (Nat.le_of_ble_eq_true rfl) (Nat.le_of_ble_eq_true rfl) (Nat.le_of_ble_eq_true rfl) (Nat.le_of_ble_eq_true rfl) (Nat.le_of_ble_eq_true rfl)
set_option maxHeartbeats 4000000 in
set_option maxRecDepth 100000 in
theorem mX2_nearest_x3 (l : Launch) (hlt : l.stackTraces = false) (dC : Nat → ClassId) (dI : Nat → Nat → Nat) (cI cZ : ClassId) (h0 q1 q2 q3 b : Nat) (a1 a2 : Nat → Nat) (n1 n2 : Nat) (g1 g2 : ps_G) (lf le : Nat) (lh : Nat → Int32) (cx cy cz pl pw : Int32) (x y z : Int32) (hx0 : ps_co x = true) (hy0 : ps_co y = true) (hz0 : ps_co z = true) (k : Int32) (hk : ¬ k < 1) (hk2 : nI n1 < k) (sz : Nat) : vx_Met l yX2_nearest (.code yX2_nearest cX2_nearest 5 (some .int) :: ps_T) ({ frames := 6, cells := 1, slots := 6, locals := 90 }) (ps_xc (dC, dI) (ps_ty cI cZ) (ps_shW h0 q1 q2 q3 cx cy cz pl pw ++ ps_trW cI cZ q1 a1 n1 g1 ++ ps_trW cI cZ q2 a2 n2 g2 ++ ps_lsW cI q3 b lf le lh) sz [.ref h0, .int x, .int y, .int z, .int k]) ps_no (ps_XC "java/util/NoSuchElementException" (dC, dI) (ps_ty cI cZ) (va_A (ps_shW h0 q1 q2 q3 cx cy cz pl pw ++ ps_trW cI cZ q1 a1 n1 g1 ++ ps_trW cI cZ q2 a2 n2 g2 ++ ps_lsW cI q3 b lf le lh) sz) (ps_shW h0 q1 q2 q3 cx cy cz pl pw ++ ps_trW cI cZ q1 a1 n1 g1 ++ ps_trW cI cZ q2 a2 n2 g2 ++ ps_lsW cI q3 b lf le lh)) 1 6 (va_A (ps_shW h0 q1 q2 q3 cx cy cz pl pw ++ ps_trW cI cZ q1 a1 n1 g1 ++ ps_trW cI cZ q2 a2 n2 g2 ++ ps_lsW cI q3 b lf le lh) sz) := by
  refine vx_ofW (cc := cX2_nearest) (maxL := 5) (ret := (some .int)) (by decide) rfl ?_
  intro p e s m args below meth c s₁ B hml htab hv
  obtain ⟨rfl, hsz, hN, hE, hZ, hP, hK, hD0⟩ := hv
  have hx := B.exec
  have hb := B.bytes
  have hlocks := B.notSynchronized
  have hT : ∀ w ∈ ps_T, w.before ([.ref h0, .int x, .int y, .int z, .int k] : List Value).toArray s = true := fun w h => atoms_spec (ws := (.code yX2_nearest cX2_nearest 5 (some .int) :: ps_T)) B.pre w (List.mem_cons_of_mem _ h)
  have hown : s.vm.findClass RX2 = some m.cls := findClass_of_methodNamed B.named
  subst hsz
  have hD := hD0.self (sz := s.heap.size)
  generalize hAe : va_A (ps_shW h0 q1 q2 q3 cx cy cz pl pw ++ ps_trW cI cZ q1 a1 n1 g1 ++ ps_trW cI cZ q2 a2 n2 g2 ++ ps_lsW cI q3 b lf le lh) s.heap.size = A at hD hZ ⊢
  have hA : ∀ q : Nat, s.heap.size ≤ q → A q := fun q h => by rw [← hAe]; exact Or.inr h
  have hS : va_S A s.heap s.heap [] := va_S.rf
  have hl := lv_entry ([.ref h0, .int x, .int y, .int z, .int k]) (n := 5) (Nat.le_of_ble_eq_true rfl)
  rw [lg_entry_eq]
  generalize (lg_sl ([.ref h0, .int x, .int y, .int z, .int k]) ++ List.replicate (5 - (lg_sl ([.ref h0, .int x, .int y, .int z, .int k])).length) Slot.unset).toArray = ls at hl ⊢
  have hl : lv_has ls 5 [(0, .ref h0), (1, .int x), (2, .int y), (3, .int z), (4, .int k)] := hl
  refine lv_iload_n hx hb dX2_nearest_0 rfl (lv_at hl 1 rfl) ?_
  refine lv_iload_n hx hb dX2_nearest_1 rfl (lv_at hl 2 rfl) ?_
  refine lv_iload_n hx hb dX2_nearest_2 rfl (lv_at hl 3 rfl) ?_
  refine va_csv (va_Run.run (va_runS (As := [.int x, .int y, .int z]) (rest := []) ⟨hx, hb, hml, hown, hT⟩ (mX2_requirePlace_n l x y z hx0 hy0 hz0) (va_cwS 3 hT (ps_gS tw_ml_X2_30 tw_st_X2_requirePlace tw_in_X2 tw_co_X2_requirePlace) rfl rfl rfl ⟨by decide, by decide, by decide +kernel⟩ ⟨Nat.le_of_ble_eq_true rfl, Nat.le_of_ble_eq_true rfl⟩) preEq rfl rfl hl.1 rfl (lv_room (Nat.le_of_ble_eq_true rfl)) dX2_nearest_3 ⟨Nat.le_of_ble_eq_true rfl, Nat.le_of_ble_eq_true rfl⟩)) (fun _ => ?_)
  refine lv_iload hx hb dX2_nearest_6 (lv_at hl 4 rfl) ?_
  refine lv_iconst (v := 1) hx hb dX2_nearest_8 (by decide) ?_
  refine lv_icmp_ge (tgt := 22) hx hb dX2_nearest_9 rfl (fun h9 => ?_) (fun h9 => ?_)
  · skip
    refine lv_iload hx hb dX2_nearest_22 (lv_at hl 4 rfl) ?_
    refine lv_aload_n hx hb dX2_nearest_24 rfl (lv_at hl 0 rfl) ?_
    refine va_get (D := (dC, dI)) (ci := 2) (v := .ref q1) (C := RX2) (T := TX2) (N := 8) hx hb hT inX2 hown hK hP 0 rfl rfl 0 (by decide) (hT _ tw_fl_X2_10) (fun _ h9 => h9) rfl dX2_nearest_25 ?_
    refine vp_callSi (va_Run.run (va_runV (C := RX1) (As := []) (rest := [.int k]) ⟨hx, hb, hml, hown, hT⟩ (mX1_size l dC dI cI cZ q1 a1 n1 g1 ) (cwV 0 hT (ps_gV tw_ml_X2_45 tw_im_X1_size tw_se_X1_size tw_in_X1 tw_co_X1_size) rfl rfl rfl ⟨rfl, by decide, by decide, by decide +kernel⟩ ⟨Nat.le_of_ble_eq_true rfl, Nat.le_of_ble_eq_true rfl⟩) (ps_preV (ci := 1) (q0 := 0) hN (hP.sub (ws' := ps_trW cI cZ q1 a1 n1 g1) [1, 2, 3, 4, 5, 6, 7, 8, 9] rfl) hK rfl rfl) rfl rfl hl.1 rfl (lv_room (Nat.le_of_ble_eq_true rfl)) dX2_nearest_28 ⟨Nat.le_of_ble_eq_true rfl, Nat.le_of_ble_eq_true rfl⟩)) (fun r hr => ?_)
    obtain rfl : r = nI n1 := hr
    refine lv_icmp_le (tgt := 44) hx hb dX2_nearest_31 rfl (fun h31 => ?_) (fun h31 => ?_)
    · skip
      exact absurd hk2 (Int32.not_lt.mpr h31)
    · skip
      exact ps_throw (ik := 113) (is := 115) (ic := 117) (text := "there are fewer points") (cls := "java/util/NoSuchElementException") hx hb hlt hown hT hE hZ hS (hl.1.trans hml.symm) rNSE_0 rNSE_1 rNSE_2 rNSE_5 tw_cl_X2_113 tw_in_NoSuchElementException (by decide +kernel) (by decide +kernel) (by decide +kernel) xa_X2_NSE xb_X2_NSE xg_X2_NSE dX2_nearest_34 dX2_nearest_37 dX2_nearest_38 dX2_nearest_40 dX2_nearest_43 htab hlocks hK hP hD (Nat.le_of_ble_eq_true rfl) (Nat.le_of_ble_eq_true rfl) (Nat.le_of_ble_eq_true rfl) (Nat.le_of_ble_eq_true rfl) (Nat.le_of_ble_eq_true rfl) (Nat.le_of_ble_eq_true rfl)
  · skip
    exact absurd (Int32.not_le.mp h9) hk
set_option maxHeartbeats 4000000 in
set_option maxRecDepth 100000 in
theorem mX2_kept_x1 (l : Launch) (hlt : l.stackTraces = false) (dC : Nat → ClassId) (dI : Nat → Nat → Nat) (cI cZ : ClassId) (h0 q1 q2 q3 b : Nat) (a1 a2 : Nat → Nat) (n1 n2 : Nat) (g1 g2 : ps_G) (lf le : Nat) (lh : Nat → Int32) (cx cy cz pl pw : Int32) (d x y z i : Int32) (hcu : ps_cu d x y z = false) (sz : Nat) : vx_Met l yX2_kept (.code yX2_kept cX2_kept 7 (some .int) :: ps_T) ({ frames := 6, cells := 1, slots := 6, locals := 90 }) (ps_xc (dC, dI) (ps_ty cI cZ) (ps_shW h0 q1 q2 q3 cx cy cz pl pw ++ ps_trW cI cZ q1 a1 n1 g1 ++ ps_trW cI cZ q2 a2 n2 g2 ++ ps_lsW cI q3 b lf le lh) sz [.ref h0, .int d, .int x, .int y, .int z, .int i]) ps_no (ps_XC "java/lang/IllegalArgumentException" (dC, dI) (ps_ty cI cZ) (va_A (ps_shW h0 q1 q2 q3 cx cy cz pl pw ++ ps_trW cI cZ q1 a1 n1 g1 ++ ps_trW cI cZ q2 a2 n2 g2 ++ ps_lsW cI q3 b lf le lh) sz) (ps_shW h0 q1 q2 q3 cx cy cz pl pw ++ ps_trW cI cZ q1 a1 n1 g1 ++ ps_trW cI cZ q2 a2 n2 g2 ++ ps_lsW cI q3 b lf le lh)) 1 6 (va_A (ps_shW h0 q1 q2 q3 cx cy cz pl pw ++ ps_trW cI cZ q1 a1 n1 g1 ++ ps_trW cI cZ q2 a2 n2 g2 ++ ps_lsW cI q3 b lf le lh) sz) := by
  refine vx_ofW (cc := cX2_kept) (maxL := 7) (ret := (some .int)) (by decide) rfl ?_
  intro p e s m args below meth c s₁ B hml htab hv
  obtain ⟨rfl, hsz, hN, hE, hZ, hP, hK, hD0⟩ := hv
  have hx := B.exec
  have hb := B.bytes
  have hlocks := B.notSynchronized
  have hT : ∀ w ∈ ps_T, w.before ([.ref h0, .int d, .int x, .int y, .int z, .int i] : List Value).toArray s = true := fun w h => atoms_spec (ws := (.code yX2_kept cX2_kept 7 (some .int) :: ps_T)) B.pre w (List.mem_cons_of_mem _ h)
  have hown : s.vm.findClass RX2 = some m.cls := findClass_of_methodNamed B.named
  subst hsz
  have hD := hD0.self (sz := s.heap.size)
  generalize hAe : va_A (ps_shW h0 q1 q2 q3 cx cy cz pl pw ++ ps_trW cI cZ q1 a1 n1 g1 ++ ps_trW cI cZ q2 a2 n2 g2 ++ ps_lsW cI q3 b lf le lh) s.heap.size = A at hD hZ ⊢
  have hA : ∀ q : Nat, s.heap.size ≤ q → A q := fun q h => by rw [← hAe]; exact Or.inr h
  have hS : va_S A s.heap s.heap [] := va_S.rf
  have hl := lv_entry ([.ref h0, .int d, .int x, .int y, .int z, .int i]) (n := 7) (Nat.le_of_ble_eq_true rfl)
  rw [lg_entry_eq]
  generalize (lg_sl ([.ref h0, .int d, .int x, .int y, .int z, .int i]) ++ List.replicate (7 - (lg_sl ([.ref h0, .int d, .int x, .int y, .int z, .int i])).length) Slot.unset).toArray = ls at hl ⊢
  have hl : lv_has ls 7 [(0, .ref h0), (1, .int d), (2, .int x), (3, .int y), (4, .int z), (5, .int i)] := hl
  refine lv_iload_n hx hb dX2_kept_0 rfl (lv_at hl 1 rfl) ?_
  refine lv_iload_n hx hb dX2_kept_1 rfl (lv_at hl 2 rfl) ?_
  refine lv_iload_n hx hb dX2_kept_2 rfl (lv_at hl 3 rfl) ?_
  refine lv_iload hx hb dX2_kept_3 (lv_at hl 4 rfl) ?_
  refine vp_callSi (va_Run.run (va_runS (As := [.int d, .int x, .int y, .int z]) (rest := []) ⟨hx, hb, hml, hown, hT⟩ (mX2_isCube l d x y z) (va_cwS 4 hT (ps_gS tw_ml_X2_122 tw_st_X2_isCube tw_in_X2 tw_co_X2_isCube) rfl rfl rfl ⟨by decide, by decide, by decide +kernel⟩ ⟨Nat.le_of_ble_eq_true rfl, Nat.le_of_ble_eq_true rfl⟩) preEq rfl rfl hl.1 rfl (lv_room (Nat.le_of_ble_eq_true rfl)) dX2_kept_5 ⟨Nat.le_of_ble_eq_true rfl, Nat.le_of_ble_eq_true rfl⟩)) (fun r hr => ?_)
  obtain rfl : r = ps_bi (ps_cu d x y z) := hr
  refine ps_ifb_ne (tgt := 21) hx hb dX2_kept_8 rfl (fun h8 => ?_) (fun h8 => ?_)
  · skip
    exact Bool.noConfusion (hcu.symm.trans h8)
  · skip
    exact ps_throw (ik := 72) (is := 125) (ic := 76) (text := "there is no such cube") (cls := "java/lang/IllegalArgumentException") hx hb hlt hown hT hE hZ hS (hl.1.trans hml.symm) Bundle.six_0 Bundle.six_1 Bundle.six_2 Bundle.six_5 tw_cl_X2_72 tw_in_IllegalArgumentException (by decide +kernel) (by decide +kernel) (by decide +kernel) xa_X2_IAE xb_X2_IAE xg_X2_IAE dX2_kept_11 dX2_kept_14 dX2_kept_15 dX2_kept_17 dX2_kept_20 htab hlocks hK hP hD (Nat.le_of_ble_eq_true rfl) (Nat.le_of_ble_eq_true rfl) (Nat.le_of_ble_eq_true rfl) (Nat.le_of_ble_eq_true rfl) (Nat.le_of_ble_eq_true rfl) (Nat.le_of_ble_eq_true rfl)
set_option maxHeartbeats 4000000 in
set_option maxRecDepth 100000 in
theorem mX2_kept_x2 (l : Launch) (hlt : l.stackTraces = false) (dC : Nat → ClassId) (dI : Nat → Nat → Nat) (cI cZ : ClassId) (h0 q1 q2 q3 b : Nat) (a1 a2 : Nat → Nat) (n1 n2 : Nat) (g1 g2 : ps_G) (lf le : Nat) (lh : Nat → Int32) (cx cy cz pl pw : Int32) (hn1 : n1 ≤ 48) (d x y z i : Int32) (hcu : ps_cu d x y z = true) (hf : ps_fp (ps_fk g1 d x y z i) n1 = none) (sz : Nat) : vx_Met l yX2_kept (.code yX2_kept cX2_kept 7 (some .int) :: ps_T) ({ frames := 6, cells := 1, slots := 6, locals := 90 }) (ps_xc (dC, dI) (ps_ty cI cZ) (ps_shW h0 q1 q2 q3 cx cy cz pl pw ++ ps_trW cI cZ q1 a1 n1 g1 ++ ps_trW cI cZ q2 a2 n2 g2 ++ ps_lsW cI q3 b lf le lh) sz [.ref h0, .int d, .int x, .int y, .int z, .int i]) ps_no (ps_XC "java/util/NoSuchElementException" (dC, dI) (ps_ty cI cZ) (va_A (ps_shW h0 q1 q2 q3 cx cy cz pl pw ++ ps_trW cI cZ q1 a1 n1 g1 ++ ps_trW cI cZ q2 a2 n2 g2 ++ ps_lsW cI q3 b lf le lh) sz) (ps_shW h0 q1 q2 q3 cx cy cz pl pw ++ ps_trW cI cZ q1 a1 n1 g1 ++ ps_trW cI cZ q2 a2 n2 g2 ++ ps_lsW cI q3 b lf le lh)) 1 6 (va_A (ps_shW h0 q1 q2 q3 cx cy cz pl pw ++ ps_trW cI cZ q1 a1 n1 g1 ++ ps_trW cI cZ q2 a2 n2 g2 ++ ps_lsW cI q3 b lf le lh) sz) := by
  refine vx_ofW (cc := cX2_kept) (maxL := 7) (ret := (some .int)) (by decide) rfl ?_
  intro p e s m args below meth c s₁ B hml htab hv
  obtain ⟨rfl, hsz, hN, hE, hZ, hP, hK, hD0⟩ := hv
  have hx := B.exec
  have hb := B.bytes
  have hlocks := B.notSynchronized
  have hT : ∀ w ∈ ps_T, w.before ([.ref h0, .int d, .int x, .int y, .int z, .int i] : List Value).toArray s = true := fun w h => atoms_spec (ws := (.code yX2_kept cX2_kept 7 (some .int) :: ps_T)) B.pre w (List.mem_cons_of_mem _ h)
  have hown : s.vm.findClass RX2 = some m.cls := findClass_of_methodNamed B.named
  subst hsz
  have hD := hD0.self (sz := s.heap.size)
  generalize hAe : va_A (ps_shW h0 q1 q2 q3 cx cy cz pl pw ++ ps_trW cI cZ q1 a1 n1 g1 ++ ps_trW cI cZ q2 a2 n2 g2 ++ ps_lsW cI q3 b lf le lh) s.heap.size = A at hD hZ ⊢
  have hA : ∀ q : Nat, s.heap.size ≤ q → A q := fun q h => by rw [← hAe]; exact Or.inr h
  have hS : va_S A s.heap s.heap [] := va_S.rf
  have hl := lv_entry ([.ref h0, .int d, .int x, .int y, .int z, .int i]) (n := 7) (Nat.le_of_ble_eq_true rfl)
  rw [lg_entry_eq]
  generalize (lg_sl ([.ref h0, .int d, .int x, .int y, .int z, .int i]) ++ List.replicate (7 - (lg_sl ([.ref h0, .int d, .int x, .int y, .int z, .int i])).length) Slot.unset).toArray = ls at hl ⊢
  have hl : lv_has ls 7 [(0, .ref h0), (1, .int d), (2, .int x), (3, .int y), (4, .int z), (5, .int i)] := hl
  refine lv_iload_n hx hb dX2_kept_0 rfl (lv_at hl 1 rfl) ?_
  refine lv_iload_n hx hb dX2_kept_1 rfl (lv_at hl 2 rfl) ?_
  refine lv_iload_n hx hb dX2_kept_2 rfl (lv_at hl 3 rfl) ?_
  refine lv_iload hx hb dX2_kept_3 (lv_at hl 4 rfl) ?_
  refine vp_callSi (va_Run.run (va_runS (As := [.int d, .int x, .int y, .int z]) (rest := []) ⟨hx, hb, hml, hown, hT⟩ (mX2_isCube l d x y z) (va_cwS 4 hT (ps_gS tw_ml_X2_122 tw_st_X2_isCube tw_in_X2 tw_co_X2_isCube) rfl rfl rfl ⟨by decide, by decide, by decide +kernel⟩ ⟨Nat.le_of_ble_eq_true rfl, Nat.le_of_ble_eq_true rfl⟩) preEq rfl rfl hl.1 rfl (lv_room (Nat.le_of_ble_eq_true rfl)) dX2_kept_5 ⟨Nat.le_of_ble_eq_true rfl, Nat.le_of_ble_eq_true rfl⟩)) (fun r hr => ?_)
  obtain rfl : r = ps_bi (ps_cu d x y z) := hr
  refine ps_ifb_ne (tgt := 21) hx hb dX2_kept_8 rfl (fun h8 => ?_) (fun h8 => ?_)
  · skip
    refine lv_aload_n hx hb dX2_kept_21 rfl (lv_at hl 0 rfl) ?_
    refine va_get (D := (dC, dI)) (ci := 2) (v := .ref q1) (C := RX2) (T := TX2) (N := 8) hx hb hT inX2 hown hK hP 0 rfl rfl 0 (by decide) (hT _ tw_fl_X2_10) (fun _ h9 => h9) rfl dX2_kept_22 ?_
    refine lv_iload_n hx hb dX2_kept_25 rfl (lv_at hl 1 rfl) ?_
    refine lv_iload_n hx hb dX2_kept_26 rfl (lv_at hl 2 rfl) ?_
    refine lv_iload_n hx hb dX2_kept_27 rfl (lv_at hl 3 rfl) ?_
    refine lv_iload hx hb dX2_kept_28 (lv_at hl 4 rfl) ?_
    refine lv_iload hx hb dX2_kept_30 (lv_at hl 5 rfl) ?_
    refine vp_callSi (va_Run.run (va_runV (C := RX1) (As := [.int d, .int x, .int y, .int z, .int i]) (rest := []) ⟨hx, hb, hml, hown, hT⟩ (mX1_findKept l dC dI cI cZ q1 a1 n1 g1 (hn1) d x y z i) (cwV 5 hT (ps_gV tw_ml_X2_127 tw_im_X1_findKept tw_se_X1_findKept tw_in_X1 tw_co_X1_findKept) rfl rfl rfl ⟨rfl, by decide, by decide, by decide +kernel⟩ ⟨Nat.le_of_ble_eq_true rfl, Nat.le_of_ble_eq_true rfl⟩) (ps_preV (ci := 1) (q0 := 0) hN (hP.sub (ws' := ps_trW cI cZ q1 a1 n1 g1) [1, 2, 3, 4, 5, 6, 7, 8, 9] rfl) hK rfl rfl) rfl rfl hl.1 rfl (lv_room (Nat.le_of_ble_eq_true rfl)) dX2_kept_32 ⟨Nat.le_of_ble_eq_true rfl, Nat.le_of_ble_eq_true rfl⟩)) (fun r hr => ?_)
    obtain rfl : r = ps_fr (ps_fp (ps_fk g1 d x y z i) n1) := hr
    rw [hf]
    show W _ _ _ _ _ _ _ _ _ _ _ _ _ _ _ (F0 _ _ _ (.int (-1) :: []))
    refine lv_istore (lv' := [(6, .int ((-1))), (0, .ref h0), (1, .int d), (2, .int x), (3, .int y), (4, .int z), (5, .int i)]) hx hb dX2_kept_35 hl (by decide) rfl (fun ls hl => ?_)
    refine lv_iload hx hb dX2_kept_37 (lv_at hl 0 rfl) ?_
    refine lv_iconst (v := (-1)) hx hb dX2_kept_39 (by decide) ?_
    refine lv_icmp_ne (tgt := 53) hx hb dX2_kept_40 rfl (fun h40 => ?_) (fun h40 => ?_)
    · skip
      exact absurd rfl h40
    · skip
      exact ps_throw (ik := 113) (is := 130) (ic := 117) (text := "the node keeps none there") (cls := "java/util/NoSuchElementException") hx hb hlt hown hT hE hZ hS (hl.1.trans hml.symm) rNSE_0 rNSE_1 rNSE_2 rNSE_5 tw_cl_X2_113 tw_in_NoSuchElementException (by decide +kernel) (by decide +kernel) (by decide +kernel) xa_X2_NSE xb_X2_NSE xg_X2_NSE dX2_kept_43 dX2_kept_46 dX2_kept_47 dX2_kept_49 dX2_kept_52 htab hlocks hK hP hD (Nat.le_of_ble_eq_true rfl) (Nat.le_of_ble_eq_true rfl) (Nat.le_of_ble_eq_true rfl) (Nat.le_of_ble_eq_true rfl) (Nat.le_of_ble_eq_true rfl) (Nat.le_of_ble_eq_true rfl)
  · skip
    exact Bool.noConfusion (hcu.symm.trans h8)
set_option maxHeartbeats 4000000 in
set_option maxRecDepth 100000 in
theorem mX2_charge_x (l : Launch) (hlt : l.stackTraces = false) (dC : Nat → ClassId) (dI : Nat → Nat → Nat) (cI cZ : ClassId) (h0 q1 q2 q3 b : Nat) (a1 a2 : Nat → Nat) (n1 n2 : Nat) (g1 g2 : ps_G) (lf le : Nat) (lh : Nat → Int32) (cx cy cz pl pw : Int32) (v : Int32) (hbad : v < 0 ∨ 99 < v) (sz : Nat) : vx_Met l yX2_charge (.code yX2_charge cX2_charge 2 none :: ps_T) ({ frames := 6, cells := 1, slots := 6, locals := 90 }) (ps_xc (dC, dI) (ps_ty cI cZ) (ps_shW h0 q1 q2 q3 cx cy cz pl pw ++ ps_trW cI cZ q1 a1 n1 g1 ++ ps_trW cI cZ q2 a2 n2 g2 ++ ps_lsW cI q3 b lf le lh) sz [.ref h0, .int v]) ps_no (ps_XC "java/lang/IllegalArgumentException" (dC, dI) (ps_ty cI cZ) (va_A (ps_shW h0 q1 q2 q3 cx cy cz pl pw ++ ps_trW cI cZ q1 a1 n1 g1 ++ ps_trW cI cZ q2 a2 n2 g2 ++ ps_lsW cI q3 b lf le lh) sz) (ps_shW h0 q1 q2 q3 cx cy cz pl pw ++ ps_trW cI cZ q1 a1 n1 g1 ++ ps_trW cI cZ q2 a2 n2 g2 ++ ps_lsW cI q3 b lf le lh)) 1 6 (va_A (ps_shW h0 q1 q2 q3 cx cy cz pl pw ++ ps_trW cI cZ q1 a1 n1 g1 ++ ps_trW cI cZ q2 a2 n2 g2 ++ ps_lsW cI q3 b lf le lh) sz) := by
  refine vx_ofW (cc := cX2_charge) (maxL := 2) (ret := none) (by decide) rfl ?_
  intro p e s m args below meth c s₁ B hml htab hv
  obtain ⟨rfl, hsz, hN, hE, hZ, hP, hK, hD0⟩ := hv
  have hx := B.exec
  have hb := B.bytes
  have hlocks := B.notSynchronized
  have hT : ∀ w ∈ ps_T, w.before ([.ref h0, .int v] : List Value).toArray s = true := fun w h => atoms_spec (ws := (.code yX2_charge cX2_charge 2 none :: ps_T)) B.pre w (List.mem_cons_of_mem _ h)
  have hown : s.vm.findClass RX2 = some m.cls := findClass_of_methodNamed B.named
  subst hsz
  have hD := hD0.self (sz := s.heap.size)
  generalize hAe : va_A (ps_shW h0 q1 q2 q3 cx cy cz pl pw ++ ps_trW cI cZ q1 a1 n1 g1 ++ ps_trW cI cZ q2 a2 n2 g2 ++ ps_lsW cI q3 b lf le lh) s.heap.size = A at hD hZ ⊢
  have hA : ∀ q : Nat, s.heap.size ≤ q → A q := fun q h => by rw [← hAe]; exact Or.inr h
  have hS : va_S A s.heap s.heap [] := va_S.rf
  have hl := lv_entry ([.ref h0, .int v]) (n := 2) (Nat.le_of_ble_eq_true rfl)
  rw [lg_entry_eq]
  generalize (lg_sl ([.ref h0, .int v]) ++ List.replicate (2 - (lg_sl ([.ref h0, .int v])).length) Slot.unset).toArray = ls at hl ⊢
  have hl : lv_has ls 2 [(0, .ref h0), (1, .int v)] := hl
  refine lv_iload_n hx hb dX2_charge_0 rfl (lv_at hl 1 rfl) ?_
  refine lv_if_lt (tgt := 10) hx hb dX2_charge_1 rfl (fun h1 => ?_) (fun h1 => ?_)
  · skip
    exact ps_throw (ik := 72) (is := 159) (ic := 76) (text := "a charge is 0 to 99") (cls := "java/lang/IllegalArgumentException") hx hb hlt hown hT hE hZ hS (hl.1.trans hml.symm) Bundle.six_0 Bundle.six_1 Bundle.six_2 Bundle.six_5 tw_cl_X2_72 tw_in_IllegalArgumentException (by decide +kernel) (by decide +kernel) (by decide +kernel) xa_X2_IAE xb_X2_IAE xg_X2_IAE dX2_charge_10 dX2_charge_13 dX2_charge_14 dX2_charge_16 dX2_charge_19 htab hlocks hK hP hD (Nat.le_of_ble_eq_true rfl) (Nat.le_of_ble_eq_true rfl) (Nat.le_of_ble_eq_true rfl) (Nat.le_of_ble_eq_true rfl) (Nat.le_of_ble_eq_true rfl) (Nat.le_of_ble_eq_true rfl)
  · skip
    refine lv_iload_n hx hb dX2_charge_4 rfl (lv_at hl 1 rfl) ?_
    refine lv_bipush (v := 99) hx hb dX2_charge_5 (by decide) ?_
    refine lv_icmp_le (tgt := 20) hx hb dX2_charge_7 rfl (fun h7 => ?_) (fun h7 => ?_)
    · skip
      exact hbad.elim (fun h => absurd h h1) (fun h => absurd h7 (Int32.not_le.mpr h))
    · skip
      exact ps_throw (ik := 72) (is := 159) (ic := 76) (text := "a charge is 0 to 99") (cls := "java/lang/IllegalArgumentException") hx hb hlt hown hT hE hZ hS (hl.1.trans hml.symm) Bundle.six_0 Bundle.six_1 Bundle.six_2 Bundle.six_5 tw_cl_X2_72 tw_in_IllegalArgumentException (by decide +kernel) (by decide +kernel) (by decide +kernel) xa_X2_IAE xb_X2_IAE xg_X2_IAE dX2_charge_10 dX2_charge_13 dX2_charge_14 dX2_charge_16 dX2_charge_19 htab hlocks hK hP hD (Nat.le_of_ble_eq_true rfl) (Nat.le_of_ble_eq_true rfl) (Nat.le_of_ble_eq_true rfl) (Nat.le_of_ble_eq_true rfl) (Nat.le_of_ble_eq_true rfl) (Nat.le_of_ble_eq_true rfl)
set_option maxHeartbeats 4000000 in
set_option maxRecDepth 100000 in
theorem mX0_takeFirst_x (l : Launch) (hlt : l.stackTraces = false) (dC : Nat → ClassId) (dI : Nat → Nat → Nat) (cI cZ : ClassId) (q3 b lf le : Nat) (lh : Nat → Int32) (hle : le ≤ 48) (hfe : le ≤ lf) (hlf : lf ≤ 48) (sz : Nat) : vx_Met l yX0_takeFirst (.code yX0_takeFirst cX0_takeFirst 2 (some .int) :: ps_T) ({ frames := 6, cells := 1, slots := 6, locals := 90 }) (ps_xc (dC, dI) (ps_ty cI cZ) (ps_lsW cI q3 b lf le lh) sz [.ref q3]) ps_no (ps_XC "java/util/NoSuchElementException" (dC, dI) (ps_ty cI cZ) (va_A (ps_lsW cI q3 b lf le lh) sz) (ps_lsW cI q3 b lf le lh)) 1 6 (va_A (ps_lsW cI q3 b lf le lh) sz) := by
  refine vx_ofW (cc := cX0_takeFirst) (maxL := 2) (ret := (some .int)) (by decide) rfl ?_
  intro p e s m args below meth c s₁ B hml htab hv
  obtain ⟨rfl, hsz, hN, hE, hZ, hP, hK, hD0⟩ := hv
  have hx := B.exec
  have hb := B.bytes
  have hlocks := B.notSynchronized
  have hT : ∀ w ∈ ps_T, w.before ([.ref q3] : List Value).toArray s = true := fun w h => atoms_spec (ws := (.code yX0_takeFirst cX0_takeFirst 2 (some .int) :: ps_T)) B.pre w (List.mem_cons_of_mem _ h)
  have hown : s.vm.findClass RX0 = some m.cls := findClass_of_methodNamed B.named
  subst hsz
  have hD := hD0.self (sz := s.heap.size)
  generalize hAe : va_A (ps_lsW cI q3 b lf le lh) s.heap.size = A at hD hZ ⊢
  have hA : ∀ q : Nat, s.heap.size ≤ q → A q := fun q h => by rw [← hAe]; exact Or.inr h
  have hS : va_S A s.heap s.heap [] := va_S.rf
  have hl := lv_entry ([.ref q3]) (n := 2) (Nat.le_of_ble_eq_true rfl)
  rw [lg_entry_eq]
  generalize (lg_sl ([.ref q3]) ++ List.replicate (2 - (lg_sl ([.ref q3])).length) Slot.unset).toArray = ls at hl ⊢
  have hl : lv_has ls 2 [(0, .ref q3)] := hl
  refine lv_aload_n hx hb dX0_takeFirst_0 rfl (lv_at hl 0 rfl) ?_
  refine va_get (D := (dC, dI)) (ci := 0) (v := .int (nI lf)) (C := RX0) (T := TX0) (N := 3) hx hb hT inX0 hown hK hP 0 rfl rfl 1 (by decide) (hT _ tw_fl_X0_19) (fun _ h9 => h9) rfl dX0_takeFirst_1 ?_
  refine lv_aload_n hx hb dX0_takeFirst_4 rfl (lv_at hl 0 rfl) ?_
  refine va_get (D := (dC, dI)) (ci := 0) (v := .int (nI le)) (C := RX0) (T := TX0) (N := 3) hx hb hT inX0 hown hK hP 0 rfl rfl 2 (by decide) (hT _ tw_fl_X0_15) (fun _ h9 => h9) rfl dX0_takeFirst_5 ?_
  refine ps_icmp_lt (tgt := 21) (a := lf) (b := le) hx hb dX0_takeFirst_8 rfl (by omega) (by omega) (fun h8 => ?_) (fun h8 => ?_)
  · skip
    exact absurd h8 (by omega)
  · skip
    exact ps_throw (ik := 22) (is := 24) (ic := 26) (text := "the listing is empty") (cls := "java/util/NoSuchElementException") hx hb hlt hown hT hE hZ hS (hl.1.trans hml.symm) rNSE_0 rNSE_1 rNSE_2 rNSE_5 tw_cl_X0_22 tw_in_NoSuchElementException (by decide +kernel) (by decide +kernel) (by decide +kernel) xa_X0_NSE xb_X0_NSE xg_X0_NSE dX0_takeFirst_11 dX0_takeFirst_14 dX0_takeFirst_15 dX0_takeFirst_17 dX0_takeFirst_20 htab hlocks hK hP hD (Nat.le_of_ble_eq_true rfl) (Nat.le_of_ble_eq_true rfl) (Nat.le_of_ble_eq_true rfl) (Nat.le_of_ble_eq_true rfl) (Nat.le_of_ble_eq_true rfl) (Nat.le_of_ble_eq_true rfl)
set_option maxHeartbeats 4000000 in
set_option maxRecDepth 100000 in
theorem mX2_next_x (l : Launch) (hlt : l.stackTraces = false) (dC : Nat → ClassId) (dI : Nat → Nat → Nat) (cI cZ : ClassId) (h0 q1 q2 q3 b : Nat) (a1 a2 : Nat → Nat) (n1 n2 : Nat) (g1 g2 : ps_G) (lf le : Nat) (lh : Nat → Int32) (cx cy cz pl pw : Int32) (hle : le ≤ 48) (hfe : le ≤ lf) (hlf : lf ≤ 48) (sz : Nat) : vx_Met l yX2_next (.code yX2_next cX2_next 1 (some .int) :: ps_T) ({ frames := 7, cells := 1, slots := 6, locals := 111 }) (ps_xc (dC, dI) (ps_ty cI cZ) (ps_shW h0 q1 q2 q3 cx cy cz pl pw ++ ps_trW cI cZ q1 a1 n1 g1 ++ ps_trW cI cZ q2 a2 n2 g2 ++ ps_lsW cI q3 b lf le lh) sz [.ref h0]) ps_no (ps_XC "java/util/NoSuchElementException" (dC, dI) (ps_ty cI cZ) (va_A (ps_shW h0 q1 q2 q3 cx cy cz pl pw ++ ps_trW cI cZ q1 a1 n1 g1 ++ ps_trW cI cZ q2 a2 n2 g2 ++ ps_lsW cI q3 b lf le lh) sz) (ps_shW h0 q1 q2 q3 cx cy cz pl pw ++ ps_trW cI cZ q1 a1 n1 g1 ++ ps_trW cI cZ q2 a2 n2 g2 ++ ps_lsW cI q3 b lf le lh)) 1 6 (va_A (ps_shW h0 q1 q2 q3 cx cy cz pl pw ++ ps_trW cI cZ q1 a1 n1 g1 ++ ps_trW cI cZ q2 a2 n2 g2 ++ ps_lsW cI q3 b lf le lh) sz) := by
  refine vx_ofW (cc := cX2_next) (maxL := 1) (ret := (some .int)) (by decide) rfl ?_
  intro p e s m args below meth c s₁ B hml htab hv
  obtain ⟨rfl, hsz, hN, hE, hZ, hP, hK, hD0⟩ := hv
  have hx := B.exec
  have hb := B.bytes
  have hlocks := B.notSynchronized
  have hT : ∀ w ∈ ps_T, w.before ([.ref h0] : List Value).toArray s = true := fun w h => atoms_spec (ws := (.code yX2_next cX2_next 1 (some .int) :: ps_T)) B.pre w (List.mem_cons_of_mem _ h)
  have hown : s.vm.findClass RX2 = some m.cls := findClass_of_methodNamed B.named
  subst hsz
  have hD := hD0.self (sz := s.heap.size)
  generalize hAe : va_A (ps_shW h0 q1 q2 q3 cx cy cz pl pw ++ ps_trW cI cZ q1 a1 n1 g1 ++ ps_trW cI cZ q2 a2 n2 g2 ++ ps_lsW cI q3 b lf le lh) s.heap.size = A at hD hZ ⊢
  have hA : ∀ q : Nat, s.heap.size ≤ q → A q := fun q h => by rw [← hAe]; exact Or.inr h
  have hS : va_S A s.heap s.heap [] := va_S.rf
  have hl := lv_entry ([.ref h0]) (n := 1) (Nat.le_of_ble_eq_true rfl)
  rw [lg_entry_eq]
  generalize (lg_sl ([.ref h0]) ++ List.replicate (1 - (lg_sl ([.ref h0])).length) Slot.unset).toArray = ls at hl ⊢
  have hl : lv_has ls 1 [(0, .ref h0)] := hl
  refine lv_aload_n hx hb dX2_next_0 rfl (lv_at hl 0 rfl) ?_
  refine va_get (D := (dC, dI)) (ci := 2) (v := .ref q3) (C := RX2) (T := TX2) (N := 8) hx hb hT inX2 hown hK hP 0 rfl rfl 2 (by decide) (hT _ tw_fl_X2_22) (fun _ h9 => h9) rfl dX2_next_1 ?_
  refine ps_cx (wc := ps_lsW cI q3 b lf le lh) (wr := ps_shW h0 q1 q2 q3 cx cy cz pl pw ++ ps_trW cI cZ q1 a1 n1 g1 ++ ps_trW cI cZ q2 a2 n2 g2) (w1 := ps_lsW cI q3 b lf le lh) (ws2 := ps_shW h0 q1 q2 q3 cx cy cz pl pw ++ ps_trW cI cZ q1 a1 n1 g1 ++ ps_trW cI cZ q2 a2 n2 g2 ++ ps_lsW cI q3 b lf le lh) (vx_runV (C := RX0) (As := []) (rest := []) ⟨hx, hb, hml, hown, hT⟩ (mX0_takeFirst_x l hlt dC dI cI cZ q3 b lf le lh hle hfe hlf _) (cwV 0 hT (ps_gV tw_ml_X2_108 tw_im_X0_takeFirst tw_se_X0_takeFirst tw_in_X0 tw_co_X0_takeFirst) rfl rfl rfl ⟨rfl, by decide, by decide, by decide +kernel⟩ ⟨Nat.le_of_ble_eq_true rfl, Nat.le_of_ble_eq_true rfl⟩) (ps_xreV (wc := ps_lsW cI q3 b lf le lh) (ci := 0) [19, 20] hN hE hZ hS hA hP hK hD rfl rfl rfl rfl rfl) rfl rfl hl.1 rfl (lv_room (Nat.le_of_ble_eq_true rfl)) dX2_next_4 ⟨Nat.le_of_ble_eq_true rfl, Nat.le_of_ble_eq_true rfl⟩) hS hA hP hD [19, 20] [0, 1, 2, 3, 4, 5, 6, 7, 8, 9, 10, 11, 12, 13, 14, 15, 16, 17, 18] [0, 1, 2, 3, 4, 5, 6, 7, 8, 9, 10, 11, 12, 13, 14, 15, 16, 17, 18, 19, 20] rfl rfl rfl (by decide) rfl rfl rfl (fun ce q9 H locs hP hD hS hce hcv hcl => ?_)
  exact ps_xout htab hlocks hK hP hD hS hce hcv hcl (Nat.le_of_ble_eq_true rfl) (Nat.le_of_ble_eq_true rfl)
set_option maxHeartbeats 4000000 in
set_option maxRecDepth 100000 in
theorem mX2_add_x1 (l : Launch) (hlt : l.stackTraces = false) (dC : Nat → ClassId) (dI : Nat → Nat → Nat) (cI cZ : ClassId) (h0 q1 q2 q3 b : Nat) (a1 a2 : Nat → Nat) (n1 n2 : Nat) (g1 g2 : ps_G) (lf le : Nat) (lh : Nat → Int32) (cx cy cz pl pw : Int32) (id x y z v : Int32) (hbad : ¬ (ps_co x = true ∧ ps_co y = true ∧ ps_co z = true)) (sz : Nat) : vx_Met l yX2_add (.code yX2_add cX2_add 6 (some .int) :: ps_T) ({ frames := 7, cells := 1, slots := 6, locals := 112 }) (ps_xc (dC, dI) (ps_ty cI cZ) (ps_shW h0 q1 q2 q3 cx cy cz pl pw ++ ps_trW cI cZ q1 a1 n1 g1 ++ ps_trW cI cZ q2 a2 n2 g2 ++ ps_lsW cI q3 b lf le lh) sz [.ref h0, .int id, .int x, .int y, .int z, .int v]) ps_no (ps_XC "java/lang/IllegalArgumentException" (dC, dI) (ps_ty cI cZ) (va_A (ps_shW h0 q1 q2 q3 cx cy cz pl pw ++ ps_trW cI cZ q1 a1 n1 g1 ++ ps_trW cI cZ q2 a2 n2 g2 ++ ps_lsW cI q3 b lf le lh) sz) (ps_shW h0 q1 q2 q3 cx cy cz pl pw ++ ps_trW cI cZ q1 a1 n1 g1 ++ ps_trW cI cZ q2 a2 n2 g2 ++ ps_lsW cI q3 b lf le lh)) 1 6 (va_A (ps_shW h0 q1 q2 q3 cx cy cz pl pw ++ ps_trW cI cZ q1 a1 n1 g1 ++ ps_trW cI cZ q2 a2 n2 g2 ++ ps_lsW cI q3 b lf le lh) sz) := by
  refine vx_ofW (cc := cX2_add) (maxL := 6) (ret := (some .int)) (by decide) rfl ?_
  intro p e s m args below meth c s₁ B hml htab hv
  obtain ⟨rfl, hsz, hN, hE, hZ, hP, hK, hD0⟩ := hv
  have hx := B.exec
  have hb := B.bytes
  have hlocks := B.notSynchronized
  have hT : ∀ w ∈ ps_T, w.before ([.ref h0, .int id, .int x, .int y, .int z, .int v] : List Value).toArray s = true := fun w h => atoms_spec (ws := (.code yX2_add cX2_add 6 (some .int) :: ps_T)) B.pre w (List.mem_cons_of_mem _ h)
  have hown : s.vm.findClass RX2 = some m.cls := findClass_of_methodNamed B.named
  subst hsz
  have hD := hD0.self (sz := s.heap.size)
  generalize hAe : va_A (ps_shW h0 q1 q2 q3 cx cy cz pl pw ++ ps_trW cI cZ q1 a1 n1 g1 ++ ps_trW cI cZ q2 a2 n2 g2 ++ ps_lsW cI q3 b lf le lh) s.heap.size = A at hD hZ ⊢
  have hA : ∀ q : Nat, s.heap.size ≤ q → A q := fun q h => by rw [← hAe]; exact Or.inr h
  have hS : va_S A s.heap s.heap [] := va_S.rf
  have hl := lv_entry ([.ref h0, .int id, .int x, .int y, .int z, .int v]) (n := 6) (Nat.le_of_ble_eq_true rfl)
  rw [lg_entry_eq]
  generalize (lg_sl ([.ref h0, .int id, .int x, .int y, .int z, .int v]) ++ List.replicate (6 - (lg_sl ([.ref h0, .int id, .int x, .int y, .int z, .int v])).length) Slot.unset).toArray = ls at hl ⊢
  have hl : lv_has ls 6 [(0, .ref h0), (1, .int id), (2, .int x), (3, .int y), (4, .int z), (5, .int v)] := hl
  refine lv_iload_n hx hb dX2_add_0 rfl (lv_at hl 2 rfl) ?_
  refine lv_iload_n hx hb dX2_add_1 rfl (lv_at hl 3 rfl) ?_
  refine lv_iload hx hb dX2_add_2 (lv_at hl 4 rfl) ?_
  refine ps_cx (wc := ([] : va_W)) (wr := ps_shW h0 q1 q2 q3 cx cy cz pl pw ++ ps_trW cI cZ q1 a1 n1 g1 ++ ps_trW cI cZ q2 a2 n2 g2 ++ ps_lsW cI q3 b lf le lh) (w1 := ([] : va_W)) (ws2 := ps_shW h0 q1 q2 q3 cx cy cz pl pw ++ ps_trW cI cZ q1 a1 n1 g1 ++ ps_trW cI cZ q2 a2 n2 g2 ++ ps_lsW cI q3 b lf le lh) (vx_runS (As := [.int x, .int y, .int z]) (rest := []) ⟨hx, hb, hml, hown, hT⟩ (mX2_requirePlace_x l hlt dC dI cI cZ x y z hbad _) (va_cwS 3 hT (ps_gS tw_ml_X2_30 tw_st_X2_requirePlace tw_in_X2 tw_co_X2_requirePlace) rfl rfl rfl ⟨by decide, by decide, by decide +kernel⟩ ⟨Nat.le_of_ble_eq_true rfl, Nat.le_of_ble_eq_true rfl⟩) (ps_xreS (wc := ([] : va_W)) [] hN hE hZ hS hA hP hK hD rfl rfl rfl) rfl rfl hl.1 rfl (lv_room (Nat.le_of_ble_eq_true rfl)) dX2_add_4 ⟨Nat.le_of_ble_eq_true rfl, Nat.le_of_ble_eq_true rfl⟩) hS hA hP hD [] [0, 1, 2, 3, 4, 5, 6, 7, 8, 9, 10, 11, 12, 13, 14, 15, 16, 17, 18, 19, 20] [0, 1, 2, 3, 4, 5, 6, 7, 8, 9, 10, 11, 12, 13, 14, 15, 16, 17, 18, 19, 20] rfl rfl rfl (by decide) rfl rfl rfl (fun ce q9 H locs hP hD hS hce hcv hcl => ?_)
  exact ps_xout htab hlocks hK hP hD hS hce hcv hcl (Nat.le_of_ble_eq_true rfl) (Nat.le_of_ble_eq_true rfl)
set_option maxHeartbeats 4000000 in
set_option maxRecDepth 100000 in
theorem mX2_add_x2 (l : Launch) (hlt : l.stackTraces = false) (dC : Nat → ClassId) (dI : Nat → Nat → Nat) (cI cZ : ClassId) (h0 q1 q2 q3 b : Nat) (a1 a2 : Nat → Nat) (n1 n2 : Nat) (g1 g2 : ps_G) (lf le : Nat) (lh : Nat → Int32) (cx cy cz pl pw : Int32) (hn1 : n1 ≤ 48) (id x y z v : Int32) (hx0 : ps_co x = true) (hy0 : ps_co y = true) (hz0 : ps_co z = true) (hbad : ps_fi (g1 0) id n1 = none → n1 = 48) (sz : Nat) : vx_Met l yX2_add (.code yX2_add cX2_add 6 (some .int) :: ps_T) ({ frames := 6, cells := 1, slots := 6, locals := 90 }) (ps_xc (dC, dI) (ps_ty cI cZ) (ps_shW h0 q1 q2 q3 cx cy cz pl pw ++ ps_trW cI cZ q1 a1 n1 g1 ++ ps_trW cI cZ q2 a2 n2 g2 ++ ps_lsW cI q3 b lf le lh) sz [.ref h0, .int id, .int x, .int y, .int z, .int v]) ps_no (ps_XC "java/lang/IllegalStateException" (dC, dI) (ps_ty cI cZ) (va_A (ps_shW h0 q1 q2 q3 cx cy cz pl pw ++ ps_trW cI cZ q1 a1 n1 g1 ++ ps_trW cI cZ q2 a2 n2 g2 ++ ps_lsW cI q3 b lf le lh) sz) (ps_shW h0 q1 q2 q3 cx cy cz pl pw ++ ps_trW cI cZ q1 a1 n1 g1 ++ ps_trW cI cZ q2 a2 n2 g2 ++ ps_lsW cI q3 b lf le lh)) 1 6 (va_A (ps_shW h0 q1 q2 q3 cx cy cz pl pw ++ ps_trW cI cZ q1 a1 n1 g1 ++ ps_trW cI cZ q2 a2 n2 g2 ++ ps_lsW cI q3 b lf le lh) sz) := by
  refine vx_ofW (cc := cX2_add) (maxL := 6) (ret := (some .int)) (by decide) rfl ?_
  intro p e s m args below meth c s₁ B hml htab hv
  obtain ⟨rfl, hsz, hN, hE, hZ, hP, hK, hD0⟩ := hv
  have hx := B.exec
  have hb := B.bytes
  have hlocks := B.notSynchronized
  have hT : ∀ w ∈ ps_T, w.before ([.ref h0, .int id, .int x, .int y, .int z, .int v] : List Value).toArray s = true := fun w h => atoms_spec (ws := (.code yX2_add cX2_add 6 (some .int) :: ps_T)) B.pre w (List.mem_cons_of_mem _ h)
  have hown : s.vm.findClass RX2 = some m.cls := findClass_of_methodNamed B.named
  subst hsz
  have hD := hD0.self (sz := s.heap.size)
  generalize hAe : va_A (ps_shW h0 q1 q2 q3 cx cy cz pl pw ++ ps_trW cI cZ q1 a1 n1 g1 ++ ps_trW cI cZ q2 a2 n2 g2 ++ ps_lsW cI q3 b lf le lh) s.heap.size = A at hD hZ ⊢
  have hA : ∀ q : Nat, s.heap.size ≤ q → A q := fun q h => by rw [← hAe]; exact Or.inr h
  have hS : va_S A s.heap s.heap [] := va_S.rf
  have hl := lv_entry ([.ref h0, .int id, .int x, .int y, .int z, .int v]) (n := 6) (Nat.le_of_ble_eq_true rfl)
  rw [lg_entry_eq]
  generalize (lg_sl ([.ref h0, .int id, .int x, .int y, .int z, .int v]) ++ List.replicate (6 - (lg_sl ([.ref h0, .int id, .int x, .int y, .int z, .int v])).length) Slot.unset).toArray = ls at hl ⊢
  have hl : lv_has ls 6 [(0, .ref h0), (1, .int id), (2, .int x), (3, .int y), (4, .int z), (5, .int v)] := hl
  refine lv_iload_n hx hb dX2_add_0 rfl (lv_at hl 2 rfl) ?_
  refine lv_iload_n hx hb dX2_add_1 rfl (lv_at hl 3 rfl) ?_
  refine lv_iload hx hb dX2_add_2 (lv_at hl 4 rfl) ?_
  refine va_csv (va_Run.run (va_runS (As := [.int x, .int y, .int z]) (rest := []) ⟨hx, hb, hml, hown, hT⟩ (mX2_requirePlace_n l x y z hx0 hy0 hz0) (va_cwS 3 hT (ps_gS tw_ml_X2_30 tw_st_X2_requirePlace tw_in_X2 tw_co_X2_requirePlace) rfl rfl rfl ⟨by decide, by decide, by decide +kernel⟩ ⟨Nat.le_of_ble_eq_true rfl, Nat.le_of_ble_eq_true rfl⟩) preEq rfl rfl hl.1 rfl (lv_room (Nat.le_of_ble_eq_true rfl)) dX2_add_4 ⟨Nat.le_of_ble_eq_true rfl, Nat.le_of_ble_eq_true rfl⟩)) (fun _ => ?_)
  refine lv_aload_n hx hb dX2_add_7 rfl (lv_at hl 0 rfl) ?_
  refine va_get (D := (dC, dI)) (ci := 2) (v := .ref q1) (C := RX2) (T := TX2) (N := 8) hx hb hT inX2 hown hK hP 0 rfl rfl 0 (by decide) (hT _ tw_fl_X2_10) (fun _ h9 => h9) rfl dX2_add_8 ?_
  refine lv_iload_n hx hb dX2_add_11 rfl (lv_at hl 1 rfl) ?_
  refine vp_callSi (va_Run.run (va_runV (C := RX1) (As := [.int id]) (rest := []) ⟨hx, hb, hml, hown, hT⟩ (mX1_find l dC dI cI cZ q1 a1 n1 g1 (hn1) id) (cwV 1 hT (ps_gV tw_ml_X2_34 tw_im_X1_find tw_se_X1_find tw_in_X1 tw_co_X1_find) rfl rfl rfl ⟨rfl, by decide, by decide, by decide +kernel⟩ ⟨Nat.le_of_ble_eq_true rfl, Nat.le_of_ble_eq_true rfl⟩) (ps_preV (ci := 1) (q0 := 0) hN (hP.sub (ws' := ps_trW cI cZ q1 a1 n1 g1) [1, 2, 3, 4, 5, 6, 7, 8, 9] rfl) hK rfl rfl) rfl rfl hl.1 rfl (lv_room (Nat.le_of_ble_eq_true rfl)) dX2_add_12 ⟨Nat.le_of_ble_eq_true rfl, Nat.le_of_ble_eq_true rfl⟩)) (fun r hr => ?_)
  obtain rfl : r = ps_fr (ps_fi (g1 0) id n1) := hr
  rcases hf : ps_fi (g1 0) id n1 with _ | w
  · skip
    show W _ _ _ _ _ _ _ _ _ _ _ _ _ _ _ (F0 _ _ _ (.int (-1) :: []))
    have h48 := hbad hf
    refine lv_iconst (v := (-1)) hx hb dX2_add_15 (by decide) ?_
    refine lv_icmp_eq (tgt := 29) hx hb dX2_add_16 rfl (fun h16 => ?_) (fun h16 => ?_)
    · skip
      refine lv_aload_n hx hb dX2_add_29 rfl (lv_at hl 0 rfl) ?_
      refine va_get (D := (dC, dI)) (ci := 2) (v := .ref q1) (C := RX2) (T := TX2) (N := 8) hx hb hT inX2 hown hK hP 0 rfl rfl 0 (by decide) (hT _ tw_fl_X2_10) (fun _ h9 => h9) rfl dX2_add_30 ?_
      refine vp_callSi (va_Run.run (va_runV (C := RX1) (As := []) (rest := []) ⟨hx, hb, hml, hown, hT⟩ (mX1_size l dC dI cI cZ q1 a1 n1 g1 ) (cwV 0 hT (ps_gV tw_ml_X2_45 tw_im_X1_size tw_se_X1_size tw_in_X1 tw_co_X1_size) rfl rfl rfl ⟨rfl, by decide, by decide, by decide +kernel⟩ ⟨Nat.le_of_ble_eq_true rfl, Nat.le_of_ble_eq_true rfl⟩) (ps_preV (ci := 1) (q0 := 0) hN (hP.sub (ws' := ps_trW cI cZ q1 a1 n1 g1) [1, 2, 3, 4, 5, 6, 7, 8, 9] rfl) hK rfl rfl) rfl rfl hl.1 rfl (lv_room (Nat.le_of_ble_eq_true rfl)) dX2_add_33 ⟨Nat.le_of_ble_eq_true rfl, Nat.le_of_ble_eq_true rfl⟩)) (fun r hr => ?_)
      obtain rfl : r = nI n1 := hr
      refine lv_bipush (v := 48) hx hb dX2_add_36 (by decide) ?_
      refine ps_icmp_lt (tgt := 51) (a := n1) (b := 48) hx hb dX2_add_38 rfl (by omega) (by omega) (fun h38 => ?_) (fun h38 => ?_)
      · skip
        exact absurd h38 (by omega)
      · skip
        exact ps_throw (ik := 38) (is := 49) (ic := 42) (text := "there are 48 points") (cls := "java/lang/IllegalStateException") hx hb hlt hown hT hE hZ hS (hl.1.trans hml.symm) Bundle.six_0 Bundle.six_1 Bundle.six_2 Bundle.six_5 tw_cl_X2_38 tw_in_IllegalStateException (by decide +kernel) (by decide +kernel) (by decide +kernel) xa_X2_ISE xb_X2_ISE xg_X2_ISE dX2_add_41 dX2_add_44 dX2_add_45 dX2_add_47 dX2_add_50 htab hlocks hK hP hD (Nat.le_of_ble_eq_true rfl) (Nat.le_of_ble_eq_true rfl) (Nat.le_of_ble_eq_true rfl) (Nat.le_of_ble_eq_true rfl) (Nat.le_of_ble_eq_true rfl) (Nat.le_of_ble_eq_true rfl)
    · skip
      exact absurd rfl h16
  · skip
    show W _ _ _ _ _ _ _ _ _ _ _ _ _ _ _ (F0 _ _ _ (.int (nI w) :: []))
    have hw : w < 48 := Nat.lt_of_lt_of_le (ps_fi_spec hf).1 hn1
    refine lv_iconst (v := (-1)) hx hb dX2_add_15 (by decide) ?_
    refine lv_icmp_eq (tgt := 29) hx hb dX2_add_16 rfl (fun h16 => ?_) (fun h16 => ?_)
    · skip
      exact absurd h16 (ps_nI_m1 (by omega))
    · skip
      exact ps_throw (ik := 38) (is := 40) (ic := 42) (text := "there is a point with that id") (cls := "java/lang/IllegalStateException") hx hb hlt hown hT hE hZ hS (hl.1.trans hml.symm) Bundle.six_0 Bundle.six_1 Bundle.six_2 Bundle.six_5 tw_cl_X2_38 tw_in_IllegalStateException (by decide +kernel) (by decide +kernel) (by decide +kernel) xa_X2_ISE xb_X2_ISE xg_X2_ISE dX2_add_19 dX2_add_22 dX2_add_23 dX2_add_25 dX2_add_28 htab hlocks hK hP hD (Nat.le_of_ble_eq_true rfl) (Nat.le_of_ble_eq_true rfl) (Nat.le_of_ble_eq_true rfl) (Nat.le_of_ble_eq_true rfl) (Nat.le_of_ble_eq_true rfl) (Nat.le_of_ble_eq_true rfl)
