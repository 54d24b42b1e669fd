/-! contracts: the shelf, where nothing is thrown. By wip/shelf.py. -/
theorem ps_64 {x : Nat} (h : x ≤ 64) : (64 : Int32) - nI x = nI (64 - x) := pk_sub (a := 64) h
theorem ps_fp_spec {P : Nat → Bool} {n k : Nat} (h : ps_fp P n = some k) : k < n ∧ P k = true ∧ ∀ j, j < k → P j = false := by
  unfold ps_fp at h
  rw [List.find?_range_eq_some] at h
  obtain ⟨h1, h2, h3⟩ := h
  refine ⟨by simpa using h2, h1, fun j hj => ?_⟩
  simpa using h3 j hj
theorem ps_fp_spec0 {P : Nat → Bool} {n : Nat} (h : ps_fp P n = none) : ∀ j, j < n → P j = false := by
  unfold ps_fp at h
  rw [List.find?_eq_none] at h
  intro j hj
  simpa using h j (List.mem_range.mpr hj)
set_option maxHeartbeats 4000000 in
set_option maxRecDepth 100000 in
theorem mX2_requirePlace_n (l : Launch) (x y z : Int32) (hx0 : ps_co x = true) (hy0 : ps_co y = true) (hz0 : ps_co z = true) : Met l yX2_requirePlace (.code yX2_requirePlace cX2_requirePlace 3 none :: ps_T) ({ frames := 1, cells := 0, slots := 0, locals := 20 }) (fun av _ => av = ([.int x, .int y, .int z] : List Value).toArray) (va_Sv (fun _ => True)) 0 0 (fun _ => False) := by
  refine Met.ofW (cc := cX2_requirePlace) (maxL := 3) (ret := none) (by decide) rfl ?_
  intro p e s m args below meth c s₁ B hml hv
  subst hv
  have hx := B.exec
  have hb := B.bytes
  have hr := B.returns
  have hlocks := B.notSynchronized
  have hT : ∀ w ∈ ps_T, w.before ([.int x, .int y, .int z] : List Value).toArray s = true := fun w h => atoms_spec (ws := (.code yX2_requirePlace cX2_requirePlace 3 none :: ps_T)) B.pre w (List.mem_cons_of_mem _ h)
  have hown : s.vm.findClass RX2 = some m.cls := findClass_of_methodNamed B.named
  have hl := lv_entry ([.int x, .int y, .int z]) (n := 3) (Nat.le_of_ble_eq_true rfl)
  rw [lg_entry_eq]
  generalize (lg_sl ([.int x, .int y, .int z]) ++ List.replicate (3 - (lg_sl ([.int x, .int y, .int z])).length) Slot.unset).toArray = ls at hl ⊢
  have hl : lv_has ls 3 [(0, .int x), (1, .int y), (2, .int z)] := hl
  refine lv_iload_n hx hb dX2_requirePlace_0 rfl (lv_at hl 0 rfl) ?_
  refine vp_callSi (va_Run.run (va_runS (As := [.int x]) (rest := []) ⟨hx, hb, hml, hown, hT⟩ (mX2_isCoordinate l x) (va_cwS 1 hT (ps_gS tw_ml_X2_177 tw_st_X2_isCoordinate tw_in_X2 tw_co_X2_isCoordinate) rfl rfl rfl ⟨by decide, by decide, by decide +kernel⟩ ⟨Nat.le_of_ble_eq_true rfl, Nat.le_of_ble_eq_true rfl⟩) preEq rfl rfl hl.1 rfl (lv_room (Nat.le_of_ble_eq_true rfl)) dX2_requirePlace_1 ⟨Nat.le_of_ble_eq_true rfl, Nat.le_of_ble_eq_true rfl⟩)) (fun r hr => ?_)
  obtain rfl : r = ps_bi (ps_co x) := hr
  refine ps_ifb_eq (tgt := 21) hx hb dX2_requirePlace_4 rfl (fun h4 => ?_) (fun h4 => ?_)
  · skip
    exact Bool.noConfusion (hx0.symm.trans h4)
  · skip
    refine lv_iload_n hx hb dX2_requirePlace_7 rfl (lv_at hl 1 rfl) ?_
    refine vp_callSi (va_Run.run (va_runS (As := [.int y]) (rest := []) ⟨hx, hb, hml, hown, hT⟩ (mX2_isCoordinate l y) (va_cwS 1 hT (ps_gS tw_ml_X2_177 tw_st_X2_isCoordinate tw_in_X2 tw_co_X2_isCoordinate) rfl rfl rfl ⟨by decide, by decide, by decide +kernel⟩ ⟨Nat.le_of_ble_eq_true rfl, Nat.le_of_ble_eq_true rfl⟩) preEq rfl rfl hl.1 rfl (lv_room (Nat.le_of_ble_eq_true rfl)) dX2_requirePlace_8 ⟨Nat.le_of_ble_eq_true rfl, Nat.le_of_ble_eq_true rfl⟩)) (fun r hr => ?_)
    obtain rfl : r = ps_bi (ps_co y) := hr
    refine ps_ifb_eq (tgt := 21) hx hb dX2_requirePlace_11 rfl (fun h11 => ?_) (fun h11 => ?_)
    · skip
      exact Bool.noConfusion (hy0.symm.trans h11)
    · skip
      refine lv_iload_n hx hb dX2_requirePlace_14 rfl (lv_at hl 2 rfl) ?_
      refine vp_callSi (va_Run.run (va_runS (As := [.int z]) (rest := []) ⟨hx, hb, hml, hown, hT⟩ (mX2_isCoordinate l z) (va_cwS 1 hT (ps_gS tw_ml_X2_177 tw_st_X2_isCoordinate tw_in_X2 tw_co_X2_isCoordinate) rfl rfl rfl ⟨by decide, by decide, by decide +kernel⟩ ⟨Nat.le_of_ble_eq_true rfl, Nat.le_of_ble_eq_true rfl⟩) preEq rfl rfl hl.1 rfl (lv_room (Nat.le_of_ble_eq_true rfl)) dX2_requirePlace_15 ⟨Nat.le_of_ble_eq_true rfl, Nat.le_of_ble_eq_true rfl⟩)) (fun r hr => ?_)
      obtain rfl : r = ps_bi (ps_co z) := hr
      refine ps_ifb_ne (tgt := 31) hx hb dX2_requirePlace_18 rfl (fun h18 => ?_) (fun h18 => ?_)
      · skip
        exact W.vret hx hb hr (fun t ht hW => ⟨rfl, trivial, ht⟩) (fun q h => by cases h) dX2_requirePlace_31
      · skip
        exact Bool.noConfusion (hz0.symm.trans h18)
set_option maxHeartbeats 4000000 in
set_option maxRecDepth 100000 in
theorem mX2_rank (l : Launch) (dC : Nat → ClassId) (dI : Nat → Nat → Nat) (cI cZ : ClassId) (h0 q1 q2 q3 b : Nat) (a1 a2 : Nat → Nat) (n1 n2 : Nat) (g1 g2 : ps_G) (lf le : Nat) (lh : Nat → Int32) (cx cy cz pl pw : Int32) (v : Int32) : Met l yX2_rank (.code yX2_rank cX2_rank 2 (some .long) :: ps_T) ({ frames := 1, cells := 0, slots := 0, locals := 22 }) (ps_pc (dC, dI) (ps_ty cI cZ) (ps_shW h0 q1 q2 q3 cx cy cz pl pw ++ ps_trW cI cZ q1 a1 n1 g1 ++ ps_trW cI cZ q2 a2 n2 g2 ++ ps_lsW cI q3 b lf le lh) [.ref h0, .int v]) (vp_Sl (fun r => r = lN (ps_rk v))) 0 0 (fun _ => False) := by
  refine Met.ofW (cc := cX2_rank) (maxL := 2) (ret := (some .long)) (by decide) rfl ?_
  intro p e s m args below meth c s₁ B hml hv
  obtain ⟨rfl, hN, hP, hK⟩ := hv
  have hx := B.exec
  have hb := B.bytes
  have hr := B.returns
  have hlocks := B.notSynchronized
  have hT : ∀ w ∈ ps_T, w.before ([.ref h0, .int v] : List Value).toArray s = true := fun w h => atoms_spec (ws := (.code yX2_rank cX2_rank 2 (some .long) :: ps_T)) B.pre w (List.mem_cons_of_mem _ h)
  have hown : s.vm.findClass RX2 = some m.cls := findClass_of_methodNamed B.named
  have hl := lv_entry ([.ref h0, .int v]) (n := 2) (Nat.le_of_ble_eq_true rfl)
  rw [lg_entry_eq]
  generalize (lg_sl ([.ref h0, .int v]) ++ List.replicate (2 - (lg_sl ([.ref h0, .int v])).length) Slot.unset).toArray = ls at hl ⊢
  have hl : lv_has ls 2 [(0, .ref h0), (1, .int v)] := hl
  refine lv_iload_n hx hb dX2_rank_0 rfl (lv_at hl 1 rfl) ?_
  refine vp_callSl (va_Run.run (va_runS (As := [.int v]) (rest := []) ⟨hx, hb, hml, hown, hT⟩ (mX2_rankOf l v) (va_cwS 1 hT (ps_gS tw_ml_X2_170 tw_st_X2_rankOf tw_in_X2 tw_co_X2_rankOf) rfl rfl rfl ⟨by decide, by decide, by decide +kernel⟩ ⟨Nat.le_of_ble_eq_true rfl, Nat.le_of_ble_eq_true rfl⟩) preEq rfl rfl hl.1 rfl (lv_room (Nat.le_of_ble_eq_true rfl)) dX2_rank_1 ⟨Nat.le_of_ble_eq_true rfl, Nat.le_of_ble_eq_true rfl⟩)) (fun r hr => ?_)
  obtain rfl : r = lN (ps_rk v) := hr
  exact W.lret (v := lN (ps_rk v)) hx hb hr (fun t ht hW => ⟨lN (ps_rk v), rfl, rfl, ht⟩) (fun q h => by cases h) dX2_rank_4
set_option maxHeartbeats 4000000 in
set_option maxRecDepth 100000 in
theorem mX2_freePages (l : Launch) (dC : Nat → ClassId) (dI : Nat → Nat → Nat) (cI cZ : ClassId) (h0 q1 q2 q3 b : Nat) (a1 a2 : Nat → Nat) (n1 n2 : Nat) (g1 g2 : ps_G) (lf le : Nat) (lh : Nat → Int32) (cx cy cz pl pw : Int32) (hn2 : n2 ≤ 48) : Met l yX2_freePages (.code yX2_freePages cX2_freePages 1 (some .int) :: ps_T) ({ frames := 2, cells := 0, slots := 0, locals := 43 }) (ps_pc (dC, dI) (ps_ty cI cZ) (ps_shW h0 q1 q2 q3 cx cy cz pl pw ++ ps_trW cI cZ q1 a1 n1 g1 ++ ps_trW cI cZ q2 a2 n2 g2 ++ ps_lsW cI q3 b lf le lh) [.ref h0]) (vp_Si (fun r => r = nI (64 - ps_cn (fun k => ps_bp (g2 6 k)) n2))) 0 0 (fun _ => False) := by
  refine Met.ofW (cc := cX2_freePages) (maxL := 1) (ret := (some .int)) (by decide) rfl ?_
  intro p e s m args below meth c s₁ B hml hv
  obtain ⟨rfl, hN, hP, hK⟩ := hv
  have hx := B.exec
  have hb := B.bytes
  have hr := B.returns
  have hlocks := B.notSynchronized
  have hT : ∀ w ∈ ps_T, w.before ([.ref h0] : List Value).toArray s = true := fun w h => atoms_spec (ws := (.code yX2_freePages cX2_freePages 1 (some .int) :: ps_T)) B.pre w (List.mem_cons_of_mem _ h)
  have hown : s.vm.findClass RX2 = some m.cls := findClass_of_methodNamed B.named
  have hl := lv_entry ([.ref h0]) (n := 1) (Nat.le_of_ble_eq_true rfl)
  rw [lg_entry_eq]
  generalize (lg_sl ([.ref h0]) ++ List.replicate (1 - (lg_sl ([.ref h0])).length) Slot.unset).toArray = ls at hl ⊢
  have hl : lv_has ls 1 [(0, .ref h0)] := hl
  refine lv_bipush (v := 64) hx hb dX2_freePages_0 (by decide) ?_
  refine lv_aload_n hx hb dX2_freePages_2 rfl (lv_at hl 0 rfl) ?_
  refine va_get (D := (dC, dI)) (ci := 2) (v := .ref q2) (C := RX2) (T := TX2) (N := 8) hx hb hT inX2 hown hK hP 0 rfl rfl 1 (by decide) (hT _ tw_fl_X2_16) (fun _ h9 => h9) rfl dX2_freePages_3 ?_
  refine vp_callSi (va_Run.run (va_runV (C := RX1) (As := []) (rest := [.int 64]) ⟨hx, hb, hml, hown, hT⟩ (mX1_pages l dC dI cI cZ q2 a2 n2 g2 (hn2)) (cwV 0 hT (ps_gV tw_ml_X2_210 tw_im_X1_pages tw_se_X1_pages tw_in_X1 tw_co_X1_pages) rfl rfl rfl ⟨rfl, by decide, by decide, by decide +kernel⟩ ⟨Nat.le_of_ble_eq_true rfl, Nat.le_of_ble_eq_true rfl⟩) (ps_preV (ci := 1) (q0 := 0) hN (hP.sub (ws' := ps_trW cI cZ q2 a2 n2 g2) [10, 11, 12, 13, 14, 15, 16, 17, 18] rfl) hK rfl rfl) rfl rfl hl.1 rfl (lv_room (Nat.le_of_ble_eq_true rfl)) dX2_freePages_6 ⟨Nat.le_of_ble_eq_true rfl, Nat.le_of_ble_eq_true rfl⟩)) (fun r hr => ?_)
  obtain rfl : r = nI (ps_cn (fun k => ps_bp (g2 6 k)) n2) := hr
  refine lv_isub hx hb dX2_freePages_9 ?_
  rw [ps_64 (Nat.le_trans (ps_cn_le _ _) (by omega))]
  exact W.iret (v := nI (64 - ps_cn (fun k => ps_bp (g2 6 k)) n2)) hx hb hr (fun t ht hW => ⟨nI (64 - ps_cn (fun k => ps_bp (g2 6 k)) n2), rfl, rfl, ht⟩) (fun q h => by cases h) dX2_freePages_10
set_option maxHeartbeats 4000000 in
set_option maxRecDepth 100000 in
theorem mX2_isInBox (l : Launch) (dC : Nat → ClassId) (dI : Nat → Nat → Nat) (cI cZ : ClassId) (h0 q1 q2 q3 b : Nat) (a1 a2 : Nat → Nat) (n1 n2 : Nat) (g1 g2 : ps_G) (lf le : Nat) (lh : Nat → Int32) (cx cy cz pl pw : Int32) (k : Nat) (hk : k < 48) (x y z : Int32) : Met l yX2_isInBox (.code yX2_isInBox cX2_isInBox 5 (some .boolean) :: ps_T) ({ frames := 2, cells := 0, slots := 0, locals := 43 }) (ps_pc (dC, dI) (ps_ty cI cZ) (ps_shW h0 q1 q2 q3 cx cy cz pl pw ++ ps_trW cI cZ q1 a1 n1 g1 ++ ps_trW cI cZ q2 a2 n2 g2 ++ ps_lsW cI q3 b lf le lh) [.ref h0, .int (nI k), .int x, .int y, .int z]) (vp_Si (fun r => r = ps_bi (ps_ib g1 cx cy cz x y z k))) 0 0 (fun _ => False) := by
  refine Met.ofW (cc := cX2_isInBox) (maxL := 5) (ret := (some .boolean)) (by decide) rfl ?_
  intro p e s m args below meth c s₁ B hml hv
  obtain ⟨rfl, hN, hP, hK⟩ := hv
  have hx := B.exec
  have hb := B.bytes
  have hr := B.returns
  have hlocks := B.notSynchronized
  have hT : ∀ w ∈ ps_T, w.before ([.ref h0, .int (nI k), .int x, .int y, .int z] : List Value).toArray s = true := fun w h => atoms_spec (ws := (.code yX2_isInBox cX2_isInBox 5 (some .boolean) :: ps_T)) B.pre w (List.mem_cons_of_mem _ h)
  have hown : s.vm.findClass RX2 = some m.cls := findClass_of_methodNamed B.named
  have hl := lv_entry ([.ref h0, .int (nI k), .int x, .int y, .int z]) (n := 5) (Nat.le_of_ble_eq_true rfl)
  rw [lg_entry_eq]
  generalize (lg_sl ([.ref h0, .int (nI k), .int x, .int y, .int z]) ++ List.replicate (5 - (lg_sl ([.ref h0, .int (nI k), .int x, .int y, .int z])).length) Slot.unset).toArray = ls at hl ⊢
  have hl : lv_has ls 5 [(0, .ref h0), (1, .int (nI k)), (2, .int x), (3, .int y), (4, .int z)] := hl
  refine lv_aload_n hx hb dX2_isInBox_0 rfl (lv_at hl 0 rfl) ?_
  refine va_get (D := (dC, dI)) (ci := 2) (v := .int cx) (C := RX2) (T := TX2) (N := 8) hx hb hT inX2 hown hK hP 0 rfl rfl 3 (by decide) (hT _ tw_fl_X2_195) (fun _ h9 => h9) rfl dX2_isInBox_1 ?_
  refine lv_aload_n hx hb dX2_isInBox_4 rfl (lv_at hl 0 rfl) ?_
  refine va_get (D := (dC, dI)) (ci := 2) (v := .ref q1) (C := RX2) (T := TX2) (N := 8) hx hb hT inX2 hown hK hP 0 rfl rfl 0 (by decide) (hT _ tw_fl_X2_10) (fun _ h9 => h9) rfl dX2_isInBox_5 ?_
  refine lv_iload_n hx hb dX2_isInBox_8 rfl (lv_at hl 1 rfl) ?_
  refine vp_callSi (va_Run.run (va_runV (C := RX1) (As := [.int (nI k)]) (rest := [.int cx]) ⟨hx, hb, hml, hown, hT⟩ (mX1_xOf l dC dI cI cZ q1 a1 n1 g1 k (by omega)) (cwV 1 hT (ps_gV tw_ml_X2_77 tw_im_X1_xOf tw_se_X1_xOf tw_in_X1 tw_co_X1_xOf) rfl rfl rfl ⟨rfl, by decide, by decide, by decide +kernel⟩ ⟨Nat.le_of_ble_eq_true rfl, Nat.le_of_ble_eq_true rfl⟩) (ps_preV (ci := 1) (q0 := 0) hN (hP.sub (ws' := ps_trW cI cZ q1 a1 n1 g1) [1, 2, 3, 4, 5, 6, 7, 8, 9] rfl) hK rfl rfl) rfl rfl hl.1 rfl (lv_room (Nat.le_of_ble_eq_true rfl)) dX2_isInBox_9 ⟨Nat.le_of_ble_eq_true rfl, Nat.le_of_ble_eq_true rfl⟩)) (fun r hr => ?_)
  obtain rfl : r = g1 1 k := hr
  refine lv_iload_n hx hb dX2_isInBox_12 rfl (lv_at hl 2 rfl) ?_
  refine vp_callSi (va_Run.run (va_runS (As := [.int cx, .int (g1 1 k), .int x]) (rest := []) ⟨hx, hb, hml, hown, hT⟩ (mX2_isBetween l cx (g1 1 k) x) (va_cwS 3 hT (ps_gS tw_ml_X2_198 tw_st_X2_isBetween tw_in_X2 tw_co_X2_isBetween) rfl rfl rfl ⟨by decide, by decide, by decide +kernel⟩ ⟨Nat.le_of_ble_eq_true rfl, Nat.le_of_ble_eq_true rfl⟩) preEq rfl rfl hl.1 rfl (lv_room (Nat.le_of_ble_eq_true rfl)) dX2_isInBox_13 ⟨Nat.le_of_ble_eq_true rfl, Nat.le_of_ble_eq_true rfl⟩)) (fun r hr => ?_)
  obtain rfl : r = ps_bi (ps_bt cx (g1 1 k) x) := hr
  refine ps_ifb_eq (tgt := 62) hx hb dX2_isInBox_16 rfl (fun h16 => ?_) (fun h16 => ?_)
  · skip
    refine lv_iconst (v := 0) hx hb dX2_isInBox_62 (by decide) ?_
    exact W.zret (v := 0) hx hb hr rfl (fun t ht hW => ⟨0, rfl, by simp_all [ps_ib, ps_bi], ht⟩) (fun q h => by cases h) dX2_isInBox_63
  · skip
    refine lv_aload_n hx hb dX2_isInBox_19 rfl (lv_at hl 0 rfl) ?_
    refine va_get (D := (dC, dI)) (ci := 2) (v := .int cy) (C := RX2) (T := TX2) (N := 8) hx hb hT inX2 hown hK hP 0 rfl rfl 4 (by decide) (hT _ tw_fl_X2_202) (fun _ h9 => h9) rfl dX2_isInBox_20 ?_
    refine lv_aload_n hx hb dX2_isInBox_23 rfl (lv_at hl 0 rfl) ?_
    refine va_get (D := (dC, dI)) (ci := 2) (v := .ref q1) (C := RX2) (T := TX2) (N := 8) hx hb hT inX2 hown hK hP 0 rfl rfl 0 (by decide) (hT _ tw_fl_X2_10) (fun _ h9 => h9) rfl dX2_isInBox_24 ?_
    refine lv_iload_n hx hb dX2_isInBox_27 rfl (lv_at hl 1 rfl) ?_
    refine vp_callSi (va_Run.run (va_runV (C := RX1) (As := [.int (nI k)]) (rest := [.int cy]) ⟨hx, hb, hml, hown, hT⟩ (mX1_yOf l dC dI cI cZ q1 a1 n1 g1 k (by omega)) (cwV 1 hT (ps_gV tw_ml_X2_80 tw_im_X1_yOf tw_se_X1_yOf tw_in_X1 tw_co_X1_yOf) rfl rfl rfl ⟨rfl, by decide, by decide, by decide +kernel⟩ ⟨Nat.le_of_ble_eq_true rfl, Nat.le_of_ble_eq_true rfl⟩) (ps_preV (ci := 1) (q0 := 0) hN (hP.sub (ws' := ps_trW cI cZ q1 a1 n1 g1) [1, 2, 3, 4, 5, 6, 7, 8, 9] rfl) hK rfl rfl) rfl rfl hl.1 rfl (lv_room (Nat.le_of_ble_eq_true rfl)) dX2_isInBox_28 ⟨Nat.le_of_ble_eq_true rfl, Nat.le_of_ble_eq_true rfl⟩)) (fun r hr => ?_)
    obtain rfl : r = g1 2 k := hr
    refine lv_iload_n hx hb dX2_isInBox_31 rfl (lv_at hl 3 rfl) ?_
    refine vp_callSi (va_Run.run (va_runS (As := [.int cy, .int (g1 2 k), .int y]) (rest := []) ⟨hx, hb, hml, hown, hT⟩ (mX2_isBetween l cy (g1 2 k) y) (va_cwS 3 hT (ps_gS tw_ml_X2_198 tw_st_X2_isBetween tw_in_X2 tw_co_X2_isBetween) rfl rfl rfl ⟨by decide, by decide, by decide +kernel⟩ ⟨Nat.le_of_ble_eq_true rfl, Nat.le_of_ble_eq_true rfl⟩) preEq rfl rfl hl.1 rfl (lv_room (Nat.le_of_ble_eq_true rfl)) dX2_isInBox_32 ⟨Nat.le_of_ble_eq_true rfl, Nat.le_of_ble_eq_true rfl⟩)) (fun r hr => ?_)
    obtain rfl : r = ps_bi (ps_bt cy (g1 2 k) y) := hr
    refine ps_ifb_eq (tgt := 62) hx hb dX2_isInBox_35 rfl (fun h35 => ?_) (fun h35 => ?_)
    · skip
      refine lv_iconst (v := 0) hx hb dX2_isInBox_62 (by decide) ?_
      exact W.zret (v := 0) hx hb hr rfl (fun t ht hW => ⟨0, rfl, by simp_all [ps_ib, ps_bi], ht⟩) (fun q h => by cases h) dX2_isInBox_63
    · skip
      refine lv_aload_n hx hb dX2_isInBox_38 rfl (lv_at hl 0 rfl) ?_
      refine va_get (D := (dC, dI)) (ci := 2) (v := .int cz) (C := RX2) (T := TX2) (N := 8) hx hb hT inX2 hown hK hP 0 rfl rfl 5 (by decide) (hT _ tw_fl_X2_205) (fun _ h9 => h9) rfl dX2_isInBox_39 ?_
      refine lv_aload_n hx hb dX2_isInBox_42 rfl (lv_at hl 0 rfl) ?_
      refine va_get (D := (dC, dI)) (ci := 2) (v := .ref q1) (C := RX2) (T := TX2) (N := 8) hx hb hT inX2 hown hK hP 0 rfl rfl 0 (by decide) (hT _ tw_fl_X2_10) (fun _ h9 => h9) rfl dX2_isInBox_43 ?_
      refine lv_iload_n hx hb dX2_isInBox_46 rfl (lv_at hl 1 rfl) ?_
      refine vp_callSi (va_Run.run (va_runV (C := RX1) (As := [.int (nI k)]) (rest := [.int cz]) ⟨hx, hb, hml, hown, hT⟩ (mX1_zOf l dC dI cI cZ q1 a1 n1 g1 k (by omega)) (cwV 1 hT (ps_gV tw_ml_X2_83 tw_im_X1_zOf tw_se_X1_zOf tw_in_X1 tw_co_X1_zOf) rfl rfl rfl ⟨rfl, by decide, by decide, by decide +kernel⟩ ⟨Nat.le_of_ble_eq_true rfl, Nat.le_of_ble_eq_true rfl⟩) (ps_preV (ci := 1) (q0 := 0) hN (hP.sub (ws' := ps_trW cI cZ q1 a1 n1 g1) [1, 2, 3, 4, 5, 6, 7, 8, 9] rfl) hK rfl rfl) rfl rfl hl.1 rfl (lv_room (Nat.le_of_ble_eq_true rfl)) dX2_isInBox_47 ⟨Nat.le_of_ble_eq_true rfl, Nat.le_of_ble_eq_true rfl⟩)) (fun r hr => ?_)
      obtain rfl : r = g1 3 k := hr
      refine lv_iload hx hb dX2_isInBox_50 (lv_at hl 4 rfl) ?_
      refine vp_callSi (va_Run.run (va_runS (As := [.int cz, .int (g1 3 k), .int z]) (rest := []) ⟨hx, hb, hml, hown, hT⟩ (mX2_isBetween l cz (g1 3 k) z) (va_cwS 3 hT (ps_gS tw_ml_X2_198 tw_st_X2_isBetween tw_in_X2 tw_co_X2_isBetween) rfl rfl rfl ⟨by decide, by decide, by decide +kernel⟩ ⟨Nat.le_of_ble_eq_true rfl, Nat.le_of_ble_eq_true rfl⟩) preEq rfl rfl hl.1 rfl (lv_room (Nat.le_of_ble_eq_true rfl)) dX2_isInBox_52 ⟨Nat.le_of_ble_eq_true rfl, Nat.le_of_ble_eq_true rfl⟩)) (fun r hr => ?_)
      obtain rfl : r = ps_bi (ps_bt cz (g1 3 k) z) := hr
      refine ps_ifb_eq (tgt := 62) hx hb dX2_isInBox_55 rfl (fun h55 => ?_) (fun h55 => ?_)
      · skip
        refine lv_iconst (v := 0) hx hb dX2_isInBox_62 (by decide) ?_
        exact W.zret (v := 0) hx hb hr rfl (fun t ht hW => ⟨0, rfl, by simp_all [ps_ib, ps_bi], ht⟩) (fun q h => by cases h) dX2_isInBox_63
      · skip
        refine lv_iconst (v := 1) hx hb dX2_isInBox_58 (by decide) ?_
        refine lv_goto (tgt := 63) hx hb dX2_isInBox_59 rfl ?_
        exact W.zret (v := 1) hx hb hr rfl (fun t ht hW => ⟨1, rfl, by simp_all [ps_ib, ps_bi], ht⟩) (fun q h => by cases h) dX2_isInBox_63
set_option maxHeartbeats 4000000 in
set_option maxRecDepth 100000 in
theorem mX2_findPoint_n (l : Launch) (dC : Nat → ClassId) (dI : Nat → Nat → Nat) (cI cZ : ClassId) (h0 q1 q2 q3 b : Nat) (a1 a2 : Nat → Nat) (n1 n2 : Nat) (g1 g2 : ps_G) (lf le : Nat) (lh : Nat → Int32) (cx cy cz pl pw : Int32) (hn1 : n1 ≤ 48) (id : Int32) (k : Nat) (hf : ps_fi (g1 0) id n1 = some k) : Met l yX2_findPoint (.code yX2_findPoint cX2_findPoint 3 (some .int) :: ps_T) ({ frames := 1, cells := 0, slots := 0, locals := 22 }) (ps_pc (dC, dI) (ps_ty cI cZ) (ps_shW h0 q1 q2 q3 cx cy cz pl pw ++ ps_trW cI cZ q1 a1 n1 g1 ++ ps_trW cI cZ q2 a2 n2 g2 ++ ps_lsW cI q3 b lf le lh) [.ref h0, .int id]) (vp_Si (fun r => r = nI k)) 0 0 (fun _ => False) := by
  refine Met.ofW (cc := cX2_findPoint) (maxL := 3) (ret := (some .int)) (by decide) rfl ?_
  intro p e s m args below meth c s₁ B hml hv
  obtain ⟨rfl, hN, hP, hK⟩ := hv
  have hx := B.exec
  have hb := B.bytes
  have hr := B.returns
  have hlocks := B.notSynchronized
  have hT : ∀ w ∈ ps_T, w.before ([.ref h0, .int id] : List Value).toArray s = true := fun w h => atoms_spec (ws := (.code yX2_findPoint cX2_findPoint 3 (some .int) :: ps_T)) B.pre w (List.mem_cons_of_mem _ h)
  have hown : s.vm.findClass RX2 = some m.cls := findClass_of_methodNamed B.named
  have hl := lv_entry ([.ref h0, .int id]) (n := 3) (Nat.le_of_ble_eq_true rfl)
  rw [lg_entry_eq]
  generalize (lg_sl ([.ref h0, .int id]) ++ List.replicate (3 - (lg_sl ([.ref h0, .int id])).length) Slot.unset).toArray = ls at hl ⊢
  have hl : lv_has ls 3 [(0, .ref h0), (1, .int id)] := hl
  have hk := (ps_fi_spec hf).1
  refine lv_aload_n hx hb dX2_findPoint_0 rfl (lv_at hl 0 rfl) ?_
  refine va_get (D := (dC, dI)) (ci := 2) (v := .ref q1) (C := RX2) (T := TX2) (N := 8) hx hb hT inX2 hown hK hP 0 rfl rfl 0 (by decide) (hT _ tw_fl_X2_10) (fun _ h9 => h9) rfl dX2_findPoint_1 ?_
  refine lv_iload_n hx hb dX2_findPoint_4 rfl (lv_at hl 1 rfl) ?_
  refine vp_callSi (va_Run.run (va_runV (C := RX1) (As := [.int id]) (rest := []) ⟨hx, hb, hml, hown, hT⟩ (mX1_find l dC dI cI cZ q1 a1 n1 g1 (hn1) id) (cwV 1 hT (ps_gV tw_ml_X2_34 tw_im_X1_find tw_se_X1_find tw_in_X1 tw_co_X1_find) rfl rfl rfl ⟨rfl, by decide, by decide, by decide +kernel⟩ ⟨Nat.le_of_ble_eq_true rfl, Nat.le_of_ble_eq_true rfl⟩) (ps_preV (ci := 1) (q0 := 0) hN (hP.sub (ws' := ps_trW cI cZ q1 a1 n1 g1) [1, 2, 3, 4, 5, 6, 7, 8, 9] rfl) hK rfl rfl) rfl rfl hl.1 rfl (lv_room (Nat.le_of_ble_eq_true rfl)) dX2_findPoint_5 ⟨Nat.le_of_ble_eq_true rfl, Nat.le_of_ble_eq_true rfl⟩)) (fun r hr => ?_)
  obtain rfl : r = ps_fr (ps_fi (g1 0) id n1) := hr
  rw [hf]
  show W _ _ _ _ _ _ _ _ _ _ _ _ _ _ _ (F0 _ _ _ (.int (nI k) :: []))
  refine lv_istore_n (lv' := [(2, .int (nI k)), (0, .ref h0), (1, .int id)]) hx hb dX2_findPoint_8 rfl hl (by decide) rfl (fun ls hl => ?_)
  refine lv_iload_n hx hb dX2_findPoint_9 rfl (lv_at hl 0 rfl) ?_
  refine lv_iconst (v := (-1)) hx hb dX2_findPoint_10 (by decide) ?_
  refine lv_icmp_ne (tgt := 24) hx hb dX2_findPoint_11 rfl (fun h11 => ?_) (fun h11 => ?_)
  · skip
    refine lv_iload_n hx hb dX2_findPoint_24 rfl (lv_at hl 0 rfl) ?_
    exact W.iret (v := nI k) hx hb hr (fun t ht hW => ⟨nI k, rfl, rfl, ht⟩) (fun q h => by cases h) dX2_findPoint_25
  · skip
    exact absurd h11 (ps_nI_m1 (by omega))
set_option maxHeartbeats 4000000 in
set_option maxRecDepth 100000 in
theorem mX2_count_n (l : Launch) (dC : Nat → ClassId) (dI : Nat → Nat → Nat) (cI cZ : ClassId) (h0 q1 q2 q3 b : Nat) (a1 a2 : Nat → Nat) (n1 n2 : Nat) (g1 g2 : ps_G) (lf le : Nat) (lh : Nat → Int32) (cx cy cz pl pw : Int32) (hn1 : n1 ≤ 48) (x y z : Int32) (hx0 : ps_co x = true) (hy0 : ps_co y = true) (hz0 : ps_co z = true) : Met l yX2_count (.code yX2_count cX2_count 6 (some .int) :: ps_T) ({ frames := 3, cells := 0, slots := 0, locals := 67 }) (ps_pc (dC, dI) (ps_ty cI cZ) (ps_shW h0 q1 q2 q3 cx cy cz pl pw ++ ps_trW cI cZ q1 a1 n1 g1 ++ ps_trW cI cZ q2 a2 n2 g2 ++ ps_lsW cI q3 b lf le lh) [.ref h0, .int x, .int y, .int z]) (vp_Si (fun r => r = nI (ps_cn (ps_ib g1 cx cy cz x y z) n1))) 0 0 (fun _ => False) := by
  refine Met.ofW (cc := cX2_count) (maxL := 6) (ret := (some .int)) (by decide) rfl ?_
  intro p e s m args below meth c s₁ B hml hv
  obtain ⟨rfl, hN, hP, hK⟩ := hv
  have hx := B.exec
  have hb := B.bytes
  have hr := B.returns
  have hlocks := B.notSynchronized
  have hT : ∀ w ∈ ps_T, w.before ([.ref h0, .int x, .int y, .int z] : List Value).toArray s = true := fun w h => atoms_spec (ws := (.code yX2_count cX2_count 6 (some .int) :: ps_T)) B.pre w (List.mem_cons_of_mem _ h)
  have hown : s.vm.findClass RX2 = some m.cls := findClass_of_methodNamed B.named
  have hl := lv_entry ([.ref h0, .int x, .int y, .int z]) (n := 6) (Nat.le_of_ble_eq_true rfl)
  rw [lg_entry_eq]
  generalize (lg_sl ([.ref h0, .int x, .int y, .int z]) ++ List.replicate (6 - (lg_sl ([.ref h0, .int x, .int y, .int z])).length) Slot.unset).toArray = ls at hl ⊢
  have hl : lv_has ls 6 [(0, .ref h0), (1, .int x), (2, .int y), (3, .int z)] := hl
  refine lv_iload_n hx hb dX2_count_0 rfl (lv_at hl 1 rfl) ?_
  refine lv_iload_n hx hb dX2_count_1 rfl (lv_at hl 2 rfl) ?_
  refine lv_iload_n hx hb dX2_count_2 rfl (lv_at hl 3 rfl) ?_
  refine va_csv (va_Run.run (va_runS (As := [.int x, .int y, .int z]) (rest := []) ⟨hx, hb, hml, hown, hT⟩ (mX2_requirePlace_n l x y z hx0 hy0 hz0) (va_cwS 3 hT (ps_gS tw_ml_X2_30 tw_st_X2_requirePlace tw_in_X2 tw_co_X2_requirePlace) rfl rfl rfl ⟨by decide, by decide, by decide +kernel⟩ ⟨Nat.le_of_ble_eq_true rfl, Nat.le_of_ble_eq_true rfl⟩) preEq rfl rfl hl.1 rfl (lv_room (Nat.le_of_ble_eq_true rfl)) dX2_count_3 ⟨Nat.le_of_ble_eq_true rfl, Nat.le_of_ble_eq_true rfl⟩)) (fun _ => ?_)
  refine lv_iconst (v := 0) hx hb dX2_count_6 (by decide) ?_
  refine lv_istore (lv' := [(4, .int 0), (0, .ref h0), (1, .int x), (2, .int y), (3, .int z)]) hx hb dX2_count_7 hl (by decide) rfl (fun ls hl => ?_)
  refine lv_iconst (v := 0) hx hb dX2_count_9 (by decide) ?_
  refine lv_istore (lv' := [(5, .int 0), (4, .int 0), (0, .ref h0), (1, .int x), (2, .int y), (3, .int z)]) hx hb dX2_count_10 hl (by decide) rfl (fun ls hl => ?_)
  have hl : lv_has ls 6 [(5, .int (nI 0)), (4, .int (nI (ps_cn (ps_ib g1 cx cy cz x y z) 0))), (0, .ref h0), (1, .int x), (2, .int y), (3, .int z)] := hl
  refine ps_loopS (α := Nat) (fun k => n1 - k) (fun k ls => (k ≤ n1) ∧ lv_has ls 6 [(0, .ref h0), (1, .int x), (2, .int y), (3, .int z), (4, .int (nI (ps_cn (ps_ib g1 cx cy cz x y z) k))), (5, .int (nI k))]) ?_ 0 ls ⟨by omega, lv_sub hl [2, 3, 4, 5, 1, 0] rfl⟩
  intro k ls ih hI
  obtain ⟨hk, hl⟩ := hI
  refine lv_iload hx hb dX2_count_12 (lv_at hl 5 rfl) ?_
  refine lv_aload_n hx hb dX2_count_14 rfl (lv_at hl 0 rfl) ?_
  refine va_get (D := (dC, dI)) (ci := 2) (v := .ref q1) (C := RX2) (T := TX2) (N := 8) hx hb hT inX2 hown hK hP 0 rfl rfl 0 (by decide) (hT _ tw_fl_X2_10) (fun _ h9 => h9) rfl dX2_count_15 ?_
  refine vp_callSi (va_Run.run (va_runV (C := RX1) (As := []) (rest := [.int (nI k)]) ⟨hx, hb, hml, hown, hT⟩ (mX1_size l dC dI cI cZ q1 a1 n1 g1 ) (cwV 0 hT (ps_gV tw_ml_X2_45 tw_im_X1_size tw_se_X1_size tw_in_X1 tw_co_X1_size) rfl rfl rfl ⟨rfl, by decide, by decide, by decide +kernel⟩ ⟨Nat.le_of_ble_eq_true rfl, Nat.le_of_ble_eq_true rfl⟩) (ps_preV (ci := 1) (q0 := 0) hN (hP.sub (ws' := ps_trW cI cZ q1 a1 n1 g1) [1, 2, 3, 4, 5, 6, 7, 8, 9] rfl) hK rfl rfl) rfl rfl hl.1 rfl (lv_room (Nat.le_of_ble_eq_true rfl)) dX2_count_18 ⟨Nat.le_of_ble_eq_true rfl, Nat.le_of_ble_eq_true rfl⟩)) (fun r hr => ?_)
  obtain rfl : r = nI n1 := hr
  refine ps_icmp_ge (tgt := 45) (a := k) (b := n1) hx hb dX2_count_21 rfl (by omega) (by omega) (fun h21 => ?_) (fun h21 => ?_)
  · skip
    refine lv_iload hx hb dX2_count_45 (lv_at hl 4 rfl) ?_
    exact W.iret (v := nI (ps_cn (ps_ib g1 cx cy cz x y z) k)) hx hb hr (fun t ht hW => ⟨nI (ps_cn (ps_ib g1 cx cy cz x y z) k), rfl, by rw [show k = n1 by omega], ht⟩) (fun q h => by cases h) dX2_count_47
  · skip
    refine lv_aload_n hx hb dX2_count_24 rfl (lv_at hl 0 rfl) ?_
    refine lv_iload hx hb dX2_count_25 (lv_at hl 5 rfl) ?_
    refine lv_iload_n hx hb dX2_count_27 rfl (lv_at hl 1 rfl) ?_
    refine lv_iload_n hx hb dX2_count_28 rfl (lv_at hl 2 rfl) ?_
    refine lv_iload_n hx hb dX2_count_29 rfl (lv_at hl 3 rfl) ?_
    refine vp_callSi (va_Run.run (va_runV (C := RX2) (As := [.int (nI k), .int x, .int y, .int z]) (rest := []) ⟨hx, hb, hml, hown, hT⟩ (mX2_isInBox l dC dI cI cZ h0 q1 q2 q3 b a1 a2 n1 n2 g1 g2 lf le lh cx cy cz pl pw k (by omega) x y z) (cwV 4 hT (ps_gV tw_ml_X2_98 tw_im_X2_isInBox tw_se_X2_isInBox tw_in_X2 tw_co_X2_isInBox) rfl rfl rfl ⟨rfl, by decide, by decide, by decide +kernel⟩ ⟨Nat.le_of_ble_eq_true rfl, Nat.le_of_ble_eq_true rfl⟩) (ps_preV (ci := 2) (q0 := 0) hN hP hK rfl rfl) rfl rfl hl.1 rfl (lv_room (Nat.le_of_ble_eq_true rfl)) dX2_count_30 ⟨Nat.le_of_ble_eq_true rfl, Nat.le_of_ble_eq_true rfl⟩)) (fun r hr => ?_)
    obtain rfl : r = ps_bi (ps_ib g1 cx cy cz x y z k) := hr
    refine ps_ifb_eq (tgt := 39) hx hb dX2_count_33 rfl (fun h33 => ?_) (fun h33 => ?_)
    · skip
      have hc : ps_ib g1 cx cy cz x y z k = false := h33
      refine lv_iinc (k := 5) (v := nI (k + 1)) (lv' := [(5, .int (nI (k + 1))), (0, .ref h0), (1, .int x), (2, .int y), (3, .int z), (4, .int (nI (ps_cn (ps_ib g1 cx cy cz x y z) k)))]) hx hb dX2_count_39 hl rfl (ps_inc _) (by decide) rfl (fun ls hl => ?_)
      refine lv_goto (tgt := 12) hx hb dX2_count_42 rfl ?_
      first | rw [← ps_cnT hc] at hl | rw [← ps_cnF hc] at hl
      exact ih ((k + 1)) ls (by omega) ⟨by omega, lv_sub hl [1, 2, 3, 4, 5, 0] rfl⟩
    · skip
      have hc : ps_ib g1 cx cy cz x y z k = true := h33
      refine lv_iinc (k := 4) (v := nI ((ps_cn (ps_ib g1 cx cy cz x y z) k) + 1)) (lv' := [(4, .int (nI ((ps_cn (ps_ib g1 cx cy cz x y z) k) + 1))), (0, .ref h0), (1, .int x), (2, .int y), (3, .int z), (5, .int (nI k))]) hx hb dX2_count_36 hl rfl (ps_inc _) (by decide) rfl (fun ls hl => ?_)
      refine lv_iinc (k := 5) (v := nI (k + 1)) (lv' := [(5, .int (nI (k + 1))), (4, .int (nI ((ps_cn (ps_ib g1 cx cy cz x y z) k) + 1))), (0, .ref h0), (1, .int x), (2, .int y), (3, .int z)]) hx hb dX2_count_39 hl rfl (ps_inc _) (by decide) rfl (fun ls hl => ?_)
      refine lv_goto (tgt := 12) hx hb dX2_count_42 rfl ?_
      first | rw [← ps_cnT hc] at hl | rw [← ps_cnF hc] at hl
      exact ih ((k + 1)) ls (by omega) ⟨by omega, lv_sub hl [2, 3, 4, 5, 1, 0] rfl⟩
set_option maxHeartbeats 4000000 in
set_option maxRecDepth 100000 in
theorem mX2_nearest_n (l : Launch) (dC : Nat → ClassId) (dI : Nat → Nat → Nat) (cI cZ : ClassId) (h0 q1 q2 q3 b : Nat) (a1 a2 : Nat → Nat) (n1 n2 : Nat) (g1 g2 : ps_G) (lf le : Nat) (lh : Nat → Int32) (cx cy cz pl pw : Int32) (hn1 : n1 ≤ 48) (x y z : Int32) (hx0 : ps_co x = true) (hy0 : ps_co y = true) (hz0 : ps_co z = true) (k : Nat) (hk1 : 1 ≤ k) (hk : k ≤ n1) : Met l yX2_nearest (.code yX2_nearest cX2_nearest 5 (some .int) :: ps_T) ({ frames := 3, cells := 0, slots := 0, locals := 84 }) (ps_pc (dC, dI) (ps_ty cI cZ) (ps_shW h0 q1 q2 q3 cx cy cz pl pw ++ ps_trW cI cZ q1 a1 n1 g1 ++ ps_trW cI cZ q2 a2 n2 g2 ++ ps_lsW cI q3 b lf le lh) [.ref h0, .int x, .int y, .int z, .int (nI k)]) (vp_Si (fun r => r = (ps_ik (ps_dk g1 x y z) n1 k).toInt32)) 0 0 (fun _ => False) := by
  refine Met.ofW (cc := cX2_nearest) (maxL := 5) (ret := (some .int)) (by decide) rfl ?_
  intro p e s m args below meth c s₁ B hml hv
  obtain ⟨rfl, hN, hP, hK⟩ := hv
  have hx := B.exec
  have hb := B.bytes
  have hr := B.returns
  have hlocks := B.notSynchronized
  have hT : ∀ w ∈ ps_T, w.before ([.ref h0, .int x, .int y, .int z, .int (nI k)] : List Value).toArray s = true := fun w h => atoms_spec (ws := (.code yX2_nearest cX2_nearest 5 (some .int) :: ps_T)) B.pre w (List.mem_cons_of_mem _ h)
  have hown : s.vm.findClass RX2 = some m.cls := findClass_of_methodNamed B.named
  have hl := lv_entry ([.ref h0, .int x, .int y, .int z, .int (nI k)]) (n := 5) (Nat.le_of_ble_eq_true rfl)
  rw [lg_entry_eq]
  generalize (lg_sl ([.ref h0, .int x, .int y, .int z, .int (nI k)]) ++ List.replicate (5 - (lg_sl ([.ref h0, .int x, .int y, .int z, .int (nI k)])).length) Slot.unset).toArray = ls at hl ⊢
  have hl : lv_has ls 5 [(0, .ref h0), (1, .int x), (2, .int y), (3, .int z), (4, .int (nI k))] := hl
  refine lv_iload_n hx hb dX2_nearest_0 rfl (lv_at hl 1 rfl) ?_
  refine lv_iload_n hx hb dX2_nearest_1 rfl (lv_at hl 2 rfl) ?_
  refine lv_iload_n hx hb dX2_nearest_2 rfl (lv_at hl 3 rfl) ?_
  refine va_csv (va_Run.run (va_runS (As := [.int x, .int y, .int z]) (rest := []) ⟨hx, hb, hml, hown, hT⟩ (mX2_requirePlace_n l x y z hx0 hy0 hz0) (va_cwS 3 hT (ps_gS tw_ml_X2_30 tw_st_X2_requirePlace tw_in_X2 tw_co_X2_requirePlace) rfl rfl rfl ⟨by decide, by decide, by decide +kernel⟩ ⟨Nat.le_of_ble_eq_true rfl, Nat.le_of_ble_eq_true rfl⟩) preEq rfl rfl hl.1 rfl (lv_room (Nat.le_of_ble_eq_true rfl)) dX2_nearest_3 ⟨Nat.le_of_ble_eq_true rfl, Nat.le_of_ble_eq_true rfl⟩)) (fun _ => ?_)
  refine lv_iload hx hb dX2_nearest_6 (lv_at hl 4 rfl) ?_
  refine lv_iconst (v := 1) hx hb dX2_nearest_8 (by decide) ?_
  refine ps_icmp_ge (tgt := 22) (a := k) (b := 1) hx hb dX2_nearest_9 rfl (by omega) (by omega) (fun h9 => ?_) (fun h9 => ?_)
  · skip
    refine lv_iload hx hb dX2_nearest_22 (lv_at hl 4 rfl) ?_
    refine lv_aload_n hx hb dX2_nearest_24 rfl (lv_at hl 0 rfl) ?_
    refine va_get (D := (dC, dI)) (ci := 2) (v := .ref q1) (C := RX2) (T := TX2) (N := 8) hx hb hT inX2 hown hK hP 0 rfl rfl 0 (by decide) (hT _ tw_fl_X2_10) (fun _ h9 => h9) rfl dX2_nearest_25 ?_
    refine vp_callSi (va_Run.run (va_runV (C := RX1) (As := []) (rest := [.int (nI k)]) ⟨hx, hb, hml, hown, hT⟩ (mX1_size l dC dI cI cZ q1 a1 n1 g1 ) (cwV 0 hT (ps_gV tw_ml_X2_45 tw_im_X1_size tw_se_X1_size tw_in_X1 tw_co_X1_size) rfl rfl rfl ⟨rfl, by decide, by decide, by decide +kernel⟩ ⟨Nat.le_of_ble_eq_true rfl, Nat.le_of_ble_eq_true rfl⟩) (ps_preV (ci := 1) (q0 := 0) hN (hP.sub (ws' := ps_trW cI cZ q1 a1 n1 g1) [1, 2, 3, 4, 5, 6, 7, 8, 9] rfl) hK rfl rfl) rfl rfl hl.1 rfl (lv_room (Nat.le_of_ble_eq_true rfl)) dX2_nearest_28 ⟨Nat.le_of_ble_eq_true rfl, Nat.le_of_ble_eq_true rfl⟩)) (fun r hr => ?_)
    obtain rfl : r = nI n1 := hr
    refine ps_icmp_le (tgt := 44) (a := k) (b := n1) hx hb dX2_nearest_31 rfl (by omega) (by omega) (fun h31 => ?_) (fun h31 => ?_)
    · skip
      refine lv_aload_n hx hb dX2_nearest_44 rfl (lv_at hl 0 rfl) ?_
      refine va_get (D := (dC, dI)) (ci := 2) (v := .ref q1) (C := RX2) (T := TX2) (N := 8) hx hb hT inX2 hown hK hP 0 rfl rfl 0 (by decide) (hT _ tw_fl_X2_10) (fun _ h9 => h9) rfl dX2_nearest_45 ?_
      refine lv_iload_n hx hb dX2_nearest_48 rfl (lv_at hl 1 rfl) ?_
      refine lv_iload_n hx hb dX2_nearest_49 rfl (lv_at hl 2 rfl) ?_
      refine lv_iload_n hx hb dX2_nearest_50 rfl (lv_at hl 3 rfl) ?_
      refine lv_iload hx hb dX2_nearest_51 (lv_at hl 4 rfl) ?_
      refine vp_callSi (va_Run.run (va_runV (C := RX1) (As := [.int x, .int y, .int z, .int (nI k)]) (rest := []) ⟨hx, hb, hml, hown, hT⟩ (mX1_idByDistance l dC dI cI cZ q1 a1 n1 g1 (hn1) x y z k (by omega)) (cwV 4 hT (ps_gV tw_ml_X2_118 tw_im_X1_idByDistance tw_se_X1_idByDistance tw_in_X1 tw_co_X1_idByDistance) rfl rfl rfl ⟨rfl, by decide, by decide, by decide +kernel⟩ ⟨Nat.le_of_ble_eq_true rfl, Nat.le_of_ble_eq_true rfl⟩) (ps_preV (ci := 1) (q0 := 0) hN (hP.sub (ws' := ps_trW cI cZ q1 a1 n1 g1) [1, 2, 3, 4, 5, 6, 7, 8, 9] rfl) hK rfl rfl) rfl rfl hl.1 rfl (lv_room (Nat.le_of_ble_eq_true rfl)) dX2_nearest_53 ⟨Nat.le_of_ble_eq_true rfl, Nat.le_of_ble_eq_true rfl⟩)) (fun r hr => ?_)
      obtain rfl : r = (ps_ik (ps_dk g1 x y z) n1 k).toInt32 := hr
      exact W.iret (v := (ps_ik (ps_dk g1 x y z) n1 k).toInt32) hx hb hr (fun t ht hW => ⟨(ps_ik (ps_dk g1 x y z) n1 k).toInt32, rfl, rfl, ht⟩) (fun q h => by cases h) dX2_nearest_56
    · skip
      exact absurd h31 (by omega)
  · skip
    exact absurd h9 (by omega)
set_option maxHeartbeats 4000000 in
set_option maxRecDepth 100000 in
theorem mX2_kept_n (l : Launch) (dC : Nat → ClassId) (dI : Nat → Nat → Nat) (cI cZ : ClassId) (h0 q1 q2 q3 b : Nat) (a1 a2 : Nat → Nat) (n1 n2 : Nat) (g1 g2 : ps_G) (lf le : Nat) (lh : Nat → Int32) (cx cy cz pl pw : Int32) (hn1 : n1 ≤ 48) (d x y z i : Int32) (hcu : ps_cu d x y z = true) (k : Nat) (hf : ps_fp (ps_fk g1 d x y z i) n1 = some k) : Met l yX2_kept (.code yX2_kept cX2_kept 7 (some .int) :: ps_T) ({ frames := 3, cells := 0, slots := 0, locals := 72 }) (ps_pc (dC, dI) (ps_ty cI cZ) (ps_shW h0 q1 q2 q3 cx cy cz pl pw ++ ps_trW cI cZ q1 a1 n1 g1 ++ ps_trW cI cZ q2 a2 n2 g2 ++ ps_lsW cI q3 b lf le lh) [.ref h0, .int d, .int x, .int y, .int z, .int i]) (vp_Si (fun r => r = g1 0 k)) 0 0 (fun _ => False) := by
  refine Met.ofW (cc := cX2_kept) (maxL := 7) (ret := (some .int)) (by decide) rfl ?_
  intro p e s m args below meth c s₁ B hml hv
  obtain ⟨rfl, hN, hP, hK⟩ := hv
  have hx := B.exec
  have hb := B.bytes
  have hr := B.returns
  have hlocks := B.notSynchronized
  have hT : ∀ w ∈ ps_T, w.before ([.ref h0, .int d, .int x, .int y, .int z, .int i] : List Value).toArray s = true := fun w h => atoms_spec (ws := (.code yX2_kept cX2_kept 7 (some .int) :: ps_T)) B.pre w (List.mem_cons_of_mem _ h)
  have hown : s.vm.findClass RX2 = some m.cls := findClass_of_methodNamed B.named
  have hl := lv_entry ([.ref h0, .int d, .int x, .int y, .int z, .int i]) (n := 7) (Nat.le_of_ble_eq_true rfl)
  rw [lg_entry_eq]
  generalize (lg_sl ([.ref h0, .int d, .int x, .int y, .int z, .int i]) ++ List.replicate (7 - (lg_sl ([.ref h0, .int d, .int x, .int y, .int z, .int i])).length) Slot.unset).toArray = ls at hl ⊢
  have hl : lv_has ls 7 [(0, .ref h0), (1, .int d), (2, .int x), (3, .int y), (4, .int z), (5, .int i)] := hl
  have hk := (ps_fp_spec hf).1
  refine lv_iload_n hx hb dX2_kept_0 rfl (lv_at hl 1 rfl) ?_
  refine lv_iload_n hx hb dX2_kept_1 rfl (lv_at hl 2 rfl) ?_
  refine lv_iload_n hx hb dX2_kept_2 rfl (lv_at hl 3 rfl) ?_
  refine lv_iload hx hb dX2_kept_3 (lv_at hl 4 rfl) ?_
  refine vp_callSi (va_Run.run (va_runS (As := [.int d, .int x, .int y, .int z]) (rest := []) ⟨hx, hb, hml, hown, hT⟩ (mX2_isCube l d x y z) (va_cwS 4 hT (ps_gS tw_ml_X2_122 tw_st_X2_isCube tw_in_X2 tw_co_X2_isCube) rfl rfl rfl ⟨by decide, by decide, by decide +kernel⟩ ⟨Nat.le_of_ble_eq_true rfl, Nat.le_of_ble_eq_true rfl⟩) preEq rfl rfl hl.1 rfl (lv_room (Nat.le_of_ble_eq_true rfl)) dX2_kept_5 ⟨Nat.le_of_ble_eq_true rfl, Nat.le_of_ble_eq_true rfl⟩)) (fun r hr => ?_)
  obtain rfl : r = ps_bi (ps_cu d x y z) := hr
  refine ps_ifb_ne (tgt := 21) hx hb dX2_kept_8 rfl (fun h8 => ?_) (fun h8 => ?_)
  · skip
    refine lv_aload_n hx hb dX2_kept_21 rfl (lv_at hl 0 rfl) ?_
    refine va_get (D := (dC, dI)) (ci := 2) (v := .ref q1) (C := RX2) (T := TX2) (N := 8) hx hb hT inX2 hown hK hP 0 rfl rfl 0 (by decide) (hT _ tw_fl_X2_10) (fun _ h9 => h9) rfl dX2_kept_22 ?_
    refine lv_iload_n hx hb dX2_kept_25 rfl (lv_at hl 1 rfl) ?_
    refine lv_iload_n hx hb dX2_kept_26 rfl (lv_at hl 2 rfl) ?_
    refine lv_iload_n hx hb dX2_kept_27 rfl (lv_at hl 3 rfl) ?_
    refine lv_iload hx hb dX2_kept_28 (lv_at hl 4 rfl) ?_
    refine lv_iload hx hb dX2_kept_30 (lv_at hl 5 rfl) ?_
    refine vp_callSi (va_Run.run (va_runV (C := RX1) (As := [.int d, .int x, .int y, .int z, .int i]) (rest := []) ⟨hx, hb, hml, hown, hT⟩ (mX1_findKept l dC dI cI cZ q1 a1 n1 g1 (hn1) d x y z i) (cwV 5 hT (ps_gV tw_ml_X2_127 tw_im_X1_findKept tw_se_X1_findKept tw_in_X1 tw_co_X1_findKept) rfl rfl rfl ⟨rfl, by decide, by decide, by decide +kernel⟩ ⟨Nat.le_of_ble_eq_true rfl, Nat.le_of_ble_eq_true rfl⟩) (ps_preV (ci := 1) (q0 := 0) hN (hP.sub (ws' := ps_trW cI cZ q1 a1 n1 g1) [1, 2, 3, 4, 5, 6, 7, 8, 9] rfl) hK rfl rfl) rfl rfl hl.1 rfl (lv_room (Nat.le_of_ble_eq_true rfl)) dX2_kept_32 ⟨Nat.le_of_ble_eq_true rfl, Nat.le_of_ble_eq_true rfl⟩)) (fun r hr => ?_)
    obtain rfl : r = ps_fr (ps_fp (ps_fk g1 d x y z i) n1) := hr
    rw [hf]
    show W _ _ _ _ _ _ _ _ _ _ _ _ _ _ _ (F0 _ _ _ (.int (nI k) :: []))
    refine lv_istore (lv' := [(6, .int (nI k)), (0, .ref h0), (1, .int d), (2, .int x), (3, .int y), (4, .int z), (5, .int i)]) hx hb dX2_kept_35 hl (by decide) rfl (fun ls hl => ?_)
    refine lv_iload hx hb dX2_kept_37 (lv_at hl 0 rfl) ?_
    refine lv_iconst (v := (-1)) hx hb dX2_kept_39 (by decide) ?_
    refine lv_icmp_ne (tgt := 53) hx hb dX2_kept_40 rfl (fun h40 => ?_) (fun h40 => ?_)
    · skip
      refine lv_aload_n hx hb dX2_kept_53 rfl (lv_at hl 1 rfl) ?_
      refine va_get (D := (dC, dI)) (ci := 2) (v := .ref q1) (C := RX2) (T := TX2) (N := 8) hx hb hT inX2 hown hK hP 0 rfl rfl 0 (by decide) (hT _ tw_fl_X2_10) (fun _ h9 => h9) rfl dX2_kept_54 ?_
      refine lv_iload hx hb dX2_kept_57 (lv_at hl 0 rfl) ?_
      refine vp_callSi (va_Run.run (va_runV (C := RX1) (As := [.int (nI k)]) (rest := []) ⟨hx, hb, hml, hown, hT⟩ (mX1_idOf l dC dI cI cZ q1 a1 n1 g1 k (by omega)) (cwV 1 hT (ps_gV tw_ml_X2_102 tw_im_X1_idOf tw_se_X1_idOf tw_in_X1 tw_co_X1_idOf) rfl rfl rfl ⟨rfl, by decide, by decide, by decide +kernel⟩ ⟨Nat.le_of_ble_eq_true rfl, Nat.le_of_ble_eq_true rfl⟩) (ps_preV (ci := 1) (q0 := 0) hN (hP.sub (ws' := ps_trW cI cZ q1 a1 n1 g1) [1, 2, 3, 4, 5, 6, 7, 8, 9] rfl) hK rfl rfl) rfl rfl hl.1 rfl (lv_room (Nat.le_of_ble_eq_true rfl)) dX2_kept_59 ⟨Nat.le_of_ble_eq_true rfl, Nat.le_of_ble_eq_true rfl⟩)) (fun r hr => ?_)
      obtain rfl : r = g1 0 k := hr
      exact W.iret (v := g1 0 k) hx hb hr (fun t ht hW => ⟨g1 0 k, rfl, rfl, ht⟩) (fun q h => by cases h) dX2_kept_62
    · skip
      exact absurd h40 (ps_nI_m1 (by omega))
  · skip
    exact Bool.noConfusion (hcu.symm.trans h8)
set_option maxHeartbeats 4000000 in
set_option maxRecDepth 100000 in
theorem mX2_field_n (l : Launch) (dC : Nat → ClassId) (dI : Nat → Nat → Nat) (cI cZ : ClassId) (h0 q1 q2 q3 b : Nat) (a1 a2 : Nat → Nat) (n1 n2 : Nat) (g1 g2 : ps_G) (lf le : Nat) (lh : Nat → Int32) (cx cy cz pl pw : Int32) (hn1 : n1 ≤ 48) (id fd : Int32) (h0f : ¬ fd < 0) (h4f : fd ≤ 4) (k : Nat) (hf : ps_fi (g1 0) id n1 = some k) : Met l yX2_field (.code yX2_field cX2_field 4 (some .int) :: ps_T) ({ frames := 2, cells := 0, slots := 0, locals := 44 }) (ps_pc (dC, dI) (ps_ty cI cZ) (ps_shW h0 q1 q2 q3 cx cy cz pl pw ++ ps_trW cI cZ q1 a1 n1 g1 ++ ps_trW cI cZ q2 a2 n2 g2 ++ ps_lsW cI q3 b lf le lh) [.ref h0, .int id, .int fd]) (vp_Si (fun r => r = ps_fv g1 k fd)) 0 0 (fun _ => False) := by
  refine Met.ofW (cc := cX2_field) (maxL := 4) (ret := (some .int)) (by decide) rfl ?_
  intro p e s m args below meth c s₁ B hml hv
  obtain ⟨rfl, hN, hP, hK⟩ := hv
  have hx := B.exec
  have hb := B.bytes
  have hr := B.returns
  have hlocks := B.notSynchronized
  have hT : ∀ w ∈ ps_T, w.before ([.ref h0, .int id, .int fd] : List Value).toArray s = true := fun w h => atoms_spec (ws := (.code yX2_field cX2_field 4 (some .int) :: ps_T)) B.pre w (List.mem_cons_of_mem _ h)
  have hown : s.vm.findClass RX2 = some m.cls := findClass_of_methodNamed B.named
  have hl := lv_entry ([.ref h0, .int id, .int fd]) (n := 4) (Nat.le_of_ble_eq_true rfl)
  rw [lg_entry_eq]
  generalize (lg_sl ([.ref h0, .int id, .int fd]) ++ List.replicate (4 - (lg_sl ([.ref h0, .int id, .int fd])).length) Slot.unset).toArray = ls at hl ⊢
  have hl : lv_has ls 4 [(0, .ref h0), (1, .int id), (2, .int fd)] := hl
  have hk := (ps_fi_spec hf).1
  refine lv_iload_n hx hb dX2_field_0 rfl (lv_at hl 2 rfl) ?_
  refine lv_if_lt (tgt := 9) hx hb dX2_field_1 rfl (fun h1 => ?_) (fun h1 => ?_)
  · skip
    exact absurd h1 h0f
  · skip
    refine lv_iload_n hx hb dX2_field_4 rfl (lv_at hl 2 rfl) ?_
    refine lv_iconst (v := 4) hx hb dX2_field_5 (by decide) ?_
    refine lv_icmp_le (tgt := 19) hx hb dX2_field_6 rfl (fun h6 => ?_) (fun h6 => ?_)
    · skip
      refine lv_aload_n hx hb dX2_field_19 rfl (lv_at hl 0 rfl) ?_
      refine lv_iload_n hx hb dX2_field_20 rfl (lv_at hl 1 rfl) ?_
      refine vp_callSi (va_Run.run (va_runV (C := RX2) (As := [.int id]) (rest := []) ⟨hx, hb, hml, hown, hT⟩ (mX2_findPoint_n l dC dI cI cZ h0 q1 q2 q3 b a1 a2 n1 n2 g1 g2 lf le lh cx cy cz pl pw hn1 id k hf) (cwV 1 hT (ps_gV tw_ml_X2_58 tw_im_X2_findPoint tw_se_X2_findPoint tw_in_X2 tw_co_X2_findPoint) rfl rfl rfl ⟨rfl, by decide, by decide, by decide +kernel⟩ ⟨Nat.le_of_ble_eq_true rfl, Nat.le_of_ble_eq_true rfl⟩) (ps_preV (ci := 2) (q0 := 0) hN hP hK rfl rfl) rfl rfl hl.1 rfl (lv_room (Nat.le_of_ble_eq_true rfl)) dX2_field_21 ⟨Nat.le_of_ble_eq_true rfl, Nat.le_of_ble_eq_true rfl⟩)) (fun r hr => ?_)
      obtain rfl : r = nI k := hr
      refine lv_istore_n (lv' := [(3, .int (nI k)), (0, .ref h0), (1, .int id), (2, .int fd)]) hx hb dX2_field_24 rfl hl (by decide) rfl (fun ls hl => ?_)
      refine lv_iload_n hx hb dX2_field_25 rfl (lv_at hl 3 rfl) ?_
      by_cases hs0 : fd = 0
      · skip
        refine lv_tableIn (x := fd) (off := 30) (tgt := 56) hx hb dX2_field_26 (by rw [hs0]; decide) (by rw [hs0]; decide) (by rw [hs0]; rfl) rfl ?_
        refine lv_aload_n hx hb dX2_field_56 rfl (lv_at hl 1 rfl) ?_
        refine va_get (D := (dC, dI)) (ci := 2) (v := .ref q1) (C := RX2) (T := TX2) (N := 8) hx hb hT inX2 hown hK hP 0 rfl rfl 0 (by decide) (hT _ tw_fl_X2_10) (fun _ h9 => h9) rfl dX2_field_57 ?_
        refine lv_iload_n hx hb dX2_field_60 rfl (lv_at hl 0 rfl) ?_
        refine vp_callSi (va_Run.run (va_runV (C := RX1) (As := [.int (nI k)]) (rest := []) ⟨hx, hb, hml, hown, hT⟩ (mX1_xOf l dC dI cI cZ q1 a1 n1 g1 k (by omega)) (cwV 1 hT (ps_gV tw_ml_X2_77 tw_im_X1_xOf tw_se_X1_xOf tw_in_X1 tw_co_X1_xOf) rfl rfl rfl ⟨rfl, by decide, by decide, by decide +kernel⟩ ⟨Nat.le_of_ble_eq_true rfl, Nat.le_of_ble_eq_true rfl⟩) (ps_preV (ci := 1) (q0 := 0) hN (hP.sub (ws' := ps_trW cI cZ q1 a1 n1 g1) [1, 2, 3, 4, 5, 6, 7, 8, 9] rfl) hK rfl rfl) rfl rfl hl.1 rfl (lv_room (Nat.le_of_ble_eq_true rfl)) dX2_field_61 ⟨Nat.le_of_ble_eq_true rfl, Nat.le_of_ble_eq_true rfl⟩)) (fun r hr => ?_)
        obtain rfl : r = g1 1 k := hr
        exact W.iret (v := g1 1 k) hx hb hr (fun t ht hW => ⟨g1 1 k, rfl, by simp [ps_fv, *], ht⟩) (fun q h => by cases h) dX2_field_64
      by_cases hs1 : fd = 1
      · skip
        refine lv_tableIn (x := fd) (off := 39) (tgt := 65) hx hb dX2_field_26 (by rw [hs1]; decide) (by rw [hs1]; decide) (by rw [hs1]; rfl) rfl ?_
        refine lv_aload_n hx hb dX2_field_65 rfl (lv_at hl 1 rfl) ?_
        refine va_get (D := (dC, dI)) (ci := 2) (v := .ref q1) (C := RX2) (T := TX2) (N := 8) hx hb hT inX2 hown hK hP 0 rfl rfl 0 (by decide) (hT _ tw_fl_X2_10) (fun _ h9 => h9) rfl dX2_field_66 ?_
        refine lv_iload_n hx hb dX2_field_69 rfl (lv_at hl 0 rfl) ?_
        refine vp_callSi (va_Run.run (va_runV (C := RX1) (As := [.int (nI k)]) (rest := []) ⟨hx, hb, hml, hown, hT⟩ (mX1_yOf l dC dI cI cZ q1 a1 n1 g1 k (by omega)) (cwV 1 hT (ps_gV tw_ml_X2_80 tw_im_X1_yOf tw_se_X1_yOf tw_in_X1 tw_co_X1_yOf) rfl rfl rfl ⟨rfl, by decide, by decide, by decide +kernel⟩ ⟨Nat.le_of_ble_eq_true rfl, Nat.le_of_ble_eq_true rfl⟩) (ps_preV (ci := 1) (q0 := 0) hN (hP.sub (ws' := ps_trW cI cZ q1 a1 n1 g1) [1, 2, 3, 4, 5, 6, 7, 8, 9] rfl) hK rfl rfl) rfl rfl hl.1 rfl (lv_room (Nat.le_of_ble_eq_true rfl)) dX2_field_70 ⟨Nat.le_of_ble_eq_true rfl, Nat.le_of_ble_eq_true rfl⟩)) (fun r hr => ?_)
        obtain rfl : r = g1 2 k := hr
        exact W.iret (v := g1 2 k) hx hb hr (fun t ht hW => ⟨g1 2 k, rfl, by simp [ps_fv, *], ht⟩) (fun q h => by cases h) dX2_field_73
      by_cases hs2 : fd = 2
      · skip
        refine lv_tableIn (x := fd) (off := 48) (tgt := 74) hx hb dX2_field_26 (by rw [hs2]; decide) (by rw [hs2]; decide) (by rw [hs2]; rfl) rfl ?_
        refine lv_aload_n hx hb dX2_field_74 rfl (lv_at hl 1 rfl) ?_
        refine va_get (D := (dC, dI)) (ci := 2) (v := .ref q1) (C := RX2) (T := TX2) (N := 8) hx hb hT inX2 hown hK hP 0 rfl rfl 0 (by decide) (hT _ tw_fl_X2_10) (fun _ h9 => h9) rfl dX2_field_75 ?_
        refine lv_iload_n hx hb dX2_field_78 rfl (lv_at hl 0 rfl) ?_
        refine vp_callSi (va_Run.run (va_runV (C := RX1) (As := [.int (nI k)]) (rest := []) ⟨hx, hb, hml, hown, hT⟩ (mX1_zOf l dC dI cI cZ q1 a1 n1 g1 k (by omega)) (cwV 1 hT (ps_gV tw_ml_X2_83 tw_im_X1_zOf tw_se_X1_zOf tw_in_X1 tw_co_X1_zOf) rfl rfl rfl ⟨rfl, by decide, by decide, by decide +kernel⟩ ⟨Nat.le_of_ble_eq_true rfl, Nat.le_of_ble_eq_true rfl⟩) (ps_preV (ci := 1) (q0 := 0) hN (hP.sub (ws' := ps_trW cI cZ q1 a1 n1 g1) [1, 2, 3, 4, 5, 6, 7, 8, 9] rfl) hK rfl rfl) rfl rfl hl.1 rfl (lv_room (Nat.le_of_ble_eq_true rfl)) dX2_field_79 ⟨Nat.le_of_ble_eq_true rfl, Nat.le_of_ble_eq_true rfl⟩)) (fun r hr => ?_)
        obtain rfl : r = g1 3 k := hr
        exact W.iret (v := g1 3 k) hx hb hr (fun t ht hW => ⟨g1 3 k, rfl, by simp [ps_fv, *], ht⟩) (fun q h => by cases h) dX2_field_82
      by_cases hs3 : fd = 3
      · skip
        refine lv_tableIn (x := fd) (off := 57) (tgt := 83) hx hb dX2_field_26 (by rw [hs3]; decide) (by rw [hs3]; decide) (by rw [hs3]; rfl) rfl ?_
        refine lv_aload_n hx hb dX2_field_83 rfl (lv_at hl 1 rfl) ?_
        refine va_get (D := (dC, dI)) (ci := 2) (v := .ref q1) (C := RX2) (T := TX2) (N := 8) hx hb hT inX2 hown hK hP 0 rfl rfl 0 (by decide) (hT _ tw_fl_X2_10) (fun _ h9 => h9) rfl dX2_field_84 ?_
        refine lv_iload_n hx hb dX2_field_87 rfl (lv_at hl 0 rfl) ?_
        refine vp_callSi (va_Run.run (va_runV (C := RX1) (As := [.int (nI k)]) (rest := []) ⟨hx, hb, hml, hown, hT⟩ (mX1_colourOf l dC dI cI cZ q1 a1 n1 g1 k (by omega)) (cwV 1 hT (ps_gV tw_ml_X2_65 tw_im_X1_colourOf tw_se_X1_colourOf tw_in_X1 tw_co_X1_colourOf) rfl rfl rfl ⟨rfl, by decide, by decide, by decide +kernel⟩ ⟨Nat.le_of_ble_eq_true rfl, Nat.le_of_ble_eq_true rfl⟩) (ps_preV (ci := 1) (q0 := 0) hN (hP.sub (ws' := ps_trW cI cZ q1 a1 n1 g1) [1, 2, 3, 4, 5, 6, 7, 8, 9] rfl) hK rfl rfl) rfl rfl hl.1 rfl (lv_room (Nat.le_of_ble_eq_true rfl)) dX2_field_88 ⟨Nat.le_of_ble_eq_true rfl, Nat.le_of_ble_eq_true rfl⟩)) (fun r hr => ?_)
        obtain rfl : r = g1 4 k := hr
        exact W.iret (v := g1 4 k) hx hb hr (fun t ht hW => ⟨g1 4 k, rfl, by simp [ps_fv, *], ht⟩) (fun q h => by cases h) dX2_field_91
      have hn0 : (fd : Int32).toInt ≠ 0 := ps_ne_toInt hs0
      have hn1 : (fd : Int32).toInt ≠ 1 := ps_ne_toInt hs1
      have hn2 : (fd : Int32).toInt ≠ 2 := ps_ne_toInt hs2
      have hn3 : (fd : Int32).toInt ≠ 3 := ps_ne_toInt hs3
      refine lv_tableOut (x := fd) (tgt := 92) hx hb dX2_field_26 (by omega) rfl ?_
      refine lv_aload_n hx hb dX2_field_92 rfl (lv_at hl 1 rfl) ?_
      refine va_get (D := (dC, dI)) (ci := 2) (v := .ref q1) (C := RX2) (T := TX2) (N := 8) hx hb hT inX2 hown hK hP 0 rfl rfl 0 (by decide) (hT _ tw_fl_X2_10) (fun _ h9 => h9) rfl dX2_field_93 ?_
      refine lv_iload_n hx hb dX2_field_96 rfl (lv_at hl 0 rfl) ?_
      refine vp_callSi (va_Run.run (va_runV (C := RX1) (As := [.int (nI k)]) (rest := []) ⟨hx, hb, hml, hown, hT⟩ (mX1_depthOf l dC dI cI cZ q1 a1 n1 g1 k (by omega)) (cwV 1 hT (ps_gV tw_ml_X2_55 tw_im_X1_depthOf tw_se_X1_depthOf tw_in_X1 tw_co_X1_depthOf) rfl rfl rfl ⟨rfl, by decide, by decide, by decide +kernel⟩ ⟨Nat.le_of_ble_eq_true rfl, Nat.le_of_ble_eq_true rfl⟩) (ps_preV (ci := 1) (q0 := 0) hN (hP.sub (ws' := ps_trW cI cZ q1 a1 n1 g1) [1, 2, 3, 4, 5, 6, 7, 8, 9] rfl) hK rfl rfl) rfl rfl hl.1 rfl (lv_room (Nat.le_of_ble_eq_true rfl)) dX2_field_97 ⟨Nat.le_of_ble_eq_true rfl, Nat.le_of_ble_eq_true rfl⟩)) (fun r hr => ?_)
      obtain rfl : r = g1 5 k := hr
      exact W.iret (v := g1 5 k) hx hb hr (fun t ht hW => ⟨g1 5 k, rfl, by simp [ps_fv, *], ht⟩) (fun q h => by cases h) dX2_field_100
    · skip
      exact absurd h4f h6
set_option maxHeartbeats 4000000 in
set_option maxRecDepth 100000 in
theorem mX2_state (l : Launch) (dC : Nat → ClassId) (dI : Nat → Nat → Nat) (cI cZ : ClassId) (h0 q1 q2 q3 b : Nat) (a1 a2 : Nat → Nat) (n1 n2 : Nat) (g1 g2 : ps_G) (lf le : Nat) (lh : Nat → Int32) (cx cy cz pl pw : Int32) (hn1 : n1 ≤ 48) (hn2 : n2 ≤ 48) (hfe : lf ≤ le) (wh : Int32) : Met l yX2_state (.code yX2_state cX2_state 2 (some .int) :: ps_T) ({ frames := 3, cells := 0, slots := 0, locals := 63 }) (ps_pc (dC, dI) (ps_ty cI cZ) (ps_shW h0 q1 q2 q3 cx cy cz pl pw ++ ps_trW cI cZ q1 a1 n1 g1 ++ ps_trW cI cZ q2 a2 n2 g2 ++ ps_lsW cI q3 b lf le lh) [.ref h0, .int wh]) (vp_Si (fun r => r = ps_sv n1 n2 g1 g2 lf le pw wh)) 0 0 (fun _ => False) := by
  refine Met.ofW (cc := cX2_state) (maxL := 2) (ret := (some .int)) (by decide) rfl ?_
  intro p e s m args below meth c s₁ B hml hv
  obtain ⟨rfl, hN, hP, hK⟩ := hv
  have hx := B.exec
  have hb := B.bytes
  have hr := B.returns
  have hlocks := B.notSynchronized
  have hT : ∀ w ∈ ps_T, w.before ([.ref h0, .int wh] : List Value).toArray s = true := fun w h => atoms_spec (ws := (.code yX2_state cX2_state 2 (some .int) :: ps_T)) B.pre w (List.mem_cons_of_mem _ h)
  have hown : s.vm.findClass RX2 = some m.cls := findClass_of_methodNamed B.named
  have hl := lv_entry ([.ref h0, .int wh]) (n := 2) (Nat.le_of_ble_eq_true rfl)
  rw [lg_entry_eq]
  generalize (lg_sl ([.ref h0, .int wh]) ++ List.replicate (2 - (lg_sl ([.ref h0, .int wh])).length) Slot.unset).toArray = ls at hl ⊢
  have hl : lv_has ls 2 [(0, .ref h0), (1, .int wh)] := hl
  refine lv_iload_n hx hb dX2_state_0 rfl (lv_at hl 1 rfl) ?_
  by_cases hs0 : wh = 0
  · skip
    refine lv_tableIn (x := wh) (off := 39) (tgt := 40) hx hb dX2_state_1 (by rw [hs0]; decide) (by rw [hs0]; decide) (by rw [hs0]; rfl) rfl ?_
    refine lv_aload_n hx hb dX2_state_40 rfl (lv_at hl 0 rfl) ?_
    refine va_get (D := (dC, dI)) (ci := 2) (v := .ref q1) (C := RX2) (T := TX2) (N := 8) hx hb hT inX2 hown hK hP 0 rfl rfl 0 (by decide) (hT _ tw_fl_X2_10) (fun _ h9 => h9) rfl dX2_state_41 ?_
    refine vp_callSi (va_Run.run (va_runV (C := RX1) (As := []) (rest := []) ⟨hx, hb, hml, hown, hT⟩ (mX1_size l dC dI cI cZ q1 a1 n1 g1 ) (cwV 0 hT (ps_gV tw_ml_X2_45 tw_im_X1_size tw_se_X1_size tw_in_X1 tw_co_X1_size) rfl rfl rfl ⟨rfl, by decide, by decide, by decide +kernel⟩ ⟨Nat.le_of_ble_eq_true rfl, Nat.le_of_ble_eq_true rfl⟩) (ps_preV (ci := 1) (q0 := 0) hN (hP.sub (ws' := ps_trW cI cZ q1 a1 n1 g1) [1, 2, 3, 4, 5, 6, 7, 8, 9] rfl) hK rfl rfl) rfl rfl hl.1 rfl (lv_room (Nat.le_of_ble_eq_true rfl)) dX2_state_44 ⟨Nat.le_of_ble_eq_true rfl, Nat.le_of_ble_eq_true rfl⟩)) (fun r hr => ?_)
    obtain rfl : r = nI n1 := hr
    exact W.iret (v := nI n1) hx hb hr (fun t ht hW => ⟨nI n1, rfl, by simp [ps_sv, *], ht⟩) (fun q h => by cases h) dX2_state_47
  by_cases hs1 : wh = 1
  · skip
    refine lv_tableIn (x := wh) (off := 47) (tgt := 48) hx hb dX2_state_1 (by rw [hs1]; decide) (by rw [hs1]; decide) (by rw [hs1]; rfl) rfl ?_
    refine lv_aload_n hx hb dX2_state_48 rfl (lv_at hl 0 rfl) ?_
    refine va_get (D := (dC, dI)) (ci := 2) (v := .ref q1) (C := RX2) (T := TX2) (N := 8) hx hb hT inX2 hown hK hP 0 rfl rfl 0 (by decide) (hT _ tw_fl_X2_10) (fun _ h9 => h9) rfl dX2_state_49 ?_
    refine vp_callSi (va_Run.run (va_runV (C := RX1) (As := []) (rest := []) ⟨hx, hb, hml, hown, hT⟩ (mX1_nodes l dC dI cI cZ q1 a1 n1 g1 (hn1)) (cwV 0 hT (ps_gV tw_ml_X2_164 tw_im_X1_nodes tw_se_X1_nodes tw_in_X1 tw_co_X1_nodes) rfl rfl rfl ⟨rfl, by decide, by decide, by decide +kernel⟩ ⟨Nat.le_of_ble_eq_true rfl, Nat.le_of_ble_eq_true rfl⟩) (ps_preV (ci := 1) (q0 := 0) hN (hP.sub (ws' := ps_trW cI cZ q1 a1 n1 g1) [1, 2, 3, 4, 5, 6, 7, 8, 9] rfl) hK rfl rfl) rfl rfl hl.1 rfl (lv_room (Nat.le_of_ble_eq_true rfl)) dX2_state_52 ⟨Nat.le_of_ble_eq_true rfl, Nat.le_of_ble_eq_true rfl⟩)) (fun r hr => ?_)
    obtain rfl : r = nI (ps_cn (fun k => decide (g1 6 k = 0)) n1) := hr
    exact W.iret (v := nI (ps_cn (fun k => decide (g1 6 k = 0)) n1)) hx hb hr (fun t ht hW => ⟨nI (ps_cn (fun k => decide (g1 6 k = 0)) n1), rfl, by simp [ps_sv, *], ht⟩) (fun q h => by cases h) dX2_state_55
  by_cases hs2 : wh = 2
  · skip
    refine lv_tableIn (x := wh) (off := 55) (tgt := 56) hx hb dX2_state_1 (by rw [hs2]; decide) (by rw [hs2]; decide) (by rw [hs2]; rfl) rfl ?_
    refine lv_aload_n hx hb dX2_state_56 rfl (lv_at hl 0 rfl) ?_
    refine vp_callSi (va_Run.run (va_runV (C := RX2) (As := []) (rest := []) ⟨hx, hb, hml, hown, hT⟩ (mX2_freePages l dC dI cI cZ h0 q1 q2 q3 b a1 a2 n1 n2 g1 g2 lf le lh cx cy cz pl pw (hn2)) (cwV 0 hT (ps_gV tw_ml_X2_139 tw_im_X2_freePages tw_se_X2_freePages tw_in_X2 tw_co_X2_freePages) rfl rfl rfl ⟨rfl, by decide, by decide, by decide +kernel⟩ ⟨Nat.le_of_ble_eq_true rfl, Nat.le_of_ble_eq_true rfl⟩) (ps_preV (ci := 2) (q0 := 0) hN hP hK rfl rfl) rfl rfl hl.1 rfl (lv_room (Nat.le_of_ble_eq_true rfl)) dX2_state_57 ⟨Nat.le_of_ble_eq_true rfl, Nat.le_of_ble_eq_true rfl⟩)) (fun r hr => ?_)
    obtain rfl : r = nI (64 - ps_cn (fun k => ps_bp (g2 6 k)) n2) := hr
    exact W.iret (v := nI (64 - ps_cn (fun k => ps_bp (g2 6 k)) n2)) hx hb hr (fun t ht hW => ⟨nI (64 - ps_cn (fun k => ps_bp (g2 6 k)) n2), rfl, by simp [ps_sv, *], ht⟩) (fun q h => by cases h) dX2_state_60
  by_cases hs3 : wh = 3
  · skip
    refine lv_tableIn (x := wh) (off := 60) (tgt := 61) hx hb dX2_state_1 (by rw [hs3]; decide) (by rw [hs3]; decide) (by rw [hs3]; rfl) rfl ?_
    refine lv_aload_n hx hb dX2_state_61 rfl (lv_at hl 0 rfl) ?_
    refine va_get (D := (dC, dI)) (ci := 2) (v := .int pw) (C := RX2) (T := TX2) (N := 8) hx hb hT inX2 hown hK hP 0 rfl rfl 7 (by decide) (hT _ tw_fl_X2_167) (fun _ h9 => h9) rfl dX2_state_62 ?_
    exact W.iret (v := pw) hx hb hr (fun t ht hW => ⟨pw, rfl, by simp [ps_sv, *], ht⟩) (fun q h => by cases h) dX2_state_65
  by_cases hs4 : wh = 4
  · skip
    refine lv_tableIn (x := wh) (off := 65) (tgt := 66) hx hb dX2_state_1 (by rw [hs4]; decide) (by rw [hs4]; decide) (by rw [hs4]; rfl) rfl ?_
    refine lv_aload_n hx hb dX2_state_66 rfl (lv_at hl 0 rfl) ?_
    refine va_get (D := (dC, dI)) (ci := 2) (v := .ref q3) (C := RX2) (T := TX2) (N := 8) hx hb hT inX2 hown hK hP 0 rfl rfl 2 (by decide) (hT _ tw_fl_X2_22) (fun _ h9 => h9) rfl dX2_state_67 ?_
    refine vp_callSi (va_Run.run (va_runV (C := RX0) (As := []) (rest := []) ⟨hx, hb, hml, hown, hT⟩ (mX0_size l dC dI cI cZ q3 b lf le lh (by omega)) (cwV 0 hT (ps_gV tw_ml_X2_107 tw_im_X0_size tw_se_X0_size tw_in_X0 tw_co_X0_size) rfl rfl rfl ⟨rfl, by decide, by decide, by decide +kernel⟩ ⟨Nat.le_of_ble_eq_true rfl, Nat.le_of_ble_eq_true rfl⟩) (ps_preV (ci := 0) (q0 := 0) hN (hP.sub (ws' := ps_lsW cI q3 b lf le lh) [19, 20] rfl) hK rfl rfl) rfl rfl hl.1 rfl (lv_room (Nat.le_of_ble_eq_true rfl)) dX2_state_70 ⟨Nat.le_of_ble_eq_true rfl, Nat.le_of_ble_eq_true rfl⟩)) (fun r hr => ?_)
    obtain rfl : r = nI (le - lf) := hr
    exact W.iret (v := nI (le - lf)) hx hb hr (fun t ht hW => ⟨nI (le - lf), rfl, by simp [ps_sv, *], ht⟩) (fun q h => by cases h) dX2_state_73
  by_cases hs5 : wh = 5
  · skip
    refine lv_tableIn (x := wh) (off := 73) (tgt := 74) hx hb dX2_state_1 (by rw [hs5]; decide) (by rw [hs5]; decide) (by rw [hs5]; rfl) rfl ?_
    refine lv_aload_n hx hb dX2_state_74 rfl (lv_at hl 0 rfl) ?_
    refine va_get (D := (dC, dI)) (ci := 2) (v := .ref q2) (C := RX2) (T := TX2) (N := 8) hx hb hT inX2 hown hK hP 0 rfl rfl 1 (by decide) (hT _ tw_fl_X2_16) (fun _ h9 => h9) rfl dX2_state_75 ?_
    refine vp_callSi (va_Run.run (va_runV (C := RX1) (As := []) (rest := []) ⟨hx, hb, hml, hown, hT⟩ (mX1_size l dC dI cI cZ q2 a2 n2 g2 ) (cwV 0 hT (ps_gV tw_ml_X2_45 tw_im_X1_size tw_se_X1_size tw_in_X1 tw_co_X1_size) rfl rfl rfl ⟨rfl, by decide, by decide, by decide +kernel⟩ ⟨Nat.le_of_ble_eq_true rfl, Nat.le_of_ble_eq_true rfl⟩) (ps_preV (ci := 1) (q0 := 0) hN (hP.sub (ws' := ps_trW cI cZ q2 a2 n2 g2) [10, 11, 12, 13, 14, 15, 16, 17, 18] rfl) hK rfl rfl) rfl rfl hl.1 rfl (lv_room (Nat.le_of_ble_eq_true rfl)) dX2_state_78 ⟨Nat.le_of_ble_eq_true rfl, Nat.le_of_ble_eq_true rfl⟩)) (fun r hr => ?_)
    obtain rfl : r = nI n2 := hr
    exact W.iret (v := nI n2) hx hb hr (fun t ht hW => ⟨nI n2, rfl, by simp [ps_sv, *], ht⟩) (fun q h => by cases h) dX2_state_81
  have hn0 : (wh : Int32).toInt ≠ 0 := ps_ne_toInt hs0
  have hn1 : (wh : Int32).toInt ≠ 1 := ps_ne_toInt hs1
  have hn2 : (wh : Int32).toInt ≠ 2 := ps_ne_toInt hs2
  have hn3 : (wh : Int32).toInt ≠ 3 := ps_ne_toInt hs3
  have hn4 : (wh : Int32).toInt ≠ 4 := ps_ne_toInt hs4
  have hn5 : (wh : Int32).toInt ≠ 5 := ps_ne_toInt hs5
  refine lv_tableOut (x := wh) (tgt := 82) hx hb dX2_state_1 (by omega) rfl ?_
  refine lv_iconst (v := (-1)) hx hb dX2_state_82 (by decide) ?_
  exact W.iret (v := (-1)) hx hb hr (fun t ht hW => ⟨(-1), rfl, by simp [ps_sv, *], ht⟩) (fun q h => by cases h) dX2_state_83
set_option maxHeartbeats 4000000 in
set_option maxRecDepth 100000 in
theorem mX2_setCorner (l : Launch) (dC : Nat → ClassId) (dI : Nat → Nat → Nat) (cI cZ : ClassId) (h0 q1 q2 q3 b : Nat) (a1 a2 : Nat → Nat) (n1 n2 : Nat) (g1 g2 : ps_G) (lf le : Nat) (lh : Nat → Int32) (cx cy cz pl pw : Int32) (x y z : Int32) (sz : Nat) : Met l yX2_setCorner (.code yX2_setCorner cX2_setCorner 4 none :: ps_T) ({ frames := 0, cells := 0, slots := 0, locals := 0 }) (ps_qc (dC, dI) (ps_ty cI cZ) (ps_shW h0 q1 q2 q3 cx cy cz pl pw ++ ps_trW cI cZ q1 a1 n1 g1 ++ ps_trW cI cZ q2 a2 n2 g2 ++ ps_lsW cI q3 b lf le lh) sz [.ref h0, .int x, .int y, .int z]) (va_Qv (fun _ : Unit => True) (ps_qB (dC, dI) (ps_ty cI cZ) (va_A (ps_shW h0 q1 q2 q3 cx cy cz pl pw ++ ps_trW cI cZ q1 a1 n1 g1 ++ ps_trW cI cZ q2 a2 n2 g2 ++ ps_lsW cI q3 b lf le lh) sz) (ps_shW h0 q1 q2 q3 x y z pl pw ++ ps_trW cI cZ q1 a1 n1 g1 ++ ps_trW cI cZ q2 a2 n2 g2 ++ ps_lsW cI q3 b lf le lh)) (va_A (ps_shW h0 q1 q2 q3 cx cy cz pl pw ++ ps_trW cI cZ q1 a1 n1 g1 ++ ps_trW cI cZ q2 a2 n2 g2 ++ ps_lsW cI q3 b lf le lh) sz)) 0 0 (va_A (ps_shW h0 q1 q2 q3 cx cy cz pl pw ++ ps_trW cI cZ q1 a1 n1 g1 ++ ps_trW cI cZ q2 a2 n2 g2 ++ ps_lsW cI q3 b lf le lh) sz) := by
  refine Met.ofW (cc := cX2_setCorner) (maxL := 4) (ret := none) (by decide) rfl ?_
  intro p e s m args below meth c s₁ B hml hv
  obtain ⟨rfl, hsz, hN, hP, hK, hD0⟩ := hv
  have hx := B.exec
  have hb := B.bytes
  have hr := B.returns
  have hlocks := B.notSynchronized
  have hT : ∀ w ∈ ps_T, w.before ([.ref h0, .int x, .int y, .int z] : List Value).toArray s = true := fun w h => atoms_spec (ws := (.code yX2_setCorner cX2_setCorner 4 none :: ps_T)) B.pre w (List.mem_cons_of_mem _ h)
  have hown : s.vm.findClass RX2 = some m.cls := findClass_of_methodNamed B.named
  subst hsz
  have hD := hD0.self (sz := s.heap.size)
  generalize hAe : va_A (ps_shW h0 q1 q2 q3 cx cy cz pl pw ++ ps_trW cI cZ q1 a1 n1 g1 ++ ps_trW cI cZ q2 a2 n2 g2 ++ ps_lsW cI q3 b lf le lh) s.heap.size = A at hD ⊢
  have hA : ∀ q : Nat, s.heap.size ≤ q → A q := fun q h => by rw [← hAe]; exact Or.inr h
  have hS : va_S A s.heap s.heap [] := va_S.rf
  have hl := lv_entry ([.ref h0, .int x, .int y, .int z]) (n := 4) (Nat.le_of_ble_eq_true rfl)
  rw [lg_entry_eq]
  generalize (lg_sl ([.ref h0, .int x, .int y, .int z]) ++ List.replicate (4 - (lg_sl ([.ref h0, .int x, .int y, .int z])).length) Slot.unset).toArray = ls at hl ⊢
  have hl : lv_has ls 4 [(0, .ref h0), (1, .int x), (2, .int y), (3, .int z)] := hl
  refine lv_aload_n hx hb dX2_setCorner_0 rfl (lv_at hl 0 rfl) ?_
  refine lv_iload_n hx hb dX2_setCorner_1 rfl (lv_at hl 1 rfl) ?_
  refine va_put (D := (dC, dI)) (ci := 2) (v := .int x) (ty := .int) (C := RX2) (T := TX2) (N := 8) hx hb hT inX2 tyX2 tyX2_ok nmX2 hown hK hP hD hS 0 rfl rfl 3 (by decide) (hT _ tw_fl_X2_195) (fun _ h9 => h9) rfl (by decide +kernel) rfl rfl (Nat.le_of_ble_eq_true rfl) dX2_setCorner_2 (fun H locs hP hD hS => ?_)
  have hP : va_P (dC, dI) vwCl (ps_shW h0 q1 q2 q3 x cy cz pl pw ++ ps_trW cI cZ q1 a1 n1 g1 ++ ps_trW cI cZ q2 a2 n2 g2 ++ ps_lsW cI q3 b lf le lh) H := hP
  have hD : va_D A (ps_shW h0 q1 q2 q3 x cy cz pl pw ++ ps_trW cI cZ q1 a1 n1 g1 ++ ps_trW cI cZ q2 a2 n2 g2 ++ ps_lsW cI q3 b lf le lh) := hD
  refine lv_aload_n hx hb dX2_setCorner_5 rfl (lv_at hl 0 rfl) ?_
  refine lv_iload_n hx hb dX2_setCorner_6 rfl (lv_at hl 2 rfl) ?_
  refine va_put (D := (dC, dI)) (ci := 2) (v := .int y) (ty := .int) (C := RX2) (T := TX2) (N := 8) hx hb hT inX2 tyX2 tyX2_ok nmX2 hown hK hP hD hS 0 rfl rfl 4 (by decide) (hT _ tw_fl_X2_202) (fun _ h9 => h9) rfl (by decide +kernel) rfl rfl (Nat.le_of_ble_eq_true rfl) dX2_setCorner_7 (fun H locs hP hD hS => ?_)
  have hP : va_P (dC, dI) vwCl (ps_shW h0 q1 q2 q3 x y cz pl pw ++ ps_trW cI cZ q1 a1 n1 g1 ++ ps_trW cI cZ q2 a2 n2 g2 ++ ps_lsW cI q3 b lf le lh) H := hP
  have hD : va_D A (ps_shW h0 q1 q2 q3 x y cz pl pw ++ ps_trW cI cZ q1 a1 n1 g1 ++ ps_trW cI cZ q2 a2 n2 g2 ++ ps_lsW cI q3 b lf le lh) := hD
  refine lv_aload_n hx hb dX2_setCorner_10 rfl (lv_at hl 0 rfl) ?_
  refine lv_iload_n hx hb dX2_setCorner_11 rfl (lv_at hl 3 rfl) ?_
  refine va_put (D := (dC, dI)) (ci := 2) (v := .int z) (ty := .int) (C := RX2) (T := TX2) (N := 8) hx hb hT inX2 tyX2 tyX2_ok nmX2 hown hK hP hD hS 0 rfl rfl 5 (by decide) (hT _ tw_fl_X2_205) (fun _ h9 => h9) rfl (by decide +kernel) rfl rfl (Nat.le_of_ble_eq_true rfl) dX2_setCorner_12 (fun H locs hP hD hS => ?_)
  have hP : va_P (dC, dI) vwCl (ps_shW h0 q1 q2 q3 x y z pl pw ++ ps_trW cI cZ q1 a1 n1 g1 ++ ps_trW cI cZ q2 a2 n2 g2 ++ ps_lsW cI q3 b lf le lh) H := hP
  have hD : va_D A (ps_shW h0 q1 q2 q3 x y z pl pw ++ ps_trW cI cZ q1 a1 n1 g1 ++ ps_trW cI cZ q2 a2 n2 g2 ++ ps_lsW cI q3 b lf le lh) := hD
  exact W.vret hx hb hr (fun t ht hW => ⟨⟨(), rfl, trivial, by rw [ht]; exact hP, va_K.moved hW.alike hK, hD⟩, hS.F ht⟩) hS.2.2 dX2_setCorner_15
set_option maxHeartbeats 4000000 in
set_option maxRecDepth 100000 in
theorem mX2_corner_n (l : Launch) (dC : Nat → ClassId) (dI : Nat → Nat → Nat) (cI cZ : ClassId) (h0 q1 q2 q3 b : Nat) (a1 a2 : Nat → Nat) (n1 n2 : Nat) (g1 g2 : ps_G) (lf le : Nat) (lh : Nat → Int32) (cx cy cz pl pw : Int32) (x y z : Int32) (hx0 : ps_co x = true) (hy0 : ps_co y = true) (hz0 : ps_co z = true) (sz : Nat) : Met l yX2_corner (.code yX2_corner cX2_corner 4 none :: ps_T) ({ frames := 2, cells := 0, slots := 0, locals := 42 }) (ps_qc (dC, dI) (ps_ty cI cZ) (ps_shW h0 q1 q2 q3 cx cy cz pl pw ++ ps_trW cI cZ q1 a1 n1 g1 ++ ps_trW cI cZ q2 a2 n2 g2 ++ ps_lsW cI q3 b lf le lh) sz [.ref h0, .int x, .int y, .int z]) (va_Qv (fun _ : Unit => True) (ps_qB (dC, dI) (ps_ty cI cZ) (va_A (ps_shW h0 q1 q2 q3 cx cy cz pl pw ++ ps_trW cI cZ q1 a1 n1 g1 ++ ps_trW cI cZ q2 a2 n2 g2 ++ ps_lsW cI q3 b lf le lh) sz) (ps_shW h0 q1 q2 q3 x y z pl pw ++ ps_trW cI cZ q1 a1 n1 g1 ++ ps_trW cI cZ q2 a2 n2 g2 ++ ps_lsW cI q3 b lf le lh)) (va_A (ps_shW h0 q1 q2 q3 cx cy cz pl pw ++ ps_trW cI cZ q1 a1 n1 g1 ++ ps_trW cI cZ q2 a2 n2 g2 ++ ps_lsW cI q3 b lf le lh) sz)) 0 0 (va_A (ps_shW h0 q1 q2 q3 cx cy cz pl pw ++ ps_trW cI cZ q1 a1 n1 g1 ++ ps_trW cI cZ q2 a2 n2 g2 ++ ps_lsW cI q3 b lf le lh) sz) := by
  refine Met.ofW (cc := cX2_corner) (maxL := 4) (ret := none) (by decide) rfl ?_
  intro p e s m args below meth c s₁ B hml hv
  obtain ⟨rfl, hsz, hN, hP, hK, hD0⟩ := hv
  have hx := B.exec
  have hb := B.bytes
  have hr := B.returns
  have hlocks := B.notSynchronized
  have hT : ∀ w ∈ ps_T, w.before ([.ref h0, .int x, .int y, .int z] : List Value).toArray s = true := fun w h => atoms_spec (ws := (.code yX2_corner cX2_corner 4 none :: ps_T)) B.pre w (List.mem_cons_of_mem _ h)
  have hown : s.vm.findClass RX2 = some m.cls := findClass_of_methodNamed B.named
  subst hsz
  have hD := hD0.self (sz := s.heap.size)
  generalize hAe : va_A (ps_shW h0 q1 q2 q3 cx cy cz pl pw ++ ps_trW cI cZ q1 a1 n1 g1 ++ ps_trW cI cZ q2 a2 n2 g2 ++ ps_lsW cI q3 b lf le lh) s.heap.size = A at hD ⊢
  have hA : ∀ q : Nat, s.heap.size ≤ q → A q := fun q h => by rw [← hAe]; exact Or.inr h
  have hS : va_S A s.heap s.heap [] := va_S.rf
  have hl := lv_entry ([.ref h0, .int x, .int y, .int z]) (n := 4) (Nat.le_of_ble_eq_true rfl)
  rw [lg_entry_eq]
  generalize (lg_sl ([.ref h0, .int x, .int y, .int z]) ++ List.replicate (4 - (lg_sl ([.ref h0, .int x, .int y, .int z])).length) Slot.unset).toArray = ls at hl ⊢
  have hl : lv_has ls 4 [(0, .ref h0), (1, .int x), (2, .int y), (3, .int z)] := hl
  refine lv_iload_n hx hb dX2_corner_0 rfl (lv_at hl 1 rfl) ?_
  refine lv_iload_n hx hb dX2_corner_1 rfl (lv_at hl 2 rfl) ?_
  refine lv_iload_n hx hb dX2_corner_2 rfl (lv_at hl 3 rfl) ?_
  refine va_csv (va_Run.run (va_runS (As := [.int x, .int y, .int z]) (rest := []) ⟨hx, hb, hml, hown, hT⟩ (mX2_requirePlace_n l x y z hx0 hy0 hz0) (va_cwS 3 hT (ps_gS tw_ml_X2_30 tw_st_X2_requirePlace tw_in_X2 tw_co_X2_requirePlace) rfl rfl rfl ⟨by decide, by decide, by decide +kernel⟩ ⟨Nat.le_of_ble_eq_true rfl, Nat.le_of_ble_eq_true rfl⟩) preEq rfl rfl hl.1 rfl (lv_room (Nat.le_of_ble_eq_true rfl)) dX2_corner_3 ⟨Nat.le_of_ble_eq_true rfl, Nat.le_of_ble_eq_true rfl⟩)) (fun _ => ?_)
  refine lv_aload_n hx hb dX2_corner_6 rfl (lv_at hl 0 rfl) ?_
  refine lv_iload_n hx hb dX2_corner_7 rfl (lv_at hl 1 rfl) ?_
  refine lv_iload_n hx hb dX2_corner_8 rfl (lv_at hl 2 rfl) ?_
  refine lv_iload_n hx hb dX2_corner_9 rfl (lv_at hl 3 rfl) ?_
  refine ps_cqv (wc := ps_shW h0 q1 q2 q3 cx cy cz pl pw ++ ps_trW cI cZ q1 a1 n1 g1 ++ ps_trW cI cZ q2 a2 n2 g2 ++ ps_lsW cI q3 b lf le lh) (wr := []) (w1 := ps_shW h0 q1 q2 q3 x y z pl pw ++ ps_trW cI cZ q1 a1 n1 g1 ++ ps_trW cI cZ q2 a2 n2 g2 ++ ps_lsW cI q3 b lf le lh) (ws2 := ps_shW h0 q1 q2 q3 x y z pl pw ++ ps_trW cI cZ q1 a1 n1 g1 ++ ps_trW cI cZ q2 a2 n2 g2 ++ ps_lsW cI q3 b lf le lh) (va_runV (C := RX2) (As := [.int x, .int y, .int z]) (rest := []) ⟨hx, hb, hml, hown, hT⟩ (mX2_setCorner l dC dI cI cZ h0 q1 q2 q3 b a1 a2 n1 n2 g1 g2 lf le lh cx cy cz pl pw x y z _) (cwV 3 hT (ps_gV tw_ml_X2_86 tw_im_X2_setCorner tw_se_X2_setCorner tw_in_X2 tw_co_X2_setCorner) rfl rfl rfl ⟨rfl, by decide, by decide, by decide +kernel⟩ ⟨Nat.le_of_ble_eq_true rfl, Nat.le_of_ble_eq_true rfl⟩) (ps_qreV (wc := ps_shW h0 q1 q2 q3 cx cy cz pl pw ++ ps_trW cI cZ q1 a1 n1 g1 ++ ps_trW cI cZ q2 a2 n2 g2 ++ ps_lsW cI q3 b lf le lh) (ci := 2) [0, 1, 2, 3, 4, 5, 6, 7, 8, 9, 10, 11, 12, 13, 14, 15, 16, 17, 18, 19, 20] hN hP hK hD rfl rfl rfl rfl rfl) rfl rfl hl.1 rfl (lv_room (Nat.le_of_ble_eq_true rfl)) dX2_corner_10 ⟨Nat.le_of_ble_eq_true rfl, Nat.le_of_ble_eq_true rfl⟩) hS hA hP hD [0, 1, 2, 3, 4, 5, 6, 7, 8, 9, 10, 11, 12, 13, 14, 15, 16, 17, 18, 19, 20] [] [0, 1, 2, 3, 4, 5, 6, 7, 8, 9, 10, 11, 12, 13, 14, 15, 16, 17, 18, 19, 20] rfl rfl rfl (by decide) rfl rfl rfl (fun H locs hP hD hS => ?_)
  exact W.vret hx hb hr (fun t ht hW => ⟨⟨(), rfl, trivial, by rw [ht]; exact hP, va_K.moved hW.alike hK, hD⟩, hS.F ht⟩) hS.2.2 dX2_corner_13
set_option maxHeartbeats 4000000 in
set_option maxRecDepth 100000 in
theorem mX2_charge_n (l : Launch) (dC : Nat → ClassId) (dI : Nat → Nat → Nat) (cI cZ : ClassId) (h0 q1 q2 q3 b : Nat) (a1 a2 : Nat → Nat) (n1 n2 : Nat) (g1 g2 : ps_G) (lf le : Nat) (lh : Nat → Int32) (cx cy cz pl pw : Int32) (v : Int32) (h0v : ¬ v < 0) (h9v : v ≤ 99) (sz : Nat) : Met l yX2_charge (.code yX2_charge cX2_charge 2 none :: ps_T) ({ frames := 0, cells := 0, slots := 0, locals := 0 }) (ps_qc (dC, dI) (ps_ty cI cZ) (ps_shW h0 q1 q2 q3 cx cy cz pl pw ++ ps_trW cI cZ q1 a1 n1 g1 ++ ps_trW cI cZ q2 a2 n2 g2 ++ ps_lsW cI q3 b lf le lh) sz [.ref h0, .int v]) (va_Qv (fun _ : Unit => True) (ps_qB (dC, dI) (ps_ty cI cZ) (va_A (ps_shW h0 q1 q2 q3 cx cy cz pl pw ++ ps_trW cI cZ q1 a1 n1 g1 ++ ps_trW cI cZ q2 a2 n2 g2 ++ ps_lsW cI q3 b lf le lh) sz) (ps_shW h0 q1 q2 q3 cx cy cz v pw ++ ps_trW cI cZ q1 a1 n1 g1 ++ ps_trW cI cZ q2 a2 n2 g2 ++ ps_lsW cI q3 b lf le lh)) (va_A (ps_shW h0 q1 q2 q3 cx cy cz pl pw ++ ps_trW cI cZ q1 a1 n1 g1 ++ ps_trW cI cZ q2 a2 n2 g2 ++ ps_lsW cI q3 b lf le lh) sz)) 0 0 (va_A (ps_shW h0 q1 q2 q3 cx cy cz pl pw ++ ps_trW cI cZ q1 a1 n1 g1 ++ ps_trW cI cZ q2 a2 n2 g2 ++ ps_lsW cI q3 b lf le lh) sz) := by
  refine Met.ofW (cc := cX2_charge) (maxL := 2) (ret := none) (by decide) rfl ?_
  intro p e s m args below meth c s₁ B hml hv
  obtain ⟨rfl, hsz, hN, hP, hK, hD0⟩ := hv
  have hx := B.exec
  have hb := B.bytes
  have hr := B.returns
  have hlocks := B.notSynchronized
  have hT : ∀ w ∈ ps_T, w.before ([.ref h0, .int v] : List Value).toArray s = true := fun w h => atoms_spec (ws := (.code yX2_charge cX2_charge 2 none :: ps_T)) B.pre w (List.mem_cons_of_mem _ h)
  have hown : s.vm.findClass RX2 = some m.cls := findClass_of_methodNamed B.named
  subst hsz
  have hD := hD0.self (sz := s.heap.size)
  generalize hAe : va_A (ps_shW h0 q1 q2 q3 cx cy cz pl pw ++ ps_trW cI cZ q1 a1 n1 g1 ++ ps_trW cI cZ q2 a2 n2 g2 ++ ps_lsW cI q3 b lf le lh) s.heap.size = A at hD ⊢
  have hA : ∀ q : Nat, s.heap.size ≤ q → A q := fun q h => by rw [← hAe]; exact Or.inr h
  have hS : va_S A s.heap s.heap [] := va_S.rf
  have hl := lv_entry ([.ref h0, .int v]) (n := 2) (Nat.le_of_ble_eq_true rfl)
  rw [lg_entry_eq]
  generalize (lg_sl ([.ref h0, .int v]) ++ List.replicate (2 - (lg_sl ([.ref h0, .int v])).length) Slot.unset).toArray = ls at hl ⊢
  have hl : lv_has ls 2 [(0, .ref h0), (1, .int v)] := hl
  refine lv_iload_n hx hb dX2_charge_0 rfl (lv_at hl 1 rfl) ?_
  refine lv_if_lt (tgt := 10) hx hb dX2_charge_1 rfl (fun h1 => ?_) (fun h1 => ?_)
  · skip
    exact absurd h1 h0v
  · skip
    refine lv_iload_n hx hb dX2_charge_4 rfl (lv_at hl 1 rfl) ?_
    refine lv_bipush (v := 99) hx hb dX2_charge_5 (by decide) ?_
    refine lv_icmp_le (tgt := 20) hx hb dX2_charge_7 rfl (fun h7 => ?_) (fun h7 => ?_)
    · skip
      refine lv_aload_n hx hb dX2_charge_20 rfl (lv_at hl 0 rfl) ?_
      refine lv_iload_n hx hb dX2_charge_21 rfl (lv_at hl 1 rfl) ?_
      refine va_put (D := (dC, dI)) (ci := 2) (v := .int v) (ty := .int) (C := RX2) (T := TX2) (N := 8) hx hb hT inX2 tyX2 tyX2_ok nmX2 hown hK hP hD hS 0 rfl rfl 6 (by decide) (hT _ tw_fl_X2_26) (fun _ h9 => h9) rfl (by decide +kernel) rfl rfl (Nat.le_of_ble_eq_true rfl) dX2_charge_22 (fun H locs hP hD hS => ?_)
      have hP : va_P (dC, dI) vwCl (ps_shW h0 q1 q2 q3 cx cy cz v pw ++ ps_trW cI cZ q1 a1 n1 g1 ++ ps_trW cI cZ q2 a2 n2 g2 ++ ps_lsW cI q3 b lf le lh) H := hP
      have hD : va_D A (ps_shW h0 q1 q2 q3 cx cy cz v pw ++ ps_trW cI cZ q1 a1 n1 g1 ++ ps_trW cI cZ q2 a2 n2 g2 ++ ps_lsW cI q3 b lf le lh) := hD
      exact W.vret hx hb hr (fun t ht hW => ⟨⟨(), rfl, trivial, by rw [ht]; exact hP, va_K.moved hW.alike hK, hD⟩, hS.F ht⟩) hS.2.2 dX2_charge_25
    · skip
      exact absurd h9v h7
set_option maxHeartbeats 4000000 in
set_option maxRecDepth 100000 in
theorem mX2_writePages (l : Launch) (dC : Nat → ClassId) (dI : Nat → Nat → Nat) (cI cZ : ClassId) (h0 q1 q2 q3 b : Nat) (a1 a2 : Nat → Nat) (n1 n2 : Nat) (g1 g2 : ps_G) (lf le : Nat) (lh : Nat → Int32) (cx cy cz pl pw : Int32) (pp : Int32) (sz : Nat) : Met l yX2_writePages (.code yX2_writePages cX2_writePages 2 none :: ps_T) ({ frames := 0, cells := 0, slots := 0, locals := 0 }) (ps_qc (dC, dI) (ps_ty cI cZ) (ps_shW h0 q1 q2 q3 cx cy cz pl pw ++ ps_trW cI cZ q1 a1 n1 g1 ++ ps_trW cI cZ q2 a2 n2 g2 ++ ps_lsW cI q3 b lf le lh) sz [.ref h0, .int pp]) (va_Qv (fun _ : Unit => True) (ps_qB (dC, dI) (ps_ty cI cZ) (va_A (ps_shW h0 q1 q2 q3 cx cy cz pl pw ++ ps_trW cI cZ q1 a1 n1 g1 ++ ps_trW cI cZ q2 a2 n2 g2 ++ ps_lsW cI q3 b lf le lh) sz) (ps_shW h0 q1 q2 q3 cx cy cz ((ps_pl pl pp)) ((pw + pp)) ++ ps_trW cI cZ q1 a1 n1 g1 ++ ps_trW cI cZ q2 a2 n2 g2 ++ ps_lsW cI q3 b lf le lh)) (va_A (ps_shW h0 q1 q2 q3 cx cy cz pl pw ++ ps_trW cI cZ q1 a1 n1 g1 ++ ps_trW cI cZ q2 a2 n2 g2 ++ ps_lsW cI q3 b lf le lh) sz)) 0 0 (va_A (ps_shW h0 q1 q2 q3 cx cy cz pl pw ++ ps_trW cI cZ q1 a1 n1 g1 ++ ps_trW cI cZ q2 a2 n2 g2 ++ ps_lsW cI q3 b lf le lh) sz) := by
  refine Met.ofW (cc := cX2_writePages) (maxL := 2) (ret := none) (by decide) rfl ?_
  intro p e s m args below meth c s₁ B hml hv
  obtain ⟨rfl, hsz, hN, hP, hK, hD0⟩ := hv
  have hx := B.exec
  have hb := B.bytes
  have hr := B.returns
  have hlocks := B.notSynchronized
  have hT : ∀ w ∈ ps_T, w.before ([.ref h0, .int pp] : List Value).toArray s = true := fun w h => atoms_spec (ws := (.code yX2_writePages cX2_writePages 2 none :: ps_T)) B.pre w (List.mem_cons_of_mem _ h)
  have hown : s.vm.findClass RX2 = some m.cls := findClass_of_methodNamed B.named
  subst hsz
  have hD := hD0.self (sz := s.heap.size)
  generalize hAe : va_A (ps_shW h0 q1 q2 q3 cx cy cz pl pw ++ ps_trW cI cZ q1 a1 n1 g1 ++ ps_trW cI cZ q2 a2 n2 g2 ++ ps_lsW cI q3 b lf le lh) s.heap.size = A at hD ⊢
  have hA : ∀ q : Nat, s.heap.size ≤ q → A q := fun q h => by rw [← hAe]; exact Or.inr h
  have hS : va_S A s.heap s.heap [] := va_S.rf
  have hl := lv_entry ([.ref h0, .int pp]) (n := 2) (Nat.le_of_ble_eq_true rfl)
  rw [lg_entry_eq]
  generalize (lg_sl ([.ref h0, .int pp]) ++ List.replicate (2 - (lg_sl ([.ref h0, .int pp])).length) Slot.unset).toArray = ls at hl ⊢
  have hl : lv_has ls 2 [(0, .ref h0), (1, .int pp)] := hl
  refine lv_aload_n hx hb dX2_writePages_0 rfl (lv_at hl 0 rfl) ?_
  refine lv_dup hx hb dX2_writePages_1 rfl ?_
  refine va_get (D := (dC, dI)) (ci := 2) (v := .int pw) (C := RX2) (T := TX2) (N := 8) hx hb hT inX2 hown hK hP 0 rfl rfl 7 (by decide) (hT _ tw_fl_X2_167) (fun _ h9 => h9) rfl dX2_writePages_2 ?_
  refine lv_iload_n hx hb dX2_writePages_5 rfl (lv_at hl 1 rfl) ?_
  refine lv_iadd hx hb dX2_writePages_6 ?_
  refine va_put (D := (dC, dI)) (ci := 2) (v := .int (pw + pp)) (ty := .int) (C := RX2) (T := TX2) (N := 8) hx hb hT inX2 tyX2 tyX2_ok nmX2 hown hK hP hD hS 0 rfl rfl 7 (by decide) (hT _ tw_fl_X2_167) (fun _ h9 => h9) rfl (by decide +kernel) rfl rfl (Nat.le_of_ble_eq_true rfl) dX2_writePages_7 (fun H locs hP hD hS => ?_)
  have hP : va_P (dC, dI) vwCl (ps_shW h0 q1 q2 q3 cx cy cz pl (pw + pp) ++ ps_trW cI cZ q1 a1 n1 g1 ++ ps_trW cI cZ q2 a2 n2 g2 ++ ps_lsW cI q3 b lf le lh) H := hP
  have hD : va_D A (ps_shW h0 q1 q2 q3 cx cy cz pl (pw + pp) ++ ps_trW cI cZ q1 a1 n1 g1 ++ ps_trW cI cZ q2 a2 n2 g2 ++ ps_lsW cI q3 b lf le lh) := hD
  refine lv_aload_n hx hb dX2_writePages_10 rfl (lv_at hl 0 rfl) ?_
  refine va_get (D := (dC, dI)) (ci := 2) (v := .int pl) (C := RX2) (T := TX2) (N := 8) hx hb hT inX2 hown hK hP 0 rfl rfl 6 (by decide) (hT _ tw_fl_X2_26) (fun _ h9 => h9) rfl dX2_writePages_11 ?_
  refine lv_iconst (v := (-1)) hx hb dX2_writePages_14 (by decide) ?_
  refine lv_icmp_eq (tgt := 28) hx hb dX2_writePages_15 rfl (fun h15 => ?_) (fun h15 => ?_)
  · skip
    have e9 : ps_pl pl pp = pl := by simp [ps_pl, h15]
    rw [e9]
    exact W.vret hx hb hr (fun t ht hW => ⟨⟨(), rfl, trivial, by rw [ht]; exact hP, va_K.moved hW.alike hK, hD⟩, hS.F ht⟩) hS.2.2 dX2_writePages_28
  · skip
    have e9 : ps_pl pl pp = pl - pp := by simp [ps_pl, h15]
    rw [e9]
    refine lv_aload_n hx hb dX2_writePages_18 rfl (lv_at hl 0 rfl) ?_
    refine lv_dup hx hb dX2_writePages_19 rfl ?_
    refine va_get (D := (dC, dI)) (ci := 2) (v := .int pl) (C := RX2) (T := TX2) (N := 8) hx hb hT inX2 hown hK hP 0 rfl rfl 6 (by decide) (hT _ tw_fl_X2_26) (fun _ h9 => h9) rfl dX2_writePages_20 ?_
    refine lv_iload_n hx hb dX2_writePages_23 rfl (lv_at hl 1 rfl) ?_
    refine lv_isub hx hb dX2_writePages_24 ?_
    refine va_put (D := (dC, dI)) (ci := 2) (v := .int (pl - pp)) (ty := .int) (C := RX2) (T := TX2) (N := 8) hx hb hT inX2 tyX2 tyX2_ok nmX2 hown hK hP hD hS 0 rfl rfl 6 (by decide) (hT _ tw_fl_X2_26) (fun _ h9 => h9) rfl (by decide +kernel) rfl rfl (Nat.le_of_ble_eq_true rfl) dX2_writePages_25 (fun H locs hP hD hS => ?_)
    have hP : va_P (dC, dI) vwCl (ps_shW h0 q1 q2 q3 cx cy cz (pl - pp) (pw + pp) ++ ps_trW cI cZ q1 a1 n1 g1 ++ ps_trW cI cZ q2 a2 n2 g2 ++ ps_lsW cI q3 b lf le lh) H := hP
    have hD : va_D A (ps_shW h0 q1 q2 q3 cx cy cz (pl - pp) (pw + pp) ++ ps_trW cI cZ q1 a1 n1 g1 ++ ps_trW cI cZ q2 a2 n2 g2 ++ ps_lsW cI q3 b lf le lh) := hD
    exact W.vret hx hb hr (fun t ht hW => ⟨⟨(), rfl, trivial, by rw [ht]; exact hP, va_K.moved hW.alike hK, hD⟩, hS.F ht⟩) hS.2.2 dX2_writePages_28
set_option maxHeartbeats 4000000 in
set_option maxRecDepth 100000 in
theorem mX2_restore (l : Launch) (dC : Nat → ClassId) (dI : Nat → Nat → Nat) (cI cZ : ClassId) (h0 q1 q2 q3 b : Nat) (a1 a2 : Nat → Nat) (n1 n2 : Nat) (g1 g2 : ps_G) (lf le : Nat) (lh : Nat → Int32) (cx cy cz pl pw : Int32) (hn2 : n2 ≤ 48) (sz : Nat) : Met l yX2_restore (.code yX2_restore cX2_restore 1 none :: ps_T) ({ frames := 2, cells := 0, slots := 0, locals := 61 }) (ps_qc (dC, dI) (ps_ty cI cZ) (ps_shW h0 q1 q2 q3 cx cy cz pl pw ++ ps_trW cI cZ q1 a1 n1 g1 ++ ps_trW cI cZ q2 a2 n2 g2 ++ ps_lsW cI q3 b lf le lh) sz [.ref h0]) (va_Qv (fun _ : Unit => True) (ps_qB (dC, dI) (ps_ty cI cZ) (va_A (ps_shW h0 q1 q2 q3 cx cy cz pl pw ++ ps_trW cI cZ q1 a1 n1 g1 ++ ps_trW cI cZ q2 a2 n2 g2 ++ ps_lsW cI q3 b lf le lh) sz) (ps_shW h0 q1 q2 q3 0 0 0 pl pw ++ ps_trW cI cZ q1 a1 n2 ((ps_cp g1 g2 n2)) ++ ps_trW cI cZ q2 a2 n2 g2 ++ ps_lsW cI q3 b 0 0 lh)) (va_A (ps_shW h0 q1 q2 q3 cx cy cz pl pw ++ ps_trW cI cZ q1 a1 n1 g1 ++ ps_trW cI cZ q2 a2 n2 g2 ++ ps_lsW cI q3 b lf le lh) sz)) 0 0 (va_A (ps_shW h0 q1 q2 q3 cx cy cz pl pw ++ ps_trW cI cZ q1 a1 n1 g1 ++ ps_trW cI cZ q2 a2 n2 g2 ++ ps_lsW cI q3 b lf le lh) sz) := by
  refine Met.ofW (cc := cX2_restore) (maxL := 1) (ret := none) (by decide) rfl ?_
  intro p e s m args below meth c s₁ B hml hv
  obtain ⟨rfl, hsz, hN, hP, hK, hD0⟩ := hv
  have hx := B.exec
  have hb := B.bytes
  have hr := B.returns
  have hlocks := B.notSynchronized
  have hT : ∀ w ∈ ps_T, w.before ([.ref h0] : List Value).toArray s = true := fun w h => atoms_spec (ws := (.code yX2_restore cX2_restore 1 none :: ps_T)) B.pre w (List.mem_cons_of_mem _ h)
  have hown : s.vm.findClass RX2 = some m.cls := findClass_of_methodNamed B.named
  subst hsz
  have hD := hD0.self (sz := s.heap.size)
  generalize hAe : va_A (ps_shW h0 q1 q2 q3 cx cy cz pl pw ++ ps_trW cI cZ q1 a1 n1 g1 ++ ps_trW cI cZ q2 a2 n2 g2 ++ ps_lsW cI q3 b lf le lh) s.heap.size = A at hD ⊢
  have hA : ∀ q : Nat, s.heap.size ≤ q → A q := fun q h => by rw [← hAe]; exact Or.inr h
  have hS : va_S A s.heap s.heap [] := va_S.rf
  have hl := lv_entry ([.ref h0]) (n := 1) (Nat.le_of_ble_eq_true rfl)
  rw [lg_entry_eq]
  generalize (lg_sl ([.ref h0]) ++ List.replicate (1 - (lg_sl ([.ref h0])).length) Slot.unset).toArray = ls at hl ⊢
  have hl : lv_has ls 1 [(0, .ref h0)] := hl
  refine lv_aload_n hx hb dX2_restore_0 rfl (lv_at hl 0 rfl) ?_
  refine va_get (D := (dC, dI)) (ci := 2) (v := .ref q1) (C := RX2) (T := TX2) (N := 8) hx hb hT inX2 hown hK hP 0 rfl rfl 0 (by decide) (hT _ tw_fl_X2_10) (fun _ h9 => h9) rfl dX2_restore_1 ?_
  refine lv_aload_n hx hb dX2_restore_4 rfl (lv_at hl 0 rfl) ?_
  refine va_get (D := (dC, dI)) (ci := 2) (v := .ref q2) (C := RX2) (T := TX2) (N := 8) hx hb hT inX2 hown hK hP 0 rfl rfl 1 (by decide) (hT _ tw_fl_X2_16) (fun _ h9 => h9) rfl dX2_restore_5 ?_
  refine ps_cqv (wc := ps_trW cI cZ q1 a1 n1 g1 ++ ps_trW cI cZ q2 a2 n2 g2) (wr := ps_shW h0 q1 q2 q3 cx cy cz pl pw ++ ps_lsW cI q3 b lf le lh) (w1 := ps_trW cI cZ q1 a1 n2 ((ps_cp g1 g2 n2)) ++ ps_trW cI cZ q2 a2 n2 g2) (ws2 := ps_shW h0 q1 q2 q3 cx cy cz pl pw ++ ps_trW cI cZ q1 a1 n2 ((ps_cp g1 g2 n2)) ++ ps_trW cI cZ q2 a2 n2 g2 ++ ps_lsW cI q3 b lf le lh) (va_runV (C := RX1) (As := [.ref q2]) (rest := []) ⟨hx, hb, hml, hown, hT⟩ (mX1_copyFrom l dC dI cI cZ q1 a1 n1 g1 q2 a2 n2 g2 (hn2) _) (cwV 1 hT (ps_gV tw_ml_X2_155 tw_im_X1_copyFrom tw_se_X1_copyFrom tw_in_X1 tw_co_X1_copyFrom) rfl rfl rfl ⟨rfl, by decide, by decide, by decide +kernel⟩ ⟨Nat.le_of_ble_eq_true rfl, Nat.le_of_ble_eq_true rfl⟩) (ps_qreV (wc := ps_trW cI cZ q1 a1 n1 g1 ++ ps_trW cI cZ q2 a2 n2 g2) (ci := 1) [1, 2, 3, 4, 5, 6, 7, 8, 9, 10, 11, 12, 13, 14, 15, 16, 17, 18] hN hP hK hD rfl rfl rfl rfl rfl) rfl rfl hl.1 rfl (lv_room (Nat.le_of_ble_eq_true rfl)) dX2_restore_8 ⟨Nat.le_of_ble_eq_true rfl, Nat.le_of_ble_eq_true rfl⟩) hS hA hP hD [1, 2, 3, 4, 5, 6, 7, 8, 9, 10, 11, 12, 13, 14, 15, 16, 17, 18] [0, 19, 20] [0, 3, 4, 5, 6, 7, 8, 9, 10, 11, 12, 13, 14, 15, 16, 17, 18, 19, 20, 1, 2] rfl rfl rfl (by decide) rfl rfl rfl (fun H locs hP hD hS => ?_)
  refine lv_aload_n hx hb dX2_restore_11 rfl (lv_at hl 0 rfl) ?_
  refine va_get (D := (dC, dI)) (ci := 2) (v := .ref q3) (C := RX2) (T := TX2) (N := 8) hx hb hT inX2 hown hK hP 0 rfl rfl 2 (by decide) (hT _ tw_fl_X2_22) (fun _ h9 => h9) rfl dX2_restore_12 ?_
  refine ps_cqv (wc := ps_lsW cI q3 b lf le lh) (wr := ps_shW h0 q1 q2 q3 cx cy cz pl pw ++ ps_trW cI cZ q1 a1 n2 ((ps_cp g1 g2 n2)) ++ ps_trW cI cZ q2 a2 n2 g2) (w1 := ps_lsW cI q3 b 0 0 lh) (ws2 := ps_shW h0 q1 q2 q3 cx cy cz pl pw ++ ps_trW cI cZ q1 a1 n2 ((ps_cp g1 g2 n2)) ++ ps_trW cI cZ q2 a2 n2 g2 ++ ps_lsW cI q3 b 0 0 lh) (va_runV (C := RX0) (As := []) (rest := []) ⟨hx, hb, hml, hown, hT⟩ (mX0_clear l dC dI cI cZ q3 b lf le lh  _) (cwV 0 hT (ps_gV tw_ml_X2_95 tw_im_X0_clear tw_se_X0_clear tw_in_X0 tw_co_X0_clear) rfl rfl rfl ⟨rfl, by decide, by decide, by decide +kernel⟩ ⟨Nat.le_of_ble_eq_true rfl, Nat.le_of_ble_eq_true rfl⟩) (ps_qreV (wc := ps_lsW cI q3 b lf le lh) (ci := 0) [19, 20] hN hP hK hD rfl rfl rfl rfl rfl) rfl rfl hl.1 rfl (lv_room (Nat.le_of_ble_eq_true rfl)) dX2_restore_15 ⟨Nat.le_of_ble_eq_true rfl, Nat.le_of_ble_eq_true rfl⟩) hS hA hP hD [19, 20] [0, 1, 2, 3, 4, 5, 6, 7, 8, 9, 10, 11, 12, 13, 14, 15, 16, 17, 18] [0, 1, 2, 3, 4, 5, 6, 7, 8, 9, 10, 11, 12, 13, 14, 15, 16, 17, 18, 19, 20] rfl rfl rfl (by decide) rfl rfl rfl (fun H locs hP hD hS => ?_)
  refine lv_aload_n hx hb dX2_restore_18 rfl (lv_at hl 0 rfl) ?_
  refine lv_iconst (v := 0) hx hb dX2_restore_19 (by decide) ?_
  refine lv_iconst (v := 0) hx hb dX2_restore_20 (by decide) ?_
  refine lv_iconst (v := 0) hx hb dX2_restore_21 (by decide) ?_
  refine ps_cqv (wc := ps_shW h0 q1 q2 q3 cx cy cz pl pw ++ ps_trW cI cZ q1 a1 n2 ((ps_cp g1 g2 n2)) ++ ps_trW cI cZ q2 a2 n2 g2 ++ ps_lsW cI q3 b 0 0 lh) (wr := []) (w1 := ps_shW h0 q1 q2 q3 0 0 0 pl pw ++ ps_trW cI cZ q1 a1 n2 ((ps_cp g1 g2 n2)) ++ ps_trW cI cZ q2 a2 n2 g2 ++ ps_lsW cI q3 b 0 0 lh) (ws2 := ps_shW h0 q1 q2 q3 0 0 0 pl pw ++ ps_trW cI cZ q1 a1 n2 ((ps_cp g1 g2 n2)) ++ ps_trW cI cZ q2 a2 n2 g2 ++ ps_lsW cI q3 b 0 0 lh) (va_runV (C := RX2) (As := [.int 0, .int 0, .int 0]) (rest := []) ⟨hx, hb, hml, hown, hT⟩ (mX2_setCorner l dC dI cI cZ h0 q1 q2 q3 b a1 a2 n2 n2 ((ps_cp g1 g2 n2)) g2 0 0 lh cx cy cz pl pw 0 0 0 _) (cwV 3 hT (ps_gV tw_ml_X2_86 tw_im_X2_setCorner tw_se_X2_setCorner tw_in_X2 tw_co_X2_setCorner) rfl rfl rfl ⟨rfl, by decide, by decide, by decide +kernel⟩ ⟨Nat.le_of_ble_eq_true rfl, Nat.le_of_ble_eq_true rfl⟩) (ps_qreV (wc := ps_shW h0 q1 q2 q3 cx cy cz pl pw ++ ps_trW cI cZ q1 a1 n2 ((ps_cp g1 g2 n2)) ++ ps_trW cI cZ q2 a2 n2 g2 ++ ps_lsW cI q3 b 0 0 lh) (ci := 2) [0, 1, 2, 3, 4, 5, 6, 7, 8, 9, 10, 11, 12, 13, 14, 15, 16, 17, 18, 19, 20] hN hP hK hD rfl rfl rfl rfl rfl) rfl rfl hl.1 rfl (lv_room (Nat.le_of_ble_eq_true rfl)) dX2_restore_22 ⟨Nat.le_of_ble_eq_true rfl, Nat.le_of_ble_eq_true rfl⟩) hS hA hP hD [0, 1, 2, 3, 4, 5, 6, 7, 8, 9, 10, 11, 12, 13, 14, 15, 16, 17, 18, 19, 20] [] [0, 1, 2, 3, 4, 5, 6, 7, 8, 9, 10, 11, 12, 13, 14, 15, 16, 17, 18, 19, 20] rfl rfl rfl (by decide) rfl rfl rfl (fun H locs hP hD hS => ?_)
  exact W.vret hx hb hr (fun t ht hW => ⟨⟨(), rfl, trivial, by rw [ht]; exact hP, va_K.moved hW.alike hK, hD⟩, hS.F ht⟩) hS.2.2 dX2_restore_25
set_option maxHeartbeats 4000000 in
set_option maxRecDepth 100000 in
theorem mX2_open (l : Launch) (dC : Nat → ClassId) (dI : Nat → Nat → Nat) (cI cZ : ClassId) (h0 q1 q2 q3 b : Nat) (a1 a2 : Nat → Nat) (n1 n2 : Nat) (g1 g2 : ps_G) (lf le : Nat) (lh : Nat → Int32) (cx cy cz pl pw : Int32) (hn2 : n2 ≤ 48) (sz : Nat) : Met l yX2_open (.code yX2_open cX2_open 1 (some .int) :: ps_T) ({ frames := 3, cells := 0, slots := 0, locals := 81 }) (ps_qc (dC, dI) (ps_ty cI cZ) (ps_shW h0 q1 q2 q3 cx cy cz pl pw ++ ps_trW cI cZ q1 a1 n1 g1 ++ ps_trW cI cZ q2 a2 n2 g2 ++ ps_lsW cI q3 b lf le lh) sz [.ref h0]) (va_Qi (fun (r : Int32) (_ : Unit) => r = nI n2) (ps_qB (dC, dI) (ps_ty cI cZ) (va_A (ps_shW h0 q1 q2 q3 cx cy cz pl pw ++ ps_trW cI cZ q1 a1 n1 g1 ++ ps_trW cI cZ q2 a2 n2 g2 ++ ps_lsW cI q3 b lf le lh) sz) (ps_shW h0 q1 q2 q3 0 0 0 pl pw ++ ps_trW cI cZ q1 a1 n2 ((ps_cp g1 g2 n2)) ++ ps_trW cI cZ q2 a2 n2 g2 ++ ps_lsW cI q3 b 0 0 lh)) (va_A (ps_shW h0 q1 q2 q3 cx cy cz pl pw ++ ps_trW cI cZ q1 a1 n1 g1 ++ ps_trW cI cZ q2 a2 n2 g2 ++ ps_lsW cI q3 b lf le lh) sz)) 0 0 (va_A (ps_shW h0 q1 q2 q3 cx cy cz pl pw ++ ps_trW cI cZ q1 a1 n1 g1 ++ ps_trW cI cZ q2 a2 n2 g2 ++ ps_lsW cI q3 b lf le lh) sz) := by
  refine Met.ofW (cc := cX2_open) (maxL := 1) (ret := (some .int)) (by decide) rfl ?_
  intro p e s m args below meth c s₁ B hml hv
  obtain ⟨rfl, hsz, hN, hP, hK, hD0⟩ := hv
  have hx := B.exec
  have hb := B.bytes
  have hr := B.returns
  have hlocks := B.notSynchronized
  have hT : ∀ w ∈ ps_T, w.before ([.ref h0] : List Value).toArray s = true := fun w h => atoms_spec (ws := (.code yX2_open cX2_open 1 (some .int) :: ps_T)) B.pre w (List.mem_cons_of_mem _ h)
  have hown : s.vm.findClass RX2 = some m.cls := findClass_of_methodNamed B.named
  subst hsz
  have hD := hD0.self (sz := s.heap.size)
  generalize hAe : va_A (ps_shW h0 q1 q2 q3 cx cy cz pl pw ++ ps_trW cI cZ q1 a1 n1 g1 ++ ps_trW cI cZ q2 a2 n2 g2 ++ ps_lsW cI q3 b lf le lh) s.heap.size = A at hD ⊢
  have hA : ∀ q : Nat, s.heap.size ≤ q → A q := fun q h => by rw [← hAe]; exact Or.inr h
  have hS : va_S A s.heap s.heap [] := va_S.rf
  have hl := lv_entry ([.ref h0]) (n := 1) (Nat.le_of_ble_eq_true rfl)
  rw [lg_entry_eq]
  generalize (lg_sl ([.ref h0]) ++ List.replicate (1 - (lg_sl ([.ref h0])).length) Slot.unset).toArray = ls at hl ⊢
  have hl : lv_has ls 1 [(0, .ref h0)] := hl
  refine lv_aload_n hx hb dX2_open_0 rfl (lv_at hl 0 rfl) ?_
  refine ps_cqv (wc := ps_shW h0 q1 q2 q3 cx cy cz pl pw ++ ps_trW cI cZ q1 a1 n1 g1 ++ ps_trW cI cZ q2 a2 n2 g2 ++ ps_lsW cI q3 b lf le lh) (wr := []) (w1 := ps_shW h0 q1 q2 q3 0 0 0 pl pw ++ ps_trW cI cZ q1 a1 n2 ((ps_cp g1 g2 n2)) ++ ps_trW cI cZ q2 a2 n2 g2 ++ ps_lsW cI q3 b 0 0 lh) (ws2 := ps_shW h0 q1 q2 q3 0 0 0 pl pw ++ ps_trW cI cZ q1 a1 n2 ((ps_cp g1 g2 n2)) ++ ps_trW cI cZ q2 a2 n2 g2 ++ ps_lsW cI q3 b 0 0 lh) (va_runV (C := RX2) (As := []) (rest := []) ⟨hx, hb, hml, hown, hT⟩ (mX2_restore l dC dI cI cZ h0 q1 q2 q3 b a1 a2 n1 n2 g1 g2 lf le lh cx cy cz pl pw (hn2) _) (cwV 0 hT (ps_gV tw_ml_X2_161 tw_im_X2_restore tw_se_X2_restore tw_in_X2 tw_co_X2_restore) rfl rfl rfl ⟨rfl, by decide, by decide, by decide +kernel⟩ ⟨Nat.le_of_ble_eq_true rfl, Nat.le_of_ble_eq_true rfl⟩) (ps_qreV (wc := ps_shW h0 q1 q2 q3 cx cy cz pl pw ++ ps_trW cI cZ q1 a1 n1 g1 ++ ps_trW cI cZ q2 a2 n2 g2 ++ ps_lsW cI q3 b lf le lh) (ci := 2) [0, 1, 2, 3, 4, 5, 6, 7, 8, 9, 10, 11, 12, 13, 14, 15, 16, 17, 18, 19, 20] hN hP hK hD rfl rfl rfl rfl rfl) rfl rfl hl.1 rfl (lv_room (Nat.le_of_ble_eq_true rfl)) dX2_open_1 ⟨Nat.le_of_ble_eq_true rfl, Nat.le_of_ble_eq_true rfl⟩) hS hA hP hD [0, 1, 2, 3, 4, 5, 6, 7, 8, 9, 10, 11, 12, 13, 14, 15, 16, 17, 18, 19, 20] [] [0, 1, 2, 3, 4, 5, 6, 7, 8, 9, 10, 11, 12, 13, 14, 15, 16, 17, 18, 19, 20] rfl rfl rfl (by decide) rfl rfl rfl (fun H locs hP hD hS => ?_)
  refine lv_aload_n hx hb dX2_open_4 rfl (lv_at hl 0 rfl) ?_
  refine va_get (D := (dC, dI)) (ci := 2) (v := .ref q1) (C := RX2) (T := TX2) (N := 8) hx hb hT inX2 hown hK hP 0 rfl rfl 0 (by decide) (hT _ tw_fl_X2_10) (fun _ h9 => h9) rfl dX2_open_5 ?_
  refine vp_callSi (va_Run.run (va_runV (C := RX1) (As := []) (rest := []) ⟨hx, hb, hml, hown, hT⟩ (mX1_size l dC dI cI cZ q1 a1 n2 ((ps_cp g1 g2 n2)) ) (cwV 0 hT (ps_gV tw_ml_X2_45 tw_im_X1_size tw_se_X1_size tw_in_X1 tw_co_X1_size) rfl rfl rfl ⟨rfl, by decide, by decide, by decide +kernel⟩ ⟨Nat.le_of_ble_eq_true rfl, Nat.le_of_ble_eq_true rfl⟩) (ps_preV (ci := 1) (q0 := 0) hN (hP.sub (ws' := ps_trW cI cZ q1 a1 n2 ((ps_cp g1 g2 n2))) [1, 2, 3, 4, 5, 6, 7, 8, 9] rfl) hK rfl rfl) rfl rfl hl.1 rfl (lv_room (Nat.le_of_ble_eq_true rfl)) dX2_open_8 ⟨Nat.le_of_ble_eq_true rfl, Nat.le_of_ble_eq_true rfl⟩)) (fun r hr => ?_)
  obtain rfl : r = nI n2 := hr
  exact W.iret (v := nI n2) hx hb hr (fun t ht hW => ⟨⟨nI n2, (), rfl, rfl, by rw [ht]; exact hP, va_K.moved hW.alike hK, hD⟩, hS.F ht⟩) hS.2.2 dX2_open_11
set_option maxHeartbeats 4000000 in
set_option maxRecDepth 100000 in
theorem mX2_losePower (l : Launch) (dC : Nat → ClassId) (dI : Nat → Nat → Nat) (cI cZ : ClassId) (h0 q1 q2 q3 b : Nat) (a1 a2 : Nat → Nat) (n1 n2 : Nat) (g1 g2 : ps_G) (lf le : Nat) (lh : Nat → Int32) (cx cy cz pl pw : Int32) (hn2 : n2 ≤ 48) (sz : Nat) : Met l yX2_losePower (.code yX2_losePower cX2_losePower 1 none :: ps_T) ({ frames := 3, cells := 0, slots := 0, locals := 81 }) (ps_qc (dC, dI) (ps_ty cI cZ) (ps_shW h0 q1 q2 q3 cx cy cz pl pw ++ ps_trW cI cZ q1 a1 n1 g1 ++ ps_trW cI cZ q2 a2 n2 g2 ++ ps_lsW cI q3 b lf le lh) sz [.ref h0]) (va_Qv (fun _ : Unit => True) (ps_qB (dC, dI) (ps_ty cI cZ) (va_A (ps_shW h0 q1 q2 q3 cx cy cz pl pw ++ ps_trW cI cZ q1 a1 n1 g1 ++ ps_trW cI cZ q2 a2 n2 g2 ++ ps_lsW cI q3 b lf le lh) sz) (ps_shW h0 q1 q2 q3 0 0 0 ((-1)) ((pw + pl)) ++ ps_trW cI cZ q1 a1 n2 ((ps_cp g1 g2 n2)) ++ ps_trW cI cZ q2 a2 n2 g2 ++ ps_lsW cI q3 b 0 0 lh)) (va_A (ps_shW h0 q1 q2 q3 cx cy cz pl pw ++ ps_trW cI cZ q1 a1 n1 g1 ++ ps_trW cI cZ q2 a2 n2 g2 ++ ps_lsW cI q3 b lf le lh) sz)) 0 0 (va_A (ps_shW h0 q1 q2 q3 cx cy cz pl pw ++ ps_trW cI cZ q1 a1 n1 g1 ++ ps_trW cI cZ q2 a2 n2 g2 ++ ps_lsW cI q3 b lf le lh) sz) := by
  refine Met.ofW (cc := cX2_losePower) (maxL := 1) (ret := none) (by decide) rfl ?_
  intro p e s m args below meth c s₁ B hml hv
  obtain ⟨rfl, hsz, hN, hP, hK, hD0⟩ := hv
  have hx := B.exec
  have hb := B.bytes
  have hr := B.returns
  have hlocks := B.notSynchronized
  have hT : ∀ w ∈ ps_T, w.before ([.ref h0] : List Value).toArray s = true := fun w h => atoms_spec (ws := (.code yX2_losePower cX2_losePower 1 none :: ps_T)) B.pre w (List.mem_cons_of_mem _ h)
  have hown : s.vm.findClass RX2 = some m.cls := findClass_of_methodNamed B.named
  subst hsz
  have hD := hD0.self (sz := s.heap.size)
  generalize hAe : va_A (ps_shW h0 q1 q2 q3 cx cy cz pl pw ++ ps_trW cI cZ q1 a1 n1 g1 ++ ps_trW cI cZ q2 a2 n2 g2 ++ ps_lsW cI q3 b lf le lh) s.heap.size = A at hD ⊢
  have hA : ∀ q : Nat, s.heap.size ≤ q → A q := fun q h => by rw [← hAe]; exact Or.inr h
  have hS : va_S A s.heap s.heap [] := va_S.rf
  have hl := lv_entry ([.ref h0]) (n := 1) (Nat.le_of_ble_eq_true rfl)
  rw [lg_entry_eq]
  generalize (lg_sl ([.ref h0]) ++ List.replicate (1 - (lg_sl ([.ref h0])).length) Slot.unset).toArray = ls at hl ⊢
  have hl : lv_has ls 1 [(0, .ref h0)] := hl
  refine lv_aload_n hx hb dX2_losePower_0 rfl (lv_at hl 0 rfl) ?_
  refine lv_aload_n hx hb dX2_losePower_1 rfl (lv_at hl 0 rfl) ?_
  refine va_get (D := (dC, dI)) (ci := 2) (v := .int pl) (C := RX2) (T := TX2) (N := 8) hx hb hT inX2 hown hK hP 0 rfl rfl 6 (by decide) (hT _ tw_fl_X2_26) (fun _ h9 => h9) rfl dX2_losePower_2 ?_
  refine ps_cqv (wc := ps_shW h0 q1 q2 q3 cx cy cz pl pw ++ ps_trW cI cZ q1 a1 n1 g1 ++ ps_trW cI cZ q2 a2 n2 g2 ++ ps_lsW cI q3 b lf le lh) (wr := []) (w1 := ps_shW h0 q1 q2 q3 cx cy cz (ps_pl pl pl) (pw + pl) ++ ps_trW cI cZ q1 a1 n1 g1 ++ ps_trW cI cZ q2 a2 n2 g2 ++ ps_lsW cI q3 b lf le lh) (ws2 := ps_shW h0 q1 q2 q3 cx cy cz (ps_pl pl pl) (pw + pl) ++ ps_trW cI cZ q1 a1 n1 g1 ++ ps_trW cI cZ q2 a2 n2 g2 ++ ps_lsW cI q3 b lf le lh) (va_runV (C := RX2) (As := [.int pl]) (rest := []) ⟨hx, hb, hml, hown, hT⟩ (mX2_writePages l dC dI cI cZ h0 q1 q2 q3 b a1 a2 n1 n2 g1 g2 lf le lh cx cy cz pl pw pl _) (cwV 1 hT (ps_gV tw_ml_X2_152 tw_im_X2_writePages tw_se_X2_writePages tw_in_X2 tw_co_X2_writePages) rfl rfl rfl ⟨rfl, by decide, by decide, by decide +kernel⟩ ⟨Nat.le_of_ble_eq_true rfl, Nat.le_of_ble_eq_true rfl⟩) (ps_qreV (wc := ps_shW h0 q1 q2 q3 cx cy cz pl pw ++ ps_trW cI cZ q1 a1 n1 g1 ++ ps_trW cI cZ q2 a2 n2 g2 ++ ps_lsW cI q3 b lf le lh) (ci := 2) [0, 1, 2, 3, 4, 5, 6, 7, 8, 9, 10, 11, 12, 13, 14, 15, 16, 17, 18, 19, 20] hN hP hK hD rfl rfl rfl rfl rfl) rfl rfl hl.1 rfl (lv_room (Nat.le_of_ble_eq_true rfl)) dX2_losePower_5 ⟨Nat.le_of_ble_eq_true rfl, Nat.le_of_ble_eq_true rfl⟩) hS hA hP hD [0, 1, 2, 3, 4, 5, 6, 7, 8, 9, 10, 11, 12, 13, 14, 15, 16, 17, 18, 19, 20] [] [0, 1, 2, 3, 4, 5, 6, 7, 8, 9, 10, 11, 12, 13, 14, 15, 16, 17, 18, 19, 20] rfl rfl rfl (by decide) rfl rfl rfl (fun H locs hP hD hS => ?_)
  refine lv_aload_n hx hb dX2_losePower_8 rfl (lv_at hl 0 rfl) ?_
  refine lv_iconst (v := (-1)) hx hb dX2_losePower_9 (by decide) ?_
  refine va_put (D := (dC, dI)) (ci := 2) (v := .int ((-1))) (ty := .int) (C := RX2) (T := TX2) (N := 8) hx hb hT inX2 tyX2 tyX2_ok nmX2 hown hK hP hD hS 0 rfl rfl 6 (by decide) (hT _ tw_fl_X2_26) (fun _ h9 => h9) rfl (by decide +kernel) rfl rfl (Nat.le_of_ble_eq_true rfl) dX2_losePower_10 (fun H locs hP hD hS => ?_)
  have hP : va_P (dC, dI) vwCl (ps_shW h0 q1 q2 q3 cx cy cz ((-1)) (pw + pl) ++ ps_trW cI cZ q1 a1 n1 g1 ++ ps_trW cI cZ q2 a2 n2 g2 ++ ps_lsW cI q3 b lf le lh) H := hP
  have hD : va_D A (ps_shW h0 q1 q2 q3 cx cy cz ((-1)) (pw + pl) ++ ps_trW cI cZ q1 a1 n1 g1 ++ ps_trW cI cZ q2 a2 n2 g2 ++ ps_lsW cI q3 b lf le lh) := hD
  refine lv_aload_n hx hb dX2_losePower_13 rfl (lv_at hl 0 rfl) ?_
  refine ps_cqv (wc := ps_shW h0 q1 q2 q3 cx cy cz ((-1)) (pw + pl) ++ ps_trW cI cZ q1 a1 n1 g1 ++ ps_trW cI cZ q2 a2 n2 g2 ++ ps_lsW cI q3 b lf le lh) (wr := []) (w1 := ps_shW h0 q1 q2 q3 0 0 0 ((-1)) (pw + pl) ++ ps_trW cI cZ q1 a1 n2 ((ps_cp g1 g2 n2)) ++ ps_trW cI cZ q2 a2 n2 g2 ++ ps_lsW cI q3 b 0 0 lh) (ws2 := ps_shW h0 q1 q2 q3 0 0 0 ((-1)) (pw + pl) ++ ps_trW cI cZ q1 a1 n2 ((ps_cp g1 g2 n2)) ++ ps_trW cI cZ q2 a2 n2 g2 ++ ps_lsW cI q3 b 0 0 lh) (va_runV (C := RX2) (As := []) (rest := []) ⟨hx, hb, hml, hown, hT⟩ (mX2_restore l dC dI cI cZ h0 q1 q2 q3 b a1 a2 n1 n2 g1 g2 lf le lh cx cy cz ((-1)) (pw + pl) (hn2) _) (cwV 0 hT (ps_gV tw_ml_X2_161 tw_im_X2_restore tw_se_X2_restore tw_in_X2 tw_co_X2_restore) rfl rfl rfl ⟨rfl, by decide, by decide, by decide +kernel⟩ ⟨Nat.le_of_ble_eq_true rfl, Nat.le_of_ble_eq_true rfl⟩) (ps_qreV (wc := ps_shW h0 q1 q2 q3 cx cy cz ((-1)) (pw + pl) ++ ps_trW cI cZ q1 a1 n1 g1 ++ ps_trW cI cZ q2 a2 n2 g2 ++ ps_lsW cI q3 b lf le lh) (ci := 2) [0, 1, 2, 3, 4, 5, 6, 7, 8, 9, 10, 11, 12, 13, 14, 15, 16, 17, 18, 19, 20] hN hP hK hD rfl rfl rfl rfl rfl) rfl rfl hl.1 rfl (lv_room (Nat.le_of_ble_eq_true rfl)) dX2_losePower_14 ⟨Nat.le_of_ble_eq_true rfl, Nat.le_of_ble_eq_true rfl⟩) hS hA hP hD [0, 1, 2, 3, 4, 5, 6, 7, 8, 9, 10, 11, 12, 13, 14, 15, 16, 17, 18, 19, 20] [] [0, 1, 2, 3, 4, 5, 6, 7, 8, 9, 10, 11, 12, 13, 14, 15, 16, 17, 18, 19, 20] rfl rfl rfl (by decide) rfl rfl rfl (fun H locs hP hD hS => ?_)
  exact W.vret hx hb hr (fun t ht hW => ⟨⟨(), rfl, trivial, by rw [ht]; exact hP, va_K.moved hW.alike hK, hD⟩, hS.F ht⟩) hS.2.2 dX2_losePower_17
set_option maxHeartbeats 4000000 in
set_option maxRecDepth 100000 in
theorem mX2_remove_n (l : Launch) (dC : Nat → ClassId) (dI : Nat → Nat → Nat) (cI cZ : ClassId) (h0 q1 q2 q3 b : Nat) (a1 a2 : Nat → Nat) (n1 n2 : Nat) (g1 g2 : ps_G) (lf le : Nat) (lh : Nat → Int32) (cx cy cz pl pw : Int32) (hn1 : n1 ≤ 48) (id : Int32) (k : Nat) (hf : ps_fi (g1 0) id n1 = some k) (sz : Nat) : Met l yX2_remove (.code yX2_remove cX2_remove 4 (some .int) :: ps_T) ({ frames := 6, cells := 0, slots := 0, locals := 139 }) (ps_qc (dC, dI) (ps_ty cI cZ) (ps_shW h0 q1 q2 q3 cx cy cz pl pw ++ ps_trW cI cZ q1 a1 n1 g1 ++ ps_trW cI cZ q2 a2 n2 g2 ++ ps_lsW cI q3 b lf le lh) sz [.ref h0, .int id]) (va_Qi (fun (r : Int32) (_ : Unit) => r = g1 5 k) (ps_qB (dC, dI) (ps_ty cI cZ) (va_A (ps_shW h0 q1 q2 q3 cx cy cz pl pw ++ ps_trW cI cZ q1 a1 n1 g1 ++ ps_trW cI cZ q2 a2 n2 g2 ++ ps_lsW cI q3 b lf le lh) sz) (ps_shW h0 q1 q2 q3 cx cy cz pl pw ++ ps_trW cI cZ q1 a1 ((n1 - 1)) ((ps_dg g1 n1 k)) ++ ps_trW cI cZ q2 a2 n2 g2 ++ ps_lsW cI q3 b lf le lh)) (va_A (ps_shW h0 q1 q2 q3 cx cy cz pl pw ++ ps_trW cI cZ q1 a1 n1 g1 ++ ps_trW cI cZ q2 a2 n2 g2 ++ ps_lsW cI q3 b lf le lh) sz)) 0 0 (va_A (ps_shW h0 q1 q2 q3 cx cy cz pl pw ++ ps_trW cI cZ q1 a1 n1 g1 ++ ps_trW cI cZ q2 a2 n2 g2 ++ ps_lsW cI q3 b lf le lh) sz) := by
  refine Met.ofW (cc := cX2_remove) (maxL := 4) (ret := (some .int)) (by decide) rfl ?_
  intro p e s m args below meth c s₁ B hml hv
  obtain ⟨rfl, hsz, hN, hP, hK, hD0⟩ := hv
  have hx := B.exec
  have hb := B.bytes
  have hr := B.returns
  have hlocks := B.notSynchronized
  have hT : ∀ w ∈ ps_T, w.before ([.ref h0, .int id] : List Value).toArray s = true := fun w h => atoms_spec (ws := (.code yX2_remove cX2_remove 4 (some .int) :: ps_T)) B.pre w (List.mem_cons_of_mem _ h)
  have hown : s.vm.findClass RX2 = some m.cls := findClass_of_methodNamed B.named
  subst hsz
  have hD := hD0.self (sz := s.heap.size)
  generalize hAe : va_A (ps_shW h0 q1 q2 q3 cx cy cz pl pw ++ ps_trW cI cZ q1 a1 n1 g1 ++ ps_trW cI cZ q2 a2 n2 g2 ++ ps_lsW cI q3 b lf le lh) s.heap.size = A at hD ⊢
  have hA : ∀ q : Nat, s.heap.size ≤ q → A q := fun q h => by rw [← hAe]; exact Or.inr h
  have hS : va_S A s.heap s.heap [] := va_S.rf
  have hl := lv_entry ([.ref h0, .int id]) (n := 4) (Nat.le_of_ble_eq_true rfl)
  rw [lg_entry_eq]
  generalize (lg_sl ([.ref h0, .int id]) ++ List.replicate (4 - (lg_sl ([.ref h0, .int id])).length) Slot.unset).toArray = ls at hl ⊢
  have hl : lv_has ls 4 [(0, .ref h0), (1, .int id)] := hl
  have hk := (ps_fi_spec hf).1
  refine lv_aload_n hx hb dX2_remove_0 rfl (lv_at hl 0 rfl) ?_
  refine lv_iload_n hx hb dX2_remove_1 rfl (lv_at hl 1 rfl) ?_
  refine vp_callSi (va_Run.run (va_runV (C := RX2) (As := [.int id]) (rest := []) ⟨hx, hb, hml, hown, hT⟩ (mX2_findPoint_n l dC dI cI cZ h0 q1 q2 q3 b a1 a2 n1 n2 g1 g2 lf le lh cx cy cz pl pw hn1 id k hf) (cwV 1 hT (ps_gV tw_ml_X2_58 tw_im_X2_findPoint tw_se_X2_findPoint tw_in_X2 tw_co_X2_findPoint) rfl rfl rfl ⟨rfl, by decide, by decide, by decide +kernel⟩ ⟨Nat.le_of_ble_eq_true rfl, Nat.le_of_ble_eq_true rfl⟩) (ps_preV (ci := 2) (q0 := 0) hN hP hK rfl rfl) rfl rfl hl.1 rfl (lv_room (Nat.le_of_ble_eq_true rfl)) dX2_remove_2 ⟨Nat.le_of_ble_eq_true rfl, Nat.le_of_ble_eq_true rfl⟩)) (fun r hr => ?_)
  obtain rfl : r = nI k := hr
  refine lv_istore_n (lv' := [(2, .int (nI k)), (0, .ref h0), (1, .int id)]) hx hb dX2_remove_5 rfl hl (by decide) rfl (fun ls hl => ?_)
  refine lv_aload_n hx hb dX2_remove_6 rfl (lv_at hl 1 rfl) ?_
  refine va_get (D := (dC, dI)) (ci := 2) (v := .ref q1) (C := RX2) (T := TX2) (N := 8) hx hb hT inX2 hown hK hP 0 rfl rfl 0 (by decide) (hT _ tw_fl_X2_10) (fun _ h9 => h9) rfl dX2_remove_7 ?_
  refine lv_iload_n hx hb dX2_remove_10 rfl (lv_at hl 0 rfl) ?_
  refine vp_callSi (va_Run.run (va_runV (C := RX1) (As := [.int (nI k)]) (rest := []) ⟨hx, hb, hml, hown, hT⟩ (mX1_depthOf l dC dI cI cZ q1 a1 n1 g1 k (by omega)) (cwV 1 hT (ps_gV tw_ml_X2_55 tw_im_X1_depthOf tw_se_X1_depthOf tw_in_X1 tw_co_X1_depthOf) rfl rfl rfl ⟨rfl, by decide, by decide, by decide +kernel⟩ ⟨Nat.le_of_ble_eq_true rfl, Nat.le_of_ble_eq_true rfl⟩) (ps_preV (ci := 1) (q0 := 0) hN (hP.sub (ws' := ps_trW cI cZ q1 a1 n1 g1) [1, 2, 3, 4, 5, 6, 7, 8, 9] rfl) hK rfl rfl) rfl rfl hl.1 rfl (lv_room (Nat.le_of_ble_eq_true rfl)) dX2_remove_11 ⟨Nat.le_of_ble_eq_true rfl, Nat.le_of_ble_eq_true rfl⟩)) (fun r hr => ?_)
  obtain rfl : r = g1 5 k := hr
  refine lv_istore_n (lv' := [(3, .int (g1 5 k)), (2, .int (nI k)), (0, .ref h0), (1, .int id)]) hx hb dX2_remove_14 rfl hl (by decide) rfl (fun ls hl => ?_)
  refine lv_aload_n hx hb dX2_remove_15 rfl (lv_at hl 2 rfl) ?_
  refine va_get (D := (dC, dI)) (ci := 2) (v := .ref q1) (C := RX2) (T := TX2) (N := 8) hx hb hT inX2 hown hK hP 0 rfl rfl 0 (by decide) (hT _ tw_fl_X2_10) (fun _ h9 => h9) rfl dX2_remove_16 ?_
  refine lv_iload_n hx hb dX2_remove_19 rfl (lv_at hl 1 rfl) ?_
  refine ps_cqv (wc := ps_trW cI cZ q1 a1 n1 g1) (wr := ps_shW h0 q1 q2 q3 cx cy cz pl pw ++ ps_trW cI cZ q2 a2 n2 g2 ++ ps_lsW cI q3 b lf le lh) (w1 := ps_trW cI cZ q1 a1 ((n1 - 1)) ((ps_dg g1 n1 k))) (ws2 := ps_shW h0 q1 q2 q3 cx cy cz pl pw ++ ps_trW cI cZ q1 a1 ((n1 - 1)) ((ps_dg g1 n1 k)) ++ ps_trW cI cZ q2 a2 n2 g2 ++ ps_lsW cI q3 b lf le lh) (va_runV (C := RX1) (As := [.int (nI k)]) (rest := []) ⟨hx, hb, hml, hown, hT⟩ (mX1_delete l dC dI cI cZ q1 a1 n1 g1 (hn1) k (by omega) _) (cwV 1 hT (ps_gV tw_ml_X2_61 tw_im_X1_delete tw_se_X1_delete tw_in_X1 tw_co_X1_delete) rfl rfl rfl ⟨rfl, by decide, by decide, by decide +kernel⟩ ⟨Nat.le_of_ble_eq_true rfl, Nat.le_of_ble_eq_true rfl⟩) (ps_qreV (wc := ps_trW cI cZ q1 a1 n1 g1) (ci := 1) [1, 2, 3, 4, 5, 6, 7, 8, 9] hN hP hK hD rfl rfl rfl rfl rfl) rfl rfl hl.1 rfl (lv_room (Nat.le_of_ble_eq_true rfl)) dX2_remove_20 ⟨Nat.le_of_ble_eq_true rfl, Nat.le_of_ble_eq_true rfl⟩) hS hA hP hD [1, 2, 3, 4, 5, 6, 7, 8, 9] [0, 10, 11, 12, 13, 14, 15, 16, 17, 18, 19, 20] [0, 12, 13, 14, 15, 16, 17, 18, 19, 20, 1, 2, 3, 4, 5, 6, 7, 8, 9, 10, 11] rfl rfl rfl (by decide) rfl rfl rfl (fun H locs hP hD hS => ?_)
  refine lv_iload_n hx hb dX2_remove_23 rfl (lv_at hl 0 rfl) ?_
  exact W.iret (v := g1 5 k) hx hb hr (fun t ht hW => ⟨⟨g1 5 k, (), rfl, rfl, by rw [ht]; exact hP, va_K.moved hW.alike hK, hD⟩, hS.F ht⟩) hS.2.2 dX2_remove_24
set_option maxHeartbeats 4000000 in
set_option maxRecDepth 100000 in
theorem mX2_recolour_n (l : Launch) (dC : Nat → ClassId) (dI : Nat → Nat → Nat) (cI cZ : ClassId) (h0 q1 q2 q3 b : Nat) (a1 a2 : Nat → Nat) (n1 n2 : Nat) (g1 g2 : ps_G) (lf le : Nat) (lh : Nat → Int32) (cx cy cz pl pw : Int32) (hn1 : n1 ≤ 48) (id v : Int32) (k : Nat) (hf : ps_fi (g1 0) id n1 = some k) (sz : Nat) : Met l yX2_recolour (.code yX2_recolour cX2_recolour 5 (some .int) :: ps_T) ({ frames := 2, cells := 0, slots := 0, locals := 44 }) (ps_qc (dC, dI) (ps_ty cI cZ) (ps_shW h0 q1 q2 q3 cx cy cz pl pw ++ ps_trW cI cZ q1 a1 n1 g1 ++ ps_trW cI cZ q2 a2 n2 g2 ++ ps_lsW cI q3 b lf le lh) sz [.ref h0, .int id, .int v]) (va_Qi (fun (r : Int32) (_ : Unit) => r = g1 4 k) (ps_qB (dC, dI) (ps_ty cI cZ) (va_A (ps_shW h0 q1 q2 q3 cx cy cz pl pw ++ ps_trW cI cZ q1 a1 n1 g1 ++ ps_trW cI cZ q2 a2 n2 g2 ++ ps_lsW cI q3 b lf le lh) sz) (ps_shW h0 q1 q2 q3 cx cy cz pl pw ++ ps_trW cI cZ q1 a1 n1 (va_up g1 4 (upd (g1 4) k v)) ++ ps_trW cI cZ q2 a2 n2 g2 ++ ps_lsW cI q3 b lf le lh)) (va_A (ps_shW h0 q1 q2 q3 cx cy cz pl pw ++ ps_trW cI cZ q1 a1 n1 g1 ++ ps_trW cI cZ q2 a2 n2 g2 ++ ps_lsW cI q3 b lf le lh) sz)) 0 0 (va_A (ps_shW h0 q1 q2 q3 cx cy cz pl pw ++ ps_trW cI cZ q1 a1 n1 g1 ++ ps_trW cI cZ q2 a2 n2 g2 ++ ps_lsW cI q3 b lf le lh) sz) := by
  refine Met.ofW (cc := cX2_recolour) (maxL := 5) (ret := (some .int)) (by decide) rfl ?_
  intro p e s m args below meth c s₁ B hml hv
  obtain ⟨rfl, hsz, hN, hP, hK, hD0⟩ := hv
  have hx := B.exec
  have hb := B.bytes
  have hr := B.returns
  have hlocks := B.notSynchronized
  have hT : ∀ w ∈ ps_T, w.before ([.ref h0, .int id, .int v] : List Value).toArray s = true := fun w h => atoms_spec (ws := (.code yX2_recolour cX2_recolour 5 (some .int) :: ps_T)) B.pre w (List.mem_cons_of_mem _ h)
  have hown : s.vm.findClass RX2 = some m.cls := findClass_of_methodNamed B.named
  subst hsz
  have hD := hD0.self (sz := s.heap.size)
  generalize hAe : va_A (ps_shW h0 q1 q2 q3 cx cy cz pl pw ++ ps_trW cI cZ q1 a1 n1 g1 ++ ps_trW cI cZ q2 a2 n2 g2 ++ ps_lsW cI q3 b lf le lh) s.heap.size = A at hD ⊢
  have hA : ∀ q : Nat, s.heap.size ≤ q → A q := fun q h => by rw [← hAe]; exact Or.inr h
  have hS : va_S A s.heap s.heap [] := va_S.rf
  have hl := lv_entry ([.ref h0, .int id, .int v]) (n := 5) (Nat.le_of_ble_eq_true rfl)
  rw [lg_entry_eq]
  generalize (lg_sl ([.ref h0, .int id, .int v]) ++ List.replicate (5 - (lg_sl ([.ref h0, .int id, .int v])).length) Slot.unset).toArray = ls at hl ⊢
  have hl : lv_has ls 5 [(0, .ref h0), (1, .int id), (2, .int v)] := hl
  have hk := (ps_fi_spec hf).1
  refine lv_aload_n hx hb dX2_recolour_0 rfl (lv_at hl 0 rfl) ?_
  refine lv_iload_n hx hb dX2_recolour_1 rfl (lv_at hl 1 rfl) ?_
  refine vp_callSi (va_Run.run (va_runV (C := RX2) (As := [.int id]) (rest := []) ⟨hx, hb, hml, hown, hT⟩ (mX2_findPoint_n l dC dI cI cZ h0 q1 q2 q3 b a1 a2 n1 n2 g1 g2 lf le lh cx cy cz pl pw hn1 id k hf) (cwV 1 hT (ps_gV tw_ml_X2_58 tw_im_X2_findPoint tw_se_X2_findPoint tw_in_X2 tw_co_X2_findPoint) rfl rfl rfl ⟨rfl, by decide, by decide, by decide +kernel⟩ ⟨Nat.le_of_ble_eq_true rfl, Nat.le_of_ble_eq_true rfl⟩) (ps_preV (ci := 2) (q0 := 0) hN hP hK rfl rfl) rfl rfl hl.1 rfl (lv_room (Nat.le_of_ble_eq_true rfl)) dX2_recolour_2 ⟨Nat.le_of_ble_eq_true rfl, Nat.le_of_ble_eq_true rfl⟩)) (fun r hr => ?_)
  obtain rfl : r = nI k := hr
  refine lv_istore_n (lv' := [(3, .int (nI k)), (0, .ref h0), (1, .int id), (2, .int v)]) hx hb dX2_recolour_5 rfl hl (by decide) rfl (fun ls hl => ?_)
  refine lv_aload_n hx hb dX2_recolour_6 rfl (lv_at hl 1 rfl) ?_
  refine va_get (D := (dC, dI)) (ci := 2) (v := .ref q1) (C := RX2) (T := TX2) (N := 8) hx hb hT inX2 hown hK hP 0 rfl rfl 0 (by decide) (hT _ tw_fl_X2_10) (fun _ h9 => h9) rfl dX2_recolour_7 ?_
  refine lv_iload_n hx hb dX2_recolour_10 rfl (lv_at hl 0 rfl) ?_
  refine vp_callSi (va_Run.run (va_runV (C := RX1) (As := [.int (nI k)]) (rest := []) ⟨hx, hb, hml, hown, hT⟩ (mX1_colourOf l dC dI cI cZ q1 a1 n1 g1 k (by omega)) (cwV 1 hT (ps_gV tw_ml_X2_65 tw_im_X1_colourOf tw_se_X1_colourOf tw_in_X1 tw_co_X1_colourOf) rfl rfl rfl ⟨rfl, by decide, by decide, by decide +kernel⟩ ⟨Nat.le_of_ble_eq_true rfl, Nat.le_of_ble_eq_true rfl⟩) (ps_preV (ci := 1) (q0 := 0) hN (hP.sub (ws' := ps_trW cI cZ q1 a1 n1 g1) [1, 2, 3, 4, 5, 6, 7, 8, 9] rfl) hK rfl rfl) rfl rfl hl.1 rfl (lv_room (Nat.le_of_ble_eq_true rfl)) dX2_recolour_11 ⟨Nat.le_of_ble_eq_true rfl, Nat.le_of_ble_eq_true rfl⟩)) (fun r hr => ?_)
  obtain rfl : r = g1 4 k := hr
  refine lv_istore (lv' := [(4, .int (g1 4 k)), (3, .int (nI k)), (0, .ref h0), (1, .int id), (2, .int v)]) hx hb dX2_recolour_14 hl (by decide) rfl (fun ls hl => ?_)
  refine lv_aload_n hx hb dX2_recolour_16 rfl (lv_at hl 2 rfl) ?_
  refine va_get (D := (dC, dI)) (ci := 2) (v := .ref q1) (C := RX2) (T := TX2) (N := 8) hx hb hT inX2 hown hK hP 0 rfl rfl 0 (by decide) (hT _ tw_fl_X2_10) (fun _ h9 => h9) rfl dX2_recolour_17 ?_
  refine lv_iload_n hx hb dX2_recolour_20 rfl (lv_at hl 1 rfl) ?_
  refine lv_iload_n hx hb dX2_recolour_21 rfl (lv_at hl 4 rfl) ?_
  refine ps_cqv (wc := ps_trW cI cZ q1 a1 n1 g1) (wr := ps_shW h0 q1 q2 q3 cx cy cz pl pw ++ ps_trW cI cZ q2 a2 n2 g2 ++ ps_lsW cI q3 b lf le lh) (w1 := ps_trW cI cZ q1 a1 n1 (va_up g1 4 (upd (g1 4) k v))) (ws2 := ps_shW h0 q1 q2 q3 cx cy cz pl pw ++ ps_trW cI cZ q1 a1 n1 (va_up g1 4 (upd (g1 4) k v)) ++ ps_trW cI cZ q2 a2 n2 g2 ++ ps_lsW cI q3 b lf le lh) (va_runV (C := RX1) (As := [.int (nI k), .int v]) (rest := []) ⟨hx, hb, hml, hown, hT⟩ (mX1_setColour l dC dI cI cZ q1 a1 n1 g1 k (by omega) v _) (cwV 2 hT (ps_gV tw_ml_X2_68 tw_im_X1_setColour tw_se_X1_setColour tw_in_X1 tw_co_X1_setColour) rfl rfl rfl ⟨rfl, by decide, by decide, by decide +kernel⟩ ⟨Nat.le_of_ble_eq_true rfl, Nat.le_of_ble_eq_true rfl⟩) (ps_qreV (wc := ps_trW cI cZ q1 a1 n1 g1) (ci := 1) [1, 2, 3, 4, 5, 6, 7, 8, 9] hN hP hK hD rfl rfl rfl rfl rfl) rfl rfl hl.1 rfl (lv_room (Nat.le_of_ble_eq_true rfl)) dX2_recolour_22 ⟨Nat.le_of_ble_eq_true rfl, Nat.le_of_ble_eq_true rfl⟩) hS hA hP hD [1, 2, 3, 4, 5, 6, 7, 8, 9] [0, 10, 11, 12, 13, 14, 15, 16, 17, 18, 19, 20] [0, 12, 13, 14, 15, 16, 17, 18, 19, 20, 1, 2, 3, 4, 5, 6, 7, 8, 9, 10, 11] rfl rfl rfl (by decide) rfl rfl rfl (fun H locs hP hD hS => ?_)
  refine lv_iload hx hb dX2_recolour_25 (lv_at hl 0 rfl) ?_
  exact W.iret (v := g1 4 k) hx hb hr (fun t ht hW => ⟨⟨g1 4 k, (), rfl, rfl, by rw [ht]; exact hP, va_K.moved hW.alike hK, hD⟩, hS.F ht⟩) hS.2.2 dX2_recolour_27
set_option maxHeartbeats 4000000 in
set_option maxRecDepth 100000 in
theorem mX2_next_n (l : Launch) (dC : Nat → ClassId) (dI : Nat → Nat → Nat) (cI cZ : ClassId) (h0 q1 q2 q3 b : Nat) (a1 a2 : Nat → Nat) (n1 n2 : Nat) (g1 g2 : ps_G) (lf le : Nat) (lh : Nat → Int32) (cx cy cz pl pw : Int32) (hfe : lf < le) (hle : le ≤ 48) (sz : Nat) : Met l yX2_next (.code yX2_next cX2_next 1 (some .int) :: ps_T) ({ frames := 1, cells := 0, slots := 0, locals := 21 }) (ps_qc (dC, dI) (ps_ty cI cZ) (ps_shW h0 q1 q2 q3 cx cy cz pl pw ++ ps_trW cI cZ q1 a1 n1 g1 ++ ps_trW cI cZ q2 a2 n2 g2 ++ ps_lsW cI q3 b lf le lh) sz [.ref h0]) (va_Qi (fun (r : Int32) (_ : Unit) => r = lh lf) (ps_qB (dC, dI) (ps_ty cI cZ) (va_A (ps_shW h0 q1 q2 q3 cx cy cz pl pw ++ ps_trW cI cZ q1 a1 n1 g1 ++ ps_trW cI cZ q2 a2 n2 g2 ++ ps_lsW cI q3 b lf le lh) sz) (ps_shW h0 q1 q2 q3 cx cy cz pl pw ++ ps_trW cI cZ q1 a1 n1 g1 ++ ps_trW cI cZ q2 a2 n2 g2 ++ ps_lsW cI q3 b ((lf + 1)) le lh)) (va_A (ps_shW h0 q1 q2 q3 cx cy cz pl pw ++ ps_trW cI cZ q1 a1 n1 g1 ++ ps_trW cI cZ q2 a2 n2 g2 ++ ps_lsW cI q3 b lf le lh) sz)) 0 0 (va_A (ps_shW h0 q1 q2 q3 cx cy cz pl pw ++ ps_trW cI cZ q1 a1 n1 g1 ++ ps_trW cI cZ q2 a2 n2 g2 ++ ps_lsW cI q3 b lf le lh) sz) := by
  refine Met.ofW (cc := cX2_next) (maxL := 1) (ret := (some .int)) (by decide) rfl ?_
  intro p e s m args below meth c s₁ B hml hv
  obtain ⟨rfl, hsz, hN, hP, hK, hD0⟩ := hv
  have hx := B.exec
  have hb := B.bytes
  have hr := B.returns
  have hlocks := B.notSynchronized
  have hT : ∀ w ∈ ps_T, w.before ([.ref h0] : List Value).toArray s = true := fun w h => atoms_spec (ws := (.code yX2_next cX2_next 1 (some .int) :: ps_T)) B.pre w (List.mem_cons_of_mem _ h)
  have hown : s.vm.findClass RX2 = some m.cls := findClass_of_methodNamed B.named
  subst hsz
  have hD := hD0.self (sz := s.heap.size)
  generalize hAe : va_A (ps_shW h0 q1 q2 q3 cx cy cz pl pw ++ ps_trW cI cZ q1 a1 n1 g1 ++ ps_trW cI cZ q2 a2 n2 g2 ++ ps_lsW cI q3 b lf le lh) s.heap.size = A at hD ⊢
  have hA : ∀ q : Nat, s.heap.size ≤ q → A q := fun q h => by rw [← hAe]; exact Or.inr h
  have hS : va_S A s.heap s.heap [] := va_S.rf
  have hl := lv_entry ([.ref h0]) (n := 1) (Nat.le_of_ble_eq_true rfl)
  rw [lg_entry_eq]
  generalize (lg_sl ([.ref h0]) ++ List.replicate (1 - (lg_sl ([.ref h0])).length) Slot.unset).toArray = ls at hl ⊢
  have hl : lv_has ls 1 [(0, .ref h0)] := hl
  refine lv_aload_n hx hb dX2_next_0 rfl (lv_at hl 0 rfl) ?_
  refine va_get (D := (dC, dI)) (ci := 2) (v := .ref q3) (C := RX2) (T := TX2) (N := 8) hx hb hT inX2 hown hK hP 0 rfl rfl 2 (by decide) (hT _ tw_fl_X2_22) (fun _ h9 => h9) rfl dX2_next_1 ?_
  refine ps_cqi (wc := ps_lsW cI q3 b lf le lh) (wr := ps_shW h0 q1 q2 q3 cx cy cz pl pw ++ ps_trW cI cZ q1 a1 n1 g1 ++ ps_trW cI cZ q2 a2 n2 g2) (w1 := ps_lsW cI q3 b ((lf + 1)) le lh) (ws2 := ps_shW h0 q1 q2 q3 cx cy cz pl pw ++ ps_trW cI cZ q1 a1 n1 g1 ++ ps_trW cI cZ q2 a2 n2 g2 ++ ps_lsW cI q3 b ((lf + 1)) le lh) (va_runV (C := RX0) (As := []) (rest := []) ⟨hx, hb, hml, hown, hT⟩ (mX0_takeFirst l dC dI cI cZ q3 b lf le lh (by omega) (by omega) _) (cwV 0 hT (ps_gV tw_ml_X2_108 tw_im_X0_takeFirst tw_se_X0_takeFirst tw_in_X0 tw_co_X0_takeFirst) rfl rfl rfl ⟨rfl, by decide, by decide, by decide +kernel⟩ ⟨Nat.le_of_ble_eq_true rfl, Nat.le_of_ble_eq_true rfl⟩) (ps_qreV (wc := ps_lsW cI q3 b lf le lh) (ci := 0) [19, 20] hN hP hK hD rfl rfl rfl rfl rfl) rfl rfl hl.1 rfl (lv_room (Nat.le_of_ble_eq_true rfl)) dX2_next_4 ⟨Nat.le_of_ble_eq_true rfl, Nat.le_of_ble_eq_true rfl⟩) hS hA hP hD [19, 20] [0, 1, 2, 3, 4, 5, 6, 7, 8, 9, 10, 11, 12, 13, 14, 15, 16, 17, 18] [0, 1, 2, 3, 4, 5, 6, 7, 8, 9, 10, 11, 12, 13, 14, 15, 16, 17, 18, 19, 20] rfl rfl rfl (by decide) rfl rfl rfl (fun H locs hP hD hS => ?_)
  exact W.iret (v := lh lf) hx hb hr (fun t ht hW => ⟨⟨lh lf, (), rfl, rfl, by rw [ht]; exact hP, va_K.moved hW.alike hK, hD⟩, hS.F ht⟩) hS.2.2 dX2_next_7
set_option maxHeartbeats 4000000 in
set_option maxRecDepth 100000 in
theorem mX2_add_n (l : Launch) (dC : Nat → ClassId) (dI : Nat → Nat → Nat) (cI cZ : ClassId) (h0 q1 q2 q3 b : Nat) (a1 a2 : Nat → Nat) (n1 n2 : Nat) (g1 g2 : ps_G) (lf le : Nat) (lh : Nat → Int32) (cx cy cz pl pw : Int32) (hn1 : n1 < 48) (id x y z v : Int32) (hx0 : ps_co x = true) (hy0 : ps_co y = true) (hz0 : ps_co z = true) (hf : ps_fi (g1 0) id n1 = none) (sz : Nat) : Met l yX2_add (.code yX2_add cX2_add 6 (some .int) :: ps_T) ({ frames := 6, cells := 0, slots := 0, locals := 144 }) (ps_qc (dC, dI) (ps_ty cI cZ) (ps_shW h0 q1 q2 q3 cx cy cz pl pw ++ ps_trW cI cZ q1 a1 n1 g1 ++ ps_trW cI cZ q2 a2 n2 g2 ++ ps_lsW cI q3 b lf le lh) sz [.ref h0, .int id, .int x, .int y, .int z, .int v]) (va_Qi (fun (r : Int32) (_ : Unit) => r = ps_ig g1 n1 id x y z v 5 (ps_cn (ps_ab g1 (ps_rk id)) n1)) (ps_qB (dC, dI) (ps_ty cI cZ) (va_A (ps_shW h0 q1 q2 q3 cx cy cz pl pw ++ ps_trW cI cZ q1 a1 n1 g1 ++ ps_trW cI cZ q2 a2 n2 g2 ++ ps_lsW cI q3 b lf le lh) sz) (ps_shW h0 q1 q2 q3 cx cy cz pl pw ++ ps_trW cI cZ q1 a1 ((n1 + 1)) ((ps_ig g1 n1 id x y z v)) ++ ps_trW cI cZ q2 a2 n2 g2 ++ ps_lsW cI q3 b lf le lh)) (va_A (ps_shW h0 q1 q2 q3 cx cy cz pl pw ++ ps_trW cI cZ q1 a1 n1 g1 ++ ps_trW cI cZ q2 a2 n2 g2 ++ ps_lsW cI q3 b lf le lh) sz)) 0 0 (va_A (ps_shW h0 q1 q2 q3 cx cy cz pl pw ++ ps_trW cI cZ q1 a1 n1 g1 ++ ps_trW cI cZ q2 a2 n2 g2 ++ ps_lsW cI q3 b lf le lh) sz) := by
  refine Met.ofW (cc := cX2_add) (maxL := 6) (ret := (some .int)) (by decide) rfl ?_
  intro p e s m args below meth c s₁ B hml hv
  obtain ⟨rfl, hsz, hN, hP, hK, hD0⟩ := hv
  have hx := B.exec
  have hb := B.bytes
  have hr := B.returns
  have hlocks := B.notSynchronized
  have hT : ∀ w ∈ ps_T, w.before ([.ref h0, .int id, .int x, .int y, .int z, .int v] : List Value).toArray s = true := fun w h => atoms_spec (ws := (.code yX2_add cX2_add 6 (some .int) :: ps_T)) B.pre w (List.mem_cons_of_mem _ h)
  have hown : s.vm.findClass RX2 = some m.cls := findClass_of_methodNamed B.named
  subst hsz
  have hD := hD0.self (sz := s.heap.size)
  generalize hAe : va_A (ps_shW h0 q1 q2 q3 cx cy cz pl pw ++ ps_trW cI cZ q1 a1 n1 g1 ++ ps_trW cI cZ q2 a2 n2 g2 ++ ps_lsW cI q3 b lf le lh) s.heap.size = A at hD ⊢
  have hA : ∀ q : Nat, s.heap.size ≤ q → A q := fun q h => by rw [← hAe]; exact Or.inr h
  have hS : va_S A s.heap s.heap [] := va_S.rf
  have hl := lv_entry ([.ref h0, .int id, .int x, .int y, .int z, .int v]) (n := 6) (Nat.le_of_ble_eq_true rfl)
  rw [lg_entry_eq]
  generalize (lg_sl ([.ref h0, .int id, .int x, .int y, .int z, .int v]) ++ List.replicate (6 - (lg_sl ([.ref h0, .int id, .int x, .int y, .int z, .int v])).length) Slot.unset).toArray = ls at hl ⊢
  have hl : lv_has ls 6 [(0, .ref h0), (1, .int id), (2, .int x), (3, .int y), (4, .int z), (5, .int v)] := hl
  have hle := ps_cn_le (ps_ab g1 (ps_rk id)) n1
  refine lv_iload_n hx hb dX2_add_0 rfl (lv_at hl 2 rfl) ?_
  refine lv_iload_n hx hb dX2_add_1 rfl (lv_at hl 3 rfl) ?_
  refine lv_iload hx hb dX2_add_2 (lv_at hl 4 rfl) ?_
  refine va_csv (va_Run.run (va_runS (As := [.int x, .int y, .int z]) (rest := []) ⟨hx, hb, hml, hown, hT⟩ (mX2_requirePlace_n l x y z hx0 hy0 hz0) (va_cwS 3 hT (ps_gS tw_ml_X2_30 tw_st_X2_requirePlace tw_in_X2 tw_co_X2_requirePlace) rfl rfl rfl ⟨by decide, by decide, by decide +kernel⟩ ⟨Nat.le_of_ble_eq_true rfl, Nat.le_of_ble_eq_true rfl⟩) preEq rfl rfl hl.1 rfl (lv_room (Nat.le_of_ble_eq_true rfl)) dX2_add_4 ⟨Nat.le_of_ble_eq_true rfl, Nat.le_of_ble_eq_true rfl⟩)) (fun _ => ?_)
  refine lv_aload_n hx hb dX2_add_7 rfl (lv_at hl 0 rfl) ?_
  refine va_get (D := (dC, dI)) (ci := 2) (v := .ref q1) (C := RX2) (T := TX2) (N := 8) hx hb hT inX2 hown hK hP 0 rfl rfl 0 (by decide) (hT _ tw_fl_X2_10) (fun _ h9 => h9) rfl dX2_add_8 ?_
  refine lv_iload_n hx hb dX2_add_11 rfl (lv_at hl 1 rfl) ?_
  refine vp_callSi (va_Run.run (va_runV (C := RX1) (As := [.int id]) (rest := []) ⟨hx, hb, hml, hown, hT⟩ (mX1_find l dC dI cI cZ q1 a1 n1 g1 (by omega) id) (cwV 1 hT (ps_gV tw_ml_X2_34 tw_im_X1_find tw_se_X1_find tw_in_X1 tw_co_X1_find) rfl rfl rfl ⟨rfl, by decide, by decide, by decide +kernel⟩ ⟨Nat.le_of_ble_eq_true rfl, Nat.le_of_ble_eq_true rfl⟩) (ps_preV (ci := 1) (q0 := 0) hN (hP.sub (ws' := ps_trW cI cZ q1 a1 n1 g1) [1, 2, 3, 4, 5, 6, 7, 8, 9] rfl) hK rfl rfl) rfl rfl hl.1 rfl (lv_room (Nat.le_of_ble_eq_true rfl)) dX2_add_12 ⟨Nat.le_of_ble_eq_true rfl, Nat.le_of_ble_eq_true rfl⟩)) (fun r hr => ?_)
  obtain rfl : r = ps_fr (ps_fi (g1 0) id n1) := hr
  rw [hf]
  show W _ _ _ _ _ _ _ _ _ _ _ _ _ _ _ (F0 _ _ _ (.int (-1) :: []))
  refine lv_iconst (v := (-1)) hx hb dX2_add_15 (by decide) ?_
  refine lv_icmp_eq (tgt := 29) hx hb dX2_add_16 rfl (fun h16 => ?_) (fun h16 => ?_)
  · skip
    refine lv_aload_n hx hb dX2_add_29 rfl (lv_at hl 0 rfl) ?_
    refine va_get (D := (dC, dI)) (ci := 2) (v := .ref q1) (C := RX2) (T := TX2) (N := 8) hx hb hT inX2 hown hK hP 0 rfl rfl 0 (by decide) (hT _ tw_fl_X2_10) (fun _ h9 => h9) rfl dX2_add_30 ?_
    refine vp_callSi (va_Run.run (va_runV (C := RX1) (As := []) (rest := []) ⟨hx, hb, hml, hown, hT⟩ (mX1_size l dC dI cI cZ q1 a1 n1 g1 ) (cwV 0 hT (ps_gV tw_ml_X2_45 tw_im_X1_size tw_se_X1_size tw_in_X1 tw_co_X1_size) rfl rfl rfl ⟨rfl, by decide, by decide, by decide +kernel⟩ ⟨Nat.le_of_ble_eq_true rfl, Nat.le_of_ble_eq_true rfl⟩) (ps_preV (ci := 1) (q0 := 0) hN (hP.sub (ws' := ps_trW cI cZ q1 a1 n1 g1) [1, 2, 3, 4, 5, 6, 7, 8, 9] rfl) hK rfl rfl) rfl rfl hl.1 rfl (lv_room (Nat.le_of_ble_eq_true rfl)) dX2_add_33 ⟨Nat.le_of_ble_eq_true rfl, Nat.le_of_ble_eq_true rfl⟩)) (fun r hr => ?_)
    obtain rfl : r = nI n1 := hr
    refine lv_bipush (v := 48) hx hb dX2_add_36 (by decide) ?_
    refine ps_icmp_lt (tgt := 51) (a := n1) (b := 48) hx hb dX2_add_38 rfl (by omega) (by omega) (fun h38 => ?_) (fun h38 => ?_)
    · skip
      refine lv_aload_n hx hb dX2_add_51 rfl (lv_at hl 0 rfl) ?_
      refine va_get (D := (dC, dI)) (ci := 2) (v := .ref q1) (C := RX2) (T := TX2) (N := 8) hx hb hT inX2 hown hK hP 0 rfl rfl 0 (by decide) (hT _ tw_fl_X2_10) (fun _ h9 => h9) rfl dX2_add_52 ?_
      refine lv_aload_n hx hb dX2_add_55 rfl (lv_at hl 0 rfl) ?_
      refine va_get (D := (dC, dI)) (ci := 2) (v := .ref q1) (C := RX2) (T := TX2) (N := 8) hx hb hT inX2 hown hK hP 0 rfl rfl 0 (by decide) (hT _ tw_fl_X2_10) (fun _ h9 => h9) rfl dX2_add_56 ?_
      refine lv_iload_n hx hb dX2_add_59 rfl (lv_at hl 1 rfl) ?_
      refine lv_iload_n hx hb dX2_add_60 rfl (lv_at hl 2 rfl) ?_
      refine lv_iload_n hx hb dX2_add_61 rfl (lv_at hl 3 rfl) ?_
      refine lv_iload hx hb dX2_add_62 (lv_at hl 4 rfl) ?_
      refine lv_iload hx hb dX2_add_64 (lv_at hl 5 rfl) ?_
      refine ps_cqi (wc := ps_trW cI cZ q1 a1 n1 g1) (wr := ps_shW h0 q1 q2 q3 cx cy cz pl pw ++ ps_trW cI cZ q2 a2 n2 g2 ++ ps_lsW cI q3 b lf le lh) (w1 := ps_trW cI cZ q1 a1 ((n1 + 1)) ((ps_ig g1 n1 id x y z v))) (ws2 := ps_shW h0 q1 q2 q3 cx cy cz pl pw ++ ps_trW cI cZ q1 a1 ((n1 + 1)) ((ps_ig g1 n1 id x y z v)) ++ ps_trW cI cZ q2 a2 n2 g2 ++ ps_lsW cI q3 b lf le lh) (va_runV (C := RX1) (As := [.int id, .int x, .int y, .int z, .int v]) (rest := [.ref q1]) ⟨hx, hb, hml, hown, hT⟩ (mX1_insert l dC dI cI cZ q1 a1 n1 g1 (by omega) id x y z v _) (cwV 5 hT (ps_gV tw_ml_X2_51 tw_im_X1_insert tw_se_X1_insert tw_in_X1 tw_co_X1_insert) rfl rfl rfl ⟨rfl, by decide, by decide, by decide +kernel⟩ ⟨Nat.le_of_ble_eq_true rfl, Nat.le_of_ble_eq_true rfl⟩) (ps_qreV (wc := ps_trW cI cZ q1 a1 n1 g1) (ci := 1) [1, 2, 3, 4, 5, 6, 7, 8, 9] hN hP hK hD rfl rfl rfl rfl rfl) rfl rfl hl.1 rfl (lv_room (Nat.le_of_ble_eq_true rfl)) dX2_add_66 ⟨Nat.le_of_ble_eq_true rfl, Nat.le_of_ble_eq_true rfl⟩) hS hA hP hD [1, 2, 3, 4, 5, 6, 7, 8, 9] [0, 10, 11, 12, 13, 14, 15, 16, 17, 18, 19, 20] [0, 12, 13, 14, 15, 16, 17, 18, 19, 20, 1, 2, 3, 4, 5, 6, 7, 8, 9, 10, 11] rfl rfl rfl (by decide) rfl rfl rfl (fun H locs hP hD hS => ?_)
      refine vp_callSi (va_Run.run (va_runV (C := RX1) (As := [.int (nI (ps_cn (ps_ab g1 (ps_rk id)) n1))]) (rest := []) ⟨hx, hb, hml, hown, hT⟩ (mX1_depthOf l dC dI cI cZ q1 a1 ((n1 + 1)) ((ps_ig g1 n1 id x y z v)) (ps_cn (ps_ab g1 (ps_rk id)) n1) (by omega)) (cwV 1 hT (ps_gV tw_ml_X2_55 tw_im_X1_depthOf tw_se_X1_depthOf tw_in_X1 tw_co_X1_depthOf) rfl rfl rfl ⟨rfl, by decide, by decide, by decide +kernel⟩ ⟨Nat.le_of_ble_eq_true rfl, Nat.le_of_ble_eq_true rfl⟩) (ps_preV (ci := 1) (q0 := 0) hN (hP.sub (ws' := ps_trW cI cZ q1 a1 ((n1 + 1)) ((ps_ig g1 n1 id x y z v))) [1, 2, 3, 4, 5, 6, 7, 8, 9] rfl) hK rfl rfl) rfl rfl hl.1 rfl (lv_room (Nat.le_of_ble_eq_true rfl)) dX2_add_69 ⟨Nat.le_of_ble_eq_true rfl, Nat.le_of_ble_eq_true rfl⟩)) (fun r hr => ?_)
      obtain rfl : r = (ps_ig g1 n1 id x y z v) 5 (ps_cn (ps_ab g1 (ps_rk id)) n1) := hr
      exact W.iret (v := (ps_ig g1 n1 id x y z v) 5 (ps_cn (ps_ab g1 (ps_rk id)) n1)) hx hb hr (fun t ht hW => ⟨⟨(ps_ig g1 n1 id x y z v) 5 (ps_cn (ps_ab g1 (ps_rk id)) n1), (), rfl, rfl, by rw [ht]; exact hP, va_K.moved hW.alike hK, hD⟩, hS.F ht⟩) hS.2.2 dX2_add_72
    · skip
      exact absurd h38 (by omega)
  · skip
    exact absurd rfl h16
set_option maxHeartbeats 4000000 in
set_option maxRecDepth 100000 in
theorem mX2_box_n (l : Launch) (dC : Nat → ClassId) (dI : Nat → Nat → Nat) (cI cZ : ClassId) (h0 q1 q2 q3 b : Nat) (a1 a2 : Nat → Nat) (n1 n2 : Nat) (g1 g2 : ps_G) (lf le : Nat) (lh : Nat → Int32) (cx cy cz pl pw : Int32) (hn1 : n1 ≤ 48) (x y z : Int32) (hx0 : ps_co x = true) (hy0 : ps_co y = true) (hz0 : ps_co z = true) (d : Int32) (hd0 : ps_de d = true) (sz : Nat) : Met l yX2_box (.code yX2_box cX2_box 6 (some .int) :: ps_T) ({ frames := 3, cells := 0, slots := 0, locals := 67 }) (ps_qc (dC, dI) (ps_ty cI cZ) (ps_shW h0 q1 q2 q3 cx cy cz pl pw ++ ps_trW cI cZ q1 a1 n1 g1 ++ ps_trW cI cZ q2 a2 n2 g2 ++ ps_lsW cI q3 b lf le lh) sz [.ref h0, .int x, .int y, .int z, .int d]) (va_Qi (fun (r : Int32) (_ : Unit) => r = nI (ps_bx g1 (ps_bq g1 cx cy cz x y z d) lh n1).1) (ps_qB (dC, dI) (ps_ty cI cZ) (va_A (ps_shW h0 q1 q2 q3 cx cy cz pl pw ++ ps_trW cI cZ q1 a1 n1 g1 ++ ps_trW cI cZ q2 a2 n2 g2 ++ ps_lsW cI q3 b lf le lh) sz) (ps_shW h0 q1 q2 q3 cx cy cz pl pw ++ ps_trW cI cZ q1 a1 n1 g1 ++ ps_trW cI cZ q2 a2 n2 g2 ++ ps_lsW cI q3 b 0 ((ps_bx g1 (ps_bq g1 cx cy cz x y z d) lh n1).1) ((ps_bx g1 (ps_bq g1 cx cy cz x y z d) lh n1).2))) (va_A (ps_shW h0 q1 q2 q3 cx cy cz pl pw ++ ps_trW cI cZ q1 a1 n1 g1 ++ ps_trW cI cZ q2 a2 n2 g2 ++ ps_lsW cI q3 b lf le lh) sz)) 0 0 (va_A (ps_shW h0 q1 q2 q3 cx cy cz pl pw ++ ps_trW cI cZ q1 a1 n1 g1 ++ ps_trW cI cZ q2 a2 n2 g2 ++ ps_lsW cI q3 b lf le lh) sz) := by
  refine Met.ofW (cc := cX2_box) (maxL := 6) (ret := (some .int)) (by decide) rfl ?_
  intro p e s m args below meth c s₁ B hml hv
  obtain ⟨rfl, hsz, hN, hP, hK, hD0⟩ := hv
  have hx := B.exec
  have hb := B.bytes
  have hr := B.returns
  have hlocks := B.notSynchronized
  have hT : ∀ w ∈ ps_T, w.before ([.ref h0, .int x, .int y, .int z, .int d] : List Value).toArray s = true := fun w h => atoms_spec (ws := (.code yX2_box cX2_box 6 (some .int) :: ps_T)) B.pre w (List.mem_cons_of_mem _ h)
  have hown : s.vm.findClass RX2 = some m.cls := findClass_of_methodNamed B.named
  subst hsz
  have hD := hD0.self (sz := s.heap.size)
  generalize hAe : va_A (ps_shW h0 q1 q2 q3 cx cy cz pl pw ++ ps_trW cI cZ q1 a1 n1 g1 ++ ps_trW cI cZ q2 a2 n2 g2 ++ ps_lsW cI q3 b lf le lh) s.heap.size = A at hD ⊢
  have hA : ∀ q : Nat, s.heap.size ≤ q → A q := fun q h => by rw [← hAe]; exact Or.inr h
  have hS : va_S A s.heap s.heap [] := va_S.rf
  have hl := lv_entry ([.ref h0, .int x, .int y, .int z, .int d]) (n := 6) (Nat.le_of_ble_eq_true rfl)
  rw [lg_entry_eq]
  generalize (lg_sl ([.ref h0, .int x, .int y, .int z, .int d]) ++ List.replicate (6 - (lg_sl ([.ref h0, .int x, .int y, .int z, .int d])).length) Slot.unset).toArray = ls at hl ⊢
  have hl : lv_has ls 6 [(0, .ref h0), (1, .int x), (2, .int y), (3, .int z), (4, .int d)] := hl
  refine lv_iload_n hx hb dX2_box_0 rfl (lv_at hl 1 rfl) ?_
  refine lv_iload_n hx hb dX2_box_1 rfl (lv_at hl 2 rfl) ?_
  refine lv_iload_n hx hb dX2_box_2 rfl (lv_at hl 3 rfl) ?_
  refine va_csv (va_Run.run (va_runS (As := [.int x, .int y, .int z]) (rest := []) ⟨hx, hb, hml, hown, hT⟩ (mX2_requirePlace_n l x y z hx0 hy0 hz0) (va_cwS 3 hT (ps_gS tw_ml_X2_30 tw_st_X2_requirePlace tw_in_X2 tw_co_X2_requirePlace) rfl rfl rfl ⟨by decide, by decide, by decide +kernel⟩ ⟨Nat.le_of_ble_eq_true rfl, Nat.le_of_ble_eq_true rfl⟩) preEq rfl rfl hl.1 rfl (lv_room (Nat.le_of_ble_eq_true rfl)) dX2_box_3 ⟨Nat.le_of_ble_eq_true rfl, Nat.le_of_ble_eq_true rfl⟩)) (fun _ => ?_)
  refine lv_iload hx hb dX2_box_6 (lv_at hl 4 rfl) ?_
  refine vp_callSi (va_Run.run (va_runS (As := [.int d]) (rest := []) ⟨hx, hb, hml, hown, hT⟩ (mX2_isDepth l d) (va_cwS 1 hT (ps_gS tw_ml_X2_89 tw_st_X2_isDepth tw_in_X2 tw_co_X2_isDepth) rfl rfl rfl ⟨by decide, by decide, by decide +kernel⟩ ⟨Nat.le_of_ble_eq_true rfl, Nat.le_of_ble_eq_true rfl⟩) preEq rfl rfl hl.1 rfl (lv_room (Nat.le_of_ble_eq_true rfl)) dX2_box_8 ⟨Nat.le_of_ble_eq_true rfl, Nat.le_of_ble_eq_true rfl⟩)) (fun r hr => ?_)
  obtain rfl : r = ps_bi (ps_de d) := hr
  refine ps_ifb_ne (tgt := 24) hx hb dX2_box_11 rfl (fun h11 => ?_) (fun h11 => ?_)
  · skip
    refine lv_aload_n hx hb dX2_box_24 rfl (lv_at hl 0 rfl) ?_
    refine va_get (D := (dC, dI)) (ci := 2) (v := .ref q3) (C := RX2) (T := TX2) (N := 8) hx hb hT inX2 hown hK hP 0 rfl rfl 2 (by decide) (hT _ tw_fl_X2_22) (fun _ h9 => h9) rfl dX2_box_25 ?_
    refine ps_cqv (wc := ps_lsW cI q3 b lf le lh) (wr := ps_shW h0 q1 q2 q3 cx cy cz pl pw ++ ps_trW cI cZ q1 a1 n1 g1 ++ ps_trW cI cZ q2 a2 n2 g2) (w1 := ps_lsW cI q3 b 0 0 lh) (ws2 := ps_shW h0 q1 q2 q3 cx cy cz pl pw ++ ps_trW cI cZ q1 a1 n1 g1 ++ ps_trW cI cZ q2 a2 n2 g2 ++ ps_lsW cI q3 b 0 0 lh) (va_runV (C := RX0) (As := []) (rest := []) ⟨hx, hb, hml, hown, hT⟩ (mX0_clear l dC dI cI cZ q3 b lf le lh  _) (cwV 0 hT (ps_gV tw_ml_X2_95 tw_im_X0_clear tw_se_X0_clear tw_in_X0 tw_co_X0_clear) rfl rfl rfl ⟨rfl, by decide, by decide, by decide +kernel⟩ ⟨Nat.le_of_ble_eq_true rfl, Nat.le_of_ble_eq_true rfl⟩) (ps_qreV (wc := ps_lsW cI q3 b lf le lh) (ci := 0) [19, 20] hN hP hK hD rfl rfl rfl rfl rfl) rfl rfl hl.1 rfl (lv_room (Nat.le_of_ble_eq_true rfl)) dX2_box_28 ⟨Nat.le_of_ble_eq_true rfl, Nat.le_of_ble_eq_true rfl⟩) hS hA hP hD [19, 20] [0, 1, 2, 3, 4, 5, 6, 7, 8, 9, 10, 11, 12, 13, 14, 15, 16, 17, 18] [0, 1, 2, 3, 4, 5, 6, 7, 8, 9, 10, 11, 12, 13, 14, 15, 16, 17, 18, 19, 20] rfl rfl rfl (by decide) rfl rfl rfl (fun H locs hP hD hS => ?_)
    refine lv_iconst (v := 0) hx hb dX2_box_31 (by decide) ?_
    refine lv_istore (lv' := [(5, .int 0), (0, .ref h0), (1, .int x), (2, .int y), (3, .int z), (4, .int d)]) hx hb dX2_box_32 hl (by decide) rfl (fun ls hl => ?_)
    have hl : lv_has ls 6 [(5, .int (nI 0)), (0, .ref h0), (1, .int x), (2, .int y), (3, .int z), (4, .int d)] := hl
    refine ps_loopQ (α := Nat) (fun k => n1 - k) (fun k ls H locs => (k ≤ n1) ∧ lv_has ls 6 [(0, .ref h0), (1, .int x), (2, .int y), (3, .int z), (4, .int d), (5, .int (nI k))] ∧ va_P (dC, dI) vwCl (ps_shW h0 q1 q2 q3 cx cy cz pl pw ++ ps_trW cI cZ q1 a1 n1 g1 ++ ps_trW cI cZ q2 a2 n2 g2 ++ ps_lsW cI q3 b 0 ((ps_bx g1 (ps_bq g1 cx cy cz x y z d) lh k).1) ((ps_bx g1 (ps_bq g1 cx cy cz x y z d) lh k).2)) H ∧ va_D A (ps_shW h0 q1 q2 q3 cx cy cz pl pw ++ ps_trW cI cZ q1 a1 n1 g1 ++ ps_trW cI cZ q2 a2 n2 g2 ++ ps_lsW cI q3 b 0 ((ps_bx g1 (ps_bq g1 cx cy cz x y z d) lh k).1) ((ps_bx g1 (ps_bq g1 cx cy cz x y z d) lh k).2)) ∧ va_S A s.heap H locs) ?_ 0 ls _ _ ⟨by omega, lv_sub hl [1, 2, 3, 4, 5, 0] rfl, hP, hD, hS⟩
    intro k ls H locs ih hI
    obtain ⟨hk, hl, hP, hD, hS⟩ := hI
    refine lv_iload hx hb dX2_box_34 (lv_at hl 5 rfl) ?_
    refine lv_aload_n hx hb dX2_box_36 rfl (lv_at hl 0 rfl) ?_
    refine va_get (D := (dC, dI)) (ci := 2) (v := .ref q1) (C := RX2) (T := TX2) (N := 8) hx hb hT inX2 hown hK hP 0 rfl rfl 0 (by decide) (hT _ tw_fl_X2_10) (fun _ h9 => h9) rfl dX2_box_37 ?_
    refine vp_callSi (va_Run.run (va_runV (C := RX1) (As := []) (rest := [.int (nI k)]) ⟨hx, hb, hml, hown, hT⟩ (mX1_size l dC dI cI cZ q1 a1 n1 g1 ) (cwV 0 hT (ps_gV tw_ml_X2_45 tw_im_X1_size tw_se_X1_size tw_in_X1 tw_co_X1_size) rfl rfl rfl ⟨rfl, by decide, by decide, by decide +kernel⟩ ⟨Nat.le_of_ble_eq_true rfl, Nat.le_of_ble_eq_true rfl⟩) (ps_preV (ci := 1) (q0 := 0) hN (hP.sub (ws' := ps_trW cI cZ q1 a1 n1 g1) [1, 2, 3, 4, 5, 6, 7, 8, 9] rfl) hK rfl rfl) rfl rfl hl.1 rfl (lv_room (Nat.le_of_ble_eq_true rfl)) dX2_box_40 ⟨Nat.le_of_ble_eq_true rfl, Nat.le_of_ble_eq_true rfl⟩)) (fun r hr => ?_)
    obtain rfl : r = nI n1 := hr
    refine ps_icmp_ge (tgt := 94) (a := k) (b := n1) hx hb dX2_box_43 rfl (by omega) (by omega) (fun h43 => ?_) (fun h43 => ?_)
    · skip
      obtain rfl : k = n1 := by omega
      refine lv_aload_n hx hb dX2_box_94 rfl (lv_at hl 0 rfl) ?_
      refine va_get (D := (dC, dI)) (ci := 2) (v := .ref q3) (C := RX2) (T := TX2) (N := 8) hx hb hT inX2 hown hK hP 0 rfl rfl 2 (by decide) (hT _ tw_fl_X2_22) (fun _ h9 => h9) rfl dX2_box_95 ?_
      refine vp_callSi (va_Run.run (va_runV (C := RX0) (As := []) (rest := []) ⟨hx, hb, hml, hown, hT⟩ (mX0_size l dC dI cI cZ q3 b 0 ((ps_bx g1 (ps_bq g1 cx cy cz x y z d) lh k).1) ((ps_bx g1 (ps_bq g1 cx cy cz x y z d) lh k).2) (Nat.zero_le _)) (cwV 0 hT (ps_gV tw_ml_X2_107 tw_im_X0_size tw_se_X0_size tw_in_X0 tw_co_X0_size) rfl rfl rfl ⟨rfl, by decide, by decide, by decide +kernel⟩ ⟨Nat.le_of_ble_eq_true rfl, Nat.le_of_ble_eq_true rfl⟩) (ps_preV (ci := 0) (q0 := 0) hN (hP.sub (ws' := ps_lsW cI q3 b 0 ((ps_bx g1 (ps_bq g1 cx cy cz x y z d) lh k).1) ((ps_bx g1 (ps_bq g1 cx cy cz x y z d) lh k).2)) [19, 20] rfl) hK rfl rfl) rfl rfl hl.1 rfl (lv_room (Nat.le_of_ble_eq_true rfl)) dX2_box_98 ⟨Nat.le_of_ble_eq_true rfl, Nat.le_of_ble_eq_true rfl⟩)) (fun r hr => ?_)
      obtain rfl : r = nI (((ps_bx g1 (ps_bq g1 cx cy cz x y z d) lh k).1) - 0) := hr
      rw [Nat.sub_zero]
      exact W.iret (v := nI ((ps_bx g1 (ps_bq g1 cx cy cz x y z d) lh k).1)) hx hb hr (fun t ht hW => ⟨⟨nI ((ps_bx g1 (ps_bq g1 cx cy cz x y z d) lh k).1), (), rfl, rfl, by rw [ht]; exact hP, va_K.moved hW.alike hK, hD⟩, hS.F ht⟩) hS.2.2 dX2_box_101
    · skip
      refine lv_aload_n hx hb dX2_box_46 rfl (lv_at hl 0 rfl) ?_
      refine va_get (D := (dC, dI)) (ci := 2) (v := .ref q1) (C := RX2) (T := TX2) (N := 8) hx hb hT inX2 hown hK hP 0 rfl rfl 0 (by decide) (hT _ tw_fl_X2_10) (fun _ h9 => h9) rfl dX2_box_47 ?_
      refine lv_iload hx hb dX2_box_50 (lv_at hl 5 rfl) ?_
      refine vp_callSi (va_Run.run (va_runV (C := RX1) (As := [.int (nI k)]) (rest := []) ⟨hx, hb, hml, hown, hT⟩ (mX1_depthOf l dC dI cI cZ q1 a1 n1 g1 k (by omega)) (cwV 1 hT (ps_gV tw_ml_X2_55 tw_im_X1_depthOf tw_se_X1_depthOf tw_in_X1 tw_co_X1_depthOf) rfl rfl rfl ⟨rfl, by decide, by decide, by decide +kernel⟩ ⟨Nat.le_of_ble_eq_true rfl, Nat.le_of_ble_eq_true rfl⟩) (ps_preV (ci := 1) (q0 := 0) hN (hP.sub (ws' := ps_trW cI cZ q1 a1 n1 g1) [1, 2, 3, 4, 5, 6, 7, 8, 9] rfl) hK rfl rfl) rfl rfl hl.1 rfl (lv_room (Nat.le_of_ble_eq_true rfl)) dX2_box_52 ⟨Nat.le_of_ble_eq_true rfl, Nat.le_of_ble_eq_true rfl⟩)) (fun r hr => ?_)
      obtain rfl : r = g1 5 k := hr
      refine lv_iload hx hb dX2_box_55 (lv_at hl 4 rfl) ?_
      refine lv_icmp_gt (tgt := 88) hx hb dX2_box_57 rfl (fun h57 => ?_) (fun h57 => ?_)
      · skip
        have hc : ps_bq g1 cx cy cz x y z d k = false := by simp [ps_bq, h57]
        rw [← ps_bx_f (g := g1) (lh := lh) hc] at hP hD
        refine lv_iinc (k := 5) (v := nI (k + 1)) (lv' := [(5, .int (nI (k + 1))), (0, .ref h0), (1, .int x), (2, .int y), (3, .int z), (4, .int d)]) hx hb dX2_box_88 hl rfl (ps_inc _) (by decide) rfl (fun ls hl => ?_)
        refine lv_goto (tgt := 34) hx hb dX2_box_91 rfl ?_
        try rw [show (ps_bx g1 (ps_bq g1 cx cy cz x y z d) lh k).1 + 1 = (ps_bx g1 (ps_bq g1 cx cy cz x y z d) lh (k + 1)).1 by rw [ps_bx_t hc], show ps_li (g1 0 k) (ps_bx g1 (ps_bq g1 cx cy cz x y z d) lh k).1 (ps_bx g1 (ps_bq g1 cx cy cz x y z d) lh k).2 = (ps_bx g1 (ps_bq g1 cx cy cz x y z d) lh (k + 1)).2 by rw [ps_bx_t hc]] at hP hD
        exact ih ((k + 1)) ls _ _ (by omega) ⟨by omega, lv_sub hl [1, 2, 3, 4, 5, 0] rfl, hP, hD, hS⟩
      · skip
        refine lv_aload_n hx hb dX2_box_60 rfl (lv_at hl 0 rfl) ?_
        refine lv_iload hx hb dX2_box_61 (lv_at hl 5 rfl) ?_
        refine lv_iload_n hx hb dX2_box_63 rfl (lv_at hl 1 rfl) ?_
        refine lv_iload_n hx hb dX2_box_64 rfl (lv_at hl 2 rfl) ?_
        refine lv_iload_n hx hb dX2_box_65 rfl (lv_at hl 3 rfl) ?_
        refine vp_callSi (va_Run.run (va_runV (C := RX2) (As := [.int (nI k), .int x, .int y, .int z]) (rest := []) ⟨hx, hb, hml, hown, hT⟩ (mX2_isInBox l dC dI cI cZ h0 q1 q2 q3 b a1 a2 n1 n2 g1 g2 0 ((ps_bx g1 (ps_bq g1 cx cy cz x y z d) lh k).1) ((ps_bx g1 (ps_bq g1 cx cy cz x y z d) lh k).2) cx cy cz pl pw k (by omega) x y z) (cwV 4 hT (ps_gV tw_ml_X2_98 tw_im_X2_isInBox tw_se_X2_isInBox tw_in_X2 tw_co_X2_isInBox) rfl rfl rfl ⟨rfl, by decide, by decide, by decide +kernel⟩ ⟨Nat.le_of_ble_eq_true rfl, Nat.le_of_ble_eq_true rfl⟩) (ps_preV (ci := 2) (q0 := 0) hN hP hK rfl rfl) rfl rfl hl.1 rfl (lv_room (Nat.le_of_ble_eq_true rfl)) dX2_box_66 ⟨Nat.le_of_ble_eq_true rfl, Nat.le_of_ble_eq_true rfl⟩)) (fun r hr => ?_)
        obtain rfl : r = ps_bi (ps_ib g1 cx cy cz x y z k) := hr
        refine ps_ifb_eq (tgt := 88) hx hb dX2_box_69 rfl (fun h69 => ?_) (fun h69 => ?_)
        · skip
          have hc : ps_bq g1 cx cy cz x y z d k = false := by simp [ps_bq, h69]
          rw [← ps_bx_f (g := g1) (lh := lh) hc] at hP hD
          refine lv_iinc (k := 5) (v := nI (k + 1)) (lv' := [(5, .int (nI (k + 1))), (0, .ref h0), (1, .int x), (2, .int y), (3, .int z), (4, .int d)]) hx hb dX2_box_88 hl rfl (ps_inc _) (by decide) rfl (fun ls hl => ?_)
          refine lv_goto (tgt := 34) hx hb dX2_box_91 rfl ?_
          try rw [show (ps_bx g1 (ps_bq g1 cx cy cz x y z d) lh k).1 + 1 = (ps_bx g1 (ps_bq g1 cx cy cz x y z d) lh (k + 1)).1 by rw [ps_bx_t hc], show ps_li (g1 0 k) (ps_bx g1 (ps_bq g1 cx cy cz x y z d) lh k).1 (ps_bx g1 (ps_bq g1 cx cy cz x y z d) lh k).2 = (ps_bx g1 (ps_bq g1 cx cy cz x y z d) lh (k + 1)).2 by rw [ps_bx_t hc]] at hP hD
          exact ih ((k + 1)) ls _ _ (by omega) ⟨by omega, lv_sub hl [1, 2, 3, 4, 5, 0] rfl, hP, hD, hS⟩
        · skip
          have hc : ps_bq g1 cx cy cz x y z d k = true := by simp [ps_bq, Int32.not_lt.mp h57, h69]
          have hle := ps_bx_le g1 (ps_bq g1 cx cy cz x y z d) lh k
          refine lv_aload_n hx hb dX2_box_72 rfl (lv_at hl 0 rfl) ?_
          refine va_get (D := (dC, dI)) (ci := 2) (v := .ref q3) (C := RX2) (T := TX2) (N := 8) hx hb hT inX2 hown hK hP 0 rfl rfl 2 (by decide) (hT _ tw_fl_X2_22) (fun _ h9 => h9) rfl dX2_box_73 ?_
          refine lv_aload_n hx hb dX2_box_76 rfl (lv_at hl 0 rfl) ?_
          refine va_get (D := (dC, dI)) (ci := 2) (v := .ref q1) (C := RX2) (T := TX2) (N := 8) hx hb hT inX2 hown hK hP 0 rfl rfl 0 (by decide) (hT _ tw_fl_X2_10) (fun _ h9 => h9) rfl dX2_box_77 ?_
          refine lv_iload hx hb dX2_box_80 (lv_at hl 5 rfl) ?_
          refine vp_callSi (va_Run.run (va_runV (C := RX1) (As := [.int (nI k)]) (rest := [.ref q3]) ⟨hx, hb, hml, hown, hT⟩ (mX1_idOf l dC dI cI cZ q1 a1 n1 g1 k (by omega)) (cwV 1 hT (ps_gV tw_ml_X2_102 tw_im_X1_idOf tw_se_X1_idOf tw_in_X1 tw_co_X1_idOf) rfl rfl rfl ⟨rfl, by decide, by decide, by decide +kernel⟩ ⟨Nat.le_of_ble_eq_true rfl, Nat.le_of_ble_eq_true rfl⟩) (ps_preV (ci := 1) (q0 := 0) hN (hP.sub (ws' := ps_trW cI cZ q1 a1 n1 g1) [1, 2, 3, 4, 5, 6, 7, 8, 9] rfl) hK rfl rfl) rfl rfl hl.1 rfl (lv_room (Nat.le_of_ble_eq_true rfl)) dX2_box_82 ⟨Nat.le_of_ble_eq_true rfl, Nat.le_of_ble_eq_true rfl⟩)) (fun r hr => ?_)
          obtain rfl : r = g1 0 k := hr
          refine ps_cqv (wc := ps_lsW cI q3 b 0 ((ps_bx g1 (ps_bq g1 cx cy cz x y z d) lh k).1) ((ps_bx g1 (ps_bq g1 cx cy cz x y z d) lh k).2)) (wr := ps_shW h0 q1 q2 q3 cx cy cz pl pw ++ ps_trW cI cZ q1 a1 n1 g1 ++ ps_trW cI cZ q2 a2 n2 g2) (w1 := ps_lsW cI q3 b 0 (((ps_bx g1 (ps_bq g1 cx cy cz x y z d) lh k).1 + 1)) ((ps_li (g1 0 k) ((ps_bx g1 (ps_bq g1 cx cy cz x y z d) lh k).1) ((ps_bx g1 (ps_bq g1 cx cy cz x y z d) lh k).2)))) (ws2 := ps_shW h0 q1 q2 q3 cx cy cz pl pw ++ ps_trW cI cZ q1 a1 n1 g1 ++ ps_trW cI cZ q2 a2 n2 g2 ++ ps_lsW cI q3 b 0 (((ps_bx g1 (ps_bq g1 cx cy cz x y z d) lh k).1 + 1)) ((ps_li (g1 0 k) ((ps_bx g1 (ps_bq g1 cx cy cz x y z d) lh k).1) ((ps_bx g1 (ps_bq g1 cx cy cz x y z d) lh k).2)))) (va_runV (C := RX0) (As := [.int (g1 0 k)]) (rest := []) ⟨hx, hb, hml, hown, hT⟩ (mX0_insert l dC dI cI cZ q3 b 0 ((ps_bx g1 (ps_bq g1 cx cy cz x y z d) lh k).1) ((ps_bx g1 (ps_bq g1 cx cy cz x y z d) lh k).2) (by omega) (g1 0 k) _) (cwV 1 hT (ps_gV tw_ml_X2_105 tw_im_X0_insert tw_se_X0_insert tw_in_X0 tw_co_X0_insert) rfl rfl rfl ⟨rfl, by decide, by decide, by decide +kernel⟩ ⟨Nat.le_of_ble_eq_true rfl, Nat.le_of_ble_eq_true rfl⟩) (ps_qreV (wc := ps_lsW cI q3 b 0 ((ps_bx g1 (ps_bq g1 cx cy cz x y z d) lh k).1) ((ps_bx g1 (ps_bq g1 cx cy cz x y z d) lh k).2)) (ci := 0) [19, 20] hN hP hK hD rfl rfl rfl rfl rfl) rfl rfl hl.1 rfl (lv_room (Nat.le_of_ble_eq_true rfl)) dX2_box_85 ⟨Nat.le_of_ble_eq_true rfl, Nat.le_of_ble_eq_true rfl⟩) hS hA hP hD [19, 20] [0, 1, 2, 3, 4, 5, 6, 7, 8, 9, 10, 11, 12, 13, 14, 15, 16, 17, 18] [0, 1, 2, 3, 4, 5, 6, 7, 8, 9, 10, 11, 12, 13, 14, 15, 16, 17, 18, 19, 20] rfl rfl rfl (by decide) rfl rfl rfl (fun H locs hP hD hS => ?_)
          refine lv_iinc (k := 5) (v := nI (k + 1)) (lv' := [(5, .int (nI (k + 1))), (0, .ref h0), (1, .int x), (2, .int y), (3, .int z), (4, .int d)]) hx hb dX2_box_88 hl rfl (ps_inc _) (by decide) rfl (fun ls hl => ?_)
          refine lv_goto (tgt := 34) hx hb dX2_box_91 rfl ?_
          try rw [show (ps_bx g1 (ps_bq g1 cx cy cz x y z d) lh k).1 + 1 = (ps_bx g1 (ps_bq g1 cx cy cz x y z d) lh (k + 1)).1 by rw [ps_bx_t hc], show ps_li (g1 0 k) (ps_bx g1 (ps_bq g1 cx cy cz x y z d) lh k).1 (ps_bx g1 (ps_bq g1 cx cy cz x y z d) lh k).2 = (ps_bx g1 (ps_bq g1 cx cy cz x y z d) lh (k + 1)).2 by rw [ps_bx_t hc]] at hP hD
          exact ih ((k + 1)) ls _ _ (by omega) ⟨by omega, lv_sub hl [1, 2, 3, 4, 5, 0] rfl, hP, hD, hS⟩
  · skip
    exact Bool.noConfusion (hd0.symm.trans h11)
