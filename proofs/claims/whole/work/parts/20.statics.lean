/-! contracts: the host's static methods. By wip/tree.py. -/
set_option maxHeartbeats 4000000 in
set_option maxRecDepth 100000 in
theorem mX2_isCoordinate (l : Launch) (v : Int32) : Met l yX2_isCoordinate (.code yX2_isCoordinate cX2_isCoordinate 1 (some .boolean) :: ps_T) ({ frames := 0, cells := 0, slots := 0, locals := 0 }) (fun av _ => av = ([.int v] : List Value).toArray) (vp_Si (fun r => r = ps_bi (ps_co v))) 0 0 (fun _ => False) := by
  refine Met.ofW (cc := cX2_isCoordinate) (maxL := 1) (ret := (some .boolean)) (by decide) rfl ?_
  intro p e s m args below meth c s₁ B hml hv
  subst hv
  have hx := B.exec
  have hb := B.bytes
  have hr := B.returns
  have hlocks := B.notSynchronized
  have hT : ∀ w ∈ ps_T, w.before ([.int v] : List Value).toArray s = true := fun w h => atoms_spec (ws := (.code yX2_isCoordinate cX2_isCoordinate 1 (some .boolean) :: ps_T)) B.pre w (List.mem_cons_of_mem _ h)
  have hown : s.vm.findClass RX2 = some m.cls := findClass_of_methodNamed B.named
  have hl := lv_entry ([.int v]) (n := 1) (Nat.le_of_ble_eq_true rfl)
  rw [lg_entry_eq]
  generalize (lg_sl ([.int v]) ++ List.replicate (1 - (lg_sl ([.int v])).length) Slot.unset).toArray = ls at hl ⊢
  have hl : lv_has ls 1 [(0, .int v)] := hl
  refine lv_iload_n hx hb dX2_isCoordinate_0 rfl (lv_at hl 0 rfl) ?_
  refine lv_if_lt (tgt := 14) hx hb dX2_isCoordinate_1 rfl (fun h1 => ?_) (fun h1 => ?_)
  · skip
    refine lv_iconst (v := 0) hx hb dX2_isCoordinate_14 (by decide) ?_
    exact W.zret (v := 0) hx hb hr rfl (fun t ht hW => ⟨0, rfl, by simp_all [ps_co, ps_bi], ht⟩) (fun q h => by cases h) dX2_isCoordinate_15
  · skip
    refine lv_iload_n hx hb dX2_isCoordinate_4 rfl (lv_at hl 0 rfl) ?_
    refine lv_bipush (v := 16) hx hb dX2_isCoordinate_5 (by decide) ?_
    refine lv_icmp_ge (tgt := 14) hx hb dX2_isCoordinate_7 rfl (fun h7 => ?_) (fun h7 => ?_)
    · skip
      refine lv_iconst (v := 0) hx hb dX2_isCoordinate_14 (by decide) ?_
      exact W.zret (v := 0) hx hb hr rfl (fun t ht hW => ⟨0, rfl, by simp_all [ps_co, ps_bi], ht⟩) (fun q h => by cases h) dX2_isCoordinate_15
    · skip
      refine lv_iconst (v := 1) hx hb dX2_isCoordinate_10 (by decide) ?_
      refine lv_goto (tgt := 15) hx hb dX2_isCoordinate_11 rfl ?_
      exact W.zret (v := 1) hx hb hr rfl (fun t ht hW => ⟨1, rfl, by simp_all [ps_co, ps_bi], ht⟩) (fun q h => by cases h) dX2_isCoordinate_15
set_option maxHeartbeats 4000000 in
set_option maxRecDepth 100000 in
theorem mX2_isDepth (l : Launch) (v : Int32) : Met l yX2_isDepth (.code yX2_isDepth cX2_isDepth 1 (some .boolean) :: ps_T) ({ frames := 0, cells := 0, slots := 0, locals := 0 }) (fun av _ => av = ([.int v] : List Value).toArray) (vp_Si (fun r => r = ps_bi (ps_de v))) 0 0 (fun _ => False) := by
  refine Met.ofW (cc := cX2_isDepth) (maxL := 1) (ret := (some .boolean)) (by decide) rfl ?_
  intro p e s m args below meth c s₁ B hml hv
  subst hv
  have hx := B.exec
  have hb := B.bytes
  have hr := B.returns
  have hlocks := B.notSynchronized
  have hT : ∀ w ∈ ps_T, w.before ([.int v] : List Value).toArray s = true := fun w h => atoms_spec (ws := (.code yX2_isDepth cX2_isDepth 1 (some .boolean) :: ps_T)) B.pre w (List.mem_cons_of_mem _ h)
  have hown : s.vm.findClass RX2 = some m.cls := findClass_of_methodNamed B.named
  have hl := lv_entry ([.int v]) (n := 1) (Nat.le_of_ble_eq_true rfl)
  rw [lg_entry_eq]
  generalize (lg_sl ([.int v]) ++ List.replicate (1 - (lg_sl ([.int v])).length) Slot.unset).toArray = ls at hl ⊢
  have hl : lv_has ls 1 [(0, .int v)] := hl
  refine lv_iload_n hx hb dX2_isDepth_0 rfl (lv_at hl 0 rfl) ?_
  refine lv_if_lt (tgt := 13) hx hb dX2_isDepth_1 rfl (fun h1 => ?_) (fun h1 => ?_)
  · skip
    refine lv_iconst (v := 0) hx hb dX2_isDepth_13 (by decide) ?_
    exact W.zret (v := 0) hx hb hr rfl (fun t ht hW => ⟨0, rfl, by simp_all [ps_de, ps_bi], ht⟩) (fun q h => by cases h) dX2_isDepth_14
  · skip
    refine lv_iload_n hx hb dX2_isDepth_4 rfl (lv_at hl 0 rfl) ?_
    refine lv_iconst (v := 4) hx hb dX2_isDepth_5 (by decide) ?_
    refine lv_icmp_gt (tgt := 13) hx hb dX2_isDepth_6 rfl (fun h6 => ?_) (fun h6 => ?_)
    · skip
      refine lv_iconst (v := 0) hx hb dX2_isDepth_13 (by decide) ?_
      exact W.zret (v := 0) hx hb hr rfl (fun t ht hW => ⟨0, rfl, by simp_all [ps_de, ps_bi], ht⟩) (fun q h => by cases h) dX2_isDepth_14
    · skip
      refine lv_iconst (v := 1) hx hb dX2_isDepth_9 (by decide) ?_
      refine lv_goto (tgt := 14) hx hb dX2_isDepth_10 rfl ?_
      exact W.zret (v := 1) hx hb hr rfl (fun t ht hW => ⟨1, rfl, by simp_all [ps_de, ps_bi], ht⟩) (fun q h => by cases h) dX2_isDepth_14
set_option maxHeartbeats 4000000 in
set_option maxRecDepth 100000 in
theorem mX2_isCubeIndex (l : Launch) (d v : Int32) : Met l yX2_isCubeIndex (.code yX2_isCubeIndex cX2_isCubeIndex 2 (some .boolean) :: ps_T) ({ frames := 0, cells := 0, slots := 0, locals := 0 }) (fun av _ => av = ([.int d, .int v] : List Value).toArray) (vp_Si (fun r => r = ps_bi (ps_ci d v))) 0 0 (fun _ => False) := by
  refine Met.ofW (cc := cX2_isCubeIndex) (maxL := 2) (ret := (some .boolean)) (by decide) rfl ?_
  intro p e s m args below meth c s₁ B hml hv
  subst hv
  have hx := B.exec
  have hb := B.bytes
  have hr := B.returns
  have hlocks := B.notSynchronized
  have hT : ∀ w ∈ ps_T, w.before ([.int d, .int v] : List Value).toArray s = true := fun w h => atoms_spec (ws := (.code yX2_isCubeIndex cX2_isCubeIndex 2 (some .boolean) :: ps_T)) B.pre w (List.mem_cons_of_mem _ h)
  have hown : s.vm.findClass RX2 = some m.cls := findClass_of_methodNamed B.named
  have hl := lv_entry ([.int d, .int v]) (n := 2) (Nat.le_of_ble_eq_true rfl)
  rw [lg_entry_eq]
  generalize (lg_sl ([.int d, .int v]) ++ List.replicate (2 - (lg_sl ([.int d, .int v])).length) Slot.unset).toArray = ls at hl ⊢
  have hl : lv_has ls 2 [(0, .int d), (1, .int v)] := hl
  refine lv_iload_n hx hb dX2_isCubeIndex_0 rfl (lv_at hl 1 rfl) ?_
  refine lv_if_lt (tgt := 15) hx hb dX2_isCubeIndex_1 rfl (fun h1 => ?_) (fun h1 => ?_)
  · skip
    refine lv_iconst (v := 0) hx hb dX2_isCubeIndex_15 (by decide) ?_
    exact W.zret (v := 0) hx hb hr rfl (fun t ht hW => ⟨0, rfl, by simp_all [ps_ci, ps_bi], ht⟩) (fun q h => by cases h) dX2_isCubeIndex_16
  · skip
    refine lv_iload_n hx hb dX2_isCubeIndex_4 rfl (lv_at hl 1 rfl) ?_
    refine lv_iconst (v := 1) hx hb dX2_isCubeIndex_5 (by decide) ?_
    refine lv_iload_n hx hb dX2_isCubeIndex_6 rfl (lv_at hl 0 rfl) ?_
    refine lv_ishl hx hb dX2_isCubeIndex_7 ?_
    refine lv_icmp_ge (tgt := 15) hx hb dX2_isCubeIndex_8 rfl (fun h8 => ?_) (fun h8 => ?_)
    · skip
      refine lv_iconst (v := 0) hx hb dX2_isCubeIndex_15 (by decide) ?_
      exact W.zret (v := 0) hx hb hr rfl (fun t ht hW => ⟨0, rfl, by simp_all [ps_ci, ps_bi], ht⟩) (fun q h => by cases h) dX2_isCubeIndex_16
    · skip
      refine lv_iconst (v := 1) hx hb dX2_isCubeIndex_11 (by decide) ?_
      refine lv_goto (tgt := 16) hx hb dX2_isCubeIndex_12 rfl ?_
      exact W.zret (v := 1) hx hb hr rfl (fun t ht hW => ⟨1, rfl, by simp_all [ps_ci, ps_bi], ht⟩) (fun q h => by cases h) dX2_isCubeIndex_16
set_option maxHeartbeats 4000000 in
set_option maxRecDepth 100000 in
theorem mX2_cubeIndex (l : Launch) (d v : Int32) : Met l yX2_cubeIndex (.code yX2_cubeIndex cX2_cubeIndex 2 (some .int) :: ps_T) ({ frames := 0, cells := 0, slots := 0, locals := 0 }) (fun av _ => av = ([.int d, .int v] : List Value).toArray) (vp_Si (fun r => r = ps_cb d v)) 0 0 (fun _ => False) := by
  refine Met.ofW (cc := cX2_cubeIndex) (maxL := 2) (ret := (some .int)) (by decide) rfl ?_
  intro p e s m args below meth c s₁ B hml hv
  subst hv
  have hx := B.exec
  have hb := B.bytes
  have hr := B.returns
  have hlocks := B.notSynchronized
  have hT : ∀ w ∈ ps_T, w.before ([.int d, .int v] : List Value).toArray s = true := fun w h => atoms_spec (ws := (.code yX2_cubeIndex cX2_cubeIndex 2 (some .int) :: ps_T)) B.pre w (List.mem_cons_of_mem _ h)
  have hown : s.vm.findClass RX2 = some m.cls := findClass_of_methodNamed B.named
  have hl := lv_entry ([.int d, .int v]) (n := 2) (Nat.le_of_ble_eq_true rfl)
  rw [lg_entry_eq]
  generalize (lg_sl ([.int d, .int v]) ++ List.replicate (2 - (lg_sl ([.int d, .int v])).length) Slot.unset).toArray = ls at hl ⊢
  have hl : lv_has ls 2 [(0, .int d), (1, .int v)] := hl
  refine lv_iload_n hx hb dX2_cubeIndex_0 rfl (lv_at hl 1 rfl) ?_
  refine lv_iconst (v := 4) hx hb dX2_cubeIndex_1 (by decide) ?_
  refine lv_iload_n hx hb dX2_cubeIndex_2 rfl (lv_at hl 0 rfl) ?_
  refine lv_isub hx hb dX2_cubeIndex_3 ?_
  refine lv_ishr hx hb dX2_cubeIndex_4 ?_
  exact W.iret (v := v >>> ((4 - d) &&& 31)) hx hb hr (fun t ht hW => ⟨v >>> ((4 - d) &&& 31), rfl, rfl, ht⟩) (fun q h => by cases h) dX2_cubeIndex_5
set_option maxHeartbeats 4000000 in
set_option maxRecDepth 100000 in
theorem mX2_isCube (l : Launch) (d x y z : Int32) : Met l yX2_isCube (.code yX2_isCube cX2_isCube 4 (some .boolean) :: ps_T) ({ frames := 1, cells := 0, slots := 0, locals := 21 }) (fun av _ => av = ([.int d, .int x, .int y, .int z] : List Value).toArray) (vp_Si (fun r => r = ps_bi (ps_cu d x y z))) 0 0 (fun _ => False) := by
  refine Met.ofW (cc := cX2_isCube) (maxL := 4) (ret := (some .boolean)) (by decide) rfl ?_
  intro p e s m args below meth c s₁ B hml hv
  subst hv
  have hx := B.exec
  have hb := B.bytes
  have hr := B.returns
  have hlocks := B.notSynchronized
  have hT : ∀ w ∈ ps_T, w.before ([.int d, .int x, .int y, .int z] : List Value).toArray s = true := fun w h => atoms_spec (ws := (.code yX2_isCube cX2_isCube 4 (some .boolean) :: ps_T)) B.pre w (List.mem_cons_of_mem _ h)
  have hown : s.vm.findClass RX2 = some m.cls := findClass_of_methodNamed B.named
  have hl := lv_entry ([.int d, .int x, .int y, .int z]) (n := 4) (Nat.le_of_ble_eq_true rfl)
  rw [lg_entry_eq]
  generalize (lg_sl ([.int d, .int x, .int y, .int z]) ++ List.replicate (4 - (lg_sl ([.int d, .int x, .int y, .int z])).length) Slot.unset).toArray = ls at hl ⊢
  have hl : lv_has ls 4 [(0, .int d), (1, .int x), (2, .int y), (3, .int z)] := hl
  refine lv_iload_n hx hb dX2_isCube_0 rfl (lv_at hl 0 rfl) ?_
  refine vp_callSi (va_Run.run (va_runS (As := [.int d]) (rest := []) ⟨hx, hb, hml, hown, hT⟩ (mX2_isDepth l d) (va_cwS 1 hT (ps_gS tw_ml_X2_89 tw_st_X2_isDepth tw_in_X2 tw_co_X2_isDepth) rfl rfl rfl ⟨by decide, by decide, by decide +kernel⟩ ⟨Nat.le_of_ble_eq_true rfl, Nat.le_of_ble_eq_true rfl⟩) preEq rfl rfl hl.1 rfl (lv_room (Nat.le_of_ble_eq_true rfl)) dX2_isCube_1 ⟨Nat.le_of_ble_eq_true rfl, Nat.le_of_ble_eq_true rfl⟩)) (fun r hr => ?_)
  obtain rfl : r = ps_bi (ps_de d) := hr
  refine ps_ifb_eq (tgt := 35) hx hb dX2_isCube_4 rfl (fun h4 => ?_) (fun h4 => ?_)
  · skip
    refine lv_iconst (v := 0) hx hb dX2_isCube_35 (by decide) ?_
    exact W.zret (v := 0) hx hb hr rfl (fun t ht hW => ⟨0, rfl, by simp_all [ps_cu, ps_bi], ht⟩) (fun q h => by cases h) dX2_isCube_36
  · skip
    refine lv_iload_n hx hb dX2_isCube_7 rfl (lv_at hl 0 rfl) ?_
    refine lv_iload_n hx hb dX2_isCube_8 rfl (lv_at hl 1 rfl) ?_
    refine vp_callSi (va_Run.run (va_runS (As := [.int d, .int x]) (rest := []) ⟨hx, hb, hml, hown, hT⟩ (mX2_isCubeIndex l d x) (va_cwS 2 hT (ps_gS tw_ml_X2_182 tw_st_X2_isCubeIndex tw_in_X2 tw_co_X2_isCubeIndex) rfl rfl rfl ⟨by decide, by decide, by decide +kernel⟩ ⟨Nat.le_of_ble_eq_true rfl, Nat.le_of_ble_eq_true rfl⟩) preEq rfl rfl hl.1 rfl (lv_room (Nat.le_of_ble_eq_true rfl)) dX2_isCube_9 ⟨Nat.le_of_ble_eq_true rfl, Nat.le_of_ble_eq_true rfl⟩)) (fun r hr => ?_)
    obtain rfl : r = ps_bi (ps_ci d x) := hr
    refine ps_ifb_eq (tgt := 35) hx hb dX2_isCube_12 rfl (fun h12 => ?_) (fun h12 => ?_)
    · skip
      refine lv_iconst (v := 0) hx hb dX2_isCube_35 (by decide) ?_
      exact W.zret (v := 0) hx hb hr rfl (fun t ht hW => ⟨0, rfl, by simp_all [ps_cu, ps_bi], ht⟩) (fun q h => by cases h) dX2_isCube_36
    · skip
      refine lv_iload_n hx hb dX2_isCube_15 rfl (lv_at hl 0 rfl) ?_
      refine lv_iload_n hx hb dX2_isCube_16 rfl (lv_at hl 2 rfl) ?_
      refine vp_callSi (va_Run.run (va_runS (As := [.int d, .int y]) (rest := []) ⟨hx, hb, hml, hown, hT⟩ (mX2_isCubeIndex l d y) (va_cwS 2 hT (ps_gS tw_ml_X2_182 tw_st_X2_isCubeIndex tw_in_X2 tw_co_X2_isCubeIndex) rfl rfl rfl ⟨by decide, by decide, by decide +kernel⟩ ⟨Nat.le_of_ble_eq_true rfl, Nat.le_of_ble_eq_true rfl⟩) preEq rfl rfl hl.1 rfl (lv_room (Nat.le_of_ble_eq_true rfl)) dX2_isCube_17 ⟨Nat.le_of_ble_eq_true rfl, Nat.le_of_ble_eq_true rfl⟩)) (fun r hr => ?_)
      obtain rfl : r = ps_bi (ps_ci d y) := hr
      refine ps_ifb_eq (tgt := 35) hx hb dX2_isCube_20 rfl (fun h20 => ?_) (fun h20 => ?_)
      · skip
        refine lv_iconst (v := 0) hx hb dX2_isCube_35 (by decide) ?_
        exact W.zret (v := 0) hx hb hr rfl (fun t ht hW => ⟨0, rfl, by simp_all [ps_cu, ps_bi], ht⟩) (fun q h => by cases h) dX2_isCube_36
      · skip
        refine lv_iload_n hx hb dX2_isCube_23 rfl (lv_at hl 0 rfl) ?_
        refine lv_iload_n hx hb dX2_isCube_24 rfl (lv_at hl 3 rfl) ?_
        refine vp_callSi (va_Run.run (va_runS (As := [.int d, .int z]) (rest := []) ⟨hx, hb, hml, hown, hT⟩ (mX2_isCubeIndex l d z) (va_cwS 2 hT (ps_gS tw_ml_X2_182 tw_st_X2_isCubeIndex tw_in_X2 tw_co_X2_isCubeIndex) rfl rfl rfl ⟨by decide, by decide, by decide +kernel⟩ ⟨Nat.le_of_ble_eq_true rfl, Nat.le_of_ble_eq_true rfl⟩) preEq rfl rfl hl.1 rfl (lv_room (Nat.le_of_ble_eq_true rfl)) dX2_isCube_25 ⟨Nat.le_of_ble_eq_true rfl, Nat.le_of_ble_eq_true rfl⟩)) (fun r hr => ?_)
        obtain rfl : r = ps_bi (ps_ci d z) := hr
        refine ps_ifb_eq (tgt := 35) hx hb dX2_isCube_28 rfl (fun h28 => ?_) (fun h28 => ?_)
        · skip
          refine lv_iconst (v := 0) hx hb dX2_isCube_35 (by decide) ?_
          exact W.zret (v := 0) hx hb hr rfl (fun t ht hW => ⟨0, rfl, by simp_all [ps_cu, ps_bi], ht⟩) (fun q h => by cases h) dX2_isCube_36
        · skip
          refine lv_iconst (v := 1) hx hb dX2_isCube_31 (by decide) ?_
          refine lv_goto (tgt := 36) hx hb dX2_isCube_32 rfl ?_
          exact W.zret (v := 1) hx hb hr rfl (fun t ht hW => ⟨1, rfl, by simp_all [ps_cu, ps_bi], ht⟩) (fun q h => by cases h) dX2_isCube_36
set_option maxHeartbeats 4000000 in
set_option maxRecDepth 100000 in
theorem mX2_isBetween (l : Launch) (x v y : Int32) : Met l yX2_isBetween (.code yX2_isBetween cX2_isBetween 3 (some .boolean) :: ps_T) ({ frames := 1, cells := 0, slots := 0, locals := 21 }) (fun av _ => av = ([.int x, .int v, .int y] : List Value).toArray) (vp_Si (fun r => r = ps_bi (ps_bt x v y))) 0 0 (fun _ => False) := by
  refine Met.ofW (cc := cX2_isBetween) (maxL := 3) (ret := (some .boolean)) (by decide) rfl ?_
  intro p e s m args below meth c s₁ B hml hv
  subst hv
  have hx := B.exec
  have hb := B.bytes
  have hr := B.returns
  have hlocks := B.notSynchronized
  have hT : ∀ w ∈ ps_T, w.before ([.int x, .int v, .int y] : List Value).toArray s = true := fun w h => atoms_spec (ws := (.code yX2_isBetween cX2_isBetween 3 (some .boolean) :: ps_T)) B.pre w (List.mem_cons_of_mem _ h)
  have hown : s.vm.findClass RX2 = some m.cls := findClass_of_methodNamed B.named
  have hl := lv_entry ([.int x, .int v, .int y]) (n := 3) (Nat.le_of_ble_eq_true rfl)
  rw [lg_entry_eq]
  generalize (lg_sl ([.int x, .int v, .int y]) ++ List.replicate (3 - (lg_sl ([.int x, .int v, .int y])).length) Slot.unset).toArray = ls at hl ⊢
  have hl : lv_has ls 3 [(0, .int x), (1, .int v), (2, .int y)] := hl
  refine lv_iload_n hx hb dX2_isBetween_0 rfl (lv_at hl 0 rfl) ?_
  refine lv_iload_n hx hb dX2_isBetween_1 rfl (lv_at hl 2 rfl) ?_
  refine va_mmin hx hb (hml.trans hl.1.symm) hown (hT _ tw_ml_X2_186) (hT _ tw_st_Math_min) (hT _ tw_in_Math) (hT _ tw_co_Math_min) (Nat.le_of_ble_eq_true rfl) (Nat.le_of_ble_eq_true rfl) (Nat.le_of_ble_eq_true rfl) (Nat.le_of_ble_eq_true rfl) dX2_isBetween_2 ?_
  refine lv_iload_n hx hb dX2_isBetween_5 rfl (lv_at hl 1 rfl) ?_
  refine lv_icmp_gt (tgt := 22) hx hb dX2_isBetween_6 rfl (fun h6 => ?_) (fun h6 => ?_)
  · skip
    refine lv_iconst (v := 0) hx hb dX2_isBetween_22 (by decide) ?_
    exact W.zret (v := 0) hx hb hr rfl (fun t ht hW => ⟨0, rfl, by simp_all [ps_bt, ps_bi], ht⟩) (fun q h => by cases h) dX2_isBetween_23
  · skip
    refine lv_iload_n hx hb dX2_isBetween_9 rfl (lv_at hl 1 rfl) ?_
    refine lv_iload_n hx hb dX2_isBetween_10 rfl (lv_at hl 0 rfl) ?_
    refine lv_iload_n hx hb dX2_isBetween_11 rfl (lv_at hl 2 rfl) ?_
    refine va_mmax hx hb (hml.trans hl.1.symm) hown (hT _ tw_ml_X2_192) (hT _ tw_st_Math_max) (hT _ tw_in_Math) (hT _ tw_co_Math_max) (Nat.le_of_ble_eq_true rfl) (Nat.le_of_ble_eq_true rfl) (Nat.le_of_ble_eq_true rfl) (Nat.le_of_ble_eq_true rfl) dX2_isBetween_12 ?_
    refine lv_icmp_gt (tgt := 22) hx hb dX2_isBetween_15 rfl (fun h15 => ?_) (fun h15 => ?_)
    · skip
      refine lv_iconst (v := 0) hx hb dX2_isBetween_22 (by decide) ?_
      exact W.zret (v := 0) hx hb hr rfl (fun t ht hW => ⟨0, rfl, by simp_all [ps_bt, ps_bi], ht⟩) (fun q h => by cases h) dX2_isBetween_23
    · skip
      refine lv_iconst (v := 1) hx hb dX2_isBetween_18 (by decide) ?_
      refine lv_goto (tgt := 23) hx hb dX2_isBetween_19 rfl ?_
      exact W.zret (v := 1) hx hb hr rfl (fun t ht hW => ⟨1, rfl, by simp_all [ps_bt, ps_bi], ht⟩) (fun q h => by cases h) dX2_isBetween_23
set_option maxHeartbeats 4000000 in
set_option maxRecDepth 100000 in
theorem mX2_rankOf (l : Launch) (v : Int32) : Met l yX2_rankOf (.code yX2_rankOf cX2_rankOf 3 (some .long) :: ps_T) ({ frames := 0, cells := 0, slots := 0, locals := 0 }) (fun av _ => av = ([.int v] : List Value).toArray) (vp_Sl (fun r => r = lN (ps_rk v))) 0 0 (fun _ => False) := by
  refine Met.ofW (cc := cX2_rankOf) (maxL := 3) (ret := (some .long)) (by decide) rfl ?_
  intro p e s m args below meth c s₁ B hml hv
  subst hv
  have hx := B.exec
  have hb := B.bytes
  have hr := B.returns
  have hlocks := B.notSynchronized
  have hT : ∀ w ∈ ps_T, w.before ([.int v] : List Value).toArray s = true := fun w h => atoms_spec (ws := (.code yX2_rankOf cX2_rankOf 3 (some .long) :: ps_T)) B.pre w (List.mem_cons_of_mem _ h)
  have hown : s.vm.findClass RX2 = some m.cls := findClass_of_methodNamed B.named
  have hl := lv_entry ([.int v]) (n := 3) (Nat.le_of_ble_eq_true rfl)
  rw [lg_entry_eq]
  generalize (lg_sl ([.int v]) ++ List.replicate (3 - (lg_sl ([.int v])).length) Slot.unset).toArray = ls at hl ⊢
  have hl : lv_has ls 3 [(0, .int v)] := hl
  refine lv_iload_n hx hb dX2_rankOf_0 rfl (lv_at hl 0 rfl) ?_
  refine lv_istore_n (lv' := [(1, .int v), (0, .int v)]) hx hb dX2_rankOf_1 rfl hl (by decide) rfl (fun ls hl => ?_)
  refine lv_iconst (v := 0) hx hb dX2_rankOf_2 (by decide) ?_
  refine lv_istore_n (lv' := [(2, .int 0), (1, .int v), (0, .int v)]) hx hb dX2_rankOf_3 rfl hl (by decide) rfl (fun ls hl => ?_)
  have hl : lv_has ls 3 [(2, .int (nI 0)), (1, .int (ps_hn 0 v)), (0, .int v)] := hl
  refine ps_loopS (α := Nat) (fun k => 3 - k) (fun k ls => (k ≤ 3) ∧ lv_has ls 3 [(0, .int v), (1, .int (ps_hn k v)), (2, .int (nI k))]) ?_ 0 ls ⟨by omega, lv_sub hl [2, 1, 0] rfl⟩
  intro k ls ih hI
  obtain ⟨hk, hl⟩ := hI
  refine lv_iload_n hx hb dX2_rankOf_4 rfl (lv_at hl 2 rfl) ?_
  refine lv_iconst (v := 3) hx hb dX2_rankOf_5 (by decide) ?_
  refine ps_icmp_ge (tgt := 27) (a := k) (b := 3) hx hb dX2_rankOf_6 rfl (by omega) (by omega) (fun h6 => ?_) (fun h6 => ?_)
  · skip
    refine lv_iload_n hx hb dX2_rankOf_27 rfl (lv_at hl 1 rfl) ?_
    refine lv_i2l (v := (ps_hn k v).toInt64) hx hb dX2_rankOf_28 rfl ?_
    refine lv_ldc2 (v := (4294967295)) hx hb hown (hT _ tw_kl_X2_175) dX2_rankOf_29 ?_
    refine lv_land hx hb dX2_rankOf_32 ?_
    exact W.lret (v := ((ps_hn k v).toInt64) &&& ((4294967295))) hx hb hr (fun t ht hW => ⟨((ps_hn k v).toInt64) &&& ((4294967295)), rfl, ps_rkS hk h6, ht⟩) (fun q h => by cases h) dX2_rankOf_33
  · skip
    refine lv_iload_n hx hb dX2_rankOf_9 rfl (lv_at hl 1 rfl) ?_
    refine lv_ldc (v := (-1640531535)) hx hb hown (hT _ tw_kc_X2_174) dX2_rankOf_10 ?_
    refine lv_imul hx hb dX2_rankOf_12 ?_
    refine lv_istore_n (lv' := [(1, .int ((ps_hn k v) * ((-1640531535)))), (0, .int v), (2, .int (nI k))]) hx hb dX2_rankOf_13 rfl hl (by decide) rfl (fun ls hl => ?_)
    refine lv_iload_n hx hb dX2_rankOf_14 rfl (lv_at hl 0 rfl) ?_
    refine lv_iload_n hx hb dX2_rankOf_15 rfl (lv_at hl 0 rfl) ?_
    refine lv_bipush (v := 16) hx hb dX2_rankOf_16 (by decide) ?_
    refine lv_iushr (v := (((ps_hn k v) * ((-1640531535))).toUInt32 >>> ((16 : Int32).toUInt32 &&& Int32.toUInt32 31)).toInt32) hx hb dX2_rankOf_18 rfl ?_
    refine lv_ixor hx hb dX2_rankOf_19 ?_
    refine lv_istore_n (lv' := [(1, .int (((ps_hn k v) * ((-1640531535))) ^^^ ((((ps_hn k v) * ((-1640531535))).toUInt32 >>> ((16 : Int32).toUInt32 &&& Int32.toUInt32 31)).toInt32))), (0, .int v), (2, .int (nI k))]) hx hb dX2_rankOf_20 rfl hl (by decide) rfl (fun ls hl => ?_)
    refine lv_iinc (k := 2) (v := nI (k + 1)) (lv' := [(2, .int (nI (k + 1))), (1, .int (((ps_hn k v) * ((-1640531535))) ^^^ ((((ps_hn k v) * ((-1640531535))).toUInt32 >>> ((16 : Int32).toUInt32 &&& Int32.toUInt32 31)).toInt32))), (0, .int v)]) hx hb dX2_rankOf_21 hl rfl (ps_inc _) (by decide) rfl (fun ls hl => ?_)
    refine lv_goto (tgt := 4) hx hb dX2_rankOf_24 rfl ?_
    exact ih ((k + 1)) ls (by omega) ⟨by omega, lv_sub hl [2, 1, 0] rfl⟩
