/-! contracts: the tree's readers. By wip/tree.py. -/
set_option maxHeartbeats 4000000 in
set_option maxRecDepth 100000 in
theorem mX1_size (l : Launch) (dC : Nat → ClassId) (dI : Nat → Nat → Nat) (cI cZ : ClassId) (q : Nat) (a : Nat → Nat) (n : Nat) (g : ps_G) : Met l yX1_size (.code yX1_size cX1_size 1 (some .int) :: ps_T) ({ frames := 0, cells := 0, slots := 0, locals := 0 }) (ps_pc (dC, dI) (ps_ty cI cZ) (ps_trW cI cZ q a n g) [.ref q]) (vp_Si (fun r => r = nI n)) 0 0 (fun _ => False) := by
  refine Met.ofW (cc := cX1_size) (maxL := 1) (ret := (some .int)) (by decide) rfl ?_
  intro p e s m args below meth c s₁ B hml hv
  obtain ⟨rfl, hN, hP, hK⟩ := hv
  have hx := B.exec
  have hb := B.bytes
  have hr := B.returns
  have hlocks := B.notSynchronized
  have hT : ∀ w ∈ ps_T, w.before ([.ref q] : List Value).toArray s = true := fun w h => atoms_spec (ws := (.code yX1_size cX1_size 1 (some .int) :: ps_T)) B.pre w (List.mem_cons_of_mem _ h)
  have hown : s.vm.findClass RX1 = some m.cls := findClass_of_methodNamed B.named
  have hl := lv_entry ([.ref q]) (n := 1) (Nat.le_of_ble_eq_true rfl)
  rw [lg_entry_eq]
  generalize (lg_sl ([.ref q]) ++ List.replicate (1 - (lg_sl ([.ref q])).length) Slot.unset).toArray = ls at hl ⊢
  have hl : lv_has ls 1 [(0, .ref q)] := hl
  refine lv_aload_n hx hb dX1_size_0 rfl (lv_at hl 0 rfl) ?_
  refine va_get (D := (dC, dI)) (ci := 1) (v := .int (nI n)) (C := RX1) (T := TX1) (N := 9) hx hb hT inX1 hown hK hP 0 rfl rfl 8 (by decide) (hT _ tw_fl_X1_37) (fun _ h9 => h9) rfl dX1_size_1 ?_
  exact W.iret (v := nI n) hx hb hr (fun t ht hW => ⟨nI n, rfl, rfl, ht⟩) (fun q h => by cases h) dX1_size_4
set_option maxHeartbeats 4000000 in
set_option maxRecDepth 100000 in
theorem mX1_idOf (l : Launch) (dC : Nat → ClassId) (dI : Nat → Nat → Nat) (cI cZ : ClassId) (q : Nat) (a : Nat → Nat) (n : Nat) (g : ps_G) (k : Nat) (hk : k < 48) : Met l yX1_idOf (.code yX1_idOf cX1_idOf 2 (some .int) :: ps_T) ({ frames := 0, cells := 0, slots := 0, locals := 0 }) (ps_pc (dC, dI) (ps_ty cI cZ) (ps_trW cI cZ q a n g) [.ref q, .int (nI k)]) (vp_Si (fun r => r = g 0 k)) 0 0 (fun _ => False) := by
  refine Met.ofW (cc := cX1_idOf) (maxL := 2) (ret := (some .int)) (by decide) rfl ?_
  intro p e s m args below meth c s₁ B hml hv
  obtain ⟨rfl, hN, hP, hK⟩ := hv
  have hx := B.exec
  have hb := B.bytes
  have hr := B.returns
  have hlocks := B.notSynchronized
  have hT : ∀ w ∈ ps_T, w.before ([.ref q, .int (nI k)] : List Value).toArray s = true := fun w h => atoms_spec (ws := (.code yX1_idOf cX1_idOf 2 (some .int) :: ps_T)) B.pre w (List.mem_cons_of_mem _ h)
  have hown : s.vm.findClass RX1 = some m.cls := findClass_of_methodNamed B.named
  have hl := lv_entry ([.ref q, .int (nI k)]) (n := 2) (Nat.le_of_ble_eq_true rfl)
  rw [lg_entry_eq]
  generalize (lg_sl ([.ref q, .int (nI k)]) ++ List.replicate (2 - (lg_sl ([.ref q, .int (nI k)])).length) Slot.unset).toArray = ls at hl ⊢
  have hl : lv_has ls 2 [(0, .ref q), (1, .int (nI k))] := hl
  refine lv_aload_n hx hb dX1_idOf_0 rfl (lv_at hl 0 rfl) ?_
  refine va_get (D := (dC, dI)) (ci := 1) (v := .ref (a 0)) (C := RX1) (T := TX1) (N := 9) hx hb hT inX1 hown hK hP 0 rfl rfl 0 (by decide) (hT _ tw_fl_X1_9) (fun _ h9 => h9) rfl dX1_idOf_1 ?_
  refine lv_iload_n hx hb dX1_idOf_4 rfl (lv_at hl 1 rfl) ?_
  refine ps_iald (k := k) (f := g 0) hx hb hK hP 1 0 rfl rfl (by omega) (by decide) dX1_idOf_5 ?_
  exact W.iret (v := g 0 k) hx hb hr (fun t ht hW => ⟨g 0 k, rfl, rfl, ht⟩) (fun q h => by cases h) dX1_idOf_6
set_option maxHeartbeats 4000000 in
set_option maxRecDepth 100000 in
theorem mX1_xOf (l : Launch) (dC : Nat → ClassId) (dI : Nat → Nat → Nat) (cI cZ : ClassId) (q : Nat) (a : Nat → Nat) (n : Nat) (g : ps_G) (k : Nat) (hk : k < 48) : Met l yX1_xOf (.code yX1_xOf cX1_xOf 2 (some .int) :: ps_T) ({ frames := 0, cells := 0, slots := 0, locals := 0 }) (ps_pc (dC, dI) (ps_ty cI cZ) (ps_trW cI cZ q a n g) [.ref q, .int (nI k)]) (vp_Si (fun r => r = g 1 k)) 0 0 (fun _ => False) := by
  refine Met.ofW (cc := cX1_xOf) (maxL := 2) (ret := (some .int)) (by decide) rfl ?_
  intro p e s m args below meth c s₁ B hml hv
  obtain ⟨rfl, hN, hP, hK⟩ := hv
  have hx := B.exec
  have hb := B.bytes
  have hr := B.returns
  have hlocks := B.notSynchronized
  have hT : ∀ w ∈ ps_T, w.before ([.ref q, .int (nI k)] : List Value).toArray s = true := fun w h => atoms_spec (ws := (.code yX1_xOf cX1_xOf 2 (some .int) :: ps_T)) B.pre w (List.mem_cons_of_mem _ h)
  have hown : s.vm.findClass RX1 = some m.cls := findClass_of_methodNamed B.named
  have hl := lv_entry ([.ref q, .int (nI k)]) (n := 2) (Nat.le_of_ble_eq_true rfl)
  rw [lg_entry_eq]
  generalize (lg_sl ([.ref q, .int (nI k)]) ++ List.replicate (2 - (lg_sl ([.ref q, .int (nI k)])).length) Slot.unset).toArray = ls at hl ⊢
  have hl : lv_has ls 2 [(0, .ref q), (1, .int (nI k))] := hl
  refine lv_aload_n hx hb dX1_xOf_0 rfl (lv_at hl 0 rfl) ?_
  refine va_get (D := (dC, dI)) (ci := 1) (v := .ref (a 1)) (C := RX1) (T := TX1) (N := 9) hx hb hT inX1 hown hK hP 0 rfl rfl 1 (by decide) (hT _ tw_fl_X1_15) (fun _ h9 => h9) rfl dX1_xOf_1 ?_
  refine lv_iload_n hx hb dX1_xOf_4 rfl (lv_at hl 1 rfl) ?_
  refine ps_iald (k := k) (f := g 1) hx hb hK hP 2 0 rfl rfl (by omega) (by decide) dX1_xOf_5 ?_
  exact W.iret (v := g 1 k) hx hb hr (fun t ht hW => ⟨g 1 k, rfl, rfl, ht⟩) (fun q h => by cases h) dX1_xOf_6
set_option maxHeartbeats 4000000 in
set_option maxRecDepth 100000 in
theorem mX1_yOf (l : Launch) (dC : Nat → ClassId) (dI : Nat → Nat → Nat) (cI cZ : ClassId) (q : Nat) (a : Nat → Nat) (n : Nat) (g : ps_G) (k : Nat) (hk : k < 48) : Met l yX1_yOf (.code yX1_yOf cX1_yOf 2 (some .int) :: ps_T) ({ frames := 0, cells := 0, slots := 0, locals := 0 }) (ps_pc (dC, dI) (ps_ty cI cZ) (ps_trW cI cZ q a n g) [.ref q, .int (nI k)]) (vp_Si (fun r => r = g 2 k)) 0 0 (fun _ => False) := by
  refine Met.ofW (cc := cX1_yOf) (maxL := 2) (ret := (some .int)) (by decide) rfl ?_
  intro p e s m args below meth c s₁ B hml hv
  obtain ⟨rfl, hN, hP, hK⟩ := hv
  have hx := B.exec
  have hb := B.bytes
  have hr := B.returns
  have hlocks := B.notSynchronized
  have hT : ∀ w ∈ ps_T, w.before ([.ref q, .int (nI k)] : List Value).toArray s = true := fun w h => atoms_spec (ws := (.code yX1_yOf cX1_yOf 2 (some .int) :: ps_T)) B.pre w (List.mem_cons_of_mem _ h)
  have hown : s.vm.findClass RX1 = some m.cls := findClass_of_methodNamed B.named
  have hl := lv_entry ([.ref q, .int (nI k)]) (n := 2) (Nat.le_of_ble_eq_true rfl)
  rw [lg_entry_eq]
  generalize (lg_sl ([.ref q, .int (nI k)]) ++ List.replicate (2 - (lg_sl ([.ref q, .int (nI k)])).length) Slot.unset).toArray = ls at hl ⊢
  have hl : lv_has ls 2 [(0, .ref q), (1, .int (nI k))] := hl
  refine lv_aload_n hx hb dX1_yOf_0 rfl (lv_at hl 0 rfl) ?_
  refine va_get (D := (dC, dI)) (ci := 1) (v := .ref (a 2)) (C := RX1) (T := TX1) (N := 9) hx hb hT inX1 hown hK hP 0 rfl rfl 2 (by decide) (hT _ tw_fl_X1_18) (fun _ h9 => h9) rfl dX1_yOf_1 ?_
  refine lv_iload_n hx hb dX1_yOf_4 rfl (lv_at hl 1 rfl) ?_
  refine ps_iald (k := k) (f := g 2) hx hb hK hP 3 0 rfl rfl (by omega) (by decide) dX1_yOf_5 ?_
  exact W.iret (v := g 2 k) hx hb hr (fun t ht hW => ⟨g 2 k, rfl, rfl, ht⟩) (fun q h => by cases h) dX1_yOf_6
set_option maxHeartbeats 4000000 in
set_option maxRecDepth 100000 in
theorem mX1_zOf (l : Launch) (dC : Nat → ClassId) (dI : Nat → Nat → Nat) (cI cZ : ClassId) (q : Nat) (a : Nat → Nat) (n : Nat) (g : ps_G) (k : Nat) (hk : k < 48) : Met l yX1_zOf (.code yX1_zOf cX1_zOf 2 (some .int) :: ps_T) ({ frames := 0, cells := 0, slots := 0, locals := 0 }) (ps_pc (dC, dI) (ps_ty cI cZ) (ps_trW cI cZ q a n g) [.ref q, .int (nI k)]) (vp_Si (fun r => r = g 3 k)) 0 0 (fun _ => False) := by
  refine Met.ofW (cc := cX1_zOf) (maxL := 2) (ret := (some .int)) (by decide) rfl ?_
  intro p e s m args below meth c s₁ B hml hv
  obtain ⟨rfl, hN, hP, hK⟩ := hv
  have hx := B.exec
  have hb := B.bytes
  have hr := B.returns
  have hlocks := B.notSynchronized
  have hT : ∀ w ∈ ps_T, w.before ([.ref q, .int (nI k)] : List Value).toArray s = true := fun w h => atoms_spec (ws := (.code yX1_zOf cX1_zOf 2 (some .int) :: ps_T)) B.pre w (List.mem_cons_of_mem _ h)
  have hown : s.vm.findClass RX1 = some m.cls := findClass_of_methodNamed B.named
  have hl := lv_entry ([.ref q, .int (nI k)]) (n := 2) (Nat.le_of_ble_eq_true rfl)
  rw [lg_entry_eq]
  generalize (lg_sl ([.ref q, .int (nI k)]) ++ List.replicate (2 - (lg_sl ([.ref q, .int (nI k)])).length) Slot.unset).toArray = ls at hl ⊢
  have hl : lv_has ls 2 [(0, .ref q), (1, .int (nI k))] := hl
  refine lv_aload_n hx hb dX1_zOf_0 rfl (lv_at hl 0 rfl) ?_
  refine va_get (D := (dC, dI)) (ci := 1) (v := .ref (a 3)) (C := RX1) (T := TX1) (N := 9) hx hb hT inX1 hown hK hP 0 rfl rfl 3 (by decide) (hT _ tw_fl_X1_21) (fun _ h9 => h9) rfl dX1_zOf_1 ?_
  refine lv_iload_n hx hb dX1_zOf_4 rfl (lv_at hl 1 rfl) ?_
  refine ps_iald (k := k) (f := g 3) hx hb hK hP 4 0 rfl rfl (by omega) (by decide) dX1_zOf_5 ?_
  exact W.iret (v := g 3 k) hx hb hr (fun t ht hW => ⟨g 3 k, rfl, rfl, ht⟩) (fun q h => by cases h) dX1_zOf_6
set_option maxHeartbeats 4000000 in
set_option maxRecDepth 100000 in
theorem mX1_colourOf (l : Launch) (dC : Nat → ClassId) (dI : Nat → Nat → Nat) (cI cZ : ClassId) (q : Nat) (a : Nat → Nat) (n : Nat) (g : ps_G) (k : Nat) (hk : k < 48) : Met l yX1_colourOf (.code yX1_colourOf cX1_colourOf 2 (some .int) :: ps_T) ({ frames := 0, cells := 0, slots := 0, locals := 0 }) (ps_pc (dC, dI) (ps_ty cI cZ) (ps_trW cI cZ q a n g) [.ref q, .int (nI k)]) (vp_Si (fun r => r = g 4 k)) 0 0 (fun _ => False) := by
  refine Met.ofW (cc := cX1_colourOf) (maxL := 2) (ret := (some .int)) (by decide) rfl ?_
  intro p e s m args below meth c s₁ B hml hv
  obtain ⟨rfl, hN, hP, hK⟩ := hv
  have hx := B.exec
  have hb := B.bytes
  have hr := B.returns
  have hlocks := B.notSynchronized
  have hT : ∀ w ∈ ps_T, w.before ([.ref q, .int (nI k)] : List Value).toArray s = true := fun w h => atoms_spec (ws := (.code yX1_colourOf cX1_colourOf 2 (some .int) :: ps_T)) B.pre w (List.mem_cons_of_mem _ h)
  have hown : s.vm.findClass RX1 = some m.cls := findClass_of_methodNamed B.named
  have hl := lv_entry ([.ref q, .int (nI k)]) (n := 2) (Nat.le_of_ble_eq_true rfl)
  rw [lg_entry_eq]
  generalize (lg_sl ([.ref q, .int (nI k)]) ++ List.replicate (2 - (lg_sl ([.ref q, .int (nI k)])).length) Slot.unset).toArray = ls at hl ⊢
  have hl : lv_has ls 2 [(0, .ref q), (1, .int (nI k))] := hl
  refine lv_aload_n hx hb dX1_colourOf_0 rfl (lv_at hl 0 rfl) ?_
  refine va_get (D := (dC, dI)) (ci := 1) (v := .ref (a 4)) (C := RX1) (T := TX1) (N := 9) hx hb hT inX1 hown hK hP 0 rfl rfl 4 (by decide) (hT _ tw_fl_X1_24) (fun _ h9 => h9) rfl dX1_colourOf_1 ?_
  refine lv_iload_n hx hb dX1_colourOf_4 rfl (lv_at hl 1 rfl) ?_
  refine ps_iald (k := k) (f := g 4) hx hb hK hP 5 0 rfl rfl (by omega) (by decide) dX1_colourOf_5 ?_
  exact W.iret (v := g 4 k) hx hb hr (fun t ht hW => ⟨g 4 k, rfl, rfl, ht⟩) (fun q h => by cases h) dX1_colourOf_6
set_option maxHeartbeats 4000000 in
set_option maxRecDepth 100000 in
theorem mX1_depthOf (l : Launch) (dC : Nat → ClassId) (dI : Nat → Nat → Nat) (cI cZ : ClassId) (q : Nat) (a : Nat → Nat) (n : Nat) (g : ps_G) (k : Nat) (hk : k < 48) : Met l yX1_depthOf (.code yX1_depthOf cX1_depthOf 2 (some .int) :: ps_T) ({ frames := 0, cells := 0, slots := 0, locals := 0 }) (ps_pc (dC, dI) (ps_ty cI cZ) (ps_trW cI cZ q a n g) [.ref q, .int (nI k)]) (vp_Si (fun r => r = g 5 k)) 0 0 (fun _ => False) := by
  refine Met.ofW (cc := cX1_depthOf) (maxL := 2) (ret := (some .int)) (by decide) rfl ?_
  intro p e s m args below meth c s₁ B hml hv
  obtain ⟨rfl, hN, hP, hK⟩ := hv
  have hx := B.exec
  have hb := B.bytes
  have hr := B.returns
  have hlocks := B.notSynchronized
  have hT : ∀ w ∈ ps_T, w.before ([.ref q, .int (nI k)] : List Value).toArray s = true := fun w h => atoms_spec (ws := (.code yX1_depthOf cX1_depthOf 2 (some .int) :: ps_T)) B.pre w (List.mem_cons_of_mem _ h)
  have hown : s.vm.findClass RX1 = some m.cls := findClass_of_methodNamed B.named
  have hl := lv_entry ([.ref q, .int (nI k)]) (n := 2) (Nat.le_of_ble_eq_true rfl)
  rw [lg_entry_eq]
  generalize (lg_sl ([.ref q, .int (nI k)]) ++ List.replicate (2 - (lg_sl ([.ref q, .int (nI k)])).length) Slot.unset).toArray = ls at hl ⊢
  have hl : lv_has ls 2 [(0, .ref q), (1, .int (nI k))] := hl
  refine lv_aload_n hx hb dX1_depthOf_0 rfl (lv_at hl 0 rfl) ?_
  refine va_get (D := (dC, dI)) (ci := 1) (v := .ref (a 5)) (C := RX1) (T := TX1) (N := 9) hx hb hT inX1 hown hK hP 0 rfl rfl 5 (by decide) (hT _ tw_fl_X1_27) (fun _ h9 => h9) rfl dX1_depthOf_1 ?_
  refine lv_iload_n hx hb dX1_depthOf_4 rfl (lv_at hl 1 rfl) ?_
  refine ps_iald (k := k) (f := g 5) hx hb hK hP 6 0 rfl rfl (by omega) (by decide) dX1_depthOf_5 ?_
  exact W.iret (v := g 5 k) hx hb hr (fun t ht hW => ⟨g 5 k, rfl, rfl, ht⟩) (fun q h => by cases h) dX1_depthOf_6
set_option maxHeartbeats 4000000 in
set_option maxRecDepth 100000 in
theorem mX1_find (l : Launch) (dC : Nat → ClassId) (dI : Nat → Nat → Nat) (cI cZ : ClassId) (q : Nat) (a : Nat → Nat) (n : Nat) (g : ps_G) (hn : n ≤ 48) (id : Int32) : Met l yX1_find (.code yX1_find cX1_find 3 (some .int) :: ps_T) ({ frames := 0, cells := 0, slots := 0, locals := 0 }) (ps_pc (dC, dI) (ps_ty cI cZ) (ps_trW cI cZ q a n g) [.ref q, .int id]) (vp_Si (fun r => r = ps_fr (ps_fi (g 0) id n))) 0 0 (fun _ => False) := by
  refine Met.ofW (cc := cX1_find) (maxL := 3) (ret := (some .int)) (by decide) rfl ?_
  intro p e s m args below meth c s₁ B hml hv
  obtain ⟨rfl, hN, hP, hK⟩ := hv
  have hx := B.exec
  have hb := B.bytes
  have hr := B.returns
  have hlocks := B.notSynchronized
  have hT : ∀ w ∈ ps_T, w.before ([.ref q, .int id] : List Value).toArray s = true := fun w h => atoms_spec (ws := (.code yX1_find cX1_find 3 (some .int) :: ps_T)) B.pre w (List.mem_cons_of_mem _ h)
  have hown : s.vm.findClass RX1 = some m.cls := findClass_of_methodNamed B.named
  have hl := lv_entry ([.ref q, .int id]) (n := 3) (Nat.le_of_ble_eq_true rfl)
  rw [lg_entry_eq]
  generalize (lg_sl ([.ref q, .int id]) ++ List.replicate (3 - (lg_sl ([.ref q, .int id])).length) Slot.unset).toArray = ls at hl ⊢
  have hl : lv_has ls 3 [(0, .ref q), (1, .int id)] := hl
  refine lv_iconst (v := 0) hx hb dX1_find_0 (by decide) ?_
  refine lv_istore_n (lv' := [(2, .int 0), (0, .ref q), (1, .int id)]) hx hb dX1_find_1 rfl hl (by decide) rfl (fun ls hl => ?_)
  have hl : lv_has ls 3 [(2, .int (nI 0)), (0, .ref q), (1, .int id)] := hl
  refine ps_loopS (α := Nat) (fun k => n - k) (fun k ls => (k ≤ n) ∧ (∀ j, j < k → g 0 j ≠ id) ∧ lv_has ls 3 [(0, .ref q), (1, .int id), (2, .int (nI k))]) ?_ 0 ls ⟨by omega, fun j hj => absurd hj (Nat.not_lt_zero j), lv_sub hl [1, 2, 0] rfl⟩
  intro k ls ih hI
  obtain ⟨hk, hj, hl⟩ := hI
  refine lv_iload_n hx hb dX1_find_2 rfl (lv_at hl 2 rfl) ?_
  refine lv_aload_n hx hb dX1_find_3 rfl (lv_at hl 0 rfl) ?_
  refine va_get (D := (dC, dI)) (ci := 1) (v := .int (nI n)) (C := RX1) (T := TX1) (N := 9) hx hb hT inX1 hown hK hP 0 rfl rfl 8 (by decide) (hT _ tw_fl_X1_37) (fun _ h9 => h9) rfl dX1_find_4 ?_
  refine ps_icmp_ge (tgt := 28) (a := k) (b := n) hx hb dX1_find_7 rfl (by omega) (by omega) (fun h7 => ?_) (fun h7 => ?_)
  · skip
    refine lv_iconst (v := (-1)) hx hb dX1_find_28 (by decide) ?_
    exact W.iret (v := (-1)) hx hb hr (fun t ht hW => ⟨(-1), rfl, by rw [ps_fi_none (fun j h => hj j (by omega))]; rfl, ht⟩) (fun q h => by cases h) dX1_find_29
  · skip
    refine lv_aload_n hx hb dX1_find_10 rfl (lv_at hl 0 rfl) ?_
    refine va_get (D := (dC, dI)) (ci := 1) (v := .ref (a 0)) (C := RX1) (T := TX1) (N := 9) hx hb hT inX1 hown hK hP 0 rfl rfl 0 (by decide) (hT _ tw_fl_X1_9) (fun _ h9 => h9) rfl dX1_find_11 ?_
    refine lv_iload_n hx hb dX1_find_14 rfl (lv_at hl 2 rfl) ?_
    refine ps_iald (k := k) (f := g 0) hx hb hK hP 1 0 rfl rfl (by omega) (by decide) dX1_find_15 ?_
    refine lv_iload_n hx hb dX1_find_16 rfl (lv_at hl 1 rfl) ?_
    refine lv_icmp_ne (tgt := 22) hx hb dX1_find_17 rfl (fun h17 => ?_) (fun h17 => ?_)
    · skip
      refine lv_iinc (k := 2) (v := nI (k + 1)) (lv' := [(2, .int (nI (k + 1))), (0, .ref q), (1, .int id)]) hx hb dX1_find_22 hl rfl (ps_inc _) (by decide) rfl (fun ls hl => ?_)
      refine lv_goto (tgt := 2) hx hb dX1_find_25 rfl ?_
      exact ih ((k + 1)) ls (by omega) ⟨by omega, lt_s hj h17, lv_sub hl [1, 2, 0] rfl⟩
    · skip
      refine lv_iload_n hx hb dX1_find_20 rfl (lv_at hl 2 rfl) ?_
      exact W.iret (v := nI k) hx hb hr (fun t ht hW => ⟨nI k, rfl, by rw [ps_fi_some h7 h17 hj]; rfl, ht⟩) (fun q h => by cases h) dX1_find_21
set_option maxHeartbeats 4000000 in
set_option maxRecDepth 100000 in
theorem mX1_isInCube (l : Launch) (dC : Nat → ClassId) (dI : Nat → Nat → Nat) (cI cZ : ClassId) (q : Nat) (a : Nat → Nat) (n : Nat) (g : ps_G) (k : Nat) (hk : k < 48) (d cx cy cz : Int32) : Met l yX1_isInCube (.code yX1_isInCube cX1_isInCube 6 (some .boolean) :: ps_T) ({ frames := 1, cells := 0, slots := 0, locals := 21 }) (ps_pc (dC, dI) (ps_ty cI cZ) (ps_trW cI cZ q a n g) [.ref q, .int (nI k), .int d, .int cx, .int cy, .int cz]) (vp_Si (fun r => r = ps_bi (ps_in g d cx cy cz k))) 0 0 (fun _ => False) := by
  refine Met.ofW (cc := cX1_isInCube) (maxL := 6) (ret := (some .boolean)) (by decide) rfl ?_
  intro p e s m args below meth c s₁ B hml hv
  obtain ⟨rfl, hN, hP, hK⟩ := hv
  have hx := B.exec
  have hb := B.bytes
  have hr := B.returns
  have hlocks := B.notSynchronized
  have hT : ∀ w ∈ ps_T, w.before ([.ref q, .int (nI k), .int d, .int cx, .int cy, .int cz] : List Value).toArray s = true := fun w h => atoms_spec (ws := (.code yX1_isInCube cX1_isInCube 6 (some .boolean) :: ps_T)) B.pre w (List.mem_cons_of_mem _ h)
  have hown : s.vm.findClass RX1 = some m.cls := findClass_of_methodNamed B.named
  have hl := lv_entry ([.ref q, .int (nI k), .int d, .int cx, .int cy, .int cz]) (n := 6) (Nat.le_of_ble_eq_true rfl)
  rw [lg_entry_eq]
  generalize (lg_sl ([.ref q, .int (nI k), .int d, .int cx, .int cy, .int cz]) ++ List.replicate (6 - (lg_sl ([.ref q, .int (nI k), .int d, .int cx, .int cy, .int cz])).length) Slot.unset).toArray = ls at hl ⊢
  have hl : lv_has ls 6 [(0, .ref q), (1, .int (nI k)), (2, .int d), (3, .int cx), (4, .int cy), (5, .int cz)] := hl
  refine lv_iload_n hx hb dX1_isInCube_0 rfl (lv_at hl 2 rfl) ?_
  refine lv_aload_n hx hb dX1_isInCube_1 rfl (lv_at hl 0 rfl) ?_
  refine va_get (D := (dC, dI)) (ci := 1) (v := .ref (a 1)) (C := RX1) (T := TX1) (N := 9) hx hb hT inX1 hown hK hP 0 rfl rfl 1 (by decide) (hT _ tw_fl_X1_15) (fun _ h9 => h9) rfl dX1_isInCube_2 ?_
  refine lv_iload_n hx hb dX1_isInCube_5 rfl (lv_at hl 1 rfl) ?_
  refine ps_iald (k := k) (f := g 1) hx hb hK hP 2 0 rfl rfl (by omega) (by decide) dX1_isInCube_6 ?_
  refine vp_callSi (va_Run.run (va_runSN (As := [.int d, .int (g 1 k)]) (rest := []) ⟨hx, hb, hml, hown, hT⟩ (mX2_cubeIndex l d (g 1 k)) ⟨va_cnB 2 hT (ps_gC tw_co_X2_cubeIndex) rfl rfl rfl hN.2 (hT _ tw_in_X2) ⟨by decide, by decide, by decide +kernel⟩ ⟨Nat.le_of_ble_eq_true rfl, Nat.le_of_ble_eq_true rfl⟩, hT _ tw_st_X2_cubeIndex, trivial⟩ preEq rfl rfl hl.1 rfl (lv_room (Nat.le_of_ble_eq_true rfl)) dX1_isInCube_7 ⟨Nat.le_of_ble_eq_true rfl, Nat.le_of_ble_eq_true rfl⟩)) (fun r hr => ?_)
  obtain rfl : r = ps_cb d (g 1 k) := hr
  refine lv_iload_n hx hb dX1_isInCube_10 rfl (lv_at hl 3 rfl) ?_
  refine lv_icmp_ne (tgt := 48) hx hb dX1_isInCube_11 rfl (fun h11 => ?_) (fun h11 => ?_)
  · skip
    refine lv_iconst (v := 0) hx hb dX1_isInCube_48 (by decide) ?_
    exact W.zret (v := 0) hx hb hr rfl (fun t ht hW => ⟨0, rfl, by simp_all [ps_in, ps_bi], ht⟩) (fun q h => by cases h) dX1_isInCube_49
  · skip
    refine lv_iload_n hx hb dX1_isInCube_14 rfl (lv_at hl 2 rfl) ?_
    refine lv_aload_n hx hb dX1_isInCube_15 rfl (lv_at hl 0 rfl) ?_
    refine va_get (D := (dC, dI)) (ci := 1) (v := .ref (a 2)) (C := RX1) (T := TX1) (N := 9) hx hb hT inX1 hown hK hP 0 rfl rfl 2 (by decide) (hT _ tw_fl_X1_18) (fun _ h9 => h9) rfl dX1_isInCube_16 ?_
    refine lv_iload_n hx hb dX1_isInCube_19 rfl (lv_at hl 1 rfl) ?_
    refine ps_iald (k := k) (f := g 2) hx hb hK hP 3 0 rfl rfl (by omega) (by decide) dX1_isInCube_20 ?_
    refine vp_callSi (va_Run.run (va_runSN (As := [.int d, .int (g 2 k)]) (rest := []) ⟨hx, hb, hml, hown, hT⟩ (mX2_cubeIndex l d (g 2 k)) ⟨va_cnB 2 hT (ps_gC tw_co_X2_cubeIndex) rfl rfl rfl hN.2 (hT _ tw_in_X2) ⟨by decide, by decide, by decide +kernel⟩ ⟨Nat.le_of_ble_eq_true rfl, Nat.le_of_ble_eq_true rfl⟩, hT _ tw_st_X2_cubeIndex, trivial⟩ preEq rfl rfl hl.1 rfl (lv_room (Nat.le_of_ble_eq_true rfl)) dX1_isInCube_21 ⟨Nat.le_of_ble_eq_true rfl, Nat.le_of_ble_eq_true rfl⟩)) (fun r hr => ?_)
    obtain rfl : r = ps_cb d (g 2 k) := hr
    refine lv_iload hx hb dX1_isInCube_24 (lv_at hl 4 rfl) ?_
    refine lv_icmp_ne (tgt := 48) hx hb dX1_isInCube_26 rfl (fun h26 => ?_) (fun h26 => ?_)
    · skip
      refine lv_iconst (v := 0) hx hb dX1_isInCube_48 (by decide) ?_
      exact W.zret (v := 0) hx hb hr rfl (fun t ht hW => ⟨0, rfl, by simp_all [ps_in, ps_bi], ht⟩) (fun q h => by cases h) dX1_isInCube_49
    · skip
      refine lv_iload_n hx hb dX1_isInCube_29 rfl (lv_at hl 2 rfl) ?_
      refine lv_aload_n hx hb dX1_isInCube_30 rfl (lv_at hl 0 rfl) ?_
      refine va_get (D := (dC, dI)) (ci := 1) (v := .ref (a 3)) (C := RX1) (T := TX1) (N := 9) hx hb hT inX1 hown hK hP 0 rfl rfl 3 (by decide) (hT _ tw_fl_X1_21) (fun _ h9 => h9) rfl dX1_isInCube_31 ?_
      refine lv_iload_n hx hb dX1_isInCube_34 rfl (lv_at hl 1 rfl) ?_
      refine ps_iald (k := k) (f := g 3) hx hb hK hP 4 0 rfl rfl (by omega) (by decide) dX1_isInCube_35 ?_
      refine vp_callSi (va_Run.run (va_runSN (As := [.int d, .int (g 3 k)]) (rest := []) ⟨hx, hb, hml, hown, hT⟩ (mX2_cubeIndex l d (g 3 k)) ⟨va_cnB 2 hT (ps_gC tw_co_X2_cubeIndex) rfl rfl rfl hN.2 (hT _ tw_in_X2) ⟨by decide, by decide, by decide +kernel⟩ ⟨Nat.le_of_ble_eq_true rfl, Nat.le_of_ble_eq_true rfl⟩, hT _ tw_st_X2_cubeIndex, trivial⟩ preEq rfl rfl hl.1 rfl (lv_room (Nat.le_of_ble_eq_true rfl)) dX1_isInCube_36 ⟨Nat.le_of_ble_eq_true rfl, Nat.le_of_ble_eq_true rfl⟩)) (fun r hr => ?_)
      obtain rfl : r = ps_cb d (g 3 k) := hr
      refine lv_iload hx hb dX1_isInCube_39 (lv_at hl 5 rfl) ?_
      refine lv_icmp_ne (tgt := 48) hx hb dX1_isInCube_41 rfl (fun h41 => ?_) (fun h41 => ?_)
      · skip
        refine lv_iconst (v := 0) hx hb dX1_isInCube_48 (by decide) ?_
        exact W.zret (v := 0) hx hb hr rfl (fun t ht hW => ⟨0, rfl, by simp_all [ps_in, ps_bi], ht⟩) (fun q h => by cases h) dX1_isInCube_49
      · skip
        refine lv_iconst (v := 1) hx hb dX1_isInCube_44 (by decide) ?_
        refine lv_goto (tgt := 49) hx hb dX1_isInCube_45 rfl ?_
        exact W.zret (v := 1) hx hb hr rfl (fun t ht hW => ⟨1, rfl, by simp_all [ps_in, ps_bi], ht⟩) (fun q h => by cases h) dX1_isInCube_49
set_option maxHeartbeats 4000000 in
set_option maxRecDepth 100000 in
theorem mX1_beginsPage (l : Launch) (dC : Nat → ClassId) (dI : Nat → Nat → Nat) (cI cZ : ClassId) (q : Nat) (a : Nat → Nat) (n : Nat) (g : ps_G) (k : Nat) (hk : k < 48) : Met l yX1_beginsPage (.code yX1_beginsPage cX1_beginsPage 2 (some .boolean) :: ps_T) ({ frames := 0, cells := 0, slots := 0, locals := 0 }) (ps_pc (dC, dI) (ps_ty cI cZ) (ps_trW cI cZ q a n g) [.ref q, .int (nI k)]) (vp_Si (fun r => r = ps_bi (ps_bp (g 6 k)))) 0 0 (fun _ => False) := by
  refine Met.ofW (cc := cX1_beginsPage) (maxL := 2) (ret := (some .boolean)) (by decide) rfl ?_
  intro p e s m args below meth c s₁ B hml hv
  obtain ⟨rfl, hN, hP, hK⟩ := hv
  have hx := B.exec
  have hb := B.bytes
  have hr := B.returns
  have hlocks := B.notSynchronized
  have hT : ∀ w ∈ ps_T, w.before ([.ref q, .int (nI k)] : List Value).toArray s = true := fun w h => atoms_spec (ws := (.code yX1_beginsPage cX1_beginsPage 2 (some .boolean) :: ps_T)) B.pre w (List.mem_cons_of_mem _ h)
  have hown : s.vm.findClass RX1 = some m.cls := findClass_of_methodNamed B.named
  have hl := lv_entry ([.ref q, .int (nI k)]) (n := 2) (Nat.le_of_ble_eq_true rfl)
  rw [lg_entry_eq]
  generalize (lg_sl ([.ref q, .int (nI k)]) ++ List.replicate (2 - (lg_sl ([.ref q, .int (nI k)])).length) Slot.unset).toArray = ls at hl ⊢
  have hl : lv_has ls 2 [(0, .ref q), (1, .int (nI k))] := hl
  refine lv_aload_n hx hb dX1_beginsPage_0 rfl (lv_at hl 0 rfl) ?_
  refine va_get (D := (dC, dI)) (ci := 1) (v := .ref (a 6)) (C := RX1) (T := TX1) (N := 9) hx hb hT inX1 hown hK hP 0 rfl rfl 6 (by decide) (hT _ tw_fl_X1_30) (fun _ h9 => h9) rfl dX1_beginsPage_1 ?_
  refine lv_iload_n hx hb dX1_beginsPage_4 rfl (lv_at hl 1 rfl) ?_
  refine ps_iald (k := k) (f := g 6) hx hb hK hP 7 0 rfl rfl (by omega) (by decide) dX1_beginsPage_5 ?_
  refine lv_bipush (v := 6) hx hb dX1_beginsPage_6 (by decide) ?_
  refine lv_irem hx hb dX1_beginsPage_8 (by decide) ?_
  refine lv_if_ne (tgt := 16) hx hb dX1_beginsPage_9 rfl (fun h9 => ?_) (fun h9 => ?_)
  · skip
    refine lv_iconst (v := 0) hx hb dX1_beginsPage_16 (by decide) ?_
    exact W.zret (v := 0) hx hb hr rfl (fun t ht hW => ⟨0, rfl, by simp_all [ps_bp, ps_bi], ht⟩) (fun q h => by cases h) dX1_beginsPage_17
  · skip
    refine lv_iconst (v := 1) hx hb dX1_beginsPage_12 (by decide) ?_
    refine lv_goto (tgt := 17) hx hb dX1_beginsPage_13 rfl ?_
    exact W.zret (v := 1) hx hb hr rfl (fun t ht hW => ⟨1, rfl, by simp_all [ps_bp, ps_bi], ht⟩) (fun q h => by cases h) dX1_beginsPage_17
set_option maxHeartbeats 4000000 in
set_option maxRecDepth 100000 in
theorem mX1_nodes (l : Launch) (dC : Nat → ClassId) (dI : Nat → Nat → Nat) (cI cZ : ClassId) (q : Nat) (a : Nat → Nat) (n : Nat) (g : ps_G) (hn : n ≤ 48) : Met l yX1_nodes (.code yX1_nodes cX1_nodes 3 (some .int) :: ps_T) ({ frames := 0, cells := 0, slots := 0, locals := 0 }) (ps_pc (dC, dI) (ps_ty cI cZ) (ps_trW cI cZ q a n g) [.ref q]) (vp_Si (fun r => r = nI (ps_cn (fun k => decide (g 6 k = 0)) n))) 0 0 (fun _ => False) := by
  refine Met.ofW (cc := cX1_nodes) (maxL := 3) (ret := (some .int)) (by decide) rfl ?_
  intro p e s m args below meth c s₁ B hml hv
  obtain ⟨rfl, hN, hP, hK⟩ := hv
  have hx := B.exec
  have hb := B.bytes
  have hr := B.returns
  have hlocks := B.notSynchronized
  have hT : ∀ w ∈ ps_T, w.before ([.ref q] : List Value).toArray s = true := fun w h => atoms_spec (ws := (.code yX1_nodes cX1_nodes 3 (some .int) :: ps_T)) B.pre w (List.mem_cons_of_mem _ h)
  have hown : s.vm.findClass RX1 = some m.cls := findClass_of_methodNamed B.named
  have hl := lv_entry ([.ref q]) (n := 3) (Nat.le_of_ble_eq_true rfl)
  rw [lg_entry_eq]
  generalize (lg_sl ([.ref q]) ++ List.replicate (3 - (lg_sl ([.ref q])).length) Slot.unset).toArray = ls at hl ⊢
  have hl : lv_has ls 3 [(0, .ref q)] := hl
  refine lv_iconst (v := 0) hx hb dX1_nodes_0 (by decide) ?_
  refine lv_istore_n (lv' := [(1, .int 0), (0, .ref q)]) hx hb dX1_nodes_1 rfl hl (by decide) rfl (fun ls hl => ?_)
  refine lv_iconst (v := 0) hx hb dX1_nodes_2 (by decide) ?_
  refine lv_istore_n (lv' := [(2, .int 0), (1, .int 0), (0, .ref q)]) hx hb dX1_nodes_3 rfl hl (by decide) rfl (fun ls hl => ?_)
  have hl : lv_has ls 3 [(2, .int (nI 0)), (1, .int (nI (ps_cn (fun k => decide (g 6 k = 0)) 0))), (0, .ref q)] := hl
  refine ps_loopS (α := Nat) (fun k => n - k) (fun k ls => (k ≤ n) ∧ lv_has ls 3 [(0, .ref q), (1, .int (nI (ps_cn (fun k => decide (g 6 k = 0)) k))), (2, .int (nI k))]) ?_ 0 ls ⟨by omega, lv_sub hl [2, 1, 0] rfl⟩
  intro k ls ih hI
  obtain ⟨hk, hl⟩ := hI
  refine lv_iload_n hx hb dX1_nodes_4 rfl (lv_at hl 2 rfl) ?_
  refine lv_aload_n hx hb dX1_nodes_5 rfl (lv_at hl 0 rfl) ?_
  refine va_get (D := (dC, dI)) (ci := 1) (v := .int (nI n)) (C := RX1) (T := TX1) (N := 9) hx hb hT inX1 hown hK hP 0 rfl rfl 8 (by decide) (hT _ tw_fl_X1_37) (fun _ h9 => h9) rfl dX1_nodes_6 ?_
  refine ps_icmp_ge (tgt := 30) (a := k) (b := n) hx hb dX1_nodes_9 rfl (by omega) (by omega) (fun h9 => ?_) (fun h9 => ?_)
  · skip
    refine lv_iload_n hx hb dX1_nodes_30 rfl (lv_at hl 1 rfl) ?_
    exact W.iret (v := nI (ps_cn (fun k => decide (g 6 k = 0)) k)) hx hb hr (fun t ht hW => ⟨nI (ps_cn (fun k => decide (g 6 k = 0)) k), rfl, by rw [show k = n by omega], ht⟩) (fun q h => by cases h) dX1_nodes_31
  · skip
    refine lv_aload_n hx hb dX1_nodes_12 rfl (lv_at hl 0 rfl) ?_
    refine va_get (D := (dC, dI)) (ci := 1) (v := .ref (a 6)) (C := RX1) (T := TX1) (N := 9) hx hb hT inX1 hown hK hP 0 rfl rfl 6 (by decide) (hT _ tw_fl_X1_30) (fun _ h9 => h9) rfl dX1_nodes_13 ?_
    refine lv_iload_n hx hb dX1_nodes_16 rfl (lv_at hl 2 rfl) ?_
    refine ps_iald (k := k) (f := g 6) hx hb hK hP 7 0 rfl rfl (by omega) (by decide) dX1_nodes_17 ?_
    refine lv_if_ne (tgt := 24) hx hb dX1_nodes_18 rfl (fun h18 => ?_) (fun h18 => ?_)
    · skip
      have hc : (fun k => decide (g 6 k = 0)) k = false := by simpa using h18
      refine lv_iinc (k := 2) (v := nI (k + 1)) (lv' := [(2, .int (nI (k + 1))), (0, .ref q), (1, .int (nI (ps_cn (fun k => decide (g 6 k = 0)) k)))]) hx hb dX1_nodes_24 hl rfl (ps_inc _) (by decide) rfl (fun ls hl => ?_)
      refine lv_goto (tgt := 4) hx hb dX1_nodes_27 rfl ?_
      first | rw [← ps_cnT hc] at hl | rw [← ps_cnF hc] at hl
      exact ih ((k + 1)) ls (by omega) ⟨by omega, lv_sub hl [1, 2, 0] rfl⟩
    · skip
      have hc : (fun k => decide (g 6 k = 0)) k = true := by simpa using h18
      refine lv_iinc (k := 1) (v := nI ((ps_cn (fun k => decide (g 6 k = 0)) k) + 1)) (lv' := [(1, .int (nI ((ps_cn (fun k => decide (g 6 k = 0)) k) + 1))), (0, .ref q), (2, .int (nI k))]) hx hb dX1_nodes_21 hl rfl (ps_inc _) (by decide) rfl (fun ls hl => ?_)
      refine lv_iinc (k := 2) (v := nI (k + 1)) (lv' := [(2, .int (nI (k + 1))), (1, .int (nI ((ps_cn (fun k => decide (g 6 k = 0)) k) + 1))), (0, .ref q)]) hx hb dX1_nodes_24 hl rfl (ps_inc _) (by decide) rfl (fun ls hl => ?_)
      refine lv_goto (tgt := 4) hx hb dX1_nodes_27 rfl ?_
      first | rw [← ps_cnT hc] at hl | rw [← ps_cnF hc] at hl
      exact ih ((k + 1)) ls (by omega) ⟨by omega, lv_sub hl [2, 1, 0] rfl⟩
set_option maxHeartbeats 4000000 in
set_option maxRecDepth 100000 in
theorem mX1_pages (l : Launch) (dC : Nat → ClassId) (dI : Nat → Nat → Nat) (cI cZ : ClassId) (q : Nat) (a : Nat → Nat) (n : Nat) (g : ps_G) (hn : n ≤ 48) : Met l yX1_pages (.code yX1_pages cX1_pages 3 (some .int) :: ps_T) ({ frames := 1, cells := 0, slots := 0, locals := 21 }) (ps_pc (dC, dI) (ps_ty cI cZ) (ps_trW cI cZ q a n g) [.ref q]) (vp_Si (fun r => r = nI (ps_cn (fun k => ps_bp (g 6 k)) n))) 0 0 (fun _ => False) := by
  refine Met.ofW (cc := cX1_pages) (maxL := 3) (ret := (some .int)) (by decide) rfl ?_
  intro p e s m args below meth c s₁ B hml hv
  obtain ⟨rfl, hN, hP, hK⟩ := hv
  have hx := B.exec
  have hb := B.bytes
  have hr := B.returns
  have hlocks := B.notSynchronized
  have hT : ∀ w ∈ ps_T, w.before ([.ref q] : List Value).toArray s = true := fun w h => atoms_spec (ws := (.code yX1_pages cX1_pages 3 (some .int) :: ps_T)) B.pre w (List.mem_cons_of_mem _ h)
  have hown : s.vm.findClass RX1 = some m.cls := findClass_of_methodNamed B.named
  have hl := lv_entry ([.ref q]) (n := 3) (Nat.le_of_ble_eq_true rfl)
  rw [lg_entry_eq]
  generalize (lg_sl ([.ref q]) ++ List.replicate (3 - (lg_sl ([.ref q])).length) Slot.unset).toArray = ls at hl ⊢
  have hl : lv_has ls 3 [(0, .ref q)] := hl
  refine lv_iconst (v := 0) hx hb dX1_pages_0 (by decide) ?_
  refine lv_istore_n (lv' := [(1, .int 0), (0, .ref q)]) hx hb dX1_pages_1 rfl hl (by decide) rfl (fun ls hl => ?_)
  refine lv_iconst (v := 0) hx hb dX1_pages_2 (by decide) ?_
  refine lv_istore_n (lv' := [(2, .int 0), (1, .int 0), (0, .ref q)]) hx hb dX1_pages_3 rfl hl (by decide) rfl (fun ls hl => ?_)
  have hl : lv_has ls 3 [(2, .int (nI 0)), (1, .int (nI (ps_cn (fun k => ps_bp (g 6 k)) 0))), (0, .ref q)] := hl
  refine ps_loopS (α := Nat) (fun k => n - k) (fun k ls => (k ≤ n) ∧ lv_has ls 3 [(0, .ref q), (1, .int (nI (ps_cn (fun k => ps_bp (g 6 k)) k))), (2, .int (nI k))]) ?_ 0 ls ⟨by omega, lv_sub hl [2, 1, 0] rfl⟩
  intro k ls ih hI
  obtain ⟨hk, hl⟩ := hI
  refine lv_iload_n hx hb dX1_pages_4 rfl (lv_at hl 2 rfl) ?_
  refine lv_aload_n hx hb dX1_pages_5 rfl (lv_at hl 0 rfl) ?_
  refine va_get (D := (dC, dI)) (ci := 1) (v := .int (nI n)) (C := RX1) (T := TX1) (N := 9) hx hb hT inX1 hown hK hP 0 rfl rfl 8 (by decide) (hT _ tw_fl_X1_37) (fun _ h9 => h9) rfl dX1_pages_6 ?_
  refine ps_icmp_ge (tgt := 29) (a := k) (b := n) hx hb dX1_pages_9 rfl (by omega) (by omega) (fun h9 => ?_) (fun h9 => ?_)
  · skip
    refine lv_iload_n hx hb dX1_pages_29 rfl (lv_at hl 1 rfl) ?_
    exact W.iret (v := nI (ps_cn (fun k => ps_bp (g 6 k)) k)) hx hb hr (fun t ht hW => ⟨nI (ps_cn (fun k => ps_bp (g 6 k)) k), rfl, by rw [show k = n by omega], ht⟩) (fun q h => by cases h) dX1_pages_30
  · skip
    refine lv_aload_n hx hb dX1_pages_12 rfl (lv_at hl 0 rfl) ?_
    refine lv_iload_n hx hb dX1_pages_13 rfl (lv_at hl 2 rfl) ?_
    refine vp_callSi (va_Run.run (va_runV (C := RX1) (As := [.int (nI k)]) (rest := []) ⟨hx, hb, hml, hown, hT⟩ (mX1_beginsPage l dC dI cI cZ q a n g k (by omega)) (cwV 1 hT (ps_gV tw_ml_X1_75 tw_im_X1_beginsPage tw_se_X1_beginsPage tw_in_X1 tw_co_X1_beginsPage) rfl rfl rfl ⟨rfl, by decide, by decide, by decide +kernel⟩ ⟨Nat.le_of_ble_eq_true rfl, Nat.le_of_ble_eq_true rfl⟩) (ps_preV (ci := 1) (q0 := 0) hN hP hK rfl rfl) rfl rfl hl.1 rfl (lv_room (Nat.le_of_ble_eq_true rfl)) dX1_pages_14 ⟨Nat.le_of_ble_eq_true rfl, Nat.le_of_ble_eq_true rfl⟩)) (fun r hr => ?_)
    obtain rfl : r = ps_bi (ps_bp (g 6 k)) := hr
    refine ps_ifb_eq (tgt := 23) hx hb dX1_pages_17 rfl (fun h17 => ?_) (fun h17 => ?_)
    · skip
      have hc : (fun k => ps_bp (g 6 k)) k = false := h17
      refine lv_iinc (k := 2) (v := nI (k + 1)) (lv' := [(2, .int (nI (k + 1))), (0, .ref q), (1, .int (nI (ps_cn (fun k => ps_bp (g 6 k)) k)))]) hx hb dX1_pages_23 hl rfl (ps_inc _) (by decide) rfl (fun ls hl => ?_)
      refine lv_goto (tgt := 4) hx hb dX1_pages_26 rfl ?_
      first | rw [← ps_cnT hc] at hl | rw [← ps_cnF hc] at hl
      exact ih ((k + 1)) ls (by omega) ⟨by omega, lv_sub hl [1, 2, 0] rfl⟩
    · skip
      have hc : (fun k => ps_bp (g 6 k)) k = true := h17
      refine lv_iinc (k := 1) (v := nI ((ps_cn (fun k => ps_bp (g 6 k)) k) + 1)) (lv' := [(1, .int (nI ((ps_cn (fun k => ps_bp (g 6 k)) k) + 1))), (0, .ref q), (2, .int (nI k))]) hx hb dX1_pages_20 hl rfl (ps_inc _) (by decide) rfl (fun ls hl => ?_)
      refine lv_iinc (k := 2) (v := nI (k + 1)) (lv' := [(2, .int (nI (k + 1))), (1, .int (nI ((ps_cn (fun k => ps_bp (g 6 k)) k) + 1))), (0, .ref q)]) hx hb dX1_pages_23 hl rfl (ps_inc _) (by decide) rfl (fun ls hl => ?_)
      refine lv_goto (tgt := 4) hx hb dX1_pages_26 rfl ?_
      first | rw [← ps_cnT hc] at hl | rw [← ps_cnF hc] at hl
      exact ih ((k + 1)) ls (by omega) ⟨by omega, lv_sub hl [2, 1, 0] rfl⟩
set_option maxHeartbeats 4000000 in
set_option maxRecDepth 100000 in
theorem mX1_pointsAbove (l : Launch) (dC : Nat → ClassId) (dI : Nat → Nat → Nat) (cI cZ : ClassId) (q : Nat) (a : Nat → Nat) (n : Nat) (g : ps_G) (hn : n ≤ 48) (rk : Nat) (hrk : rk < 2 ^ 32) : Met l yX1_pointsAbove (.code yX1_pointsAbove cX1_pointsAbove 5 (some .int) :: ps_T) ({ frames := 1, cells := 0, slots := 0, locals := 22 }) (ps_pc (dC, dI) (ps_ty cI cZ) (ps_trW cI cZ q a n g) [.ref q, .long (lN rk)]) (vp_Si (fun r => r = nI (ps_cn (ps_ab g rk) n))) 0 0 (fun _ => False) := by
  refine Met.ofW (cc := cX1_pointsAbove) (maxL := 5) (ret := (some .int)) (by decide) rfl ?_
  intro p e s m args below meth c s₁ B hml hv
  obtain ⟨rfl, hN, hP, hK⟩ := hv
  have hx := B.exec
  have hb := B.bytes
  have hr := B.returns
  have hlocks := B.notSynchronized
  have hT : ∀ w ∈ ps_T, w.before ([.ref q, .long (lN rk)] : List Value).toArray s = true := fun w h => atoms_spec (ws := (.code yX1_pointsAbove cX1_pointsAbove 5 (some .int) :: ps_T)) B.pre w (List.mem_cons_of_mem _ h)
  have hown : s.vm.findClass RX1 = some m.cls := findClass_of_methodNamed B.named
  have hl := lv_entry ([.ref q, .long (lN rk)]) (n := 5) (Nat.le_of_ble_eq_true rfl)
  rw [lg_entry_eq]
  generalize (lg_sl ([.ref q, .long (lN rk)]) ++ List.replicate (5 - (lg_sl ([.ref q, .long (lN rk)])).length) Slot.unset).toArray = ls at hl ⊢
  have hl : lv_has ls 5 [(0, .ref q), (1, .long (lN rk))] := hl
  refine lv_iconst (v := 0) hx hb dX1_pointsAbove_0 (by decide) ?_
  refine lv_istore_n (lv' := [(3, .int 0), (0, .ref q), (1, .long (lN rk))]) hx hb dX1_pointsAbove_1 rfl hl (by decide) rfl (fun ls hl => ?_)
  refine lv_iconst (v := 0) hx hb dX1_pointsAbove_2 (by decide) ?_
  refine lv_istore (lv' := [(4, .int 0), (3, .int 0), (0, .ref q), (1, .long (lN rk))]) hx hb dX1_pointsAbove_3 hl (by decide) rfl (fun ls hl => ?_)
  have hl : lv_has ls 5 [(4, .int (nI 0)), (3, .int (nI (ps_cn (ps_ab g rk) 0))), (0, .ref q), (1, .long (lN rk))] := hl
  refine ps_loopS (α := Nat) (fun k => n - k) (fun k ls => (k ≤ n) ∧ lv_has ls 5 [(0, .ref q), (1, .long (lN rk)), (3, .int (nI (ps_cn (ps_ab g rk) k))), (4, .int (nI k))]) ?_ 0 ls ⟨by omega, lv_sub hl [2, 3, 1, 0] rfl⟩
  intro k ls ih hI
  obtain ⟨hk, hl⟩ := hI
  refine lv_iload hx hb dX1_pointsAbove_5 (lv_at hl 3 rfl) ?_
  refine lv_aload_n hx hb dX1_pointsAbove_7 rfl (lv_at hl 0 rfl) ?_
  refine va_get (D := (dC, dI)) (ci := 1) (v := .int (nI n)) (C := RX1) (T := TX1) (N := 9) hx hb hT inX1 hown hK hP 0 rfl rfl 8 (by decide) (hT _ tw_fl_X1_37) (fun _ h9 => h9) rfl dX1_pointsAbove_8 ?_
  refine ps_icmp_ge (tgt := 38) (a := k) (b := n) hx hb dX1_pointsAbove_11 rfl (by omega) (by omega) (fun h11 => ?_) (fun h11 => ?_)
  · skip
    refine lv_iload_n hx hb dX1_pointsAbove_38 rfl (lv_at hl 2 rfl) ?_
    exact W.iret (v := nI (ps_cn (ps_ab g rk) k)) hx hb hr (fun t ht hW => ⟨nI (ps_cn (ps_ab g rk) k), rfl, by rw [show k = n by omega], ht⟩) (fun q h => by cases h) dX1_pointsAbove_39
  · skip
    refine lv_aload_n hx hb dX1_pointsAbove_14 rfl (lv_at hl 0 rfl) ?_
    refine va_get (D := (dC, dI)) (ci := 1) (v := .ref (a 0)) (C := RX1) (T := TX1) (N := 9) hx hb hT inX1 hown hK hP 0 rfl rfl 0 (by decide) (hT _ tw_fl_X1_9) (fun _ h9 => h9) rfl dX1_pointsAbove_15 ?_
    refine lv_iload hx hb dX1_pointsAbove_18 (lv_at hl 3 rfl) ?_
    refine ps_iald (k := k) (f := g 0) hx hb hK hP 1 0 rfl rfl (by omega) (by decide) dX1_pointsAbove_20 ?_
    refine vp_callSl (va_Run.run (va_runSN (As := [.int (g 0 k)]) (rest := []) ⟨hx, hb, hml, hown, hT⟩ (mX2_rankOf l (g 0 k)) ⟨va_cnB 1 hT (ps_gC tw_co_X2_rankOf) rfl rfl rfl hN.1 (hT _ tw_in_X2) ⟨by decide, by decide, by decide +kernel⟩ ⟨Nat.le_of_ble_eq_true rfl, Nat.le_of_ble_eq_true rfl⟩, hT _ tw_st_X2_rankOf, trivial⟩ preEq rfl rfl hl.1 rfl (lv_room (Nat.le_of_ble_eq_true rfl)) dX1_pointsAbove_21 ⟨Nat.le_of_ble_eq_true rfl, Nat.le_of_ble_eq_true rfl⟩)) (fun r hr => ?_)
    obtain rfl : r = lN (ps_rk (g 0 k)) := hr
    refine lv_lload_n hx hb dX1_pointsAbove_24 rfl (lv_at hl 1 rfl) ?_
    refine W.lcmp hx hb dX1_pointsAbove_25 ?_
    refine lv_if_le (tgt := 32) hx hb dX1_pointsAbove_26 rfl (fun h26 => ?_) (fun h26 => ?_)
    · skip
      have hc : ps_ab g rk k = false := ps_ab_f hrk h26
      refine lv_iinc (k := 3) (v := nI (k + 1)) (lv' := [(4, .int (nI (k + 1))), (0, .ref q), (1, .long (lN rk)), (3, .int (nI (ps_cn (ps_ab g rk) k)))]) hx hb dX1_pointsAbove_32 hl rfl (ps_inc _) (by decide) rfl (fun ls hl => ?_)
      refine lv_goto (tgt := 5) hx hb dX1_pointsAbove_35 rfl ?_
      first | rw [← ps_cnT hc] at hl | rw [← ps_cnF hc] at hl
      exact ih ((k + 1)) ls (by omega) ⟨by omega, lv_sub hl [1, 2, 3, 0] rfl⟩
    · skip
      have hc : ps_ab g rk k = true := ps_ab_t hrk h26
      refine lv_iinc (k := 2) (v := nI ((ps_cn (ps_ab g rk) k) + 1)) (lv' := [(3, .int (nI ((ps_cn (ps_ab g rk) k) + 1))), (0, .ref q), (1, .long (lN rk)), (4, .int (nI k))]) hx hb dX1_pointsAbove_29 hl rfl (ps_inc _) (by decide) rfl (fun ls hl => ?_)
      refine lv_iinc (k := 3) (v := nI (k + 1)) (lv' := [(4, .int (nI (k + 1))), (3, .int (nI ((ps_cn (ps_ab g rk) k) + 1))), (0, .ref q), (1, .long (lN rk))]) hx hb dX1_pointsAbove_32 hl rfl (ps_inc _) (by decide) rfl (fun ls hl => ?_)
      refine lv_goto (tgt := 5) hx hb dX1_pointsAbove_35 rfl ?_
      first | rw [← ps_cnT hc] at hl | rw [← ps_cnF hc] at hl
      exact ih ((k + 1)) ls (by omega) ⟨by omega, lv_sub hl [2, 3, 1, 0] rfl⟩
set_option maxHeartbeats 4000000 in
set_option maxRecDepth 100000 in
theorem mX1_keptBefore (l : Launch) (dC : Nat → ClassId) (dI : Nat → Nat → Nat) (cI cZ : ClassId) (q : Nat) (a : Nat → Nat) (n : Nat) (g : ps_G) (k0 : Nat) (hk0 : k0 < 48) (d : Int32) : Met l yX1_keptBefore (.code yX1_keptBefore cX1_keptBefore 8 (some .int) :: ps_T) ({ frames := 2, cells := 0, slots := 0, locals := 46 }) (ps_pc (dC, dI) (ps_ty cI cZ) (ps_trW cI cZ q a n g) [.ref q, .int (nI k0), .int d]) (vp_Si (fun r => r = nI (ps_cn (ps_kb g d k0) k0))) 0 0 (fun _ => False) := by
  refine Met.ofW (cc := cX1_keptBefore) (maxL := 8) (ret := (some .int)) (by decide) rfl ?_
  intro p e s m args below meth c s₁ B hml hv
  obtain ⟨rfl, hN, hP, hK⟩ := hv
  have hx := B.exec
  have hb := B.bytes
  have hr := B.returns
  have hlocks := B.notSynchronized
  have hT : ∀ w ∈ ps_T, w.before ([.ref q, .int (nI k0), .int d] : List Value).toArray s = true := fun w h => atoms_spec (ws := (.code yX1_keptBefore cX1_keptBefore 8 (some .int) :: ps_T)) B.pre w (List.mem_cons_of_mem _ h)
  have hown : s.vm.findClass RX1 = some m.cls := findClass_of_methodNamed B.named
  have hl := lv_entry ([.ref q, .int (nI k0), .int d]) (n := 8) (Nat.le_of_ble_eq_true rfl)
  rw [lg_entry_eq]
  generalize (lg_sl ([.ref q, .int (nI k0), .int d]) ++ List.replicate (8 - (lg_sl ([.ref q, .int (nI k0), .int d])).length) Slot.unset).toArray = ls at hl ⊢
  have hl : lv_has ls 8 [(0, .ref q), (1, .int (nI k0)), (2, .int d)] := hl
  refine lv_iload_n hx hb dX1_keptBefore_0 rfl (lv_at hl 2 rfl) ?_
  refine lv_aload_n hx hb dX1_keptBefore_1 rfl (lv_at hl 0 rfl) ?_
  refine va_get (D := (dC, dI)) (ci := 1) (v := .ref (a 1)) (C := RX1) (T := TX1) (N := 9) hx hb hT inX1 hown hK hP 0 rfl rfl 1 (by decide) (hT _ tw_fl_X1_15) (fun _ h9 => h9) rfl dX1_keptBefore_2 ?_
  refine lv_iload_n hx hb dX1_keptBefore_5 rfl (lv_at hl 1 rfl) ?_
  refine ps_iald (k := k0) (f := g 1) hx hb hK hP 2 0 rfl rfl (by omega) (by decide) dX1_keptBefore_6 ?_
  refine vp_callSi (va_Run.run (va_runSN (As := [.int d, .int (g 1 k0)]) (rest := []) ⟨hx, hb, hml, hown, hT⟩ (mX2_cubeIndex l d (g 1 k0)) ⟨va_cnB 2 hT (ps_gC tw_co_X2_cubeIndex) rfl rfl rfl hN.2 (hT _ tw_in_X2) ⟨by decide, by decide, by decide +kernel⟩ ⟨Nat.le_of_ble_eq_true rfl, Nat.le_of_ble_eq_true rfl⟩, hT _ tw_st_X2_cubeIndex, trivial⟩ preEq rfl rfl hl.1 rfl (lv_room (Nat.le_of_ble_eq_true rfl)) dX1_keptBefore_7 ⟨Nat.le_of_ble_eq_true rfl, Nat.le_of_ble_eq_true rfl⟩)) (fun r hr => ?_)
  obtain rfl : r = ps_cb d (g 1 k0) := hr
  refine lv_istore_n (lv' := [(3, .int (ps_cb d (g 1 k0))), (0, .ref q), (1, .int (nI k0)), (2, .int d)]) hx hb dX1_keptBefore_10 rfl hl (by decide) rfl (fun ls hl => ?_)
  refine lv_iload_n hx hb dX1_keptBefore_11 rfl (lv_at hl 3 rfl) ?_
  refine lv_aload_n hx hb dX1_keptBefore_12 rfl (lv_at hl 1 rfl) ?_
  refine va_get (D := (dC, dI)) (ci := 1) (v := .ref (a 2)) (C := RX1) (T := TX1) (N := 9) hx hb hT inX1 hown hK hP 0 rfl rfl 2 (by decide) (hT _ tw_fl_X1_18) (fun _ h9 => h9) rfl dX1_keptBefore_13 ?_
  refine lv_iload_n hx hb dX1_keptBefore_16 rfl (lv_at hl 2 rfl) ?_
  refine ps_iald (k := k0) (f := g 2) hx hb hK hP 3 0 rfl rfl (by omega) (by decide) dX1_keptBefore_17 ?_
  refine vp_callSi (va_Run.run (va_runSN (As := [.int d, .int (g 2 k0)]) (rest := []) ⟨hx, hb, hml, hown, hT⟩ (mX2_cubeIndex l d (g 2 k0)) ⟨va_cnB 2 hT (ps_gC tw_co_X2_cubeIndex) rfl rfl rfl hN.2 (hT _ tw_in_X2) ⟨by decide, by decide, by decide +kernel⟩ ⟨Nat.le_of_ble_eq_true rfl, Nat.le_of_ble_eq_true rfl⟩, hT _ tw_st_X2_cubeIndex, trivial⟩ preEq rfl rfl hl.1 rfl (lv_room (Nat.le_of_ble_eq_true rfl)) dX1_keptBefore_18 ⟨Nat.le_of_ble_eq_true rfl, Nat.le_of_ble_eq_true rfl⟩)) (fun r hr => ?_)
  obtain rfl : r = ps_cb d (g 2 k0) := hr
  refine lv_istore (lv' := [(4, .int (ps_cb d (g 2 k0))), (3, .int (ps_cb d (g 1 k0))), (0, .ref q), (1, .int (nI k0)), (2, .int d)]) hx hb dX1_keptBefore_21 hl (by decide) rfl (fun ls hl => ?_)
  refine lv_iload_n hx hb dX1_keptBefore_23 rfl (lv_at hl 4 rfl) ?_
  refine lv_aload_n hx hb dX1_keptBefore_24 rfl (lv_at hl 2 rfl) ?_
  refine va_get (D := (dC, dI)) (ci := 1) (v := .ref (a 3)) (C := RX1) (T := TX1) (N := 9) hx hb hT inX1 hown hK hP 0 rfl rfl 3 (by decide) (hT _ tw_fl_X1_21) (fun _ h9 => h9) rfl dX1_keptBefore_25 ?_
  refine lv_iload_n hx hb dX1_keptBefore_28 rfl (lv_at hl 3 rfl) ?_
  refine ps_iald (k := k0) (f := g 3) hx hb hK hP 4 0 rfl rfl (by omega) (by decide) dX1_keptBefore_29 ?_
  refine vp_callSi (va_Run.run (va_runSN (As := [.int d, .int (g 3 k0)]) (rest := []) ⟨hx, hb, hml, hown, hT⟩ (mX2_cubeIndex l d (g 3 k0)) ⟨va_cnB 2 hT (ps_gC tw_co_X2_cubeIndex) rfl rfl rfl hN.2 (hT _ tw_in_X2) ⟨by decide, by decide, by decide +kernel⟩ ⟨Nat.le_of_ble_eq_true rfl, Nat.le_of_ble_eq_true rfl⟩, hT _ tw_st_X2_cubeIndex, trivial⟩ preEq rfl rfl hl.1 rfl (lv_room (Nat.le_of_ble_eq_true rfl)) dX1_keptBefore_30 ⟨Nat.le_of_ble_eq_true rfl, Nat.le_of_ble_eq_true rfl⟩)) (fun r hr => ?_)
  obtain rfl : r = ps_cb d (g 3 k0) := hr
  refine lv_istore (lv' := [(5, .int (ps_cb d (g 3 k0))), (4, .int (ps_cb d (g 2 k0))), (3, .int (ps_cb d (g 1 k0))), (0, .ref q), (1, .int (nI k0)), (2, .int d)]) hx hb dX1_keptBefore_33 hl (by decide) rfl (fun ls hl => ?_)
  refine lv_iconst (v := 0) hx hb dX1_keptBefore_35 (by decide) ?_
  refine lv_istore (lv' := [(6, .int 0), (5, .int (ps_cb d (g 3 k0))), (4, .int (ps_cb d (g 2 k0))), (3, .int (ps_cb d (g 1 k0))), (0, .ref q), (1, .int (nI k0)), (2, .int d)]) hx hb dX1_keptBefore_36 hl (by decide) rfl (fun ls hl => ?_)
  refine lv_iconst (v := 0) hx hb dX1_keptBefore_38 (by decide) ?_
  refine lv_istore (lv' := [(7, .int 0), (6, .int 0), (5, .int (ps_cb d (g 3 k0))), (4, .int (ps_cb d (g 2 k0))), (3, .int (ps_cb d (g 1 k0))), (0, .ref q), (1, .int (nI k0)), (2, .int d)]) hx hb dX1_keptBefore_39 hl (by decide) rfl (fun ls hl => ?_)
  have hl : lv_has ls 8 [(7, .int (nI 0)), (6, .int (nI (ps_cn (ps_kb g d k0) 0))), (5, .int (ps_cb d (g 3 k0))), (4, .int (ps_cb d (g 2 k0))), (3, .int (ps_cb d (g 1 k0))), (0, .ref q), (1, .int (nI k0)), (2, .int d)] := hl
  refine ps_loopS (α := Nat) (fun k => k0 - k) (fun k ls => (k ≤ k0) ∧ lv_has ls 8 [(0, .ref q), (1, .int (nI k0)), (2, .int d), (3, .int (ps_cb d (g 1 k0))), (4, .int (ps_cb d (g 2 k0))), (5, .int (ps_cb d (g 3 k0))), (6, .int (nI (ps_cn (ps_kb g d k0) k))), (7, .int (nI k))]) ?_ 0 ls ⟨by omega, lv_sub hl [5, 6, 7, 4, 3, 2, 1, 0] rfl⟩
  intro k ls ih hI
  obtain ⟨hk, hl⟩ := hI
  refine lv_iload hx hb dX1_keptBefore_41 (lv_at hl 7 rfl) ?_
  refine lv_iload_n hx hb dX1_keptBefore_43 rfl (lv_at hl 1 rfl) ?_
  refine ps_icmp_ge (tgt := 82) (a := k) (b := k0) hx hb dX1_keptBefore_44 rfl (by omega) (by omega) (fun h44 => ?_) (fun h44 => ?_)
  · skip
    refine lv_iload hx hb dX1_keptBefore_82 (lv_at hl 6 rfl) ?_
    exact W.iret (v := nI (ps_cn (ps_kb g d k0) k)) hx hb hr (fun t ht hW => ⟨nI (ps_cn (ps_kb g d k0) k), rfl, by rw [show k = k0 by omega], ht⟩) (fun q h => by cases h) dX1_keptBefore_84
  · skip
    refine lv_aload_n hx hb dX1_keptBefore_47 rfl (lv_at hl 0 rfl) ?_
    refine va_get (D := (dC, dI)) (ci := 1) (v := .ref (a 5)) (C := RX1) (T := TX1) (N := 9) hx hb hT inX1 hown hK hP 0 rfl rfl 5 (by decide) (hT _ tw_fl_X1_27) (fun _ h9 => h9) rfl dX1_keptBefore_48 ?_
    refine lv_iload hx hb dX1_keptBefore_51 (lv_at hl 7 rfl) ?_
    refine ps_iald (k := k) (f := g 5) hx hb hK hP 6 0 rfl rfl (by omega) (by decide) dX1_keptBefore_53 ?_
    refine lv_iload_n hx hb dX1_keptBefore_54 rfl (lv_at hl 2 rfl) ?_
    refine lv_icmp_ne (tgt := 76) hx hb dX1_keptBefore_55 rfl (fun h55 => ?_) (fun h55 => ?_)
    · skip
      have hc : ps_kb g d k0 k = false := by simp [ps_kb, h55]
      refine lv_iinc (k := 7) (v := nI (k + 1)) (lv' := [(7, .int (nI (k + 1))), (0, .ref q), (1, .int (nI k0)), (2, .int d), (3, .int (ps_cb d (g 1 k0))), (4, .int (ps_cb d (g 2 k0))), (5, .int (ps_cb d (g 3 k0))), (6, .int (nI (ps_cn (ps_kb g d k0) k)))]) hx hb dX1_keptBefore_76 hl rfl (ps_inc _) (by decide) rfl (fun ls hl => ?_)
      refine lv_goto (tgt := 41) hx hb dX1_keptBefore_79 rfl ?_
      first | rw [← ps_cnT hc] at hl | rw [← ps_cnF hc] at hl
      exact ih ((k + 1)) ls (by omega) ⟨by omega, lv_sub hl [1, 2, 3, 4, 5, 6, 7, 0] rfl⟩
    · skip
      refine lv_aload_n hx hb dX1_keptBefore_58 rfl (lv_at hl 0 rfl) ?_
      refine lv_iload hx hb dX1_keptBefore_59 (lv_at hl 7 rfl) ?_
      refine lv_iload_n hx hb dX1_keptBefore_61 rfl (lv_at hl 2 rfl) ?_
      refine lv_iload_n hx hb dX1_keptBefore_62 rfl (lv_at hl 3 rfl) ?_
      refine lv_iload hx hb dX1_keptBefore_63 (lv_at hl 4 rfl) ?_
      refine lv_iload hx hb dX1_keptBefore_65 (lv_at hl 5 rfl) ?_
      refine vp_callSi (va_Run.run (va_runV (C := RX1) (As := [.int (nI k), .int d, .int (ps_cb d (g 1 k0)), .int (ps_cb d (g 2 k0)), .int (ps_cb d (g 3 k0))]) (rest := []) ⟨hx, hb, hml, hown, hT⟩ (mX1_isInCube l dC dI cI cZ q a n g k (by omega) d (ps_cb d (g 1 k0)) (ps_cb d (g 2 k0)) (ps_cb d (g 3 k0))) (cwV 5 hT (ps_gV tw_ml_X1_41 tw_im_X1_isInCube tw_se_X1_isInCube tw_in_X1 tw_co_X1_isInCube) rfl rfl rfl ⟨rfl, by decide, by decide, by decide +kernel⟩ ⟨Nat.le_of_ble_eq_true rfl, Nat.le_of_ble_eq_true rfl⟩) (ps_preV (ci := 1) (q0 := 0) hN hP hK rfl rfl) rfl rfl hl.1 rfl (lv_room (Nat.le_of_ble_eq_true rfl)) dX1_keptBefore_67 ⟨Nat.le_of_ble_eq_true rfl, Nat.le_of_ble_eq_true rfl⟩)) (fun r hr => ?_)
      obtain rfl : r = ps_bi (ps_in g d (ps_cb d (g 1 k0)) (ps_cb d (g 2 k0)) (ps_cb d (g 3 k0)) k) := hr
      refine ps_ifb_eq (tgt := 76) hx hb dX1_keptBefore_70 rfl (fun h70 => ?_) (fun h70 => ?_)
      · skip
        have hc : ps_kb g d k0 k = false := by simp [ps_kb, ps_one, h70]
        refine lv_iinc (k := 7) (v := nI (k + 1)) (lv' := [(7, .int (nI (k + 1))), (0, .ref q), (1, .int (nI k0)), (2, .int d), (3, .int (ps_cb d (g 1 k0))), (4, .int (ps_cb d (g 2 k0))), (5, .int (ps_cb d (g 3 k0))), (6, .int (nI (ps_cn (ps_kb g d k0) k)))]) hx hb dX1_keptBefore_76 hl rfl (ps_inc _) (by decide) rfl (fun ls hl => ?_)
        refine lv_goto (tgt := 41) hx hb dX1_keptBefore_79 rfl ?_
        first | rw [← ps_cnT hc] at hl | rw [← ps_cnF hc] at hl
        exact ih ((k + 1)) ls (by omega) ⟨by omega, lv_sub hl [1, 2, 3, 4, 5, 6, 7, 0] rfl⟩
      · skip
        have hc : ps_kb g d k0 k = true := by simp [ps_kb, ps_one, h55, h70]
        refine lv_iinc (k := 6) (v := nI ((ps_cn (ps_kb g d k0) k) + 1)) (lv' := [(6, .int (nI ((ps_cn (ps_kb g d k0) k) + 1))), (0, .ref q), (1, .int (nI k0)), (2, .int d), (3, .int (ps_cb d (g 1 k0))), (4, .int (ps_cb d (g 2 k0))), (5, .int (ps_cb d (g 3 k0))), (7, .int (nI k))]) hx hb dX1_keptBefore_73 hl rfl (ps_inc _) (by decide) rfl (fun ls hl => ?_)
        refine lv_iinc (k := 7) (v := nI (k + 1)) (lv' := [(7, .int (nI (k + 1))), (6, .int (nI ((ps_cn (ps_kb g d k0) k) + 1))), (0, .ref q), (1, .int (nI k0)), (2, .int d), (3, .int (ps_cb d (g 1 k0))), (4, .int (ps_cb d (g 2 k0))), (5, .int (ps_cb d (g 3 k0)))]) hx hb dX1_keptBefore_76 hl rfl (ps_inc _) (by decide) rfl (fun ls hl => ?_)
        refine lv_goto (tgt := 41) hx hb dX1_keptBefore_79 rfl ?_
        first | rw [← ps_cnT hc] at hl | rw [← ps_cnF hc] at hl
        exact ih ((k + 1)) ls (by omega) ⟨by omega, lv_sub hl [2, 3, 4, 5, 6, 7, 1, 0] rfl⟩
set_option maxHeartbeats 4000000 in
set_option maxRecDepth 100000 in
theorem mX1_findKept (l : Launch) (dC : Nat → ClassId) (dI : Nat → Nat → Nat) (cI cZ : ClassId) (q : Nat) (a : Nat → Nat) (n : Nat) (g : ps_G) (hn : n ≤ 48) (d cx cy cz pl : Int32) : Met l yX1_findKept (.code yX1_findKept cX1_findKept 7 (some .int) :: ps_T) ({ frames := 2, cells := 0, slots := 0, locals := 46 }) (ps_pc (dC, dI) (ps_ty cI cZ) (ps_trW cI cZ q a n g) [.ref q, .int d, .int cx, .int cy, .int cz, .int pl]) (vp_Si (fun r => r = ps_fr (ps_fp (ps_fk g d cx cy cz pl) n))) 0 0 (fun _ => False) := by
  refine Met.ofW (cc := cX1_findKept) (maxL := 7) (ret := (some .int)) (by decide) rfl ?_
  intro p e s m args below meth c s₁ B hml hv
  obtain ⟨rfl, hN, hP, hK⟩ := hv
  have hx := B.exec
  have hb := B.bytes
  have hr := B.returns
  have hlocks := B.notSynchronized
  have hT : ∀ w ∈ ps_T, w.before ([.ref q, .int d, .int cx, .int cy, .int cz, .int pl] : List Value).toArray s = true := fun w h => atoms_spec (ws := (.code yX1_findKept cX1_findKept 7 (some .int) :: ps_T)) B.pre w (List.mem_cons_of_mem _ h)
  have hown : s.vm.findClass RX1 = some m.cls := findClass_of_methodNamed B.named
  have hl := lv_entry ([.ref q, .int d, .int cx, .int cy, .int cz, .int pl]) (n := 7) (Nat.le_of_ble_eq_true rfl)
  rw [lg_entry_eq]
  generalize (lg_sl ([.ref q, .int d, .int cx, .int cy, .int cz, .int pl]) ++ List.replicate (7 - (lg_sl ([.ref q, .int d, .int cx, .int cy, .int cz, .int pl])).length) Slot.unset).toArray = ls at hl ⊢
  have hl : lv_has ls 7 [(0, .ref q), (1, .int d), (2, .int cx), (3, .int cy), (4, .int cz), (5, .int pl)] := hl
  refine lv_iconst (v := 0) hx hb dX1_findKept_0 (by decide) ?_
  refine lv_istore (lv' := [(6, .int 0), (0, .ref q), (1, .int d), (2, .int cx), (3, .int cy), (4, .int cz), (5, .int pl)]) hx hb dX1_findKept_1 hl (by decide) rfl (fun ls hl => ?_)
  have hl : lv_has ls 7 [(6, .int (nI 0)), (0, .ref q), (1, .int d), (2, .int cx), (3, .int cy), (4, .int cz), (5, .int pl)] := hl
  refine ps_loopS (α := Nat) (fun k => n - k) (fun k ls => (k ≤ n) ∧ (∀ j, j < k → ps_fk g d cx cy cz pl j = false) ∧ lv_has ls 7 [(0, .ref q), (1, .int d), (2, .int cx), (3, .int cy), (4, .int cz), (5, .int pl), (6, .int (nI k))]) ?_ 0 ls ⟨by omega, fun j hj => absurd hj (Nat.not_lt_zero j), lv_sub hl [1, 2, 3, 4, 5, 6, 0] rfl⟩
  intro k ls ih hI
  obtain ⟨hk, hj, hl⟩ := hI
  refine lv_iload hx hb dX1_findKept_3 (lv_at hl 6 rfl) ?_
  refine lv_aload_n hx hb dX1_findKept_5 rfl (lv_at hl 0 rfl) ?_
  refine va_get (D := (dC, dI)) (ci := 1) (v := .int (nI n)) (C := RX1) (T := TX1) (N := 9) hx hb hT inX1 hown hK hP 0 rfl rfl 8 (by decide) (hT _ tw_fl_X1_37) (fun _ h9 => h9) rfl dX1_findKept_6 ?_
  refine ps_icmp_ge (tgt := 58) (a := k) (b := n) hx hb dX1_findKept_9 rfl (by omega) (by omega) (fun h9 => ?_) (fun h9 => ?_)
  · skip
    refine lv_iconst (v := (-1)) hx hb dX1_findKept_58 (by decide) ?_
    exact W.iret (v := (-1)) hx hb hr (fun t ht hW => ⟨(-1), rfl, by rw [ps_fp_none (fun j h => hj j (by omega))]; rfl, ht⟩) (fun q h => by cases h) dX1_findKept_59
  · skip
    refine lv_aload_n hx hb dX1_findKept_12 rfl (lv_at hl 0 rfl) ?_
    refine va_get (D := (dC, dI)) (ci := 1) (v := .ref (a 6)) (C := RX1) (T := TX1) (N := 9) hx hb hT inX1 hown hK hP 0 rfl rfl 6 (by decide) (hT _ tw_fl_X1_30) (fun _ h9 => h9) rfl dX1_findKept_13 ?_
    refine lv_iload hx hb dX1_findKept_16 (lv_at hl 6 rfl) ?_
    refine ps_iald (k := k) (f := g 6) hx hb hK hP 7 0 rfl rfl (by omega) (by decide) dX1_findKept_18 ?_
    refine lv_iload hx hb dX1_findKept_19 (lv_at hl 5 rfl) ?_
    refine lv_icmp_ne (tgt := 52) hx hb dX1_findKept_21 rfl (fun h21 => ?_) (fun h21 => ?_)
    · skip
      have hc : ps_fk g d cx cy cz pl k = false := by simp [ps_fk, h21]
      refine lv_iinc (k := 6) (v := nI (k + 1)) (lv' := [(6, .int (nI (k + 1))), (0, .ref q), (1, .int d), (2, .int cx), (3, .int cy), (4, .int cz), (5, .int pl)]) hx hb dX1_findKept_52 hl rfl (ps_inc _) (by decide) rfl (fun ls hl => ?_)
      refine lv_goto (tgt := 3) hx hb dX1_findKept_55 rfl ?_
      exact ih ((k + 1)) ls (by omega) ⟨by omega, lt_s hj hc, lv_sub hl [1, 2, 3, 4, 5, 6, 0] rfl⟩
    · skip
      refine lv_aload_n hx hb dX1_findKept_24 rfl (lv_at hl 0 rfl) ?_
      refine va_get (D := (dC, dI)) (ci := 1) (v := .ref (a 5)) (C := RX1) (T := TX1) (N := 9) hx hb hT inX1 hown hK hP 0 rfl rfl 5 (by decide) (hT _ tw_fl_X1_27) (fun _ h9 => h9) rfl dX1_findKept_25 ?_
      refine lv_iload hx hb dX1_findKept_28 (lv_at hl 6 rfl) ?_
      refine ps_iald (k := k) (f := g 5) hx hb hK hP 6 0 rfl rfl (by omega) (by decide) dX1_findKept_30 ?_
      refine lv_iload_n hx hb dX1_findKept_31 rfl (lv_at hl 1 rfl) ?_
      refine lv_icmp_ne (tgt := 52) hx hb dX1_findKept_32 rfl (fun h32 => ?_) (fun h32 => ?_)
      · skip
        have hc : ps_fk g d cx cy cz pl k = false := by simp [ps_fk, h32]
        refine lv_iinc (k := 6) (v := nI (k + 1)) (lv' := [(6, .int (nI (k + 1))), (0, .ref q), (1, .int d), (2, .int cx), (3, .int cy), (4, .int cz), (5, .int pl)]) hx hb dX1_findKept_52 hl rfl (ps_inc _) (by decide) rfl (fun ls hl => ?_)
        refine lv_goto (tgt := 3) hx hb dX1_findKept_55 rfl ?_
        exact ih ((k + 1)) ls (by omega) ⟨by omega, lt_s hj hc, lv_sub hl [1, 2, 3, 4, 5, 6, 0] rfl⟩
      · skip
        refine lv_aload_n hx hb dX1_findKept_35 rfl (lv_at hl 0 rfl) ?_
        refine lv_iload hx hb dX1_findKept_36 (lv_at hl 6 rfl) ?_
        refine lv_iload_n hx hb dX1_findKept_38 rfl (lv_at hl 1 rfl) ?_
        refine lv_iload_n hx hb dX1_findKept_39 rfl (lv_at hl 2 rfl) ?_
        refine lv_iload_n hx hb dX1_findKept_40 rfl (lv_at hl 3 rfl) ?_
        refine lv_iload hx hb dX1_findKept_41 (lv_at hl 4 rfl) ?_
        refine vp_callSi (va_Run.run (va_runV (C := RX1) (As := [.int (nI k), .int d, .int cx, .int cy, .int cz]) (rest := []) ⟨hx, hb, hml, hown, hT⟩ (mX1_isInCube l dC dI cI cZ q a n g k (by omega) d cx cy cz) (cwV 5 hT (ps_gV tw_ml_X1_41 tw_im_X1_isInCube tw_se_X1_isInCube tw_in_X1 tw_co_X1_isInCube) rfl rfl rfl ⟨rfl, by decide, by decide, by decide +kernel⟩ ⟨Nat.le_of_ble_eq_true rfl, Nat.le_of_ble_eq_true rfl⟩) (ps_preV (ci := 1) (q0 := 0) hN hP hK rfl rfl) rfl rfl hl.1 rfl (lv_room (Nat.le_of_ble_eq_true rfl)) dX1_findKept_43 ⟨Nat.le_of_ble_eq_true rfl, Nat.le_of_ble_eq_true rfl⟩)) (fun r hr => ?_)
        obtain rfl : r = ps_bi (ps_in g d cx cy cz k) := hr
        refine ps_ifb_eq (tgt := 52) hx hb dX1_findKept_46 rfl (fun h46 => ?_) (fun h46 => ?_)
        · skip
          have hc : ps_fk g d cx cy cz pl k = false := by simp [ps_fk, h46]
          refine lv_iinc (k := 6) (v := nI (k + 1)) (lv' := [(6, .int (nI (k + 1))), (0, .ref q), (1, .int d), (2, .int cx), (3, .int cy), (4, .int cz), (5, .int pl)]) hx hb dX1_findKept_52 hl rfl (ps_inc _) (by decide) rfl (fun ls hl => ?_)
          refine lv_goto (tgt := 3) hx hb dX1_findKept_55 rfl ?_
          exact ih ((k + 1)) ls (by omega) ⟨by omega, lt_s hj hc, lv_sub hl [1, 2, 3, 4, 5, 6, 0] rfl⟩
        · skip
          have hc : ps_fk g d cx cy cz pl k = true := by simp [ps_fk, h21, h32, h46]
          refine lv_iload hx hb dX1_findKept_49 (lv_at hl 6 rfl) ?_
          exact W.iret (v := nI k) hx hb hr (fun t ht hW => ⟨nI k, rfl, by rw [ps_fp_some h9 hc hj]; rfl, ht⟩) (fun q h => by cases h) dX1_findKept_51
set_option maxHeartbeats 4000000 in
set_option maxRecDepth 100000 in
theorem mX1_hasChange (l : Launch) (dC : Nat → ClassId) (dI : Nat → Nat → Nat) (cI cZ : ClassId) (q : Nat) (a : Nat → Nat) (n : Nat) (g : ps_G) (hn : n ≤ 48) (d cx cy cz : Int32) : Met l yX1_hasChange (.code yX1_hasChange cX1_hasChange 6 (some .boolean) :: ps_T) ({ frames := 2, cells := 0, slots := 0, locals := 46 }) (ps_pc (dC, dI) (ps_ty cI cZ) (ps_trW cI cZ q a n g) [.ref q, .int d, .int cx, .int cy, .int cz]) (vp_Si (fun r => r = ps_bi (ps_hc g n d cx cy cz))) 0 0 (fun _ => False) := by
  refine Met.ofW (cc := cX1_hasChange) (maxL := 6) (ret := (some .boolean)) (by decide) rfl ?_
  intro p e s m args below meth c s₁ B hml hv
  obtain ⟨rfl, hN, hP, hK⟩ := hv
  have hx := B.exec
  have hb := B.bytes
  have hr := B.returns
  have hlocks := B.notSynchronized
  have hT : ∀ w ∈ ps_T, w.before ([.ref q, .int d, .int cx, .int cy, .int cz] : List Value).toArray s = true := fun w h => atoms_spec (ws := (.code yX1_hasChange cX1_hasChange 6 (some .boolean) :: ps_T)) B.pre w (List.mem_cons_of_mem _ h)
  have hown : s.vm.findClass RX1 = some m.cls := findClass_of_methodNamed B.named
  have hl := lv_entry ([.ref q, .int d, .int cx, .int cy, .int cz]) (n := 6) (Nat.le_of_ble_eq_true rfl)
  rw [lg_entry_eq]
  generalize (lg_sl ([.ref q, .int d, .int cx, .int cy, .int cz]) ++ List.replicate (6 - (lg_sl ([.ref q, .int d, .int cx, .int cy, .int cz])).length) Slot.unset).toArray = ls at hl ⊢
  have hl : lv_has ls 6 [(0, .ref q), (1, .int d), (2, .int cx), (3, .int cy), (4, .int cz)] := hl
  refine lv_iconst (v := 0) hx hb dX1_hasChange_0 (by decide) ?_
  refine lv_istore (lv' := [(5, .int 0), (0, .ref q), (1, .int d), (2, .int cx), (3, .int cy), (4, .int cz)]) hx hb dX1_hasChange_1 hl (by decide) rfl (fun ls hl => ?_)
  have hl : lv_has ls 6 [(5, .int (nI 0)), (0, .ref q), (1, .int d), (2, .int cx), (3, .int cy), (4, .int cz)] := hl
  refine ps_loopS (α := Nat) (fun k => n - k) (fun k ls => (k ≤ n) ∧ (∀ j, j < k → ps_hp g d cx cy cz j = false) ∧ lv_has ls 6 [(0, .ref q), (1, .int d), (2, .int cx), (3, .int cy), (4, .int cz), (5, .int (nI k))]) ?_ 0 ls ⟨by omega, fun j hj => absurd hj (Nat.not_lt_zero j), lv_sub hl [1, 2, 3, 4, 5, 0] rfl⟩
  intro k ls ih hI
  obtain ⟨hk, hj, hl⟩ := hI
  refine lv_iload hx hb dX1_hasChange_3 (lv_at hl 5 rfl) ?_
  refine lv_aload_n hx hb dX1_hasChange_5 rfl (lv_at hl 0 rfl) ?_
  refine va_get (D := (dC, dI)) (ci := 1) (v := .int (nI n)) (C := RX1) (T := TX1) (N := 9) hx hb hT inX1 hown hK hP 0 rfl rfl 8 (by decide) (hT _ tw_fl_X1_37) (fun _ h9 => h9) rfl dX1_hasChange_6 ?_
  refine ps_icmp_ge (tgt := 55) (a := k) (b := n) hx hb dX1_hasChange_9 rfl (by omega) (by omega) (fun h9 => ?_) (fun h9 => ?_)
  · skip
    refine lv_iconst (v := 0) hx hb dX1_hasChange_55 (by decide) ?_
    exact W.zret (v := 0) hx hb hr rfl (fun t ht hW => ⟨0, rfl, ps_bi_f (ps_any_f (fun j h => hj j (by omega))), ht⟩) (fun q h => by cases h) dX1_hasChange_56
  · skip
    refine lv_aload_n hx hb dX1_hasChange_12 rfl (lv_at hl 0 rfl) ?_
    refine va_get (D := (dC, dI)) (ci := 1) (v := .ref (a 7)) (C := RX1) (T := TX1) (N := 9) hx hb hT inX1 hown hK hP 0 rfl rfl 7 (by decide) (hT _ tw_fl_X1_33) (fun _ h9 => h9) rfl dX1_hasChange_13 ?_
    refine lv_iload hx hb dX1_hasChange_16 (lv_at hl 5 rfl) ?_
    refine ps_zald (k := k) (f := g 7) hx hb hK hP 8 1 rfl rfl (by omega) (by decide) dX1_hasChange_18 ?_
    refine lv_if_eq (tgt := 49) hx hb dX1_hasChange_19 rfl (fun h19 => ?_) (fun h19 => ?_)
    · skip
      have hc : ps_hp g d cx cy cz k = false := by simp [ps_hp, h19]
      refine lv_iinc (k := 5) (v := nI (k + 1)) (lv' := [(5, .int (nI (k + 1))), (0, .ref q), (1, .int d), (2, .int cx), (3, .int cy), (4, .int cz)]) hx hb dX1_hasChange_49 hl rfl (ps_inc _) (by decide) rfl (fun ls hl => ?_)
      refine lv_goto (tgt := 3) hx hb dX1_hasChange_52 rfl ?_
      exact ih ((k + 1)) ls (by omega) ⟨by omega, lt_s hj hc, lv_sub hl [1, 2, 3, 4, 5, 0] rfl⟩
    · skip
      refine lv_aload_n hx hb dX1_hasChange_22 rfl (lv_at hl 0 rfl) ?_
      refine va_get (D := (dC, dI)) (ci := 1) (v := .ref (a 5)) (C := RX1) (T := TX1) (N := 9) hx hb hT inX1 hown hK hP 0 rfl rfl 5 (by decide) (hT _ tw_fl_X1_27) (fun _ h9 => h9) rfl dX1_hasChange_23 ?_
      refine lv_iload hx hb dX1_hasChange_26 (lv_at hl 5 rfl) ?_
      refine ps_iald (k := k) (f := g 5) hx hb hK hP 6 0 rfl rfl (by omega) (by decide) dX1_hasChange_28 ?_
      refine lv_iload_n hx hb dX1_hasChange_29 rfl (lv_at hl 1 rfl) ?_
      refine lv_icmp_lt (tgt := 49) hx hb dX1_hasChange_30 rfl (fun h30 => ?_) (fun h30 => ?_)
      · skip
        have hc : ps_hp g d cx cy cz k = false := by simp [ps_hp, Int32.not_le.mpr h30]
        refine lv_iinc (k := 5) (v := nI (k + 1)) (lv' := [(5, .int (nI (k + 1))), (0, .ref q), (1, .int d), (2, .int cx), (3, .int cy), (4, .int cz)]) hx hb dX1_hasChange_49 hl rfl (ps_inc _) (by decide) rfl (fun ls hl => ?_)
        refine lv_goto (tgt := 3) hx hb dX1_hasChange_52 rfl ?_
        exact ih ((k + 1)) ls (by omega) ⟨by omega, lt_s hj hc, lv_sub hl [1, 2, 3, 4, 5, 0] rfl⟩
      · skip
        refine lv_aload_n hx hb dX1_hasChange_33 rfl (lv_at hl 0 rfl) ?_
        refine lv_iload hx hb dX1_hasChange_34 (lv_at hl 5 rfl) ?_
        refine lv_iload_n hx hb dX1_hasChange_36 rfl (lv_at hl 1 rfl) ?_
        refine lv_iload_n hx hb dX1_hasChange_37 rfl (lv_at hl 2 rfl) ?_
        refine lv_iload_n hx hb dX1_hasChange_38 rfl (lv_at hl 3 rfl) ?_
        refine lv_iload hx hb dX1_hasChange_39 (lv_at hl 4 rfl) ?_
        refine vp_callSi (va_Run.run (va_runV (C := RX1) (As := [.int (nI k), .int d, .int cx, .int cy, .int cz]) (rest := []) ⟨hx, hb, hml, hown, hT⟩ (mX1_isInCube l dC dI cI cZ q a n g k (by omega) d cx cy cz) (cwV 5 hT (ps_gV tw_ml_X1_41 tw_im_X1_isInCube tw_se_X1_isInCube tw_in_X1 tw_co_X1_isInCube) rfl rfl rfl ⟨rfl, by decide, by decide, by decide +kernel⟩ ⟨Nat.le_of_ble_eq_true rfl, Nat.le_of_ble_eq_true rfl⟩) (ps_preV (ci := 1) (q0 := 0) hN hP hK rfl rfl) rfl rfl hl.1 rfl (lv_room (Nat.le_of_ble_eq_true rfl)) dX1_hasChange_41 ⟨Nat.le_of_ble_eq_true rfl, Nat.le_of_ble_eq_true rfl⟩)) (fun r hr => ?_)
        obtain rfl : r = ps_bi (ps_in g d cx cy cz k) := hr
        refine ps_ifb_eq (tgt := 49) hx hb dX1_hasChange_44 rfl (fun h44 => ?_) (fun h44 => ?_)
        · skip
          have hc : ps_hp g d cx cy cz k = false := by simp [ps_hp, h44]
          refine lv_iinc (k := 5) (v := nI (k + 1)) (lv' := [(5, .int (nI (k + 1))), (0, .ref q), (1, .int d), (2, .int cx), (3, .int cy), (4, .int cz)]) hx hb dX1_hasChange_49 hl rfl (ps_inc _) (by decide) rfl (fun ls hl => ?_)
          refine lv_goto (tgt := 3) hx hb dX1_hasChange_52 rfl ?_
          exact ih ((k + 1)) ls (by omega) ⟨by omega, lt_s hj hc, lv_sub hl [1, 2, 3, 4, 5, 0] rfl⟩
        · skip
          have hc : ps_hp g d cx cy cz k = true := by simp [ps_hp, h19, Int32.not_lt.mp h30, h44]
          refine lv_iconst (v := 1) hx hb dX1_hasChange_47 (by decide) ?_
          exact W.zret (v := 1) hx hb hr rfl (fun t ht hW => ⟨1, rfl, ps_bi_t (ps_any_t h9 hc), ht⟩) (fun q h => by cases h) dX1_hasChange_48
set_option maxHeartbeats 4000000 in
set_option maxRecDepth 100000 in
theorem mX1_distanceKey (l : Launch) (dC : Nat → ClassId) (dI : Nat → Nat → Nat) (cI cZ : ClassId) (q : Nat) (a : Nat → Nat) (n : Nat) (g : ps_G) (k : Nat) (hk : k < 48) (x y z : Int32) : Met l yX1_distanceKey (.code yX1_distanceKey cX1_distanceKey 8 (some .long) :: ps_T) ({ frames := 0, cells := 0, slots := 0, locals := 0 }) (ps_pc (dC, dI) (ps_ty cI cZ) (ps_trW cI cZ q a n g) [.ref q, .int (nI k), .int x, .int y, .int z]) (vp_Sl (fun r => r = ps_dk g x y z k)) 0 0 (fun _ => False) := by
  refine Met.ofW (cc := cX1_distanceKey) (maxL := 8) (ret := (some .long)) (by decide) rfl ?_
  intro p e s m args below meth c s₁ B hml hv
  obtain ⟨rfl, hN, hP, hK⟩ := hv
  have hx := B.exec
  have hb := B.bytes
  have hr := B.returns
  have hlocks := B.notSynchronized
  have hT : ∀ w ∈ ps_T, w.before ([.ref q, .int (nI k), .int x, .int y, .int z] : List Value).toArray s = true := fun w h => atoms_spec (ws := (.code yX1_distanceKey cX1_distanceKey 8 (some .long) :: ps_T)) B.pre w (List.mem_cons_of_mem _ h)
  have hown : s.vm.findClass RX1 = some m.cls := findClass_of_methodNamed B.named
  have hl := lv_entry ([.ref q, .int (nI k), .int x, .int y, .int z]) (n := 8) (Nat.le_of_ble_eq_true rfl)
  rw [lg_entry_eq]
  generalize (lg_sl ([.ref q, .int (nI k), .int x, .int y, .int z]) ++ List.replicate (8 - (lg_sl ([.ref q, .int (nI k), .int x, .int y, .int z])).length) Slot.unset).toArray = ls at hl ⊢
  have hl : lv_has ls 8 [(0, .ref q), (1, .int (nI k)), (2, .int x), (3, .int y), (4, .int z)] := hl
  refine lv_aload_n hx hb dX1_distanceKey_0 rfl (lv_at hl 0 rfl) ?_
  refine va_get (D := (dC, dI)) (ci := 1) (v := .ref (a 1)) (C := RX1) (T := TX1) (N := 9) hx hb hT inX1 hown hK hP 0 rfl rfl 1 (by decide) (hT _ tw_fl_X1_15) (fun _ h9 => h9) rfl dX1_distanceKey_1 ?_
  refine lv_iload_n hx hb dX1_distanceKey_4 rfl (lv_at hl 1 rfl) ?_
  refine ps_iald (k := k) (f := g 1) hx hb hK hP 2 0 rfl rfl (by omega) (by decide) dX1_distanceKey_5 ?_
  refine lv_iload_n hx hb dX1_distanceKey_6 rfl (lv_at hl 2 rfl) ?_
  refine lv_isub hx hb dX1_distanceKey_7 ?_
  refine lv_istore (lv' := [(5, .int ((g 1 k) - x)), (0, .ref q), (1, .int (nI k)), (2, .int x), (3, .int y), (4, .int z)]) hx hb dX1_distanceKey_8 hl (by decide) rfl (fun ls hl => ?_)
  refine lv_aload_n hx hb dX1_distanceKey_10 rfl (lv_at hl 1 rfl) ?_
  refine va_get (D := (dC, dI)) (ci := 1) (v := .ref (a 2)) (C := RX1) (T := TX1) (N := 9) hx hb hT inX1 hown hK hP 0 rfl rfl 2 (by decide) (hT _ tw_fl_X1_18) (fun _ h9 => h9) rfl dX1_distanceKey_11 ?_
  refine lv_iload_n hx hb dX1_distanceKey_14 rfl (lv_at hl 2 rfl) ?_
  refine ps_iald (k := k) (f := g 2) hx hb hK hP 3 0 rfl rfl (by omega) (by decide) dX1_distanceKey_15 ?_
  refine lv_iload_n hx hb dX1_distanceKey_16 rfl (lv_at hl 4 rfl) ?_
  refine lv_isub hx hb dX1_distanceKey_17 ?_
  refine lv_istore (lv' := [(6, .int ((g 2 k) - y)), (5, .int ((g 1 k) - x)), (0, .ref q), (1, .int (nI k)), (2, .int x), (3, .int y), (4, .int z)]) hx hb dX1_distanceKey_18 hl (by decide) rfl (fun ls hl => ?_)
  refine lv_aload_n hx hb dX1_distanceKey_20 rfl (lv_at hl 2 rfl) ?_
  refine va_get (D := (dC, dI)) (ci := 1) (v := .ref (a 3)) (C := RX1) (T := TX1) (N := 9) hx hb hT inX1 hown hK hP 0 rfl rfl 3 (by decide) (hT _ tw_fl_X1_21) (fun _ h9 => h9) rfl dX1_distanceKey_21 ?_
  refine lv_iload_n hx hb dX1_distanceKey_24 rfl (lv_at hl 3 rfl) ?_
  refine ps_iald (k := k) (f := g 3) hx hb hK hP 4 0 rfl rfl (by omega) (by decide) dX1_distanceKey_25 ?_
  refine lv_iload hx hb dX1_distanceKey_26 (lv_at hl 6 rfl) ?_
  refine lv_isub hx hb dX1_distanceKey_28 ?_
  refine lv_istore (lv' := [(7, .int ((g 3 k) - z)), (6, .int ((g 2 k) - y)), (5, .int ((g 1 k) - x)), (0, .ref q), (1, .int (nI k)), (2, .int x), (3, .int y), (4, .int z)]) hx hb dX1_distanceKey_29 hl (by decide) rfl (fun ls hl => ?_)
  refine lv_iload hx hb dX1_distanceKey_31 (lv_at hl 2 rfl) ?_
  refine lv_iload hx hb dX1_distanceKey_33 (lv_at hl 2 rfl) ?_
  refine lv_imul hx hb dX1_distanceKey_35 ?_
  refine lv_iload hx hb dX1_distanceKey_36 (lv_at hl 1 rfl) ?_
  refine lv_iload hx hb dX1_distanceKey_38 (lv_at hl 1 rfl) ?_
  refine lv_imul hx hb dX1_distanceKey_40 ?_
  refine lv_iadd hx hb dX1_distanceKey_41 ?_
  refine lv_iload hx hb dX1_distanceKey_42 (lv_at hl 0 rfl) ?_
  refine lv_iload hx hb dX1_distanceKey_44 (lv_at hl 0 rfl) ?_
  refine lv_imul hx hb dX1_distanceKey_46 ?_
  refine lv_iadd hx hb dX1_distanceKey_47 ?_
  refine lv_i2l (v := (((((g 1 k) - x) * ((g 1 k) - x)) + (((g 2 k) - y) * ((g 2 k) - y))) + (((g 3 k) - z) * ((g 3 k) - z))).toInt64) hx hb dX1_distanceKey_48 rfl ?_
  refine lv_ldc2 (v := (4294967296)) hx hb hown (hT _ tw_kl_X1_111) dX1_distanceKey_49 ?_
  refine lv_lmul hx hb dX1_distanceKey_52 ?_
  refine lv_aload_n hx hb dX1_distanceKey_53 rfl (lv_at hl 3 rfl) ?_
  refine va_get (D := (dC, dI)) (ci := 1) (v := .ref (a 0)) (C := RX1) (T := TX1) (N := 9) hx hb hT inX1 hown hK hP 0 rfl rfl 0 (by decide) (hT _ tw_fl_X1_9) (fun _ h9 => h9) rfl dX1_distanceKey_54 ?_
  refine lv_iload_n hx hb dX1_distanceKey_57 rfl (lv_at hl 4 rfl) ?_
  refine ps_iald (k := k) (f := g 0) hx hb hK hP 1 0 rfl rfl (by omega) (by decide) dX1_distanceKey_58 ?_
  refine lv_i2l (v := (g 0 k).toInt64) hx hb dX1_distanceKey_59 rfl ?_
  refine lv_ladd hx hb dX1_distanceKey_60 ?_
  exact W.lret (v := (((((((g 1 k) - x) * ((g 1 k) - x)) + (((g 2 k) - y) * ((g 2 k) - y))) + (((g 3 k) - z) * ((g 3 k) - z))).toInt64) * ((4294967296))) + ((g 0 k).toInt64)) hx hb hr (fun t ht hW => ⟨(((((((g 1 k) - x) * ((g 1 k) - x)) + (((g 2 k) - y) * ((g 2 k) - y))) + (((g 3 k) - z) * ((g 3 k) - z))).toInt64) * ((4294967296))) + ((g 0 k).toInt64), rfl, rfl, ht⟩) (fun q h => by cases h) dX1_distanceKey_61
set_option maxHeartbeats 4000000 in
set_option maxRecDepth 100000 in
theorem mX1_leastKeyAbove (l : Launch) (dC : Nat → ClassId) (dI : Nat → Nat → Nat) (cI cZ : ClassId) (q : Nat) (a : Nat → Nat) (n : Nat) (g : ps_G) (hn : n ≤ 48) (b : Int64) (x y z : Int32) : Met l yX1_leastKeyAbove (.code yX1_leastKeyAbove cX1_leastKeyAbove 11 (some .long) :: ps_T) ({ frames := 1, cells := 0, slots := 0, locals := 27 }) (ps_pc (dC, dI) (ps_ty cI cZ) (ps_trW cI cZ q a n g) [.ref q, .long b, .int x, .int y, .int z]) (vp_Sl (fun r => r = ps_lk (ps_dk g x y z) b n)) 0 0 (fun _ => False) := by
  refine Met.ofW (cc := cX1_leastKeyAbove) (maxL := 11) (ret := (some .long)) (by decide) rfl ?_
  intro p e s m args below meth c s₁ B hml hv
  obtain ⟨rfl, hN, hP, hK⟩ := hv
  have hx := B.exec
  have hb := B.bytes
  have hr := B.returns
  have hlocks := B.notSynchronized
  have hT : ∀ w ∈ ps_T, w.before ([.ref q, .long b, .int x, .int y, .int z] : List Value).toArray s = true := fun w h => atoms_spec (ws := (.code yX1_leastKeyAbove cX1_leastKeyAbove 11 (some .long) :: ps_T)) B.pre w (List.mem_cons_of_mem _ h)
  have hown : s.vm.findClass RX1 = some m.cls := findClass_of_methodNamed B.named
  have hl := lv_entry ([.ref q, .long b, .int x, .int y, .int z]) (n := 11) (Nat.le_of_ble_eq_true rfl)
  rw [lg_entry_eq]
  generalize (lg_sl ([.ref q, .long b, .int x, .int y, .int z]) ++ List.replicate (11 - (lg_sl ([.ref q, .long b, .int x, .int y, .int z])).length) Slot.unset).toArray = ls at hl ⊢
  have hl : lv_has ls 11 [(0, .ref q), (1, .long b), (3, .int x), (4, .int y), (5, .int z)] := hl
  refine lv_ldc2 (v := (9223372036854775807)) hx hb hown (hT _ tw_kl_X1_105) dX1_leastKeyAbove_0 ?_
  refine lv_lstore (lv' := [(6, .long ((9223372036854775807))), (0, .ref q), (1, .long b), (3, .int x), (4, .int y), (5, .int z)]) hx hb dX1_leastKeyAbove_3 hl (by decide) rfl (fun ls hl => ?_)
  refine lv_iconst (v := 0) hx hb dX1_leastKeyAbove_5 (by decide) ?_
  refine lv_istore (lv' := [(8, .int 0), (6, .long ((9223372036854775807))), (0, .ref q), (1, .long b), (3, .int x), (4, .int y), (5, .int z)]) hx hb dX1_leastKeyAbove_6 hl (by decide) rfl (fun ls hl => ?_)
  have hl : lv_has ls 11 [(8, .int (nI 0)), (6, .long (ps_lk (ps_dk g x y z) b 0)), (0, .ref q), (1, .long b), (3, .int x), (4, .int y), (5, .int z)] := hl
  refine ps_loopS (α := Nat) (fun k => n - k) (fun k ls => (k ≤ n) ∧ lv_has ls 11 [(0, .ref q), (1, .long b), (3, .int x), (4, .int y), (5, .int z), (6, .long (ps_lk (ps_dk g x y z) b k)), (8, .int (nI k))]) ?_ 0 ls ⟨by omega, lv_sub hl [2, 3, 4, 5, 6, 1, 0] rfl⟩
  intro k ls ih hI
  obtain ⟨hk, hl⟩ := hI
  refine lv_iload hx hb dX1_leastKeyAbove_8 (lv_at hl 6 rfl) ?_
  refine lv_aload_n hx hb dX1_leastKeyAbove_10 rfl (lv_at hl 0 rfl) ?_
  refine va_get (D := (dC, dI)) (ci := 1) (v := .int (nI n)) (C := RX1) (T := TX1) (N := 9) hx hb hT inX1 hown hK hP 0 rfl rfl 8 (by decide) (hT _ tw_fl_X1_37) (fun _ h9 => h9) rfl dX1_leastKeyAbove_11 ?_
  refine ps_icmp_ge (tgt := 55) (a := k) (b := n) hx hb dX1_leastKeyAbove_14 rfl (by omega) (by omega) (fun h14 => ?_) (fun h14 => ?_)
  · skip
    refine lv_lload hx hb dX1_leastKeyAbove_55 (lv_at hl 5 rfl) ?_
    exact W.lret (v := ps_lk (ps_dk g x y z) b k) hx hb hr (fun t ht hW => ⟨ps_lk (ps_dk g x y z) b k, rfl, by rw [show k = n by omega], ht⟩) (fun q h => by cases h) dX1_leastKeyAbove_57
  · skip
    refine lv_aload_n hx hb dX1_leastKeyAbove_17 rfl (lv_at hl 0 rfl) ?_
    refine lv_iload hx hb dX1_leastKeyAbove_18 (lv_at hl 6 rfl) ?_
    refine lv_iload_n hx hb dX1_leastKeyAbove_20 rfl (lv_at hl 2 rfl) ?_
    refine lv_iload hx hb dX1_leastKeyAbove_21 (lv_at hl 3 rfl) ?_
    refine lv_iload hx hb dX1_leastKeyAbove_23 (lv_at hl 4 rfl) ?_
    refine vp_callSl (va_Run.run (va_runV (C := RX1) (As := [.int (nI k), .int x, .int y, .int z]) (rest := []) ⟨hx, hb, hml, hown, hT⟩ (mX1_distanceKey l dC dI cI cZ q a n g k (by omega) x y z) (cwV 4 hT (ps_gV tw_ml_X1_107 tw_im_X1_distanceKey tw_se_X1_distanceKey tw_in_X1 tw_co_X1_distanceKey) rfl rfl rfl ⟨rfl, by decide, by decide, by decide +kernel⟩ ⟨Nat.le_of_ble_eq_true rfl, Nat.le_of_ble_eq_true rfl⟩) (ps_preV (ci := 1) (q0 := 0) hN hP hK rfl rfl) rfl rfl hl.1 rfl (lv_room (Nat.le_of_ble_eq_true rfl)) dX1_leastKeyAbove_25 ⟨Nat.le_of_ble_eq_true rfl, Nat.le_of_ble_eq_true rfl⟩)) (fun r hr => ?_)
    obtain rfl : r = ps_dk g x y z k := hr
    refine lv_lstore (lv' := [(9, .long (ps_dk g x y z k)), (0, .ref q), (1, .long b), (3, .int x), (4, .int y), (5, .int z), (6, .long (ps_lk (ps_dk g x y z) b k)), (8, .int (nI k))]) hx hb dX1_leastKeyAbove_28 hl (by decide) rfl (fun ls hl => ?_)
    refine lv_lload hx hb dX1_leastKeyAbove_30 (lv_at hl 0 rfl) ?_
    refine lv_lload_n hx hb dX1_leastKeyAbove_32 rfl (lv_at hl 2 rfl) ?_
    refine W.lcmp hx hb dX1_leastKeyAbove_33 ?_
    refine lv_if_le (tgt := 49) hx hb dX1_leastKeyAbove_34 rfl (fun h34 => ?_) (fun h34 => ?_)
    · skip
      have hc : ps_lk (ps_dk g x y z) b (k + 1) = ps_lk (ps_dk g x y z) b k := ps_lk_1 h34
      refine lv_iinc (k := 7) (v := nI (k + 1)) (lv' := [(8, .int (nI (k + 1))), (9, .long (ps_dk g x y z k)), (0, .ref q), (1, .long b), (3, .int x), (4, .int y), (5, .int z), (6, .long (ps_lk (ps_dk g x y z) b k))]) hx hb dX1_leastKeyAbove_49 hl rfl (ps_inc _) (by decide) rfl (fun ls hl => ?_)
      refine lv_goto (tgt := 8) hx hb dX1_leastKeyAbove_52 rfl ?_
      rw [← hc] at hl
      exact ih ((k + 1)) ls (by omega) ⟨by omega, lv_sub hl [2, 3, 4, 5, 6, 7, 0] rfl⟩
    · skip
      refine lv_lload hx hb dX1_leastKeyAbove_37 (lv_at hl 0 rfl) ?_
      refine lv_lload hx hb dX1_leastKeyAbove_39 (lv_at hl 6 rfl) ?_
      refine W.lcmp hx hb dX1_leastKeyAbove_41 ?_
      refine lv_if_ge (tgt := 49) hx hb dX1_leastKeyAbove_42 rfl (fun h42 => ?_) (fun h42 => ?_)
      · skip
        have hc : ps_lk (ps_dk g x y z) b (k + 1) = ps_lk (ps_dk g x y z) b k := ps_lk_2 h42
        refine lv_iinc (k := 7) (v := nI (k + 1)) (lv' := [(8, .int (nI (k + 1))), (9, .long (ps_dk g x y z k)), (0, .ref q), (1, .long b), (3, .int x), (4, .int y), (5, .int z), (6, .long (ps_lk (ps_dk g x y z) b k))]) hx hb dX1_leastKeyAbove_49 hl rfl (ps_inc _) (by decide) rfl (fun ls hl => ?_)
        refine lv_goto (tgt := 8) hx hb dX1_leastKeyAbove_52 rfl ?_
        rw [← hc] at hl
        exact ih ((k + 1)) ls (by omega) ⟨by omega, lv_sub hl [2, 3, 4, 5, 6, 7, 0] rfl⟩
      · skip
        have hc : ps_lk (ps_dk g x y z) b (k + 1) = ps_dk g x y z k := ps_lk_3 h34 h42
        refine lv_lload hx hb dX1_leastKeyAbove_45 (lv_at hl 0 rfl) ?_
        refine lv_lstore (lv' := [(6, .long (ps_dk g x y z k)), (9, .long (ps_dk g x y z k)), (0, .ref q), (1, .long b), (3, .int x), (4, .int y), (5, .int z), (8, .int (nI k))]) hx hb dX1_leastKeyAbove_47 hl (by decide) rfl (fun ls hl => ?_)
        refine lv_iinc (k := 7) (v := nI (k + 1)) (lv' := [(8, .int (nI (k + 1))), (6, .long (ps_dk g x y z k)), (9, .long (ps_dk g x y z k)), (0, .ref q), (1, .long b), (3, .int x), (4, .int y), (5, .int z)]) hx hb dX1_leastKeyAbove_49 hl rfl (ps_inc _) (by decide) rfl (fun ls hl => ?_)
        refine lv_goto (tgt := 8) hx hb dX1_leastKeyAbove_52 rfl ?_
        rw [← hc] at hl
        exact ih ((k + 1)) ls (by omega) ⟨by omega, lv_sub hl [3, 4, 5, 6, 7, 1, 0] rfl⟩
set_option maxHeartbeats 4000000 in
set_option maxRecDepth 100000 in
theorem mX1_idByDistance (l : Launch) (dC : Nat → ClassId) (dI : Nat → Nat → Nat) (cI cZ : ClassId) (q : Nat) (a : Nat → Nat) (n : Nat) (g : ps_G) (hn : n ≤ 48) (x y z : Int32) (k : Nat) (hk : k < 2 ^ 31) : Met l yX1_idByDistance (.code yX1_idByDistance cX1_idByDistance 8 (some .int) :: ps_T) ({ frames := 2, cells := 0, slots := 0, locals := 57 }) (ps_pc (dC, dI) (ps_ty cI cZ) (ps_trW cI cZ q a n g) [.ref q, .int x, .int y, .int z, .int (nI k)]) (vp_Si (fun r => r = (ps_ik (ps_dk g x y z) n k).toInt32)) 0 0 (fun _ => False) := by
  refine Met.ofW (cc := cX1_idByDistance) (maxL := 8) (ret := (some .int)) (by decide) rfl ?_
  intro p e s m args below meth c s₁ B hml hv
  obtain ⟨rfl, hN, hP, hK⟩ := hv
  have hx := B.exec
  have hb := B.bytes
  have hr := B.returns
  have hlocks := B.notSynchronized
  have hT : ∀ w ∈ ps_T, w.before ([.ref q, .int x, .int y, .int z, .int (nI k)] : List Value).toArray s = true := fun w h => atoms_spec (ws := (.code yX1_idByDistance cX1_idByDistance 8 (some .int) :: ps_T)) B.pre w (List.mem_cons_of_mem _ h)
  have hown : s.vm.findClass RX1 = some m.cls := findClass_of_methodNamed B.named
  have hl := lv_entry ([.ref q, .int x, .int y, .int z, .int (nI k)]) (n := 8) (Nat.le_of_ble_eq_true rfl)
  rw [lg_entry_eq]
  generalize (lg_sl ([.ref q, .int x, .int y, .int z, .int (nI k)]) ++ List.replicate (8 - (lg_sl ([.ref q, .int x, .int y, .int z, .int (nI k)])).length) Slot.unset).toArray = ls at hl ⊢
  have hl : lv_has ls 8 [(0, .ref q), (1, .int x), (2, .int y), (3, .int z), (4, .int (nI k))] := hl
  refine lv_ldc2 (v := (-9223372036854775808)) hx hb hown (hT _ tw_kl_X1_69) dX1_idByDistance_0 ?_
  refine lv_lstore (lv' := [(5, .long ((-9223372036854775808))), (0, .ref q), (1, .int x), (2, .int y), (3, .int z), (4, .int (nI k))]) hx hb dX1_idByDistance_3 hl (by decide) rfl (fun ls hl => ?_)
  refine lv_iconst (v := 0) hx hb dX1_idByDistance_5 (by decide) ?_
  refine lv_istore (lv' := [(7, .int 0), (5, .long ((-9223372036854775808))), (0, .ref q), (1, .int x), (2, .int y), (3, .int z), (4, .int (nI k))]) hx hb dX1_idByDistance_6 hl (by decide) rfl (fun ls hl => ?_)
  have hl : lv_has ls 8 [(7, .int (nI 0)), (5, .long (ps_ik (ps_dk g x y z) n 0)), (0, .ref q), (1, .int x), (2, .int y), (3, .int z), (4, .int (nI k))] := hl
  refine ps_loopS (α := Nat) (fun j => k - j) (fun j ls => (j ≤ k) ∧ lv_has ls 8 [(0, .ref q), (1, .int x), (2, .int y), (3, .int z), (4, .int (nI k)), (5, .long (ps_ik (ps_dk g x y z) n j)), (7, .int (nI j))]) ?_ 0 ls ⟨by omega, lv_sub hl [2, 3, 4, 5, 6, 1, 0] rfl⟩
  intro j ls ih hI
  obtain ⟨hj, hl⟩ := hI
  refine lv_iload hx hb dX1_idByDistance_8 (lv_at hl 6 rfl) ?_
  refine lv_iload hx hb dX1_idByDistance_10 (lv_at hl 4 rfl) ?_
  refine ps_icmp_ge (tgt := 32) (a := j) (b := k) hx hb dX1_idByDistance_12 rfl (by omega) (by omega) (fun h12 => ?_) (fun h12 => ?_)
  · skip
    refine lv_lload hx hb dX1_idByDistance_32 (lv_at hl 5 rfl) ?_
    refine lv_l2i (v := (ps_ik (ps_dk g x y z) n j).toInt32) hx hb dX1_idByDistance_34 rfl ?_
    exact W.iret (v := (ps_ik (ps_dk g x y z) n j).toInt32) hx hb hr (fun t ht hW => ⟨(ps_ik (ps_dk g x y z) n j).toInt32, rfl, by rw [show j = k by omega], ht⟩) (fun q h => by cases h) dX1_idByDistance_35
  · skip
    refine lv_aload_n hx hb dX1_idByDistance_15 rfl (lv_at hl 0 rfl) ?_
    refine lv_lload hx hb dX1_idByDistance_16 (lv_at hl 5 rfl) ?_
    refine lv_iload_n hx hb dX1_idByDistance_18 rfl (lv_at hl 1 rfl) ?_
    refine lv_iload_n hx hb dX1_idByDistance_19 rfl (lv_at hl 2 rfl) ?_
    refine lv_iload_n hx hb dX1_idByDistance_20 rfl (lv_at hl 3 rfl) ?_
    refine vp_callSl (va_Run.run (va_runV (C := RX1) (As := [.long (ps_ik (ps_dk g x y z) n j), .int x, .int y, .int z]) (rest := []) ⟨hx, hb, hml, hown, hT⟩ (mX1_leastKeyAbove l dC dI cI cZ q a n g (hn) (ps_ik (ps_dk g x y z) n j) x y z) (cwV 4 hT (ps_gV tw_ml_X1_71 tw_im_X1_leastKeyAbove tw_se_X1_leastKeyAbove tw_in_X1 tw_co_X1_leastKeyAbove) rfl rfl rfl ⟨rfl, by decide, by decide, by decide +kernel⟩ ⟨Nat.le_of_ble_eq_true rfl, Nat.le_of_ble_eq_true rfl⟩) (ps_preV (ci := 1) (q0 := 0) hN hP hK rfl rfl) rfl rfl hl.1 rfl (lv_room (Nat.le_of_ble_eq_true rfl)) dX1_idByDistance_21 ⟨Nat.le_of_ble_eq_true rfl, Nat.le_of_ble_eq_true rfl⟩)) (fun r hr => ?_)
    obtain rfl : r = ps_lk (ps_dk g x y z) (ps_ik (ps_dk g x y z) n j) n := hr
    refine lv_lstore (lv' := [(5, .long (ps_lk (ps_dk g x y z) (ps_ik (ps_dk g x y z) n j) n)), (0, .ref q), (1, .int x), (2, .int y), (3, .int z), (4, .int (nI k)), (7, .int (nI j))]) hx hb dX1_idByDistance_24 hl (by decide) rfl (fun ls hl => ?_)
    refine lv_iinc (k := 6) (v := nI (j + 1)) (lv' := [(7, .int (nI (j + 1))), (5, .long (ps_lk (ps_dk g x y z) (ps_ik (ps_dk g x y z) n j) n)), (0, .ref q), (1, .int x), (2, .int y), (3, .int z), (4, .int (nI k))]) hx hb dX1_idByDistance_26 hl rfl (ps_inc _) (by decide) rfl (fun ls hl => ?_)
    refine lv_goto (tgt := 8) hx hb dX1_idByDistance_29 rfl ?_
    exact ih ((j + 1)) ls (by omega) ⟨by omega, lv_sub hl [2, 3, 4, 5, 6, 1, 0] rfl⟩
set_option maxHeartbeats 4000000 in
set_option maxRecDepth 100000 in
theorem mX1_keepsAlike (l : Launch) (dC : Nat → ClassId) (dI : Nat → Nat → Nat) (cI cZ : ClassId) (q : Nat) (a : Nat → Nat) (n : Nat) (g : ps_G) (q' : Nat) (a' : Nat → Nat) (n' : Nat) (g' : ps_G) (hn : n ≤ 48) (k : Nat) (hk : k < 48) : Met l yX1_keepsAlike (.code yX1_keepsAlike cX1_keepsAlike 4 (some .boolean) :: ps_T) ({ frames := 1, cells := 0, slots := 0, locals := 22 }) (ps_pc (dC, dI) (ps_ty cI cZ) (ps_trW cI cZ q a n g ++ ps_trW cI cZ q' a' n' g') [.ref q, .ref q', .int (nI k)]) (vp_Si (fun r => r = ps_bi (ps_al g n g' k))) 0 0 (fun _ => False) := by
  refine Met.ofW (cc := cX1_keepsAlike) (maxL := 4) (ret := (some .boolean)) (by decide) rfl ?_
  intro p e s m args below meth c s₁ B hml hv
  obtain ⟨rfl, hN, hP, hK⟩ := hv
  have hx := B.exec
  have hb := B.bytes
  have hr := B.returns
  have hlocks := B.notSynchronized
  have hT : ∀ w ∈ ps_T, w.before ([.ref q, .ref q', .int (nI k)] : List Value).toArray s = true := fun w h => atoms_spec (ws := (.code yX1_keepsAlike cX1_keepsAlike 4 (some .boolean) :: ps_T)) B.pre w (List.mem_cons_of_mem _ h)
  have hown : s.vm.findClass RX1 = some m.cls := findClass_of_methodNamed B.named
  have hl := lv_entry ([.ref q, .ref q', .int (nI k)]) (n := 4) (Nat.le_of_ble_eq_true rfl)
  rw [lg_entry_eq]
  generalize (lg_sl ([.ref q, .ref q', .int (nI k)]) ++ List.replicate (4 - (lg_sl ([.ref q, .ref q', .int (nI k)])).length) Slot.unset).toArray = ls at hl ⊢
  have hl : lv_has ls 4 [(0, .ref q), (1, .ref q'), (2, .int (nI k))] := hl
  refine lv_aload_n hx hb dX1_keepsAlike_0 rfl (lv_at hl 0 rfl) ?_
  refine lv_aload_n hx hb dX1_keepsAlike_1 rfl (lv_at hl 1 rfl) ?_
  refine va_get (D := (dC, dI)) (ci := 1) (v := .ref (a' 0)) (C := RX1) (T := TX1) (N := 9) hx hb hT inX1 hown hK hP 9 rfl rfl 0 (by decide) (hT _ tw_fl_X1_9) (fun _ h9 => h9) rfl dX1_keepsAlike_2 ?_
  refine lv_iload_n hx hb dX1_keepsAlike_5 rfl (lv_at hl 2 rfl) ?_
  refine ps_iald (k := k) (f := g' 0) hx hb hK hP 10 0 rfl rfl (by omega) (by decide) dX1_keepsAlike_6 ?_
  refine vp_callSi (va_Run.run (va_runV (C := RX1) (As := [.int (g' 0 k)]) (rest := []) ⟨hx, hb, hml, hown, hT⟩ (mX1_find l dC dI cI cZ q a n g (hn) (g' 0 k)) (cwV 1 hT (ps_gV tw_ml_X1_97 tw_im_X1_find tw_se_X1_find tw_in_X1 tw_co_X1_find) rfl rfl rfl ⟨rfl, by decide, by decide, by decide +kernel⟩ ⟨Nat.le_of_ble_eq_true rfl, Nat.le_of_ble_eq_true rfl⟩) (ps_preV (ci := 1) (q0 := 0) hN (hP.sub (ws' := ps_trW cI cZ q a n g) [0, 1, 2, 3, 4, 5, 6, 7, 8] rfl) hK rfl rfl) rfl rfl hl.1 rfl (lv_room (Nat.le_of_ble_eq_true rfl)) dX1_keepsAlike_7 ⟨Nat.le_of_ble_eq_true rfl, Nat.le_of_ble_eq_true rfl⟩)) (fun r hr => ?_)
  obtain rfl : r = ps_fr (ps_fi (g 0) (g' 0 k) n) := hr
  rcases hf : ps_fi (g 0) (g' 0 k) n with _ | w
  · skip
    show W _ _ _ _ _ _ _ _ _ _ _ _ _ _ _ (F0 _ _ _ (.int (-1) :: []))
    have hc := ps_al_0 (g := g) (g' := g') hf
    refine lv_istore_n (lv' := [(3, .int ((-1))), (0, .ref q), (1, .ref q'), (2, .int (nI k))]) hx hb dX1_keepsAlike_10 rfl hl (by decide) rfl (fun ls hl => ?_)
    refine lv_iload_n hx hb dX1_keepsAlike_11 rfl (lv_at hl 0 rfl) ?_
    refine lv_iconst (v := (-1)) hx hb dX1_keepsAlike_12 (by decide) ?_
    refine lv_icmp_eq (tgt := 95) hx hb dX1_keepsAlike_13 rfl (fun h13 => ?_) (fun h13 => ?_)
    · skip
      refine lv_iconst (v := 0) hx hb dX1_keepsAlike_95 (by decide) ?_
      exact W.zret (v := 0) hx hb hr rfl (fun t ht hW => ⟨0, rfl, by first | exact ps_bi_f hc | (rw [ps_al_S hf]; simp_all [ps_bi]), ht⟩) (fun q h => by cases h) dX1_keepsAlike_96
    · skip
      exact absurd rfl h13
  · skip
    show W _ _ _ _ _ _ _ _ _ _ _ _ _ _ _ (F0 _ _ _ (.int (nI w) :: []))
    have hw : w < 48 := Nat.lt_of_lt_of_le (ps_fi_spec hf).1 hn
    refine lv_istore_n (lv' := [(3, .int (nI w)), (0, .ref q), (1, .ref q'), (2, .int (nI k))]) hx hb dX1_keepsAlike_10 rfl hl (by decide) rfl (fun ls hl => ?_)
    refine lv_iload_n hx hb dX1_keepsAlike_11 rfl (lv_at hl 0 rfl) ?_
    refine lv_iconst (v := (-1)) hx hb dX1_keepsAlike_12 (by decide) ?_
    refine lv_icmp_eq (tgt := 95) hx hb dX1_keepsAlike_13 rfl (fun h13 => ?_) (fun h13 => ?_)
    · skip
      exact absurd h13 (ps_nI_m1 (by omega))
    · skip
      refine lv_aload_n hx hb dX1_keepsAlike_16 rfl (lv_at hl 1 rfl) ?_
      refine va_get (D := (dC, dI)) (ci := 1) (v := .ref (a 1)) (C := RX1) (T := TX1) (N := 9) hx hb hT inX1 hown hK hP 0 rfl rfl 1 (by decide) (hT _ tw_fl_X1_15) (fun _ h9 => h9) rfl dX1_keepsAlike_17 ?_
      refine lv_iload_n hx hb dX1_keepsAlike_20 rfl (lv_at hl 0 rfl) ?_
      refine ps_iald (k := w) (f := g 1) hx hb hK hP 2 0 rfl rfl (by omega) (by decide) dX1_keepsAlike_21 ?_
      refine lv_aload_n hx hb dX1_keepsAlike_22 rfl (lv_at hl 2 rfl) ?_
      refine va_get (D := (dC, dI)) (ci := 1) (v := .ref (a' 1)) (C := RX1) (T := TX1) (N := 9) hx hb hT inX1 hown hK hP 9 rfl rfl 1 (by decide) (hT _ tw_fl_X1_15) (fun _ h9 => h9) rfl dX1_keepsAlike_23 ?_
      refine lv_iload_n hx hb dX1_keepsAlike_26 rfl (lv_at hl 3 rfl) ?_
      refine ps_iald (k := k) (f := g' 1) hx hb hK hP 11 0 rfl rfl (by omega) (by decide) dX1_keepsAlike_27 ?_
      refine lv_icmp_ne (tgt := 95) hx hb dX1_keepsAlike_28 rfl (fun h28 => ?_) (fun h28 => ?_)
      · skip
        refine lv_iconst (v := 0) hx hb dX1_keepsAlike_95 (by decide) ?_
        exact W.zret (v := 0) hx hb hr rfl (fun t ht hW => ⟨0, rfl, by first | exact ps_bi_f hc | (rw [ps_al_S hf]; simp_all [ps_bi]), ht⟩) (fun q h => by cases h) dX1_keepsAlike_96
      · skip
        refine lv_aload_n hx hb dX1_keepsAlike_31 rfl (lv_at hl 1 rfl) ?_
        refine va_get (D := (dC, dI)) (ci := 1) (v := .ref (a 2)) (C := RX1) (T := TX1) (N := 9) hx hb hT inX1 hown hK hP 0 rfl rfl 2 (by decide) (hT _ tw_fl_X1_18) (fun _ h9 => h9) rfl dX1_keepsAlike_32 ?_
        refine lv_iload_n hx hb dX1_keepsAlike_35 rfl (lv_at hl 0 rfl) ?_
        refine ps_iald (k := w) (f := g 2) hx hb hK hP 3 0 rfl rfl (by omega) (by decide) dX1_keepsAlike_36 ?_
        refine lv_aload_n hx hb dX1_keepsAlike_37 rfl (lv_at hl 2 rfl) ?_
        refine va_get (D := (dC, dI)) (ci := 1) (v := .ref (a' 2)) (C := RX1) (T := TX1) (N := 9) hx hb hT inX1 hown hK hP 9 rfl rfl 2 (by decide) (hT _ tw_fl_X1_18) (fun _ h9 => h9) rfl dX1_keepsAlike_38 ?_
        refine lv_iload_n hx hb dX1_keepsAlike_41 rfl (lv_at hl 3 rfl) ?_
        refine ps_iald (k := k) (f := g' 2) hx hb hK hP 12 0 rfl rfl (by omega) (by decide) dX1_keepsAlike_42 ?_
        refine lv_icmp_ne (tgt := 95) hx hb dX1_keepsAlike_43 rfl (fun h43 => ?_) (fun h43 => ?_)
        · skip
          refine lv_iconst (v := 0) hx hb dX1_keepsAlike_95 (by decide) ?_
          exact W.zret (v := 0) hx hb hr rfl (fun t ht hW => ⟨0, rfl, by first | exact ps_bi_f hc | (rw [ps_al_S hf]; simp_all [ps_bi]), ht⟩) (fun q h => by cases h) dX1_keepsAlike_96
        · skip
          refine lv_aload_n hx hb dX1_keepsAlike_46 rfl (lv_at hl 1 rfl) ?_
          refine va_get (D := (dC, dI)) (ci := 1) (v := .ref (a 3)) (C := RX1) (T := TX1) (N := 9) hx hb hT inX1 hown hK hP 0 rfl rfl 3 (by decide) (hT _ tw_fl_X1_21) (fun _ h9 => h9) rfl dX1_keepsAlike_47 ?_
          refine lv_iload_n hx hb dX1_keepsAlike_50 rfl (lv_at hl 0 rfl) ?_
          refine ps_iald (k := w) (f := g 3) hx hb hK hP 4 0 rfl rfl (by omega) (by decide) dX1_keepsAlike_51 ?_
          refine lv_aload_n hx hb dX1_keepsAlike_52 rfl (lv_at hl 2 rfl) ?_
          refine va_get (D := (dC, dI)) (ci := 1) (v := .ref (a' 3)) (C := RX1) (T := TX1) (N := 9) hx hb hT inX1 hown hK hP 9 rfl rfl 3 (by decide) (hT _ tw_fl_X1_21) (fun _ h9 => h9) rfl dX1_keepsAlike_53 ?_
          refine lv_iload_n hx hb dX1_keepsAlike_56 rfl (lv_at hl 3 rfl) ?_
          refine ps_iald (k := k) (f := g' 3) hx hb hK hP 13 0 rfl rfl (by omega) (by decide) dX1_keepsAlike_57 ?_
          refine lv_icmp_ne (tgt := 95) hx hb dX1_keepsAlike_58 rfl (fun h58 => ?_) (fun h58 => ?_)
          · skip
            refine lv_iconst (v := 0) hx hb dX1_keepsAlike_95 (by decide) ?_
            exact W.zret (v := 0) hx hb hr rfl (fun t ht hW => ⟨0, rfl, by first | exact ps_bi_f hc | (rw [ps_al_S hf]; simp_all [ps_bi]), ht⟩) (fun q h => by cases h) dX1_keepsAlike_96
          · skip
            refine lv_aload_n hx hb dX1_keepsAlike_61 rfl (lv_at hl 1 rfl) ?_
            refine va_get (D := (dC, dI)) (ci := 1) (v := .ref (a 4)) (C := RX1) (T := TX1) (N := 9) hx hb hT inX1 hown hK hP 0 rfl rfl 4 (by decide) (hT _ tw_fl_X1_24) (fun _ h9 => h9) rfl dX1_keepsAlike_62 ?_
            refine lv_iload_n hx hb dX1_keepsAlike_65 rfl (lv_at hl 0 rfl) ?_
            refine ps_iald (k := w) (f := g 4) hx hb hK hP 5 0 rfl rfl (by omega) (by decide) dX1_keepsAlike_66 ?_
            refine lv_aload_n hx hb dX1_keepsAlike_67 rfl (lv_at hl 2 rfl) ?_
            refine va_get (D := (dC, dI)) (ci := 1) (v := .ref (a' 4)) (C := RX1) (T := TX1) (N := 9) hx hb hT inX1 hown hK hP 9 rfl rfl 4 (by decide) (hT _ tw_fl_X1_24) (fun _ h9 => h9) rfl dX1_keepsAlike_68 ?_
            refine lv_iload_n hx hb dX1_keepsAlike_71 rfl (lv_at hl 3 rfl) ?_
            refine ps_iald (k := k) (f := g' 4) hx hb hK hP 14 0 rfl rfl (by omega) (by decide) dX1_keepsAlike_72 ?_
            refine lv_icmp_ne (tgt := 95) hx hb dX1_keepsAlike_73 rfl (fun h73 => ?_) (fun h73 => ?_)
            · skip
              refine lv_iconst (v := 0) hx hb dX1_keepsAlike_95 (by decide) ?_
              exact W.zret (v := 0) hx hb hr rfl (fun t ht hW => ⟨0, rfl, by first | exact ps_bi_f hc | (rw [ps_al_S hf]; simp_all [ps_bi]), ht⟩) (fun q h => by cases h) dX1_keepsAlike_96
            · skip
              refine lv_aload_n hx hb dX1_keepsAlike_76 rfl (lv_at hl 1 rfl) ?_
              refine va_get (D := (dC, dI)) (ci := 1) (v := .ref (a 5)) (C := RX1) (T := TX1) (N := 9) hx hb hT inX1 hown hK hP 0 rfl rfl 5 (by decide) (hT _ tw_fl_X1_27) (fun _ h9 => h9) rfl dX1_keepsAlike_77 ?_
              refine lv_iload_n hx hb dX1_keepsAlike_80 rfl (lv_at hl 0 rfl) ?_
              refine ps_iald (k := w) (f := g 5) hx hb hK hP 6 0 rfl rfl (by omega) (by decide) dX1_keepsAlike_81 ?_
              refine lv_aload_n hx hb dX1_keepsAlike_82 rfl (lv_at hl 2 rfl) ?_
              refine va_get (D := (dC, dI)) (ci := 1) (v := .ref (a' 5)) (C := RX1) (T := TX1) (N := 9) hx hb hT inX1 hown hK hP 9 rfl rfl 5 (by decide) (hT _ tw_fl_X1_27) (fun _ h9 => h9) rfl dX1_keepsAlike_83 ?_
              refine lv_iload_n hx hb dX1_keepsAlike_86 rfl (lv_at hl 3 rfl) ?_
              refine ps_iald (k := k) (f := g' 5) hx hb hK hP 15 0 rfl rfl (by omega) (by decide) dX1_keepsAlike_87 ?_
              refine lv_icmp_ne (tgt := 95) hx hb dX1_keepsAlike_88 rfl (fun h88 => ?_) (fun h88 => ?_)
              · skip
                refine lv_iconst (v := 0) hx hb dX1_keepsAlike_95 (by decide) ?_
                exact W.zret (v := 0) hx hb hr rfl (fun t ht hW => ⟨0, rfl, by first | exact ps_bi_f hc | (rw [ps_al_S hf]; simp_all [ps_bi]), ht⟩) (fun q h => by cases h) dX1_keepsAlike_96
              · skip
                refine lv_iconst (v := 1) hx hb dX1_keepsAlike_91 (by decide) ?_
                refine lv_goto (tgt := 96) hx hb dX1_keepsAlike_92 rfl ?_
                exact W.zret (v := 1) hx hb hr rfl (fun t ht hW => ⟨1, rfl, by first | exact ps_bi_f hc | (rw [ps_al_S hf]; simp_all [ps_bi]), ht⟩) (fun q h => by cases h) dX1_keepsAlike_96
set_option maxHeartbeats 4000000 in
set_option maxRecDepth 100000 in
theorem mX1_isNodeClean (l : Launch) (dC : Nat → ClassId) (dI : Nat → Nat → Nat) (cI cZ : ClassId) (q : Nat) (a : Nat → Nat) (n : Nat) (g : ps_G) (q' : Nat) (a' : Nat → Nat) (n' : Nat) (g' : ps_G) (hn : n ≤ 48) (hn' : n' ≤ 48) (k : Nat) (hk : k < 48) : Met l yX1_isNodeClean (.code yX1_isNodeClean cX1_isNodeClean 7 (some .boolean) :: ps_T) ({ frames := 3, cells := 0, slots := 0, locals := 71 }) (ps_pc (dC, dI) (ps_ty cI cZ) (ps_trW cI cZ q a n g ++ ps_trW cI cZ q' a' n' g') [.ref q, .int (nI k), .ref q']) (vp_Si (fun r => r = ps_bi (ps_nc g n g' n' k))) 0 0 (fun _ => False) := by
  refine Met.ofW (cc := cX1_isNodeClean) (maxL := 7) (ret := (some .boolean)) (by decide) rfl ?_
  intro p e s m args below meth c s₁ B hml hv
  obtain ⟨rfl, hN, hP, hK⟩ := hv
  have hx := B.exec
  have hb := B.bytes
  have hr := B.returns
  have hlocks := B.notSynchronized
  have hT : ∀ w ∈ ps_T, w.before ([.ref q, .int (nI k), .ref q'] : List Value).toArray s = true := fun w h => atoms_spec (ws := (.code yX1_isNodeClean cX1_isNodeClean 7 (some .boolean) :: ps_T)) B.pre w (List.mem_cons_of_mem _ h)
  have hown : s.vm.findClass RX1 = some m.cls := findClass_of_methodNamed B.named
  have hl := lv_entry ([.ref q, .int (nI k), .ref q']) (n := 7) (Nat.le_of_ble_eq_true rfl)
  rw [lg_entry_eq]
  generalize (lg_sl ([.ref q, .int (nI k), .ref q']) ++ List.replicate (7 - (lg_sl ([.ref q, .int (nI k), .ref q'])).length) Slot.unset).toArray = ls at hl ⊢
  have hl : lv_has ls 7 [(0, .ref q), (1, .int (nI k)), (2, .ref q')] := hl
  refine lv_aload_n hx hb dX1_isNodeClean_0 rfl (lv_at hl 0 rfl) ?_
  refine va_get (D := (dC, dI)) (ci := 1) (v := .ref (a 5)) (C := RX1) (T := TX1) (N := 9) hx hb hT inX1 hown hK hP 0 rfl rfl 5 (by decide) (hT _ tw_fl_X1_27) (fun _ h9 => h9) rfl dX1_isNodeClean_1 ?_
  refine lv_iload_n hx hb dX1_isNodeClean_4 rfl (lv_at hl 1 rfl) ?_
  refine ps_iald (k := k) (f := g 5) hx hb hK hP 6 0 rfl rfl (by omega) (by decide) dX1_isNodeClean_5 ?_
  refine lv_istore_n (lv' := [(3, .int (g 5 k)), (0, .ref q), (1, .int (nI k)), (2, .ref q')]) hx hb dX1_isNodeClean_6 rfl hl (by decide) rfl (fun ls hl => ?_)
  refine lv_iload_n hx hb dX1_isNodeClean_7 rfl (lv_at hl 0 rfl) ?_
  refine lv_aload_n hx hb dX1_isNodeClean_8 rfl (lv_at hl 1 rfl) ?_
  refine va_get (D := (dC, dI)) (ci := 1) (v := .ref (a 1)) (C := RX1) (T := TX1) (N := 9) hx hb hT inX1 hown hK hP 0 rfl rfl 1 (by decide) (hT _ tw_fl_X1_15) (fun _ h9 => h9) rfl dX1_isNodeClean_9 ?_
  refine lv_iload_n hx hb dX1_isNodeClean_12 rfl (lv_at hl 2 rfl) ?_
  refine ps_iald (k := k) (f := g 1) hx hb hK hP 2 0 rfl rfl (by omega) (by decide) dX1_isNodeClean_13 ?_
  refine vp_callSi (va_Run.run (va_runSN (As := [.int (g 5 k), .int (g 1 k)]) (rest := []) ⟨hx, hb, hml, hown, hT⟩ (mX2_cubeIndex l (g 5 k) (g 1 k)) ⟨va_cnB 2 hT (ps_gC tw_co_X2_cubeIndex) rfl rfl rfl hN.2 (hT _ tw_in_X2) ⟨by decide, by decide, by decide +kernel⟩ ⟨Nat.le_of_ble_eq_true rfl, Nat.le_of_ble_eq_true rfl⟩, hT _ tw_st_X2_cubeIndex, trivial⟩ preEq rfl rfl hl.1 rfl (lv_room (Nat.le_of_ble_eq_true rfl)) dX1_isNodeClean_14 ⟨Nat.le_of_ble_eq_true rfl, Nat.le_of_ble_eq_true rfl⟩)) (fun r hr => ?_)
  obtain rfl : r = ps_cb (g 5 k) (g 1 k) := hr
  refine lv_istore (lv' := [(4, .int (ps_cb (g 5 k) (g 1 k))), (3, .int (g 5 k)), (0, .ref q), (1, .int (nI k)), (2, .ref q')]) hx hb dX1_isNodeClean_17 hl (by decide) rfl (fun ls hl => ?_)
  refine lv_iload_n hx hb dX1_isNodeClean_19 rfl (lv_at hl 1 rfl) ?_
  refine lv_aload_n hx hb dX1_isNodeClean_20 rfl (lv_at hl 2 rfl) ?_
  refine va_get (D := (dC, dI)) (ci := 1) (v := .ref (a 2)) (C := RX1) (T := TX1) (N := 9) hx hb hT inX1 hown hK hP 0 rfl rfl 2 (by decide) (hT _ tw_fl_X1_18) (fun _ h9 => h9) rfl dX1_isNodeClean_21 ?_
  refine lv_iload_n hx hb dX1_isNodeClean_24 rfl (lv_at hl 3 rfl) ?_
  refine ps_iald (k := k) (f := g 2) hx hb hK hP 3 0 rfl rfl (by omega) (by decide) dX1_isNodeClean_25 ?_
  refine vp_callSi (va_Run.run (va_runSN (As := [.int (g 5 k), .int (g 2 k)]) (rest := []) ⟨hx, hb, hml, hown, hT⟩ (mX2_cubeIndex l (g 5 k) (g 2 k)) ⟨va_cnB 2 hT (ps_gC tw_co_X2_cubeIndex) rfl rfl rfl hN.2 (hT _ tw_in_X2) ⟨by decide, by decide, by decide +kernel⟩ ⟨Nat.le_of_ble_eq_true rfl, Nat.le_of_ble_eq_true rfl⟩, hT _ tw_st_X2_cubeIndex, trivial⟩ preEq rfl rfl hl.1 rfl (lv_room (Nat.le_of_ble_eq_true rfl)) dX1_isNodeClean_26 ⟨Nat.le_of_ble_eq_true rfl, Nat.le_of_ble_eq_true rfl⟩)) (fun r hr => ?_)
  obtain rfl : r = ps_cb (g 5 k) (g 2 k) := hr
  refine lv_istore (lv' := [(5, .int (ps_cb (g 5 k) (g 2 k))), (4, .int (ps_cb (g 5 k) (g 1 k))), (3, .int (g 5 k)), (0, .ref q), (1, .int (nI k)), (2, .ref q')]) hx hb dX1_isNodeClean_29 hl (by decide) rfl (fun ls hl => ?_)
  refine lv_iload_n hx hb dX1_isNodeClean_31 rfl (lv_at hl 2 rfl) ?_
  refine lv_aload_n hx hb dX1_isNodeClean_32 rfl (lv_at hl 3 rfl) ?_
  refine va_get (D := (dC, dI)) (ci := 1) (v := .ref (a 3)) (C := RX1) (T := TX1) (N := 9) hx hb hT inX1 hown hK hP 0 rfl rfl 3 (by decide) (hT _ tw_fl_X1_21) (fun _ h9 => h9) rfl dX1_isNodeClean_33 ?_
  refine lv_iload_n hx hb dX1_isNodeClean_36 rfl (lv_at hl 4 rfl) ?_
  refine ps_iald (k := k) (f := g 3) hx hb hK hP 4 0 rfl rfl (by omega) (by decide) dX1_isNodeClean_37 ?_
  refine vp_callSi (va_Run.run (va_runSN (As := [.int (g 5 k), .int (g 3 k)]) (rest := []) ⟨hx, hb, hml, hown, hT⟩ (mX2_cubeIndex l (g 5 k) (g 3 k)) ⟨va_cnB 2 hT (ps_gC tw_co_X2_cubeIndex) rfl rfl rfl hN.2 (hT _ tw_in_X2) ⟨by decide, by decide, by decide +kernel⟩ ⟨Nat.le_of_ble_eq_true rfl, Nat.le_of_ble_eq_true rfl⟩, hT _ tw_st_X2_cubeIndex, trivial⟩ preEq rfl rfl hl.1 rfl (lv_room (Nat.le_of_ble_eq_true rfl)) dX1_isNodeClean_38 ⟨Nat.le_of_ble_eq_true rfl, Nat.le_of_ble_eq_true rfl⟩)) (fun r hr => ?_)
  obtain rfl : r = ps_cb (g 5 k) (g 3 k) := hr
  refine lv_istore (lv' := [(6, .int (ps_cb (g 5 k) (g 3 k))), (5, .int (ps_cb (g 5 k) (g 2 k))), (4, .int (ps_cb (g 5 k) (g 1 k))), (3, .int (g 5 k)), (0, .ref q), (1, .int (nI k)), (2, .ref q')]) hx hb dX1_isNodeClean_41 hl (by decide) rfl (fun ls hl => ?_)
  refine lv_aload_n hx hb dX1_isNodeClean_43 rfl (lv_at hl 4 rfl) ?_
  refine lv_iload_n hx hb dX1_isNodeClean_44 rfl (lv_at hl 3 rfl) ?_
  refine lv_iload hx hb dX1_isNodeClean_45 (lv_at hl 2 rfl) ?_
  refine lv_iload hx hb dX1_isNodeClean_47 (lv_at hl 1 rfl) ?_
  refine lv_iload hx hb dX1_isNodeClean_49 (lv_at hl 0 rfl) ?_
  refine vp_callSi (va_Run.run (va_runV (C := RX1) (As := [.int (g 5 k), .int (ps_cb (g 5 k) (g 1 k)), .int (ps_cb (g 5 k) (g 2 k)), .int (ps_cb (g 5 k) (g 3 k))]) (rest := []) ⟨hx, hb, hml, hown, hT⟩ (mX1_hasChange l dC dI cI cZ q a n g (hn) (g 5 k) (ps_cb (g 5 k) (g 1 k)) (ps_cb (g 5 k) (g 2 k)) (ps_cb (g 5 k) (g 3 k))) (cwV 4 hT (ps_gV tw_ml_X1_101 tw_im_X1_hasChange tw_se_X1_hasChange tw_in_X1 tw_co_X1_hasChange) rfl rfl rfl ⟨rfl, by decide, by decide, by decide +kernel⟩ ⟨Nat.le_of_ble_eq_true rfl, Nat.le_of_ble_eq_true rfl⟩) (ps_preV (ci := 1) (q0 := 0) hN (hP.sub (ws' := ps_trW cI cZ q a n g) [0, 1, 2, 3, 4, 5, 6, 7, 8] rfl) hK rfl rfl) rfl rfl hl.1 rfl (lv_room (Nat.le_of_ble_eq_true rfl)) dX1_isNodeClean_51 ⟨Nat.le_of_ble_eq_true rfl, Nat.le_of_ble_eq_true rfl⟩)) (fun r hr => ?_)
  obtain rfl : r = ps_bi (ps_hc g n (g 5 k) (ps_cb (g 5 k) (g 1 k)) (ps_cb (g 5 k) (g 2 k)) (ps_cb (g 5 k) (g 3 k))) := hr
  refine ps_ifb_ne (tgt := 75) hx hb dX1_isNodeClean_54 rfl (fun h54 => ?_) (fun h54 => ?_)
  · skip
    refine lv_iconst (v := 0) hx hb dX1_isNodeClean_75 (by decide) ?_
    exact W.zret (v := 0) hx hb hr rfl (fun t ht hW => ⟨0, rfl, by simp_all [ps_nc, ps_bi], ht⟩) (fun q h => by cases h) dX1_isNodeClean_76
  · skip
    refine lv_aload_n hx hb dX1_isNodeClean_57 rfl (lv_at hl 6 rfl) ?_
    refine lv_iload_n hx hb dX1_isNodeClean_58 rfl (lv_at hl 3 rfl) ?_
    refine lv_iload hx hb dX1_isNodeClean_59 (lv_at hl 2 rfl) ?_
    refine lv_iload hx hb dX1_isNodeClean_61 (lv_at hl 1 rfl) ?_
    refine lv_iload hx hb dX1_isNodeClean_63 (lv_at hl 0 rfl) ?_
    refine vp_callSi (va_Run.run (va_runV (C := RX1) (As := [.int (g 5 k), .int (ps_cb (g 5 k) (g 1 k)), .int (ps_cb (g 5 k) (g 2 k)), .int (ps_cb (g 5 k) (g 3 k))]) (rest := []) ⟨hx, hb, hml, hown, hT⟩ (mX1_hasChange l dC dI cI cZ q' a' n' g' (hn') (g 5 k) (ps_cb (g 5 k) (g 1 k)) (ps_cb (g 5 k) (g 2 k)) (ps_cb (g 5 k) (g 3 k))) (cwV 4 hT (ps_gV tw_ml_X1_101 tw_im_X1_hasChange tw_se_X1_hasChange tw_in_X1 tw_co_X1_hasChange) rfl rfl rfl ⟨rfl, by decide, by decide, by decide +kernel⟩ ⟨Nat.le_of_ble_eq_true rfl, Nat.le_of_ble_eq_true rfl⟩) (ps_preV (ci := 1) (q0 := 0) hN (hP.sub (ws' := ps_trW cI cZ q' a' n' g') [9, 10, 11, 12, 13, 14, 15, 16, 17] rfl) hK rfl rfl) rfl rfl hl.1 rfl (lv_room (Nat.le_of_ble_eq_true rfl)) dX1_isNodeClean_65 ⟨Nat.le_of_ble_eq_true rfl, Nat.le_of_ble_eq_true rfl⟩)) (fun r hr => ?_)
    obtain rfl : r = ps_bi (ps_hc g' n' (g 5 k) (ps_cb (g 5 k) (g 1 k)) (ps_cb (g 5 k) (g 2 k)) (ps_cb (g 5 k) (g 3 k))) := hr
    refine ps_ifb_ne (tgt := 75) hx hb dX1_isNodeClean_68 rfl (fun h68 => ?_) (fun h68 => ?_)
    · skip
      refine lv_iconst (v := 0) hx hb dX1_isNodeClean_75 (by decide) ?_
      exact W.zret (v := 0) hx hb hr rfl (fun t ht hW => ⟨0, rfl, by simp_all [ps_nc, ps_bi], ht⟩) (fun q h => by cases h) dX1_isNodeClean_76
    · skip
      refine lv_iconst (v := 1) hx hb dX1_isNodeClean_71 (by decide) ?_
      refine lv_goto (tgt := 76) hx hb dX1_isNodeClean_72 rfl ?_
      exact W.zret (v := 1) hx hb hr rfl (fun t ht hW => ⟨1, rfl, by simp_all [ps_nc, ps_bi], ht⟩) (fun q h => by cases h) dX1_isNodeClean_76
set_option maxHeartbeats 4000000 in
set_option maxRecDepth 100000 in
theorem mX1_pagesToWrite (l : Launch) (dC : Nat → ClassId) (dI : Nat → Nat → Nat) (cI cZ : ClassId) (q : Nat) (a : Nat → Nat) (n : Nat) (g : ps_G) (q' : Nat) (a' : Nat → Nat) (n' : Nat) (g' : ps_G) (hn : n ≤ 48) (hn' : n' ≤ 48) : Met l yX1_pagesToWrite (.code yX1_pagesToWrite cX1_pagesToWrite 4 (some .int) :: ps_T) ({ frames := 4, cells := 0, slots := 0, locals := 97 }) (ps_pc (dC, dI) (ps_ty cI cZ) (ps_trW cI cZ q a n g ++ ps_trW cI cZ q' a' n' g') [.ref q, .ref q']) (vp_Si (fun r => r = nI (ps_cn (ps_pw g n g' n') n))) 0 0 (fun _ => False) := by
  refine Met.ofW (cc := cX1_pagesToWrite) (maxL := 4) (ret := (some .int)) (by decide) rfl ?_
  intro p e s m args below meth c s₁ B hml hv
  obtain ⟨rfl, hN, hP, hK⟩ := hv
  have hx := B.exec
  have hb := B.bytes
  have hr := B.returns
  have hlocks := B.notSynchronized
  have hT : ∀ w ∈ ps_T, w.before ([.ref q, .ref q'] : List Value).toArray s = true := fun w h => atoms_spec (ws := (.code yX1_pagesToWrite cX1_pagesToWrite 4 (some .int) :: ps_T)) B.pre w (List.mem_cons_of_mem _ h)
  have hown : s.vm.findClass RX1 = some m.cls := findClass_of_methodNamed B.named
  have hl := lv_entry ([.ref q, .ref q']) (n := 4) (Nat.le_of_ble_eq_true rfl)
  rw [lg_entry_eq]
  generalize (lg_sl ([.ref q, .ref q']) ++ List.replicate (4 - (lg_sl ([.ref q, .ref q'])).length) Slot.unset).toArray = ls at hl ⊢
  have hl : lv_has ls 4 [(0, .ref q), (1, .ref q')] := hl
  refine lv_iconst (v := 0) hx hb dX1_pagesToWrite_0 (by decide) ?_
  refine lv_istore_n (lv' := [(2, .int 0), (0, .ref q), (1, .ref q')]) hx hb dX1_pagesToWrite_1 rfl hl (by decide) rfl (fun ls hl => ?_)
  refine lv_iconst (v := 0) hx hb dX1_pagesToWrite_2 (by decide) ?_
  refine lv_istore_n (lv' := [(3, .int 0), (2, .int 0), (0, .ref q), (1, .ref q')]) hx hb dX1_pagesToWrite_3 rfl hl (by decide) rfl (fun ls hl => ?_)
  have hl : lv_has ls 4 [(3, .int (nI 0)), (2, .int (nI (ps_cn (ps_pw g n g' n') 0))), (0, .ref q), (1, .ref q')] := hl
  refine ps_loopS (α := Nat) (fun k => n - k) (fun k ls => (k ≤ n) ∧ lv_has ls 4 [(0, .ref q), (1, .ref q'), (2, .int (nI (ps_cn (ps_pw g n g' n') k))), (3, .int (nI k))]) ?_ 0 ls ⟨by omega, lv_sub hl [2, 3, 1, 0] rfl⟩
  intro k ls ih hI
  obtain ⟨hk, hl⟩ := hI
  refine lv_iload_n hx hb dX1_pagesToWrite_4 rfl (lv_at hl 3 rfl) ?_
  refine lv_aload_n hx hb dX1_pagesToWrite_5 rfl (lv_at hl 0 rfl) ?_
  refine va_get (D := (dC, dI)) (ci := 1) (v := .int (nI n)) (C := RX1) (T := TX1) (N := 9) hx hb hT inX1 hown hK hP 0 rfl rfl 8 (by decide) (hT _ tw_fl_X1_37) (fun _ h9 => h9) rfl dX1_pagesToWrite_6 ?_
  refine ps_icmp_ge (tgt := 38) (a := k) (b := n) hx hb dX1_pagesToWrite_9 rfl (by omega) (by omega) (fun h9 => ?_) (fun h9 => ?_)
  · skip
    refine lv_iload_n hx hb dX1_pagesToWrite_38 rfl (lv_at hl 2 rfl) ?_
    exact W.iret (v := nI (ps_cn (ps_pw g n g' n') k)) hx hb hr (fun t ht hW => ⟨nI (ps_cn (ps_pw g n g' n') k), rfl, by rw [show k = n by omega], ht⟩) (fun q h => by cases h) dX1_pagesToWrite_39
  · skip
    refine lv_aload_n hx hb dX1_pagesToWrite_12 rfl (lv_at hl 0 rfl) ?_
    refine lv_iload_n hx hb dX1_pagesToWrite_13 rfl (lv_at hl 3 rfl) ?_
    refine vp_callSi (va_Run.run (va_runV (C := RX1) (As := [.int (nI k)]) (rest := []) ⟨hx, hb, hml, hown, hT⟩ (mX1_beginsPage l dC dI cI cZ q a n g k (by omega)) (cwV 1 hT (ps_gV tw_ml_X1_75 tw_im_X1_beginsPage tw_se_X1_beginsPage tw_in_X1 tw_co_X1_beginsPage) rfl rfl rfl ⟨rfl, by decide, by decide, by decide +kernel⟩ ⟨Nat.le_of_ble_eq_true rfl, Nat.le_of_ble_eq_true rfl⟩) (ps_preV (ci := 1) (q0 := 0) hN (hP.sub (ws' := ps_trW cI cZ q a n g) [0, 1, 2, 3, 4, 5, 6, 7, 8] rfl) hK rfl rfl) rfl rfl hl.1 rfl (lv_room (Nat.le_of_ble_eq_true rfl)) dX1_pagesToWrite_14 ⟨Nat.le_of_ble_eq_true rfl, Nat.le_of_ble_eq_true rfl⟩)) (fun r hr => ?_)
    obtain rfl : r = ps_bi (ps_bp (g 6 k)) := hr
    refine ps_ifb_eq (tgt := 32) hx hb dX1_pagesToWrite_17 rfl (fun h17 => ?_) (fun h17 => ?_)
    · skip
      have hc : ps_pw g n g' n' k = false := by simp [ps_pw, h17]
      refine lv_iinc (k := 3) (v := nI (k + 1)) (lv' := [(3, .int (nI (k + 1))), (0, .ref q), (1, .ref q'), (2, .int (nI (ps_cn (ps_pw g n g' n') k)))]) hx hb dX1_pagesToWrite_32 hl rfl (ps_inc _) (by decide) rfl (fun ls hl => ?_)
      refine lv_goto (tgt := 4) hx hb dX1_pagesToWrite_35 rfl ?_
      first | rw [← ps_cnT hc] at hl | rw [← ps_cnF hc] at hl
      exact ih ((k + 1)) ls (by omega) ⟨by omega, lv_sub hl [1, 2, 3, 0] rfl⟩
    · skip
      refine lv_aload_n hx hb dX1_pagesToWrite_20 rfl (lv_at hl 0 rfl) ?_
      refine lv_iload_n hx hb dX1_pagesToWrite_21 rfl (lv_at hl 3 rfl) ?_
      refine lv_aload_n hx hb dX1_pagesToWrite_22 rfl (lv_at hl 1 rfl) ?_
      refine vp_callSi (va_Run.run (va_runV (C := RX1) (As := [.int (nI k), .ref q']) (rest := []) ⟨hx, hb, hml, hown, hT⟩ (mX1_isNodeClean l dC dI cI cZ q a n g q' a' n' g' (hn) (hn') k (by omega)) (cwV 2 hT (ps_gV tw_ml_X1_83 tw_im_X1_isNodeClean tw_se_X1_isNodeClean tw_in_X1 tw_co_X1_isNodeClean) rfl rfl rfl ⟨rfl, by decide, by decide, by decide +kernel⟩ ⟨Nat.le_of_ble_eq_true rfl, Nat.le_of_ble_eq_true rfl⟩) (ps_preV (ci := 1) (q0 := 0) hN (hP.sub (ws' := ps_trW cI cZ q a n g ++ ps_trW cI cZ q' a' n' g') [0, 1, 2, 3, 4, 5, 6, 7, 8, 9, 10, 11, 12, 13, 14, 15, 16, 17] rfl) hK rfl rfl) rfl rfl hl.1 rfl (lv_room (Nat.le_of_ble_eq_true rfl)) dX1_pagesToWrite_23 ⟨Nat.le_of_ble_eq_true rfl, Nat.le_of_ble_eq_true rfl⟩)) (fun r hr => ?_)
      obtain rfl : r = ps_bi (ps_nc g n g' n' k) := hr
      refine ps_ifb_ne (tgt := 32) hx hb dX1_pagesToWrite_26 rfl (fun h26 => ?_) (fun h26 => ?_)
      · skip
        have hc : ps_pw g n g' n' k = false := by simp [ps_pw, h26]
        refine lv_iinc (k := 3) (v := nI (k + 1)) (lv' := [(3, .int (nI (k + 1))), (0, .ref q), (1, .ref q'), (2, .int (nI (ps_cn (ps_pw g n g' n') k)))]) hx hb dX1_pagesToWrite_32 hl rfl (ps_inc _) (by decide) rfl (fun ls hl => ?_)
        refine lv_goto (tgt := 4) hx hb dX1_pagesToWrite_35 rfl ?_
        first | rw [← ps_cnT hc] at hl | rw [← ps_cnF hc] at hl
        exact ih ((k + 1)) ls (by omega) ⟨by omega, lv_sub hl [1, 2, 3, 0] rfl⟩
      · skip
        have hc : ps_pw g n g' n' k = true := by simp [ps_pw, h17, h26]
        refine lv_iinc (k := 2) (v := nI ((ps_cn (ps_pw g n g' n') k) + 1)) (lv' := [(2, .int (nI ((ps_cn (ps_pw g n g' n') k) + 1))), (0, .ref q), (1, .ref q'), (3, .int (nI k))]) hx hb dX1_pagesToWrite_29 hl rfl (ps_inc _) (by decide) rfl (fun ls hl => ?_)
        refine lv_iinc (k := 3) (v := nI (k + 1)) (lv' := [(3, .int (nI (k + 1))), (2, .int (nI ((ps_cn (ps_pw g n g' n') k) + 1))), (0, .ref q), (1, .ref q')]) hx hb dX1_pagesToWrite_32 hl rfl (ps_inc _) (by decide) rfl (fun ls hl => ?_)
        refine lv_goto (tgt := 4) hx hb dX1_pagesToWrite_35 rfl ?_
        first | rw [← ps_cnT hc] at hl | rw [← ps_cnF hc] at hl
        exact ih ((k + 1)) ls (by omega) ⟨by omega, lv_sub hl [2, 3, 1, 0] rfl⟩
