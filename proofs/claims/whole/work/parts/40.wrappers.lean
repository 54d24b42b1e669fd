/-! contracts: the law's wrappers. By wip/law.py. -/
abbrev ps_ty3 (cI cZ cL : ClassId) : List (ClassId × FieldType) := [(cI, .int), (cZ, .boolean), (cL, .long)]
set_option maxHeartbeats 4000000 in
set_option maxRecDepth 100000 in
theorem mL_add_n (l : Launch) (hlt : l.stackTraces = false) (dC : Nat → ClassId) (dI : Nat → Nat → Nat) (cI cZ : ClassId) (h0 q1 q2 q3 b : Nat) (a1 a2 : Nat → Nat) (n1 n2 : Nat) (g1 g2 : ps_G) (lf le : Nat) (lh : Nat → Int32) (cx cy cz pl pw : Int32) (cL : ClassId) (o0 : Nat) (ov : Nat → Int64) (hn1 : n1 < 48) (id x y z v : Int32) (hx0 : ps_co x = true) (hy0 : ps_co y = true) (hz0 : ps_co z = true) (hf : ps_fi (g1 0) id n1 = none) (sz : Nat) : Met l yL_add (.codeWith yL_add cL_add 8 (some .int) hhL_add :: ps_T) ({ frames := 7, cells := 1, slots := 6, locals := 169 }) (ps_xc (dC, dI) (ps_ty3 cI cZ cL) (ps_shW h0 q1 q2 q3 cx cy cz pl pw ++ ps_trW cI cZ q1 a1 n1 g1 ++ ps_trW cI cZ q2 a2 n2 g2 ++ ps_lsW cI q3 b lf le lh ++ [(o0, .inl (cL, 1, .inr (.inl ov)))]) sz [.ref h0, .int id, .int x, .int y, .int z, .int v, .ref o0]) (va_Qi (fun (r : Int32) (_ : Unit) => r = 0) (ps_qB (dC, dI) (ps_ty3 cI cZ cL) (va_A (ps_shW h0 q1 q2 q3 cx cy cz pl pw ++ ps_trW cI cZ q1 a1 n1 g1 ++ ps_trW cI cZ q2 a2 n2 g2 ++ ps_lsW cI q3 b lf le lh ++ [(o0, .inl (cL, 1, .inr (.inl ov)))]) sz) (ps_shW h0 q1 q2 q3 cx cy cz pl pw ++ ps_trW cI cZ q1 a1 ((n1 + 1)) ((ps_ig g1 n1 id x y z v)) ++ ps_trW cI cZ q2 a2 n2 g2 ++ ps_lsW cI q3 b lf le lh ++ [(o0, .inl (cL, 1, .inr (.inl (vp_updL ov 0 (ps_ig g1 n1 id x y z v 5 (ps_cn (ps_ab g1 (ps_rk id)) n1)).toInt64))))])) (va_A (ps_shW h0 q1 q2 q3 cx cy cz pl pw ++ ps_trW cI cZ q1 a1 n1 g1 ++ ps_trW cI cZ q2 a2 n2 g2 ++ ps_lsW cI q3 b lf le lh ++ [(o0, .inl (cL, 1, .inr (.inl ov)))]) sz)) 1 6 (va_A (ps_shW h0 q1 q2 q3 cx cy cz pl pw ++ ps_trW cI cZ q1 a1 n1 g1 ++ ps_trW cI cZ q2 a2 n2 g2 ++ ps_lsW cI q3 b lf le lh ++ [(o0, .inl (cL, 1, .inr (.inl ov)))]) sz) := by
  refine va_MetW (cc := cL_add) (maxL := 8) (ret := (some .int)) (hh := hhL_add) (by decide) rfl ?_
  intro p e s m args below meth c s₁ B hml hv
  obtain ⟨rfl, hsz, hN, hE, hZ, hP, hK3, hD0⟩ := hv
  have hK : va_K (dC, dI) vwCl (ps_ty cI cZ) s := hK3.sub [0, 1] rfl
  have hx := B.exec
  have hb := B.bytes
  have hr := B.returns
  have hlocks := B.notSynchronized
  have hts := atoms_spec (ws := (.codeWith yL_add cL_add 8 (some .int) hhL_add :: ps_T)) B.pre
  have hT : ∀ w ∈ ps_T, w.before ([.ref h0, .int id, .int x, .int y, .int z, .int v, .ref o0] : List Value).toArray s = true := fun w h => hts w (List.mem_cons_of_mem _ h)
  have htab := vx_table (x := yL_add) B (hts _ List.mem_cons_self)
  have hown : s.vm.findClass RL = some m.cls := findClass_of_methodNamed B.named
  subst hsz
  have hD := hD0.self (sz := s.heap.size)
  generalize hAe : va_A (ps_shW h0 q1 q2 q3 cx cy cz pl pw ++ ps_trW cI cZ q1 a1 n1 g1 ++ ps_trW cI cZ q2 a2 n2 g2 ++ ps_lsW cI q3 b lf le lh ++ [(o0, .inl (cL, 1, .inr (.inl ov)))]) s.heap.size = A at hD hZ ⊢
  have hA : ∀ q : Nat, s.heap.size ≤ q → A q := fun q h => by rw [← hAe]; exact Or.inr h
  have hS : va_S A s.heap s.heap [] := va_S.rf
  have hl := lv_entry ([.ref h0, .int id, .int x, .int y, .int z, .int v, .ref o0]) (n := 8) (Nat.le_of_ble_eq_true rfl)
  rw [lg_entry_eq]
  generalize (lg_sl ([.ref h0, .int id, .int x, .int y, .int z, .int v, .ref o0]) ++ List.replicate (8 - (lg_sl ([.ref h0, .int id, .int x, .int y, .int z, .int v, .ref o0])).length) Slot.unset).toArray = ls at hl ⊢
  have hl : lv_has ls 8 [(0, .ref h0), (1, .int id), (2, .int x), (3, .int y), (4, .int z), (5, .int v), (6, .ref o0)] := hl
  refine lv_aload hx hb dL_add_0 (lv_at hl 6 rfl) ?_
  refine lv_iconst (v := 0) hx hb dL_add_2 (by decide) ?_
  refine lv_aload_n hx hb dL_add_3 rfl (lv_at hl 0 rfl) ?_
  refine lv_iload_n hx hb dL_add_4 rfl (lv_at hl 1 rfl) ?_
  refine lv_iload_n hx hb dL_add_5 rfl (lv_at hl 2 rfl) ?_
  refine lv_iload_n hx hb dL_add_6 rfl (lv_at hl 3 rfl) ?_
  refine lv_iload hx hb dL_add_7 (lv_at hl 4 rfl) ?_
  refine lv_iload hx hb dL_add_9 (lv_at hl 5 rfl) ?_
  refine ps_cqi (wc := ps_shW h0 q1 q2 q3 cx cy cz pl pw ++ ps_trW cI cZ q1 a1 n1 g1 ++ ps_trW cI cZ q2 a2 n2 g2 ++ ps_lsW cI q3 b lf le lh) (wr := [(o0, .inl (cL, 1, .inr (.inl ov)))]) (w1 := ps_shW h0 q1 q2 q3 cx cy cz pl pw ++ ps_trW cI cZ q1 a1 ((n1 + 1)) ((ps_ig g1 n1 id x y z v)) ++ ps_trW cI cZ q2 a2 n2 g2 ++ ps_lsW cI q3 b lf le lh) (ws2 := ps_shW h0 q1 q2 q3 cx cy cz pl pw ++ ps_trW cI cZ q1 a1 ((n1 + 1)) ((ps_ig g1 n1 id x y z v)) ++ ps_trW cI cZ q2 a2 n2 g2 ++ ps_lsW cI q3 b lf le lh ++ [(o0, .inl (cL, 1, .inr (.inl ov)))]) (va_runV (C := RX2) (As := [.int id, .int x, .int y, .int z, .int v]) (rest := [.int 0, .ref o0]) ⟨hx, hb, hml, hown, hT⟩ (mX2_add_n l dC dI cI cZ h0 q1 q2 q3 b a1 a2 n1 n2 g1 g2 lf le lh cx cy cz pl pw hn1 id x y z v hx0 hy0 hz0 hf _) (cwV 5 hT (ps_gV tw_ml_L_7 tw_im_X2_add tw_se_X2_add tw_in_X2 tw_co_X2_add) rfl rfl rfl ⟨rfl, by decide, by decide, by decide +kernel⟩ ⟨Nat.le_of_ble_eq_true rfl, Nat.le_of_ble_eq_true rfl⟩) (ps_qreV (wc := ps_shW h0 q1 q2 q3 cx cy cz pl pw ++ ps_trW cI cZ q1 a1 n1 g1 ++ ps_trW cI cZ q2 a2 n2 g2 ++ ps_lsW cI q3 b lf le lh) (ci := 2) [0, 1, 2, 3, 4, 5, 6, 7, 8, 9, 10, 11, 12, 13, 14, 15, 16, 17, 18, 19, 20] hN hP hK hD rfl rfl rfl rfl rfl) rfl rfl hl.1 rfl (lv_room (Nat.le_of_ble_eq_true rfl)) dL_add_11 ⟨Nat.le_of_ble_eq_true rfl, Nat.le_of_ble_eq_true rfl⟩) hS hA hP hD [0, 1, 2, 3, 4, 5, 6, 7, 8, 9, 10, 11, 12, 13, 14, 15, 16, 17, 18, 19, 20] [21] [1, 2, 3, 4, 5, 6, 7, 8, 9, 10, 11, 12, 13, 14, 15, 16, 17, 18, 19, 20, 21, 0] rfl rfl rfl (by decide) rfl rfl rfl (fun H locs hP hD hS => ?_)
  refine lv_i2l (v := (ps_ig g1 n1 id x y z v 5 (ps_cn (ps_ab g1 (ps_rk id)) n1)).toInt64) hx hb dL_add_14 rfl ?_
  refine va_last hx hb hK3 hP hD hS 21 2 rfl rfl (by unfold vp_in; decide) dL_add_15 (fun H locs hP hD hS => ?_)
  have hP : va_P (dC, dI) vwCl (ps_shW h0 q1 q2 q3 cx cy cz pl pw ++ ps_trW cI cZ q1 a1 ((n1 + 1)) ((ps_ig g1 n1 id x y z v)) ++ ps_trW cI cZ q2 a2 n2 g2 ++ ps_lsW cI q3 b lf le lh ++ [(o0, .inl (cL, 1, .inr (.inl (vp_updL ov 0 ((ps_ig g1 n1 id x y z v 5 (ps_cn (ps_ab g1 (ps_rk id)) n1)).toInt64)))))]) H := hP
  have hD : va_D A (ps_shW h0 q1 q2 q3 cx cy cz pl pw ++ ps_trW cI cZ q1 a1 ((n1 + 1)) ((ps_ig g1 n1 id x y z v)) ++ ps_trW cI cZ q2 a2 n2 g2 ++ ps_lsW cI q3 b lf le lh ++ [(o0, .inl (cL, 1, .inr (.inl (vp_updL ov 0 ((ps_ig g1 n1 id x y z v 5 (ps_cn (ps_ab g1 (ps_rk id)) n1)).toInt64)))))]) := hD
  refine lv_goto (tgt := 27) hx hb dL_add_16 rfl ?_
  refine lv_iconst (v := 0) hx hb dL_add_27 (by decide) ?_
  refine W.widen (k := 1) (n := 6) (Nat.le_of_ble_eq_true rfl) (Nat.le_of_ble_eq_true rfl) ?_
  exact W.iret (v := 0) hx hb hr (fun t ht hW => ⟨⟨0, (), rfl, rfl, by rw [ht]; exact hP, va_K.moved hW.alike hK3, hD⟩, hS.F ht⟩) hS.2.2 dL_add_28
set_option maxHeartbeats 4000000 in
set_option maxRecDepth 100000 in
theorem mL_add_x1 (l : Launch) (hlt : l.stackTraces = false) (dC : Nat → ClassId) (dI : Nat → Nat → Nat) (cI cZ : ClassId) (h0 q1 q2 q3 b : Nat) (a1 a2 : Nat → Nat) (n1 n2 : Nat) (g1 g2 : ps_G) (lf le : Nat) (lh : Nat → Int32) (cx cy cz pl pw : Int32) (cL : ClassId) (o0 : Nat) (ov : Nat → Int64) (id x y z v : Int32) (hbad : ¬ (ps_co x = true ∧ ps_co y = true ∧ ps_co z = true)) (sz : Nat) : Met l yL_add (.codeWith yL_add cL_add 8 (some .int) hhL_add :: ps_T) ({ frames := 8, cells := 1, slots := 6, locals := 137 }) (ps_xc (dC, dI) (ps_ty3 cI cZ cL) (ps_shW h0 q1 q2 q3 cx cy cz pl pw ++ ps_trW cI cZ q1 a1 n1 g1 ++ ps_trW cI cZ q2 a2 n2 g2 ++ ps_lsW cI q3 b lf le lh ++ [(o0, .inl (cL, 1, .inr (.inl ov)))]) sz [.ref h0, .int id, .int x, .int y, .int z, .int v, .ref o0]) (va_Qi (fun (r : Int32) (_ : Unit) => r = 1) (ps_qB (dC, dI) (ps_ty3 cI cZ cL) (va_A (ps_shW h0 q1 q2 q3 cx cy cz pl pw ++ ps_trW cI cZ q1 a1 n1 g1 ++ ps_trW cI cZ q2 a2 n2 g2 ++ ps_lsW cI q3 b lf le lh ++ [(o0, .inl (cL, 1, .inr (.inl ov)))]) sz) (ps_shW h0 q1 q2 q3 cx cy cz pl pw ++ ps_trW cI cZ q1 a1 n1 g1 ++ ps_trW cI cZ q2 a2 n2 g2 ++ ps_lsW cI q3 b lf le lh ++ [(o0, .inl (cL, 1, .inr (.inl ov)))])) (va_A (ps_shW h0 q1 q2 q3 cx cy cz pl pw ++ ps_trW cI cZ q1 a1 n1 g1 ++ ps_trW cI cZ q2 a2 n2 g2 ++ ps_lsW cI q3 b lf le lh ++ [(o0, .inl (cL, 1, .inr (.inl ov)))]) sz)) 1 6 (va_A (ps_shW h0 q1 q2 q3 cx cy cz pl pw ++ ps_trW cI cZ q1 a1 n1 g1 ++ ps_trW cI cZ q2 a2 n2 g2 ++ ps_lsW cI q3 b lf le lh ++ [(o0, .inl (cL, 1, .inr (.inl ov)))]) sz) := by
  refine va_MetW (cc := cL_add) (maxL := 8) (ret := (some .int)) (hh := hhL_add) (by decide) rfl ?_
  intro p e s m args below meth c s₁ B hml hv
  obtain ⟨rfl, hsz, hN, hE, hZ, hP, hK3, hD0⟩ := hv
  have hK : va_K (dC, dI) vwCl (ps_ty cI cZ) s := hK3.sub [0, 1] rfl
  have hx := B.exec
  have hb := B.bytes
  have hr := B.returns
  have hlocks := B.notSynchronized
  have hts := atoms_spec (ws := (.codeWith yL_add cL_add 8 (some .int) hhL_add :: ps_T)) B.pre
  have hT : ∀ w ∈ ps_T, w.before ([.ref h0, .int id, .int x, .int y, .int z, .int v, .ref o0] : List Value).toArray s = true := fun w h => hts w (List.mem_cons_of_mem _ h)
  have htab := vx_table (x := yL_add) B (hts _ List.mem_cons_self)
  have hown : s.vm.findClass RL = some m.cls := findClass_of_methodNamed B.named
  subst hsz
  have hD := hD0.self (sz := s.heap.size)
  generalize hAe : va_A (ps_shW h0 q1 q2 q3 cx cy cz pl pw ++ ps_trW cI cZ q1 a1 n1 g1 ++ ps_trW cI cZ q2 a2 n2 g2 ++ ps_lsW cI q3 b lf le lh ++ [(o0, .inl (cL, 1, .inr (.inl ov)))]) s.heap.size = A at hD hZ ⊢
  have hA : ∀ q : Nat, s.heap.size ≤ q → A q := fun q h => by rw [← hAe]; exact Or.inr h
  have hS : va_S A s.heap s.heap [] := va_S.rf
  have hl := lv_entry ([.ref h0, .int id, .int x, .int y, .int z, .int v, .ref o0]) (n := 8) (Nat.le_of_ble_eq_true rfl)
  rw [lg_entry_eq]
  generalize (lg_sl ([.ref h0, .int id, .int x, .int y, .int z, .int v, .ref o0]) ++ List.replicate (8 - (lg_sl ([.ref h0, .int id, .int x, .int y, .int z, .int v, .ref o0])).length) Slot.unset).toArray = ls at hl ⊢
  have hl : lv_has ls 8 [(0, .ref h0), (1, .int id), (2, .int x), (3, .int y), (4, .int z), (5, .int v), (6, .ref o0)] := hl
  refine lv_aload hx hb dL_add_0 (lv_at hl 6 rfl) ?_
  refine lv_iconst (v := 0) hx hb dL_add_2 (by decide) ?_
  refine lv_aload_n hx hb dL_add_3 rfl (lv_at hl 0 rfl) ?_
  refine lv_iload_n hx hb dL_add_4 rfl (lv_at hl 1 rfl) ?_
  refine lv_iload_n hx hb dL_add_5 rfl (lv_at hl 2 rfl) ?_
  refine lv_iload_n hx hb dL_add_6 rfl (lv_at hl 3 rfl) ?_
  refine lv_iload hx hb dL_add_7 (lv_at hl 4 rfl) ?_
  refine lv_iload hx hb dL_add_9 (lv_at hl 5 rfl) ?_
  refine ps_cx (wc := ps_shW h0 q1 q2 q3 cx cy cz pl pw ++ ps_trW cI cZ q1 a1 n1 g1 ++ ps_trW cI cZ q2 a2 n2 g2 ++ ps_lsW cI q3 b lf le lh) (wr := [(o0, .inl (cL, 1, .inr (.inl ov)))]) (w1 := ps_shW h0 q1 q2 q3 cx cy cz pl pw ++ ps_trW cI cZ q1 a1 n1 g1 ++ ps_trW cI cZ q2 a2 n2 g2 ++ ps_lsW cI q3 b lf le lh) (ws2 := ps_shW h0 q1 q2 q3 cx cy cz pl pw ++ ps_trW cI cZ q1 a1 n1 g1 ++ ps_trW cI cZ q2 a2 n2 g2 ++ ps_lsW cI q3 b lf le lh ++ [(o0, .inl (cL, 1, .inr (.inl ov)))]) (vx_runV (C := RX2) (As := [.int id, .int x, .int y, .int z, .int v]) (rest := [.int 0, .ref o0]) ⟨hx, hb, hml, hown, hT⟩ (mX2_add_x1 l hlt dC dI cI cZ h0 q1 q2 q3 b a1 a2 n1 n2 g1 g2 lf le lh cx cy cz pl pw id x y z v hbad _) (cwV 5 hT (ps_gV tw_ml_L_7 tw_im_X2_add tw_se_X2_add tw_in_X2 tw_co_X2_add) rfl rfl rfl ⟨rfl, by decide, by decide, by decide +kernel⟩ ⟨Nat.le_of_ble_eq_true rfl, Nat.le_of_ble_eq_true rfl⟩) (ps_xreV (wc := ps_shW h0 q1 q2 q3 cx cy cz pl pw ++ ps_trW cI cZ q1 a1 n1 g1 ++ ps_trW cI cZ q2 a2 n2 g2 ++ ps_lsW cI q3 b lf le lh) (ci := 2) [0, 1, 2, 3, 4, 5, 6, 7, 8, 9, 10, 11, 12, 13, 14, 15, 16, 17, 18, 19, 20] hN hE hZ hS hA hP hK hD rfl rfl rfl rfl rfl) rfl rfl hl.1 rfl (lv_room (Nat.le_of_ble_eq_true rfl)) dL_add_11 ⟨Nat.le_of_ble_eq_true rfl, Nat.le_of_ble_eq_true rfl⟩) hS hA hP hD [0, 1, 2, 3, 4, 5, 6, 7, 8, 9, 10, 11, 12, 13, 14, 15, 16, 17, 18, 19, 20] [21] [1, 2, 3, 4, 5, 6, 7, 8, 9, 10, 11, 12, 13, 14, 15, 16, 17, 18, 19, 20, 21, 0] rfl rfl rfl (by decide) rfl rfl rfl (fun ce q9 H locs hP hD hS hce hcv hcl => ?_)
  refine vx_catch (E := "java/lang/IllegalArgumentException") (name := "java/lang/IllegalArgumentException") hown [] ⟨0, 16, 19, 13⟩ [⟨0, 16, 23, 15⟩] (by rw [htab]; rfl) (fun z hz => by cases hz) (by decide) (by decide) (hT _ tw_cl_L_13) (va_Nw.use rfl (hE.1.1 _ (by decide +kernel))) hce hcv hcl ?_
  refine lv_astore (lv' := [(7, .ref q9), (0, .ref h0), (1, .int id), (2, .int x), (3, .int y), (4, .int z), (5, .int v), (6, .ref o0)]) hx hb dL_add_19 hl (by decide) rfl (fun ls hl => ?_)
  refine lv_iconst (v := 1) hx hb dL_add_21 (by decide) ?_
  refine W.widen (k := 1) (n := 6) (Nat.le_of_ble_eq_true rfl) (Nat.le_of_ble_eq_true rfl) ?_
  exact W.iret (v := 1) hx hb hr (fun t ht hW => ⟨⟨1, (), rfl, rfl, by rw [ht]; exact hP, va_K.moved hW.alike hK3, hD⟩, hS.F ht⟩) hS.2.2 dL_add_22
set_option maxHeartbeats 4000000 in
set_option maxRecDepth 100000 in
theorem mL_add_x2 (l : Launch) (hlt : l.stackTraces = false) (dC : Nat → ClassId) (dI : Nat → Nat → Nat) (cI cZ : ClassId) (h0 q1 q2 q3 b : Nat) (a1 a2 : Nat → Nat) (n1 n2 : Nat) (g1 g2 : ps_G) (lf le : Nat) (lh : Nat → Int32) (cx cy cz pl pw : Int32) (cL : ClassId) (o0 : Nat) (ov : Nat → Int64) (hn1 : n1 ≤ 48) (id x y z v : Int32) (hx0 : ps_co x = true) (hy0 : ps_co y = true) (hz0 : ps_co z = true) (hbad : ps_fi (g1 0) id n1 = none → n1 = 48) (sz : Nat) : Met l yL_add (.codeWith yL_add cL_add 8 (some .int) hhL_add :: ps_T) ({ frames := 7, cells := 1, slots := 6, locals := 115 }) (ps_xc (dC, dI) (ps_ty3 cI cZ cL) (ps_shW h0 q1 q2 q3 cx cy cz pl pw ++ ps_trW cI cZ q1 a1 n1 g1 ++ ps_trW cI cZ q2 a2 n2 g2 ++ ps_lsW cI q3 b lf le lh ++ [(o0, .inl (cL, 1, .inr (.inl ov)))]) sz [.ref h0, .int id, .int x, .int y, .int z, .int v, .ref o0]) (va_Qi (fun (r : Int32) (_ : Unit) => r = 2) (ps_qB (dC, dI) (ps_ty3 cI cZ cL) (va_A (ps_shW h0 q1 q2 q3 cx cy cz pl pw ++ ps_trW cI cZ q1 a1 n1 g1 ++ ps_trW cI cZ q2 a2 n2 g2 ++ ps_lsW cI q3 b lf le lh ++ [(o0, .inl (cL, 1, .inr (.inl ov)))]) sz) (ps_shW h0 q1 q2 q3 cx cy cz pl pw ++ ps_trW cI cZ q1 a1 n1 g1 ++ ps_trW cI cZ q2 a2 n2 g2 ++ ps_lsW cI q3 b lf le lh ++ [(o0, .inl (cL, 1, .inr (.inl ov)))])) (va_A (ps_shW h0 q1 q2 q3 cx cy cz pl pw ++ ps_trW cI cZ q1 a1 n1 g1 ++ ps_trW cI cZ q2 a2 n2 g2 ++ ps_lsW cI q3 b lf le lh ++ [(o0, .inl (cL, 1, .inr (.inl ov)))]) sz)) 1 6 (va_A (ps_shW h0 q1 q2 q3 cx cy cz pl pw ++ ps_trW cI cZ q1 a1 n1 g1 ++ ps_trW cI cZ q2 a2 n2 g2 ++ ps_lsW cI q3 b lf le lh ++ [(o0, .inl (cL, 1, .inr (.inl ov)))]) sz) := by
  refine va_MetW (cc := cL_add) (maxL := 8) (ret := (some .int)) (hh := hhL_add) (by decide) rfl ?_
  intro p e s m args below meth c s₁ B hml hv
  obtain ⟨rfl, hsz, hN, hE, hZ, hP, hK3, hD0⟩ := hv
  have hK : va_K (dC, dI) vwCl (ps_ty cI cZ) s := hK3.sub [0, 1] rfl
  have hx := B.exec
  have hb := B.bytes
  have hr := B.returns
  have hlocks := B.notSynchronized
  have hts := atoms_spec (ws := (.codeWith yL_add cL_add 8 (some .int) hhL_add :: ps_T)) B.pre
  have hT : ∀ w ∈ ps_T, w.before ([.ref h0, .int id, .int x, .int y, .int z, .int v, .ref o0] : List Value).toArray s = true := fun w h => hts w (List.mem_cons_of_mem _ h)
  have htab := vx_table (x := yL_add) B (hts _ List.mem_cons_self)
  have hown : s.vm.findClass RL = some m.cls := findClass_of_methodNamed B.named
  subst hsz
  have hD := hD0.self (sz := s.heap.size)
  generalize hAe : va_A (ps_shW h0 q1 q2 q3 cx cy cz pl pw ++ ps_trW cI cZ q1 a1 n1 g1 ++ ps_trW cI cZ q2 a2 n2 g2 ++ ps_lsW cI q3 b lf le lh ++ [(o0, .inl (cL, 1, .inr (.inl ov)))]) s.heap.size = A at hD hZ ⊢
  have hA : ∀ q : Nat, s.heap.size ≤ q → A q := fun q h => by rw [← hAe]; exact Or.inr h
  have hS : va_S A s.heap s.heap [] := va_S.rf
  have hl := lv_entry ([.ref h0, .int id, .int x, .int y, .int z, .int v, .ref o0]) (n := 8) (Nat.le_of_ble_eq_true rfl)
  rw [lg_entry_eq]
  generalize (lg_sl ([.ref h0, .int id, .int x, .int y, .int z, .int v, .ref o0]) ++ List.replicate (8 - (lg_sl ([.ref h0, .int id, .int x, .int y, .int z, .int v, .ref o0])).length) Slot.unset).toArray = ls at hl ⊢
  have hl : lv_has ls 8 [(0, .ref h0), (1, .int id), (2, .int x), (3, .int y), (4, .int z), (5, .int v), (6, .ref o0)] := hl
  refine lv_aload hx hb dL_add_0 (lv_at hl 6 rfl) ?_
  refine lv_iconst (v := 0) hx hb dL_add_2 (by decide) ?_
  refine lv_aload_n hx hb dL_add_3 rfl (lv_at hl 0 rfl) ?_
  refine lv_iload_n hx hb dL_add_4 rfl (lv_at hl 1 rfl) ?_
  refine lv_iload_n hx hb dL_add_5 rfl (lv_at hl 2 rfl) ?_
  refine lv_iload_n hx hb dL_add_6 rfl (lv_at hl 3 rfl) ?_
  refine lv_iload hx hb dL_add_7 (lv_at hl 4 rfl) ?_
  refine lv_iload hx hb dL_add_9 (lv_at hl 5 rfl) ?_
  refine ps_cx (wc := ps_shW h0 q1 q2 q3 cx cy cz pl pw ++ ps_trW cI cZ q1 a1 n1 g1 ++ ps_trW cI cZ q2 a2 n2 g2 ++ ps_lsW cI q3 b lf le lh) (wr := [(o0, .inl (cL, 1, .inr (.inl ov)))]) (w1 := ps_shW h0 q1 q2 q3 cx cy cz pl pw ++ ps_trW cI cZ q1 a1 n1 g1 ++ ps_trW cI cZ q2 a2 n2 g2 ++ ps_lsW cI q3 b lf le lh) (ws2 := ps_shW h0 q1 q2 q3 cx cy cz pl pw ++ ps_trW cI cZ q1 a1 n1 g1 ++ ps_trW cI cZ q2 a2 n2 g2 ++ ps_lsW cI q3 b lf le lh ++ [(o0, .inl (cL, 1, .inr (.inl ov)))]) (vx_runV (C := RX2) (As := [.int id, .int x, .int y, .int z, .int v]) (rest := [.int 0, .ref o0]) ⟨hx, hb, hml, hown, hT⟩ (mX2_add_x2 l hlt dC dI cI cZ h0 q1 q2 q3 b a1 a2 n1 n2 g1 g2 lf le lh cx cy cz pl pw hn1 id x y z v hx0 hy0 hz0 hbad _) (cwV 5 hT (ps_gV tw_ml_L_7 tw_im_X2_add tw_se_X2_add tw_in_X2 tw_co_X2_add) rfl rfl rfl ⟨rfl, by decide, by decide, by decide +kernel⟩ ⟨Nat.le_of_ble_eq_true rfl, Nat.le_of_ble_eq_true rfl⟩) (ps_xreV (wc := ps_shW h0 q1 q2 q3 cx cy cz pl pw ++ ps_trW cI cZ q1 a1 n1 g1 ++ ps_trW cI cZ q2 a2 n2 g2 ++ ps_lsW cI q3 b lf le lh) (ci := 2) [0, 1, 2, 3, 4, 5, 6, 7, 8, 9, 10, 11, 12, 13, 14, 15, 16, 17, 18, 19, 20] hN hE hZ hS hA hP hK hD rfl rfl rfl rfl rfl) rfl rfl hl.1 rfl (lv_room (Nat.le_of_ble_eq_true rfl)) dL_add_11 ⟨Nat.le_of_ble_eq_true rfl, Nat.le_of_ble_eq_true rfl⟩) hS hA hP hD [0, 1, 2, 3, 4, 5, 6, 7, 8, 9, 10, 11, 12, 13, 14, 15, 16, 17, 18, 19, 20] [21] [1, 2, 3, 4, 5, 6, 7, 8, 9, 10, 11, 12, 13, 14, 15, 16, 17, 18, 19, 20, 21, 0] rfl rfl rfl (by decide) rfl rfl rfl (fun ce q9 H locs hP hD hS hce hcv hcl => ?_)
  refine vx_catch (E := "java/lang/IllegalStateException") (name := "java/lang/IllegalStateException") hown [⟨0, 16, 19, 13⟩] ⟨0, 16, 23, 15⟩ [] (by rw [htab]; rfl) (fun z hz => by
      rcases List.mem_cons.mp hz with rfl | hz
      · exact Or.inr ⟨by decide, "java/lang/IllegalArgumentException", hT _ tw_cl_L_13, hE.2.2 _ (by decide +kernel) _ (by decide +kernel) (by decide)⟩
      · cases hz) (by decide) (by decide) (hT _ tw_cl_L_15) (va_Nw.use rfl (hE.1.1 _ (by decide +kernel))) hce hcv hcl ?_
  refine lv_astore (lv' := [(7, .ref q9), (0, .ref h0), (1, .int id), (2, .int x), (3, .int y), (4, .int z), (5, .int v), (6, .ref o0)]) hx hb dL_add_23 hl (by decide) rfl (fun ls hl => ?_)
  refine lv_iconst (v := 2) hx hb dL_add_25 (by decide) ?_
  refine W.widen (k := 1) (n := 6) (Nat.le_of_ble_eq_true rfl) (Nat.le_of_ble_eq_true rfl) ?_
  exact W.iret (v := 2) hx hb hr (fun t ht hW => ⟨⟨2, (), rfl, rfl, by rw [ht]; exact hP, va_K.moved hW.alike hK3, hD⟩, hS.F ht⟩) hS.2.2 dL_add_26
set_option maxHeartbeats 4000000 in
set_option maxRecDepth 100000 in
theorem mL_remove_n (l : Launch) (hlt : l.stackTraces = false) (dC : Nat → ClassId) (dI : Nat → Nat → Nat) (cI cZ : ClassId) (h0 q1 q2 q3 b : Nat) (a1 a2 : Nat → Nat) (n1 n2 : Nat) (g1 g2 : ps_G) (lf le : Nat) (lh : Nat → Int32) (cx cy cz pl pw : Int32) (cL : ClassId) (o0 : Nat) (ov : Nat → Int64) (hn1 : n1 ≤ 48) (id : Int32) (k : Nat) (hf : ps_fi (g1 0) id n1 = some k) (sz : Nat) : Met l yL_remove (.codeWith yL_remove cL_remove 4 (some .int) hhL_remove :: ps_T) ({ frames := 7, cells := 1, slots := 6, locals := 162 }) (ps_xc (dC, dI) (ps_ty3 cI cZ cL) (ps_shW h0 q1 q2 q3 cx cy cz pl pw ++ ps_trW cI cZ q1 a1 n1 g1 ++ ps_trW cI cZ q2 a2 n2 g2 ++ ps_lsW cI q3 b lf le lh ++ [(o0, .inl (cL, 1, .inr (.inl ov)))]) sz [.ref h0, .int id, .ref o0]) (va_Qi (fun (r : Int32) (_ : Unit) => r = 0) (ps_qB (dC, dI) (ps_ty3 cI cZ cL) (va_A (ps_shW h0 q1 q2 q3 cx cy cz pl pw ++ ps_trW cI cZ q1 a1 n1 g1 ++ ps_trW cI cZ q2 a2 n2 g2 ++ ps_lsW cI q3 b lf le lh ++ [(o0, .inl (cL, 1, .inr (.inl ov)))]) sz) (ps_shW h0 q1 q2 q3 cx cy cz pl pw ++ ps_trW cI cZ q1 a1 ((n1 - 1)) ((ps_dg g1 n1 k)) ++ ps_trW cI cZ q2 a2 n2 g2 ++ ps_lsW cI q3 b lf le lh ++ [(o0, .inl (cL, 1, .inr (.inl (vp_updL ov 0 (g1 5 k).toInt64))))])) (va_A (ps_shW h0 q1 q2 q3 cx cy cz pl pw ++ ps_trW cI cZ q1 a1 n1 g1 ++ ps_trW cI cZ q2 a2 n2 g2 ++ ps_lsW cI q3 b lf le lh ++ [(o0, .inl (cL, 1, .inr (.inl ov)))]) sz)) 1 6 (va_A (ps_shW h0 q1 q2 q3 cx cy cz pl pw ++ ps_trW cI cZ q1 a1 n1 g1 ++ ps_trW cI cZ q2 a2 n2 g2 ++ ps_lsW cI q3 b lf le lh ++ [(o0, .inl (cL, 1, .inr (.inl ov)))]) sz) := by
  refine va_MetW (cc := cL_remove) (maxL := 4) (ret := (some .int)) (hh := hhL_remove) (by decide) rfl ?_
  intro p e s m args below meth c s₁ B hml hv
  obtain ⟨rfl, hsz, hN, hE, hZ, hP, hK3, hD0⟩ := hv
  have hK : va_K (dC, dI) vwCl (ps_ty cI cZ) s := hK3.sub [0, 1] rfl
  have hx := B.exec
  have hb := B.bytes
  have hr := B.returns
  have hlocks := B.notSynchronized
  have hts := atoms_spec (ws := (.codeWith yL_remove cL_remove 4 (some .int) hhL_remove :: ps_T)) B.pre
  have hT : ∀ w ∈ ps_T, w.before ([.ref h0, .int id, .ref o0] : List Value).toArray s = true := fun w h => hts w (List.mem_cons_of_mem _ h)
  have htab := vx_table (x := yL_remove) B (hts _ List.mem_cons_self)
  have hown : s.vm.findClass RL = some m.cls := findClass_of_methodNamed B.named
  subst hsz
  have hD := hD0.self (sz := s.heap.size)
  generalize hAe : va_A (ps_shW h0 q1 q2 q3 cx cy cz pl pw ++ ps_trW cI cZ q1 a1 n1 g1 ++ ps_trW cI cZ q2 a2 n2 g2 ++ ps_lsW cI q3 b lf le lh ++ [(o0, .inl (cL, 1, .inr (.inl ov)))]) s.heap.size = A at hD hZ ⊢
  have hA : ∀ q : Nat, s.heap.size ≤ q → A q := fun q h => by rw [← hAe]; exact Or.inr h
  have hS : va_S A s.heap s.heap [] := va_S.rf
  have hl := lv_entry ([.ref h0, .int id, .ref o0]) (n := 4) (Nat.le_of_ble_eq_true rfl)
  rw [lg_entry_eq]
  generalize (lg_sl ([.ref h0, .int id, .ref o0]) ++ List.replicate (4 - (lg_sl ([.ref h0, .int id, .ref o0])).length) Slot.unset).toArray = ls at hl ⊢
  have hl : lv_has ls 4 [(0, .ref h0), (1, .int id), (2, .ref o0)] := hl
  refine lv_aload_n hx hb dL_remove_0 rfl (lv_at hl 2 rfl) ?_
  refine lv_iconst (v := 0) hx hb dL_remove_1 (by decide) ?_
  refine lv_aload_n hx hb dL_remove_2 rfl (lv_at hl 0 rfl) ?_
  refine lv_iload_n hx hb dL_remove_3 rfl (lv_at hl 1 rfl) ?_
  refine ps_cqi (wc := ps_shW h0 q1 q2 q3 cx cy cz pl pw ++ ps_trW cI cZ q1 a1 n1 g1 ++ ps_trW cI cZ q2 a2 n2 g2 ++ ps_lsW cI q3 b lf le lh) (wr := [(o0, .inl (cL, 1, .inr (.inl ov)))]) (w1 := ps_shW h0 q1 q2 q3 cx cy cz pl pw ++ ps_trW cI cZ q1 a1 ((n1 - 1)) ((ps_dg g1 n1 k)) ++ ps_trW cI cZ q2 a2 n2 g2 ++ ps_lsW cI q3 b lf le lh) (ws2 := ps_shW h0 q1 q2 q3 cx cy cz pl pw ++ ps_trW cI cZ q1 a1 ((n1 - 1)) ((ps_dg g1 n1 k)) ++ ps_trW cI cZ q2 a2 n2 g2 ++ ps_lsW cI q3 b lf le lh ++ [(o0, .inl (cL, 1, .inr (.inl ov)))]) (va_runV (C := RX2) (As := [.int id]) (rest := [.int 0, .ref o0]) ⟨hx, hb, hml, hown, hT⟩ (mX2_remove_n l dC dI cI cZ h0 q1 q2 q3 b a1 a2 n1 n2 g1 g2 lf le lh cx cy cz pl pw hn1 id k hf _) (cwV 1 hT (ps_gV tw_ml_L_17 tw_im_X2_remove tw_se_X2_remove tw_in_X2 tw_co_X2_remove) rfl rfl rfl ⟨rfl, by decide, by decide, by decide +kernel⟩ ⟨Nat.le_of_ble_eq_true rfl, Nat.le_of_ble_eq_true rfl⟩) (ps_qreV (wc := ps_shW h0 q1 q2 q3 cx cy cz pl pw ++ ps_trW cI cZ q1 a1 n1 g1 ++ ps_trW cI cZ q2 a2 n2 g2 ++ ps_lsW cI q3 b lf le lh) (ci := 2) [0, 1, 2, 3, 4, 5, 6, 7, 8, 9, 10, 11, 12, 13, 14, 15, 16, 17, 18, 19, 20] hN hP hK hD rfl rfl rfl rfl rfl) rfl rfl hl.1 rfl (lv_room (Nat.le_of_ble_eq_true rfl)) dL_remove_4 ⟨Nat.le_of_ble_eq_true rfl, Nat.le_of_ble_eq_true rfl⟩) hS hA hP hD [0, 1, 2, 3, 4, 5, 6, 7, 8, 9, 10, 11, 12, 13, 14, 15, 16, 17, 18, 19, 20] [21] [1, 2, 3, 4, 5, 6, 7, 8, 9, 10, 11, 12, 13, 14, 15, 16, 17, 18, 19, 20, 21, 0] rfl rfl rfl (by decide) rfl rfl rfl (fun H locs hP hD hS => ?_)
  refine lv_i2l (v := (g1 5 k).toInt64) hx hb dL_remove_7 rfl ?_
  refine va_last hx hb hK3 hP hD hS 21 2 rfl rfl (by unfold vp_in; decide) dL_remove_8 (fun H locs hP hD hS => ?_)
  have hP : va_P (dC, dI) vwCl (ps_shW h0 q1 q2 q3 cx cy cz pl pw ++ ps_trW cI cZ q1 a1 ((n1 - 1)) ((ps_dg g1 n1 k)) ++ ps_trW cI cZ q2 a2 n2 g2 ++ ps_lsW cI q3 b lf le lh ++ [(o0, .inl (cL, 1, .inr (.inl (vp_updL ov 0 ((g1 5 k).toInt64)))))]) H := hP
  have hD : va_D A (ps_shW h0 q1 q2 q3 cx cy cz pl pw ++ ps_trW cI cZ q1 a1 ((n1 - 1)) ((ps_dg g1 n1 k)) ++ ps_trW cI cZ q2 a2 n2 g2 ++ ps_lsW cI q3 b lf le lh ++ [(o0, .inl (cL, 1, .inr (.inl (vp_updL ov 0 ((g1 5 k).toInt64)))))]) := hD
  refine lv_goto (tgt := 15) hx hb dL_remove_9 rfl ?_
  refine lv_iconst (v := 0) hx hb dL_remove_15 (by decide) ?_
  refine W.widen (k := 1) (n := 6) (Nat.le_of_ble_eq_true rfl) (Nat.le_of_ble_eq_true rfl) ?_
  exact W.iret (v := 0) hx hb hr (fun t ht hW => ⟨⟨0, (), rfl, rfl, by rw [ht]; exact hP, va_K.moved hW.alike hK3, hD⟩, hS.F ht⟩) hS.2.2 dL_remove_16
set_option maxHeartbeats 4000000 in
set_option maxRecDepth 100000 in
theorem mL_remove_x (l : Launch) (hlt : l.stackTraces = false) (dC : Nat → ClassId) (dI : Nat → Nat → Nat) (cI cZ : ClassId) (h0 q1 q2 q3 b : Nat) (a1 a2 : Nat → Nat) (n1 n2 : Nat) (g1 g2 : ps_G) (lf le : Nat) (lh : Nat → Int32) (cx cy cz pl pw : Int32) (cL : ClassId) (o0 : Nat) (ov : Nat → Int64) (hn1 : n1 ≤ 48) (id : Int32) (hf : ps_fi (g1 0) id n1 = none) (sz : Nat) : Met l yL_remove (.codeWith yL_remove cL_remove 4 (some .int) hhL_remove :: ps_T) ({ frames := 8, cells := 1, slots := 6, locals := 135 }) (ps_xc (dC, dI) (ps_ty3 cI cZ cL) (ps_shW h0 q1 q2 q3 cx cy cz pl pw ++ ps_trW cI cZ q1 a1 n1 g1 ++ ps_trW cI cZ q2 a2 n2 g2 ++ ps_lsW cI q3 b lf le lh ++ [(o0, .inl (cL, 1, .inr (.inl ov)))]) sz [.ref h0, .int id, .ref o0]) (va_Qi (fun (r : Int32) (_ : Unit) => r = 1) (ps_qB (dC, dI) (ps_ty3 cI cZ cL) (va_A (ps_shW h0 q1 q2 q3 cx cy cz pl pw ++ ps_trW cI cZ q1 a1 n1 g1 ++ ps_trW cI cZ q2 a2 n2 g2 ++ ps_lsW cI q3 b lf le lh ++ [(o0, .inl (cL, 1, .inr (.inl ov)))]) sz) (ps_shW h0 q1 q2 q3 cx cy cz pl pw ++ ps_trW cI cZ q1 a1 n1 g1 ++ ps_trW cI cZ q2 a2 n2 g2 ++ ps_lsW cI q3 b lf le lh ++ [(o0, .inl (cL, 1, .inr (.inl ov)))])) (va_A (ps_shW h0 q1 q2 q3 cx cy cz pl pw ++ ps_trW cI cZ q1 a1 n1 g1 ++ ps_trW cI cZ q2 a2 n2 g2 ++ ps_lsW cI q3 b lf le lh ++ [(o0, .inl (cL, 1, .inr (.inl ov)))]) sz)) 1 6 (va_A (ps_shW h0 q1 q2 q3 cx cy cz pl pw ++ ps_trW cI cZ q1 a1 n1 g1 ++ ps_trW cI cZ q2 a2 n2 g2 ++ ps_lsW cI q3 b lf le lh ++ [(o0, .inl (cL, 1, .inr (.inl ov)))]) sz) := by
  refine va_MetW (cc := cL_remove) (maxL := 4) (ret := (some .int)) (hh := hhL_remove) (by decide) rfl ?_
  intro p e s m args below meth c s₁ B hml hv
  obtain ⟨rfl, hsz, hN, hE, hZ, hP, hK3, hD0⟩ := hv
  have hK : va_K (dC, dI) vwCl (ps_ty cI cZ) s := hK3.sub [0, 1] rfl
  have hx := B.exec
  have hb := B.bytes
  have hr := B.returns
  have hlocks := B.notSynchronized
  have hts := atoms_spec (ws := (.codeWith yL_remove cL_remove 4 (some .int) hhL_remove :: ps_T)) B.pre
  have hT : ∀ w ∈ ps_T, w.before ([.ref h0, .int id, .ref o0] : List Value).toArray s = true := fun w h => hts w (List.mem_cons_of_mem _ h)
  have htab := vx_table (x := yL_remove) B (hts _ List.mem_cons_self)
  have hown : s.vm.findClass RL = some m.cls := findClass_of_methodNamed B.named
  subst hsz
  have hD := hD0.self (sz := s.heap.size)
  generalize hAe : va_A (ps_shW h0 q1 q2 q3 cx cy cz pl pw ++ ps_trW cI cZ q1 a1 n1 g1 ++ ps_trW cI cZ q2 a2 n2 g2 ++ ps_lsW cI q3 b lf le lh ++ [(o0, .inl (cL, 1, .inr (.inl ov)))]) s.heap.size = A at hD hZ ⊢
  have hA : ∀ q : Nat, s.heap.size ≤ q → A q := fun q h => by rw [← hAe]; exact Or.inr h
  have hS : va_S A s.heap s.heap [] := va_S.rf
  have hl := lv_entry ([.ref h0, .int id, .ref o0]) (n := 4) (Nat.le_of_ble_eq_true rfl)
  rw [lg_entry_eq]
  generalize (lg_sl ([.ref h0, .int id, .ref o0]) ++ List.replicate (4 - (lg_sl ([.ref h0, .int id, .ref o0])).length) Slot.unset).toArray = ls at hl ⊢
  have hl : lv_has ls 4 [(0, .ref h0), (1, .int id), (2, .ref o0)] := hl
  refine lv_aload_n hx hb dL_remove_0 rfl (lv_at hl 2 rfl) ?_
  refine lv_iconst (v := 0) hx hb dL_remove_1 (by decide) ?_
  refine lv_aload_n hx hb dL_remove_2 rfl (lv_at hl 0 rfl) ?_
  refine lv_iload_n hx hb dL_remove_3 rfl (lv_at hl 1 rfl) ?_
  refine ps_cx (wc := ps_shW h0 q1 q2 q3 cx cy cz pl pw ++ ps_trW cI cZ q1 a1 n1 g1 ++ ps_trW cI cZ q2 a2 n2 g2 ++ ps_lsW cI q3 b lf le lh) (wr := [(o0, .inl (cL, 1, .inr (.inl ov)))]) (w1 := ps_shW h0 q1 q2 q3 cx cy cz pl pw ++ ps_trW cI cZ q1 a1 n1 g1 ++ ps_trW cI cZ q2 a2 n2 g2 ++ ps_lsW cI q3 b lf le lh) (ws2 := ps_shW h0 q1 q2 q3 cx cy cz pl pw ++ ps_trW cI cZ q1 a1 n1 g1 ++ ps_trW cI cZ q2 a2 n2 g2 ++ ps_lsW cI q3 b lf le lh ++ [(o0, .inl (cL, 1, .inr (.inl ov)))]) (vx_runV (C := RX2) (As := [.int id]) (rest := [.int 0, .ref o0]) ⟨hx, hb, hml, hown, hT⟩ (mX2_remove_x l hlt dC dI cI cZ h0 q1 q2 q3 b a1 a2 n1 n2 g1 g2 lf le lh cx cy cz pl pw hn1 id hf _) (cwV 1 hT (ps_gV tw_ml_L_17 tw_im_X2_remove tw_se_X2_remove tw_in_X2 tw_co_X2_remove) rfl rfl rfl ⟨rfl, by decide, by decide, by decide +kernel⟩ ⟨Nat.le_of_ble_eq_true rfl, Nat.le_of_ble_eq_true rfl⟩) (ps_xreV (wc := ps_shW h0 q1 q2 q3 cx cy cz pl pw ++ ps_trW cI cZ q1 a1 n1 g1 ++ ps_trW cI cZ q2 a2 n2 g2 ++ ps_lsW cI q3 b lf le lh) (ci := 2) [0, 1, 2, 3, 4, 5, 6, 7, 8, 9, 10, 11, 12, 13, 14, 15, 16, 17, 18, 19, 20] hN hE hZ hS hA hP hK hD rfl rfl rfl rfl rfl) rfl rfl hl.1 rfl (lv_room (Nat.le_of_ble_eq_true rfl)) dL_remove_4 ⟨Nat.le_of_ble_eq_true rfl, Nat.le_of_ble_eq_true rfl⟩) hS hA hP hD [0, 1, 2, 3, 4, 5, 6, 7, 8, 9, 10, 11, 12, 13, 14, 15, 16, 17, 18, 19, 20] [21] [1, 2, 3, 4, 5, 6, 7, 8, 9, 10, 11, 12, 13, 14, 15, 16, 17, 18, 19, 20, 21, 0] rfl rfl rfl (by decide) rfl rfl rfl (fun ce q9 H locs hP hD hS hce hcv hcl => ?_)
  refine vx_catch (E := "java/util/NoSuchElementException") (name := "java/util/NoSuchElementException") hown [] ⟨0, 9, 12, 21⟩ [] (by rw [htab]; rfl) (fun z hz => by cases hz) (by decide) (by decide) (hT _ tw_cl_L_21) (va_Nw.use rfl (hE.1.1 _ (by decide +kernel))) hce hcv hcl ?_
  refine lv_astore_n (lv' := [(3, .ref q9), (0, .ref h0), (1, .int id), (2, .ref o0)]) hx hb dL_remove_12 rfl hl (by decide) rfl (fun ls hl => ?_)
  refine lv_iconst (v := 1) hx hb dL_remove_13 (by decide) ?_
  refine W.widen (k := 1) (n := 6) (Nat.le_of_ble_eq_true rfl) (Nat.le_of_ble_eq_true rfl) ?_
  exact W.iret (v := 1) hx hb hr (fun t ht hW => ⟨⟨1, (), rfl, rfl, by rw [ht]; exact hP, va_K.moved hW.alike hK3, hD⟩, hS.F ht⟩) hS.2.2 dL_remove_14
set_option maxHeartbeats 4000000 in
set_option maxRecDepth 100000 in
theorem mL_recolour_n (l : Launch) (hlt : l.stackTraces = false) (dC : Nat → ClassId) (dI : Nat → Nat → Nat) (cI cZ : ClassId) (h0 q1 q2 q3 b : Nat) (a1 a2 : Nat → Nat) (n1 n2 : Nat) (g1 g2 : ps_G) (lf le : Nat) (lh : Nat → Int32) (cx cy cz pl pw : Int32) (cL : ClassId) (o0 : Nat) (ov : Nat → Int64) (hn1 : n1 ≤ 48) (id v : Int32) (k : Nat) (hf : ps_fi (g1 0) id n1 = some k) (sz : Nat) : Met l yL_recolour (.codeWith yL_recolour cL_recolour 5 (some .int) hhL_recolour :: ps_T) ({ frames := 3, cells := 1, slots := 6, locals := 68 }) (ps_xc (dC, dI) (ps_ty3 cI cZ cL) (ps_shW h0 q1 q2 q3 cx cy cz pl pw ++ ps_trW cI cZ q1 a1 n1 g1 ++ ps_trW cI cZ q2 a2 n2 g2 ++ ps_lsW cI q3 b lf le lh ++ [(o0, .inl (cL, 1, .inr (.inl ov)))]) sz [.ref h0, .int id, .int v, .ref o0]) (va_Qi (fun (r : Int32) (_ : Unit) => r = 0) (ps_qB (dC, dI) (ps_ty3 cI cZ cL) (va_A (ps_shW h0 q1 q2 q3 cx cy cz pl pw ++ ps_trW cI cZ q1 a1 n1 g1 ++ ps_trW cI cZ q2 a2 n2 g2 ++ ps_lsW cI q3 b lf le lh ++ [(o0, .inl (cL, 1, .inr (.inl ov)))]) sz) (ps_shW h0 q1 q2 q3 cx cy cz pl pw ++ ps_trW cI cZ q1 a1 n1 (va_up g1 4 (upd (g1 4) k v)) ++ ps_trW cI cZ q2 a2 n2 g2 ++ ps_lsW cI q3 b lf le lh ++ [(o0, .inl (cL, 1, .inr (.inl (vp_updL ov 0 (g1 4 k).toInt64))))])) (va_A (ps_shW h0 q1 q2 q3 cx cy cz pl pw ++ ps_trW cI cZ q1 a1 n1 g1 ++ ps_trW cI cZ q2 a2 n2 g2 ++ ps_lsW cI q3 b lf le lh ++ [(o0, .inl (cL, 1, .inr (.inl ov)))]) sz)) 1 6 (va_A (ps_shW h0 q1 q2 q3 cx cy cz pl pw ++ ps_trW cI cZ q1 a1 n1 g1 ++ ps_trW cI cZ q2 a2 n2 g2 ++ ps_lsW cI q3 b lf le lh ++ [(o0, .inl (cL, 1, .inr (.inl ov)))]) sz) := by
  refine va_MetW (cc := cL_recolour) (maxL := 5) (ret := (some .int)) (hh := hhL_recolour) (by decide) rfl ?_
  intro p e s m args below meth c s₁ B hml hv
  obtain ⟨rfl, hsz, hN, hE, hZ, hP, hK3, hD0⟩ := hv
  have hK : va_K (dC, dI) vwCl (ps_ty cI cZ) s := hK3.sub [0, 1] rfl
  have hx := B.exec
  have hb := B.bytes
  have hr := B.returns
  have hlocks := B.notSynchronized
  have hts := atoms_spec (ws := (.codeWith yL_recolour cL_recolour 5 (some .int) hhL_recolour :: ps_T)) B.pre
  have hT : ∀ w ∈ ps_T, w.before ([.ref h0, .int id, .int v, .ref o0] : List Value).toArray s = true := fun w h => hts w (List.mem_cons_of_mem _ h)
  have htab := vx_table (x := yL_recolour) B (hts _ List.mem_cons_self)
  have hown : s.vm.findClass RL = some m.cls := findClass_of_methodNamed B.named
  subst hsz
  have hD := hD0.self (sz := s.heap.size)
  generalize hAe : va_A (ps_shW h0 q1 q2 q3 cx cy cz pl pw ++ ps_trW cI cZ q1 a1 n1 g1 ++ ps_trW cI cZ q2 a2 n2 g2 ++ ps_lsW cI q3 b lf le lh ++ [(o0, .inl (cL, 1, .inr (.inl ov)))]) s.heap.size = A at hD hZ ⊢
  have hA : ∀ q : Nat, s.heap.size ≤ q → A q := fun q h => by rw [← hAe]; exact Or.inr h
  have hS : va_S A s.heap s.heap [] := va_S.rf
  have hl := lv_entry ([.ref h0, .int id, .int v, .ref o0]) (n := 5) (Nat.le_of_ble_eq_true rfl)
  rw [lg_entry_eq]
  generalize (lg_sl ([.ref h0, .int id, .int v, .ref o0]) ++ List.replicate (5 - (lg_sl ([.ref h0, .int id, .int v, .ref o0])).length) Slot.unset).toArray = ls at hl ⊢
  have hl : lv_has ls 5 [(0, .ref h0), (1, .int id), (2, .int v), (3, .ref o0)] := hl
  refine lv_aload_n hx hb dL_recolour_0 rfl (lv_at hl 3 rfl) ?_
  refine lv_iconst (v := 0) hx hb dL_recolour_1 (by decide) ?_
  refine lv_aload_n hx hb dL_recolour_2 rfl (lv_at hl 0 rfl) ?_
  refine lv_iload_n hx hb dL_recolour_3 rfl (lv_at hl 1 rfl) ?_
  refine lv_iload_n hx hb dL_recolour_4 rfl (lv_at hl 2 rfl) ?_
  refine ps_cqi (wc := ps_shW h0 q1 q2 q3 cx cy cz pl pw ++ ps_trW cI cZ q1 a1 n1 g1 ++ ps_trW cI cZ q2 a2 n2 g2 ++ ps_lsW cI q3 b lf le lh) (wr := [(o0, .inl (cL, 1, .inr (.inl ov)))]) (w1 := ps_shW h0 q1 q2 q3 cx cy cz pl pw ++ ps_trW cI cZ q1 a1 n1 (va_up g1 4 (upd (g1 4) k v)) ++ ps_trW cI cZ q2 a2 n2 g2 ++ ps_lsW cI q3 b lf le lh) (ws2 := ps_shW h0 q1 q2 q3 cx cy cz pl pw ++ ps_trW cI cZ q1 a1 n1 (va_up g1 4 (upd (g1 4) k v)) ++ ps_trW cI cZ q2 a2 n2 g2 ++ ps_lsW cI q3 b lf le lh ++ [(o0, .inl (cL, 1, .inr (.inl ov)))]) (va_runV (C := RX2) (As := [.int id, .int v]) (rest := [.int 0, .ref o0]) ⟨hx, hb, hml, hown, hT⟩ (mX2_recolour_n l dC dI cI cZ h0 q1 q2 q3 b a1 a2 n1 n2 g1 g2 lf le lh cx cy cz pl pw hn1 id v k hf _) (cwV 2 hT (ps_gV tw_ml_L_23 tw_im_X2_recolour tw_se_X2_recolour tw_in_X2 tw_co_X2_recolour) rfl rfl rfl ⟨rfl, by decide, by decide, by decide +kernel⟩ ⟨Nat.le_of_ble_eq_true rfl, Nat.le_of_ble_eq_true rfl⟩) (ps_qreV (wc := ps_shW h0 q1 q2 q3 cx cy cz pl pw ++ ps_trW cI cZ q1 a1 n1 g1 ++ ps_trW cI cZ q2 a2 n2 g2 ++ ps_lsW cI q3 b lf le lh) (ci := 2) [0, 1, 2, 3, 4, 5, 6, 7, 8, 9, 10, 11, 12, 13, 14, 15, 16, 17, 18, 19, 20] hN hP hK hD rfl rfl rfl rfl rfl) rfl rfl hl.1 rfl (lv_room (Nat.le_of_ble_eq_true rfl)) dL_recolour_5 ⟨Nat.le_of_ble_eq_true rfl, Nat.le_of_ble_eq_true rfl⟩) hS hA hP hD [0, 1, 2, 3, 4, 5, 6, 7, 8, 9, 10, 11, 12, 13, 14, 15, 16, 17, 18, 19, 20] [21] [1, 2, 3, 4, 5, 6, 7, 8, 9, 10, 11, 12, 13, 14, 15, 16, 17, 18, 19, 20, 21, 0] rfl rfl rfl (by decide) rfl rfl rfl (fun H locs hP hD hS => ?_)
  refine lv_i2l (v := (g1 4 k).toInt64) hx hb dL_recolour_8 rfl ?_
  refine va_last hx hb hK3 hP hD hS 21 2 rfl rfl (by unfold vp_in; decide) dL_recolour_9 (fun H locs hP hD hS => ?_)
  have hP : va_P (dC, dI) vwCl (ps_shW h0 q1 q2 q3 cx cy cz pl pw ++ ps_trW cI cZ q1 a1 n1 (va_up g1 4 (upd (g1 4) k v)) ++ ps_trW cI cZ q2 a2 n2 g2 ++ ps_lsW cI q3 b lf le lh ++ [(o0, .inl (cL, 1, .inr (.inl (vp_updL ov 0 ((g1 4 k).toInt64)))))]) H := hP
  have hD : va_D A (ps_shW h0 q1 q2 q3 cx cy cz pl pw ++ ps_trW cI cZ q1 a1 n1 (va_up g1 4 (upd (g1 4) k v)) ++ ps_trW cI cZ q2 a2 n2 g2 ++ ps_lsW cI q3 b lf le lh ++ [(o0, .inl (cL, 1, .inr (.inl (vp_updL ov 0 ((g1 4 k).toInt64)))))]) := hD
  refine lv_goto (tgt := 17) hx hb dL_recolour_10 rfl ?_
  refine lv_iconst (v := 0) hx hb dL_recolour_17 (by decide) ?_
  refine W.widen (k := 1) (n := 6) (Nat.le_of_ble_eq_true rfl) (Nat.le_of_ble_eq_true rfl) ?_
  exact W.iret (v := 0) hx hb hr (fun t ht hW => ⟨⟨0, (), rfl, rfl, by rw [ht]; exact hP, va_K.moved hW.alike hK3, hD⟩, hS.F ht⟩) hS.2.2 dL_recolour_18
set_option maxHeartbeats 4000000 in
set_option maxRecDepth 100000 in
theorem mL_recolour_x (l : Launch) (hlt : l.stackTraces = false) (dC : Nat → ClassId) (dI : Nat → Nat → Nat) (cI cZ : ClassId) (h0 q1 q2 q3 b : Nat) (a1 a2 : Nat → Nat) (n1 n2 : Nat) (g1 g2 : ps_G) (lf le : Nat) (lh : Nat → Int32) (cx cy cz pl pw : Int32) (cL : ClassId) (o0 : Nat) (ov : Nat → Int64) (hn1 : n1 ≤ 48) (id : Int32) (hf : ps_fi (g1 0) id n1 = none) (v : Int32) (sz : Nat) : Met l yL_recolour (.codeWith yL_recolour cL_recolour 5 (some .int) hhL_recolour :: ps_T) ({ frames := 8, cells := 1, slots := 6, locals := 136 }) (ps_xc (dC, dI) (ps_ty3 cI cZ cL) (ps_shW h0 q1 q2 q3 cx cy cz pl pw ++ ps_trW cI cZ q1 a1 n1 g1 ++ ps_trW cI cZ q2 a2 n2 g2 ++ ps_lsW cI q3 b lf le lh ++ [(o0, .inl (cL, 1, .inr (.inl ov)))]) sz [.ref h0, .int id, .int v, .ref o0]) (va_Qi (fun (r : Int32) (_ : Unit) => r = 1) (ps_qB (dC, dI) (ps_ty3 cI cZ cL) (va_A (ps_shW h0 q1 q2 q3 cx cy cz pl pw ++ ps_trW cI cZ q1 a1 n1 g1 ++ ps_trW cI cZ q2 a2 n2 g2 ++ ps_lsW cI q3 b lf le lh ++ [(o0, .inl (cL, 1, .inr (.inl ov)))]) sz) (ps_shW h0 q1 q2 q3 cx cy cz pl pw ++ ps_trW cI cZ q1 a1 n1 g1 ++ ps_trW cI cZ q2 a2 n2 g2 ++ ps_lsW cI q3 b lf le lh ++ [(o0, .inl (cL, 1, .inr (.inl ov)))])) (va_A (ps_shW h0 q1 q2 q3 cx cy cz pl pw ++ ps_trW cI cZ q1 a1 n1 g1 ++ ps_trW cI cZ q2 a2 n2 g2 ++ ps_lsW cI q3 b lf le lh ++ [(o0, .inl (cL, 1, .inr (.inl ov)))]) sz)) 1 6 (va_A (ps_shW h0 q1 q2 q3 cx cy cz pl pw ++ ps_trW cI cZ q1 a1 n1 g1 ++ ps_trW cI cZ q2 a2 n2 g2 ++ ps_lsW cI q3 b lf le lh ++ [(o0, .inl (cL, 1, .inr (.inl ov)))]) sz) := by
  refine va_MetW (cc := cL_recolour) (maxL := 5) (ret := (some .int)) (hh := hhL_recolour) (by decide) rfl ?_
  intro p e s m args below meth c s₁ B hml hv
  obtain ⟨rfl, hsz, hN, hE, hZ, hP, hK3, hD0⟩ := hv
  have hK : va_K (dC, dI) vwCl (ps_ty cI cZ) s := hK3.sub [0, 1] rfl
  have hx := B.exec
  have hb := B.bytes
  have hr := B.returns
  have hlocks := B.notSynchronized
  have hts := atoms_spec (ws := (.codeWith yL_recolour cL_recolour 5 (some .int) hhL_recolour :: ps_T)) B.pre
  have hT : ∀ w ∈ ps_T, w.before ([.ref h0, .int id, .int v, .ref o0] : List Value).toArray s = true := fun w h => hts w (List.mem_cons_of_mem _ h)
  have htab := vx_table (x := yL_recolour) B (hts _ List.mem_cons_self)
  have hown : s.vm.findClass RL = some m.cls := findClass_of_methodNamed B.named
  subst hsz
  have hD := hD0.self (sz := s.heap.size)
  generalize hAe : va_A (ps_shW h0 q1 q2 q3 cx cy cz pl pw ++ ps_trW cI cZ q1 a1 n1 g1 ++ ps_trW cI cZ q2 a2 n2 g2 ++ ps_lsW cI q3 b lf le lh ++ [(o0, .inl (cL, 1, .inr (.inl ov)))]) s.heap.size = A at hD hZ ⊢
  have hA : ∀ q : Nat, s.heap.size ≤ q → A q := fun q h => by rw [← hAe]; exact Or.inr h
  have hS : va_S A s.heap s.heap [] := va_S.rf
  have hl := lv_entry ([.ref h0, .int id, .int v, .ref o0]) (n := 5) (Nat.le_of_ble_eq_true rfl)
  rw [lg_entry_eq]
  generalize (lg_sl ([.ref h0, .int id, .int v, .ref o0]) ++ List.replicate (5 - (lg_sl ([.ref h0, .int id, .int v, .ref o0])).length) Slot.unset).toArray = ls at hl ⊢
  have hl : lv_has ls 5 [(0, .ref h0), (1, .int id), (2, .int v), (3, .ref o0)] := hl
  refine lv_aload_n hx hb dL_recolour_0 rfl (lv_at hl 3 rfl) ?_
  refine lv_iconst (v := 0) hx hb dL_recolour_1 (by decide) ?_
  refine lv_aload_n hx hb dL_recolour_2 rfl (lv_at hl 0 rfl) ?_
  refine lv_iload_n hx hb dL_recolour_3 rfl (lv_at hl 1 rfl) ?_
  refine lv_iload_n hx hb dL_recolour_4 rfl (lv_at hl 2 rfl) ?_
  refine ps_cx (wc := ps_shW h0 q1 q2 q3 cx cy cz pl pw ++ ps_trW cI cZ q1 a1 n1 g1 ++ ps_trW cI cZ q2 a2 n2 g2 ++ ps_lsW cI q3 b lf le lh) (wr := [(o0, .inl (cL, 1, .inr (.inl ov)))]) (w1 := ps_shW h0 q1 q2 q3 cx cy cz pl pw ++ ps_trW cI cZ q1 a1 n1 g1 ++ ps_trW cI cZ q2 a2 n2 g2 ++ ps_lsW cI q3 b lf le lh) (ws2 := ps_shW h0 q1 q2 q3 cx cy cz pl pw ++ ps_trW cI cZ q1 a1 n1 g1 ++ ps_trW cI cZ q2 a2 n2 g2 ++ ps_lsW cI q3 b lf le lh ++ [(o0, .inl (cL, 1, .inr (.inl ov)))]) (vx_runV (C := RX2) (As := [.int id, .int v]) (rest := [.int 0, .ref o0]) ⟨hx, hb, hml, hown, hT⟩ (mX2_recolour_x l hlt dC dI cI cZ h0 q1 q2 q3 b a1 a2 n1 n2 g1 g2 lf le lh cx cy cz pl pw hn1 id hf v _) (cwV 2 hT (ps_gV tw_ml_L_23 tw_im_X2_recolour tw_se_X2_recolour tw_in_X2 tw_co_X2_recolour) rfl rfl rfl ⟨rfl, by decide, by decide, by decide +kernel⟩ ⟨Nat.le_of_ble_eq_true rfl, Nat.le_of_ble_eq_true rfl⟩) (ps_xreV (wc := ps_shW h0 q1 q2 q3 cx cy cz pl pw ++ ps_trW cI cZ q1 a1 n1 g1 ++ ps_trW cI cZ q2 a2 n2 g2 ++ ps_lsW cI q3 b lf le lh) (ci := 2) [0, 1, 2, 3, 4, 5, 6, 7, 8, 9, 10, 11, 12, 13, 14, 15, 16, 17, 18, 19, 20] hN hE hZ hS hA hP hK hD rfl rfl rfl rfl rfl) rfl rfl hl.1 rfl (lv_room (Nat.le_of_ble_eq_true rfl)) dL_recolour_5 ⟨Nat.le_of_ble_eq_true rfl, Nat.le_of_ble_eq_true rfl⟩) hS hA hP hD [0, 1, 2, 3, 4, 5, 6, 7, 8, 9, 10, 11, 12, 13, 14, 15, 16, 17, 18, 19, 20] [21] [1, 2, 3, 4, 5, 6, 7, 8, 9, 10, 11, 12, 13, 14, 15, 16, 17, 18, 19, 20, 21, 0] rfl rfl rfl (by decide) rfl rfl rfl (fun ce q9 H locs hP hD hS hce hcv hcl => ?_)
  refine vx_catch (E := "java/util/NoSuchElementException") (name := "java/util/NoSuchElementException") hown [] ⟨0, 10, 13, 21⟩ [] (by rw [htab]; rfl) (fun z hz => by cases hz) (by decide) (by decide) (hT _ tw_cl_L_21) (va_Nw.use rfl (hE.1.1 _ (by decide +kernel))) hce hcv hcl ?_
  refine lv_astore (lv' := [(4, .ref q9), (0, .ref h0), (1, .int id), (2, .int v), (3, .ref o0)]) hx hb dL_recolour_13 hl (by decide) rfl (fun ls hl => ?_)
  refine lv_iconst (v := 1) hx hb dL_recolour_15 (by decide) ?_
  refine W.widen (k := 1) (n := 6) (Nat.le_of_ble_eq_true rfl) (Nat.le_of_ble_eq_true rfl) ?_
  exact W.iret (v := 1) hx hb hr (fun t ht hW => ⟨⟨1, (), rfl, rfl, by rw [ht]; exact hP, va_K.moved hW.alike hK3, hD⟩, hS.F ht⟩) hS.2.2 dL_recolour_16
set_option maxHeartbeats 4000000 in
set_option maxRecDepth 100000 in
theorem mL_field_n (l : Launch) (hlt : l.stackTraces = false) (dC : Nat → ClassId) (dI : Nat → Nat → Nat) (cI cZ : ClassId) (h0 q1 q2 q3 b : Nat) (a1 a2 : Nat → Nat) (n1 n2 : Nat) (g1 g2 : ps_G) (lf le : Nat) (lh : Nat → Int32) (cx cy cz pl pw : Int32) (cL : ClassId) (o0 : Nat) (ov : Nat → Int64) (hn1 : n1 ≤ 48) (id fd : Int32) (h0f : ¬ fd < 0) (h4f : fd ≤ 4) (k : Nat) (hf : ps_fi (g1 0) id n1 = some k) (sz : Nat) : Met l yL_field (.codeWith yL_field cL_field 5 (some .int) hhL_field :: ps_T) ({ frames := 3, cells := 1, slots := 6, locals := 67 }) (ps_xc (dC, dI) (ps_ty3 cI cZ cL) (ps_shW h0 q1 q2 q3 cx cy cz pl pw ++ ps_trW cI cZ q1 a1 n1 g1 ++ ps_trW cI cZ q2 a2 n2 g2 ++ ps_lsW cI q3 b lf le lh ++ [(o0, .inl (cL, 1, .inr (.inl ov)))]) sz [.ref h0, .int id, .int fd, .ref o0]) (va_Qi (fun (r : Int32) (_ : Unit) => r = 0) (ps_qB (dC, dI) (ps_ty3 cI cZ cL) (va_A (ps_shW h0 q1 q2 q3 cx cy cz pl pw ++ ps_trW cI cZ q1 a1 n1 g1 ++ ps_trW cI cZ q2 a2 n2 g2 ++ ps_lsW cI q3 b lf le lh ++ [(o0, .inl (cL, 1, .inr (.inl ov)))]) sz) (ps_shW h0 q1 q2 q3 cx cy cz pl pw ++ ps_trW cI cZ q1 a1 n1 g1 ++ ps_trW cI cZ q2 a2 n2 g2 ++ ps_lsW cI q3 b lf le lh ++ [(o0, .inl (cL, 1, .inr (.inl (vp_updL ov 0 (ps_fv g1 k fd).toInt64))))])) (va_A (ps_shW h0 q1 q2 q3 cx cy cz pl pw ++ ps_trW cI cZ q1 a1 n1 g1 ++ ps_trW cI cZ q2 a2 n2 g2 ++ ps_lsW cI q3 b lf le lh ++ [(o0, .inl (cL, 1, .inr (.inl ov)))]) sz)) 1 6 (va_A (ps_shW h0 q1 q2 q3 cx cy cz pl pw ++ ps_trW cI cZ q1 a1 n1 g1 ++ ps_trW cI cZ q2 a2 n2 g2 ++ ps_lsW cI q3 b lf le lh ++ [(o0, .inl (cL, 1, .inr (.inl ov)))]) sz) := by
  refine va_MetW (cc := cL_field) (maxL := 5) (ret := (some .int)) (hh := hhL_field) (by decide) rfl ?_
  intro p e s m args below meth c s₁ B hml hv
  obtain ⟨rfl, hsz, hN, hE, hZ, hP, hK3, hD0⟩ := hv
  have hK : va_K (dC, dI) vwCl (ps_ty cI cZ) s := hK3.sub [0, 1] rfl
  have hx := B.exec
  have hb := B.bytes
  have hr := B.returns
  have hlocks := B.notSynchronized
  have hts := atoms_spec (ws := (.codeWith yL_field cL_field 5 (some .int) hhL_field :: ps_T)) B.pre
  have hT : ∀ w ∈ ps_T, w.before ([.ref h0, .int id, .int fd, .ref o0] : List Value).toArray s = true := fun w h => hts w (List.mem_cons_of_mem _ h)
  have htab := vx_table (x := yL_field) B (hts _ List.mem_cons_self)
  have hown : s.vm.findClass RL = some m.cls := findClass_of_methodNamed B.named
  subst hsz
  have hD := hD0.self (sz := s.heap.size)
  generalize hAe : va_A (ps_shW h0 q1 q2 q3 cx cy cz pl pw ++ ps_trW cI cZ q1 a1 n1 g1 ++ ps_trW cI cZ q2 a2 n2 g2 ++ ps_lsW cI q3 b lf le lh ++ [(o0, .inl (cL, 1, .inr (.inl ov)))]) s.heap.size = A at hD hZ ⊢
  have hA : ∀ q : Nat, s.heap.size ≤ q → A q := fun q h => by rw [← hAe]; exact Or.inr h
  have hS : va_S A s.heap s.heap [] := va_S.rf
  have hl := lv_entry ([.ref h0, .int id, .int fd, .ref o0]) (n := 5) (Nat.le_of_ble_eq_true rfl)
  rw [lg_entry_eq]
  generalize (lg_sl ([.ref h0, .int id, .int fd, .ref o0]) ++ List.replicate (5 - (lg_sl ([.ref h0, .int id, .int fd, .ref o0])).length) Slot.unset).toArray = ls at hl ⊢
  have hl : lv_has ls 5 [(0, .ref h0), (1, .int id), (2, .int fd), (3, .ref o0)] := hl
  refine lv_aload_n hx hb dL_field_0 rfl (lv_at hl 3 rfl) ?_
  refine lv_iconst (v := 0) hx hb dL_field_1 (by decide) ?_
  refine lv_aload_n hx hb dL_field_2 rfl (lv_at hl 0 rfl) ?_
  refine lv_iload_n hx hb dL_field_3 rfl (lv_at hl 1 rfl) ?_
  refine lv_iload_n hx hb dL_field_4 rfl (lv_at hl 2 rfl) ?_
  refine vp_callSi (va_Run.run (va_runV (C := RX2) (As := [.int id, .int fd]) (rest := [.int 0, .ref o0]) ⟨hx, hb, hml, hown, hT⟩ (mX2_field_n l dC dI cI cZ h0 q1 q2 q3 b a1 a2 n1 n2 g1 g2 lf le lh cx cy cz pl pw hn1 id fd h0f h4f k hf) (cwV 2 hT (ps_gV tw_ml_L_27 tw_im_X2_field tw_se_X2_field tw_in_X2 tw_co_X2_field) rfl rfl rfl ⟨rfl, by decide, by decide, by decide +kernel⟩ ⟨Nat.le_of_ble_eq_true rfl, Nat.le_of_ble_eq_true rfl⟩) (ps_preV (ci := 2) (q0 := 0) hN (hP.sub (ws' := ps_shW h0 q1 q2 q3 cx cy cz pl pw ++ ps_trW cI cZ q1 a1 n1 g1 ++ ps_trW cI cZ q2 a2 n2 g2 ++ ps_lsW cI q3 b lf le lh) [0, 1, 2, 3, 4, 5, 6, 7, 8, 9, 10, 11, 12, 13, 14, 15, 16, 17, 18, 19, 20] rfl) hK rfl rfl) rfl rfl hl.1 rfl (lv_room (Nat.le_of_ble_eq_true rfl)) dL_field_5 ⟨Nat.le_of_ble_eq_true rfl, Nat.le_of_ble_eq_true rfl⟩)) (fun r hr9 => ?_)
  obtain rfl : r = ps_fv g1 k fd := hr9
  refine lv_i2l (v := (ps_fv g1 k fd).toInt64) hx hb dL_field_8 rfl ?_
  refine va_last hx hb hK3 hP hD hS 21 2 rfl rfl (by unfold vp_in; decide) dL_field_9 (fun H locs hP hD hS => ?_)
  have hP : va_P (dC, dI) vwCl (ps_shW h0 q1 q2 q3 cx cy cz pl pw ++ ps_trW cI cZ q1 a1 n1 g1 ++ ps_trW cI cZ q2 a2 n2 g2 ++ ps_lsW cI q3 b lf le lh ++ [(o0, .inl (cL, 1, .inr (.inl (vp_updL ov 0 ((ps_fv g1 k fd).toInt64)))))]) H := hP
  have hD : va_D A (ps_shW h0 q1 q2 q3 cx cy cz pl pw ++ ps_trW cI cZ q1 a1 n1 g1 ++ ps_trW cI cZ q2 a2 n2 g2 ++ ps_lsW cI q3 b lf le lh ++ [(o0, .inl (cL, 1, .inr (.inl (vp_updL ov 0 ((ps_fv g1 k fd).toInt64)))))]) := hD
  refine lv_goto (tgt := 21) hx hb dL_field_10 rfl ?_
  refine lv_iconst (v := 0) hx hb dL_field_21 (by decide) ?_
  refine W.widen (k := 1) (n := 6) (Nat.le_of_ble_eq_true rfl) (Nat.le_of_ble_eq_true rfl) ?_
  exact W.iret (v := 0) hx hb hr (fun t ht hW => ⟨⟨0, (), rfl, rfl, by rw [ht]; exact hP, va_K.moved hW.alike hK3, hD⟩, hS.F ht⟩) hS.2.2 dL_field_22
set_option maxHeartbeats 4000000 in
set_option maxRecDepth 100000 in
theorem mL_field_x1 (l : Launch) (hlt : l.stackTraces = false) (dC : Nat → ClassId) (dI : Nat → Nat → Nat) (cI cZ : ClassId) (h0 q1 q2 q3 b : Nat) (a1 a2 : Nat → Nat) (n1 n2 : Nat) (g1 g2 : ps_G) (lf le : Nat) (lh : Nat → Int32) (cx cy cz pl pw : Int32) (cL : ClassId) (o0 : Nat) (ov : Nat → Int64) (id fd : Int32) (hbad : fd < 0 ∨ 4 < fd) (sz : Nat) : Met l yL_field (.codeWith yL_field cL_field 5 (some .int) hhL_field :: ps_T) ({ frames := 7, cells := 1, slots := 6, locals := 113 }) (ps_xc (dC, dI) (ps_ty3 cI cZ cL) (ps_shW h0 q1 q2 q3 cx cy cz pl pw ++ ps_trW cI cZ q1 a1 n1 g1 ++ ps_trW cI cZ q2 a2 n2 g2 ++ ps_lsW cI q3 b lf le lh ++ [(o0, .inl (cL, 1, .inr (.inl ov)))]) sz [.ref h0, .int id, .int fd, .ref o0]) (va_Qi (fun (r : Int32) (_ : Unit) => r = 1) (ps_qB (dC, dI) (ps_ty3 cI cZ cL) (va_A (ps_shW h0 q1 q2 q3 cx cy cz pl pw ++ ps_trW cI cZ q1 a1 n1 g1 ++ ps_trW cI cZ q2 a2 n2 g2 ++ ps_lsW cI q3 b lf le lh ++ [(o0, .inl (cL, 1, .inr (.inl ov)))]) sz) (ps_shW h0 q1 q2 q3 cx cy cz pl pw ++ ps_trW cI cZ q1 a1 n1 g1 ++ ps_trW cI cZ q2 a2 n2 g2 ++ ps_lsW cI q3 b lf le lh ++ [(o0, .inl (cL, 1, .inr (.inl ov)))])) (va_A (ps_shW h0 q1 q2 q3 cx cy cz pl pw ++ ps_trW cI cZ q1 a1 n1 g1 ++ ps_trW cI cZ q2 a2 n2 g2 ++ ps_lsW cI q3 b lf le lh ++ [(o0, .inl (cL, 1, .inr (.inl ov)))]) sz)) 1 6 (va_A (ps_shW h0 q1 q2 q3 cx cy cz pl pw ++ ps_trW cI cZ q1 a1 n1 g1 ++ ps_trW cI cZ q2 a2 n2 g2 ++ ps_lsW cI q3 b lf le lh ++ [(o0, .inl (cL, 1, .inr (.inl ov)))]) sz) := by
  refine va_MetW (cc := cL_field) (maxL := 5) (ret := (some .int)) (hh := hhL_field) (by decide) rfl ?_
  intro p e s m args below meth c s₁ B hml hv
  obtain ⟨rfl, hsz, hN, hE, hZ, hP, hK3, hD0⟩ := hv
  have hK : va_K (dC, dI) vwCl (ps_ty cI cZ) s := hK3.sub [0, 1] rfl
  have hx := B.exec
  have hb := B.bytes
  have hr := B.returns
  have hlocks := B.notSynchronized
  have hts := atoms_spec (ws := (.codeWith yL_field cL_field 5 (some .int) hhL_field :: ps_T)) B.pre
  have hT : ∀ w ∈ ps_T, w.before ([.ref h0, .int id, .int fd, .ref o0] : List Value).toArray s = true := fun w h => hts w (List.mem_cons_of_mem _ h)
  have htab := vx_table (x := yL_field) B (hts _ List.mem_cons_self)
  have hown : s.vm.findClass RL = some m.cls := findClass_of_methodNamed B.named
  subst hsz
  have hD := hD0.self (sz := s.heap.size)
  generalize hAe : va_A (ps_shW h0 q1 q2 q3 cx cy cz pl pw ++ ps_trW cI cZ q1 a1 n1 g1 ++ ps_trW cI cZ q2 a2 n2 g2 ++ ps_lsW cI q3 b lf le lh ++ [(o0, .inl (cL, 1, .inr (.inl ov)))]) s.heap.size = A at hD hZ ⊢
  have hA : ∀ q : Nat, s.heap.size ≤ q → A q := fun q h => by rw [← hAe]; exact Or.inr h
  have hS : va_S A s.heap s.heap [] := va_S.rf
  have hl := lv_entry ([.ref h0, .int id, .int fd, .ref o0]) (n := 5) (Nat.le_of_ble_eq_true rfl)
  rw [lg_entry_eq]
  generalize (lg_sl ([.ref h0, .int id, .int fd, .ref o0]) ++ List.replicate (5 - (lg_sl ([.ref h0, .int id, .int fd, .ref o0])).length) Slot.unset).toArray = ls at hl ⊢
  have hl : lv_has ls 5 [(0, .ref h0), (1, .int id), (2, .int fd), (3, .ref o0)] := hl
  refine lv_aload_n hx hb dL_field_0 rfl (lv_at hl 3 rfl) ?_
  refine lv_iconst (v := 0) hx hb dL_field_1 (by decide) ?_
  refine lv_aload_n hx hb dL_field_2 rfl (lv_at hl 0 rfl) ?_
  refine lv_iload_n hx hb dL_field_3 rfl (lv_at hl 1 rfl) ?_
  refine lv_iload_n hx hb dL_field_4 rfl (lv_at hl 2 rfl) ?_
  refine ps_cx (wc := ps_shW h0 q1 q2 q3 cx cy cz pl pw ++ ps_trW cI cZ q1 a1 n1 g1 ++ ps_trW cI cZ q2 a2 n2 g2 ++ ps_lsW cI q3 b lf le lh) (wr := [(o0, .inl (cL, 1, .inr (.inl ov)))]) (w1 := ps_shW h0 q1 q2 q3 cx cy cz pl pw ++ ps_trW cI cZ q1 a1 n1 g1 ++ ps_trW cI cZ q2 a2 n2 g2 ++ ps_lsW cI q3 b lf le lh) (ws2 := ps_shW h0 q1 q2 q3 cx cy cz pl pw ++ ps_trW cI cZ q1 a1 n1 g1 ++ ps_trW cI cZ q2 a2 n2 g2 ++ ps_lsW cI q3 b lf le lh ++ [(o0, .inl (cL, 1, .inr (.inl ov)))]) (vx_runV (C := RX2) (As := [.int id, .int fd]) (rest := [.int 0, .ref o0]) ⟨hx, hb, hml, hown, hT⟩ (mX2_field_x1 l hlt dC dI cI cZ h0 q1 q2 q3 b a1 a2 n1 n2 g1 g2 lf le lh cx cy cz pl pw id fd hbad _) (cwV 2 hT (ps_gV tw_ml_L_27 tw_im_X2_field tw_se_X2_field tw_in_X2 tw_co_X2_field) rfl rfl rfl ⟨rfl, by decide, by decide, by decide +kernel⟩ ⟨Nat.le_of_ble_eq_true rfl, Nat.le_of_ble_eq_true rfl⟩) (ps_xreV (wc := ps_shW h0 q1 q2 q3 cx cy cz pl pw ++ ps_trW cI cZ q1 a1 n1 g1 ++ ps_trW cI cZ q2 a2 n2 g2 ++ ps_lsW cI q3 b lf le lh) (ci := 2) [0, 1, 2, 3, 4, 5, 6, 7, 8, 9, 10, 11, 12, 13, 14, 15, 16, 17, 18, 19, 20] hN hE hZ hS hA hP hK hD rfl rfl rfl rfl rfl) rfl rfl hl.1 rfl (lv_room (Nat.le_of_ble_eq_true rfl)) dL_field_5 ⟨Nat.le_of_ble_eq_true rfl, Nat.le_of_ble_eq_true rfl⟩) hS hA hP hD [0, 1, 2, 3, 4, 5, 6, 7, 8, 9, 10, 11, 12, 13, 14, 15, 16, 17, 18, 19, 20] [21] [1, 2, 3, 4, 5, 6, 7, 8, 9, 10, 11, 12, 13, 14, 15, 16, 17, 18, 19, 20, 21, 0] rfl rfl rfl (by decide) rfl rfl rfl (fun ce q9 H locs hP hD hS hce hcv hcl => ?_)
  refine vx_catch (E := "java/lang/IllegalArgumentException") (name := "java/lang/IllegalArgumentException") hown [] ⟨0, 10, 13, 13⟩ [⟨0, 10, 17, 21⟩] (by rw [htab]; rfl) (fun z hz => by cases hz) (by decide) (by decide) (hT _ tw_cl_L_13) (va_Nw.use rfl (hE.1.1 _ (by decide +kernel))) hce hcv hcl ?_
  refine lv_astore (lv' := [(4, .ref q9), (0, .ref h0), (1, .int id), (2, .int fd), (3, .ref o0)]) hx hb dL_field_13 hl (by decide) rfl (fun ls hl => ?_)
  refine lv_iconst (v := 1) hx hb dL_field_15 (by decide) ?_
  refine W.widen (k := 1) (n := 6) (Nat.le_of_ble_eq_true rfl) (Nat.le_of_ble_eq_true rfl) ?_
  exact W.iret (v := 1) hx hb hr (fun t ht hW => ⟨⟨1, (), rfl, rfl, by rw [ht]; exact hP, va_K.moved hW.alike hK3, hD⟩, hS.F ht⟩) hS.2.2 dL_field_16
set_option maxHeartbeats 4000000 in
set_option maxRecDepth 100000 in
theorem mL_field_x2 (l : Launch) (hlt : l.stackTraces = false) (dC : Nat → ClassId) (dI : Nat → Nat → Nat) (cI cZ : ClassId) (h0 q1 q2 q3 b : Nat) (a1 a2 : Nat → Nat) (n1 n2 : Nat) (g1 g2 : ps_G) (lf le : Nat) (lh : Nat → Int32) (cx cy cz pl pw : Int32) (cL : ClassId) (o0 : Nat) (ov : Nat → Int64) (hn1 : n1 ≤ 48) (id : Int32) (hf : ps_fi (g1 0) id n1 = none) (fd : Int32) (h0f : ¬ fd < 0) (h4f : fd ≤ 4) (sz : Nat) : Met l yL_field (.codeWith yL_field cL_field 5 (some .int) hhL_field :: ps_T) ({ frames := 8, cells := 1, slots := 6, locals := 135 }) (ps_xc (dC, dI) (ps_ty3 cI cZ cL) (ps_shW h0 q1 q2 q3 cx cy cz pl pw ++ ps_trW cI cZ q1 a1 n1 g1 ++ ps_trW cI cZ q2 a2 n2 g2 ++ ps_lsW cI q3 b lf le lh ++ [(o0, .inl (cL, 1, .inr (.inl ov)))]) sz [.ref h0, .int id, .int fd, .ref o0]) (va_Qi (fun (r : Int32) (_ : Unit) => r = 2) (ps_qB (dC, dI) (ps_ty3 cI cZ cL) (va_A (ps_shW h0 q1 q2 q3 cx cy cz pl pw ++ ps_trW cI cZ q1 a1 n1 g1 ++ ps_trW cI cZ q2 a2 n2 g2 ++ ps_lsW cI q3 b lf le lh ++ [(o0, .inl (cL, 1, .inr (.inl ov)))]) sz) (ps_shW h0 q1 q2 q3 cx cy cz pl pw ++ ps_trW cI cZ q1 a1 n1 g1 ++ ps_trW cI cZ q2 a2 n2 g2 ++ ps_lsW cI q3 b lf le lh ++ [(o0, .inl (cL, 1, .inr (.inl ov)))])) (va_A (ps_shW h0 q1 q2 q3 cx cy cz pl pw ++ ps_trW cI cZ q1 a1 n1 g1 ++ ps_trW cI cZ q2 a2 n2 g2 ++ ps_lsW cI q3 b lf le lh ++ [(o0, .inl (cL, 1, .inr (.inl ov)))]) sz)) 1 6 (va_A (ps_shW h0 q1 q2 q3 cx cy cz pl pw ++ ps_trW cI cZ q1 a1 n1 g1 ++ ps_trW cI cZ q2 a2 n2 g2 ++ ps_lsW cI q3 b lf le lh ++ [(o0, .inl (cL, 1, .inr (.inl ov)))]) sz) := by
  refine va_MetW (cc := cL_field) (maxL := 5) (ret := (some .int)) (hh := hhL_field) (by decide) rfl ?_
  intro p e s m args below meth c s₁ B hml hv
  obtain ⟨rfl, hsz, hN, hE, hZ, hP, hK3, hD0⟩ := hv
  have hK : va_K (dC, dI) vwCl (ps_ty cI cZ) s := hK3.sub [0, 1] rfl
  have hx := B.exec
  have hb := B.bytes
  have hr := B.returns
  have hlocks := B.notSynchronized
  have hts := atoms_spec (ws := (.codeWith yL_field cL_field 5 (some .int) hhL_field :: ps_T)) B.pre
  have hT : ∀ w ∈ ps_T, w.before ([.ref h0, .int id, .int fd, .ref o0] : List Value).toArray s = true := fun w h => hts w (List.mem_cons_of_mem _ h)
  have htab := vx_table (x := yL_field) B (hts _ List.mem_cons_self)
  have hown : s.vm.findClass RL = some m.cls := findClass_of_methodNamed B.named
  subst hsz
  have hD := hD0.self (sz := s.heap.size)
  generalize hAe : va_A (ps_shW h0 q1 q2 q3 cx cy cz pl pw ++ ps_trW cI cZ q1 a1 n1 g1 ++ ps_trW cI cZ q2 a2 n2 g2 ++ ps_lsW cI q3 b lf le lh ++ [(o0, .inl (cL, 1, .inr (.inl ov)))]) s.heap.size = A at hD hZ ⊢
  have hA : ∀ q : Nat, s.heap.size ≤ q → A q := fun q h => by rw [← hAe]; exact Or.inr h
  have hS : va_S A s.heap s.heap [] := va_S.rf
  have hl := lv_entry ([.ref h0, .int id, .int fd, .ref o0]) (n := 5) (Nat.le_of_ble_eq_true rfl)
  rw [lg_entry_eq]
  generalize (lg_sl ([.ref h0, .int id, .int fd, .ref o0]) ++ List.replicate (5 - (lg_sl ([.ref h0, .int id, .int fd, .ref o0])).length) Slot.unset).toArray = ls at hl ⊢
  have hl : lv_has ls 5 [(0, .ref h0), (1, .int id), (2, .int fd), (3, .ref o0)] := hl
  refine lv_aload_n hx hb dL_field_0 rfl (lv_at hl 3 rfl) ?_
  refine lv_iconst (v := 0) hx hb dL_field_1 (by decide) ?_
  refine lv_aload_n hx hb dL_field_2 rfl (lv_at hl 0 rfl) ?_
  refine lv_iload_n hx hb dL_field_3 rfl (lv_at hl 1 rfl) ?_
  refine lv_iload_n hx hb dL_field_4 rfl (lv_at hl 2 rfl) ?_
  refine ps_cx (wc := ps_shW h0 q1 q2 q3 cx cy cz pl pw ++ ps_trW cI cZ q1 a1 n1 g1 ++ ps_trW cI cZ q2 a2 n2 g2 ++ ps_lsW cI q3 b lf le lh) (wr := [(o0, .inl (cL, 1, .inr (.inl ov)))]) (w1 := ps_shW h0 q1 q2 q3 cx cy cz pl pw ++ ps_trW cI cZ q1 a1 n1 g1 ++ ps_trW cI cZ q2 a2 n2 g2 ++ ps_lsW cI q3 b lf le lh) (ws2 := ps_shW h0 q1 q2 q3 cx cy cz pl pw ++ ps_trW cI cZ q1 a1 n1 g1 ++ ps_trW cI cZ q2 a2 n2 g2 ++ ps_lsW cI q3 b lf le lh ++ [(o0, .inl (cL, 1, .inr (.inl ov)))]) (vx_runV (C := RX2) (As := [.int id, .int fd]) (rest := [.int 0, .ref o0]) ⟨hx, hb, hml, hown, hT⟩ (mX2_field_x2 l hlt dC dI cI cZ h0 q1 q2 q3 b a1 a2 n1 n2 g1 g2 lf le lh cx cy cz pl pw hn1 id hf fd h0f h4f _) (cwV 2 hT (ps_gV tw_ml_L_27 tw_im_X2_field tw_se_X2_field tw_in_X2 tw_co_X2_field) rfl rfl rfl ⟨rfl, by decide, by decide, by decide +kernel⟩ ⟨Nat.le_of_ble_eq_true rfl, Nat.le_of_ble_eq_true rfl⟩) (ps_xreV (wc := ps_shW h0 q1 q2 q3 cx cy cz pl pw ++ ps_trW cI cZ q1 a1 n1 g1 ++ ps_trW cI cZ q2 a2 n2 g2 ++ ps_lsW cI q3 b lf le lh) (ci := 2) [0, 1, 2, 3, 4, 5, 6, 7, 8, 9, 10, 11, 12, 13, 14, 15, 16, 17, 18, 19, 20] hN hE hZ hS hA hP hK hD rfl rfl rfl rfl rfl) rfl rfl hl.1 rfl (lv_room (Nat.le_of_ble_eq_true rfl)) dL_field_5 ⟨Nat.le_of_ble_eq_true rfl, Nat.le_of_ble_eq_true rfl⟩) hS hA hP hD [0, 1, 2, 3, 4, 5, 6, 7, 8, 9, 10, 11, 12, 13, 14, 15, 16, 17, 18, 19, 20] [21] [1, 2, 3, 4, 5, 6, 7, 8, 9, 10, 11, 12, 13, 14, 15, 16, 17, 18, 19, 20, 21, 0] rfl rfl rfl (by decide) rfl rfl rfl (fun ce q9 H locs hP hD hS hce hcv hcl => ?_)
  refine vx_catch (E := "java/util/NoSuchElementException") (name := "java/util/NoSuchElementException") hown [⟨0, 10, 13, 13⟩] ⟨0, 10, 17, 21⟩ [] (by rw [htab]; rfl) (fun z hz => by
      rcases List.mem_cons.mp hz with rfl | hz
      · exact Or.inr ⟨by decide, "java/lang/IllegalArgumentException", hT _ tw_cl_L_13, hE.2.2 _ (by decide +kernel) _ (by decide +kernel) (by decide)⟩
      · cases hz) (by decide) (by decide) (hT _ tw_cl_L_21) (va_Nw.use rfl (hE.1.1 _ (by decide +kernel))) hce hcv hcl ?_
  refine lv_astore (lv' := [(4, .ref q9), (0, .ref h0), (1, .int id), (2, .int fd), (3, .ref o0)]) hx hb dL_field_17 hl (by decide) rfl (fun ls hl => ?_)
  refine lv_iconst (v := 2) hx hb dL_field_19 (by decide) ?_
  refine W.widen (k := 1) (n := 6) (Nat.le_of_ble_eq_true rfl) (Nat.le_of_ble_eq_true rfl) ?_
  exact W.iret (v := 2) hx hb hr (fun t ht hW => ⟨⟨2, (), rfl, rfl, by rw [ht]; exact hP, va_K.moved hW.alike hK3, hD⟩, hS.F ht⟩) hS.2.2 dL_field_20
set_option maxHeartbeats 4000000 in
set_option maxRecDepth 100000 in
theorem mL_corner_n (l : Launch) (hlt : l.stackTraces = false) (dC : Nat → ClassId) (dI : Nat → Nat → Nat) (cI cZ : ClassId) (h0 q1 q2 q3 b : Nat) (a1 a2 : Nat → Nat) (n1 n2 : Nat) (g1 g2 : ps_G) (lf le : Nat) (lh : Nat → Int32) (cx cy cz pl pw : Int32) (cL : ClassId) (o0 : Nat) (ov : Nat → Int64) (x y z : Int32) (hx0 : ps_co x = true) (hy0 : ps_co y = true) (hz0 : ps_co z = true) (sz : Nat) : Met l yL_corner (.codeWith yL_corner cL_corner 5 (some .int) hhL_corner :: ps_T) ({ frames := 3, cells := 1, slots := 6, locals := 65 }) (ps_xc (dC, dI) (ps_ty3 cI cZ cL) (ps_shW h0 q1 q2 q3 cx cy cz pl pw ++ ps_trW cI cZ q1 a1 n1 g1 ++ ps_trW cI cZ q2 a2 n2 g2 ++ ps_lsW cI q3 b lf le lh ++ [(o0, .inl (cL, 1, .inr (.inl ov)))]) sz [.ref h0, .int x, .int y, .int z]) (va_Qi (fun (r : Int32) (_ : Unit) => r = 0) (ps_qB (dC, dI) (ps_ty3 cI cZ cL) (va_A (ps_shW h0 q1 q2 q3 cx cy cz pl pw ++ ps_trW cI cZ q1 a1 n1 g1 ++ ps_trW cI cZ q2 a2 n2 g2 ++ ps_lsW cI q3 b lf le lh ++ [(o0, .inl (cL, 1, .inr (.inl ov)))]) sz) (ps_shW h0 q1 q2 q3 x y z pl pw ++ ps_trW cI cZ q1 a1 n1 g1 ++ ps_trW cI cZ q2 a2 n2 g2 ++ ps_lsW cI q3 b lf le lh ++ [(o0, .inl (cL, 1, .inr (.inl ov)))])) (va_A (ps_shW h0 q1 q2 q3 cx cy cz pl pw ++ ps_trW cI cZ q1 a1 n1 g1 ++ ps_trW cI cZ q2 a2 n2 g2 ++ ps_lsW cI q3 b lf le lh ++ [(o0, .inl (cL, 1, .inr (.inl ov)))]) sz)) 1 6 (va_A (ps_shW h0 q1 q2 q3 cx cy cz pl pw ++ ps_trW cI cZ q1 a1 n1 g1 ++ ps_trW cI cZ q2 a2 n2 g2 ++ ps_lsW cI q3 b lf le lh ++ [(o0, .inl (cL, 1, .inr (.inl ov)))]) sz) := by
  refine va_MetW (cc := cL_corner) (maxL := 5) (ret := (some .int)) (hh := hhL_corner) (by decide) rfl ?_
  intro p e s m args below meth c s₁ B hml hv
  obtain ⟨rfl, hsz, hN, hE, hZ, hP, hK3, hD0⟩ := hv
  have hK : va_K (dC, dI) vwCl (ps_ty cI cZ) s := hK3.sub [0, 1] rfl
  have hx := B.exec
  have hb := B.bytes
  have hr := B.returns
  have hlocks := B.notSynchronized
  have hts := atoms_spec (ws := (.codeWith yL_corner cL_corner 5 (some .int) hhL_corner :: ps_T)) B.pre
  have hT : ∀ w ∈ ps_T, w.before ([.ref h0, .int x, .int y, .int z] : List Value).toArray s = true := fun w h => hts w (List.mem_cons_of_mem _ h)
  have htab := vx_table (x := yL_corner) B (hts _ List.mem_cons_self)
  have hown : s.vm.findClass RL = some m.cls := findClass_of_methodNamed B.named
  subst hsz
  have hD := hD0.self (sz := s.heap.size)
  generalize hAe : va_A (ps_shW h0 q1 q2 q3 cx cy cz pl pw ++ ps_trW cI cZ q1 a1 n1 g1 ++ ps_trW cI cZ q2 a2 n2 g2 ++ ps_lsW cI q3 b lf le lh ++ [(o0, .inl (cL, 1, .inr (.inl ov)))]) s.heap.size = A at hD hZ ⊢
  have hA : ∀ q : Nat, s.heap.size ≤ q → A q := fun q h => by rw [← hAe]; exact Or.inr h
  have hS : va_S A s.heap s.heap [] := va_S.rf
  have hl := lv_entry ([.ref h0, .int x, .int y, .int z]) (n := 5) (Nat.le_of_ble_eq_true rfl)
  rw [lg_entry_eq]
  generalize (lg_sl ([.ref h0, .int x, .int y, .int z]) ++ List.replicate (5 - (lg_sl ([.ref h0, .int x, .int y, .int z])).length) Slot.unset).toArray = ls at hl ⊢
  have hl : lv_has ls 5 [(0, .ref h0), (1, .int x), (2, .int y), (3, .int z)] := hl
  refine lv_aload_n hx hb dL_corner_0 rfl (lv_at hl 0 rfl) ?_
  refine lv_iload_n hx hb dL_corner_1 rfl (lv_at hl 1 rfl) ?_
  refine lv_iload_n hx hb dL_corner_2 rfl (lv_at hl 2 rfl) ?_
  refine lv_iload_n hx hb dL_corner_3 rfl (lv_at hl 3 rfl) ?_
  refine ps_cqv (wc := ps_shW h0 q1 q2 q3 cx cy cz pl pw ++ ps_trW cI cZ q1 a1 n1 g1 ++ ps_trW cI cZ q2 a2 n2 g2 ++ ps_lsW cI q3 b lf le lh) (wr := [(o0, .inl (cL, 1, .inr (.inl ov)))]) (w1 := ps_shW h0 q1 q2 q3 x y z pl pw ++ ps_trW cI cZ q1 a1 n1 g1 ++ ps_trW cI cZ q2 a2 n2 g2 ++ ps_lsW cI q3 b lf le lh) (ws2 := ps_shW h0 q1 q2 q3 x y z pl pw ++ ps_trW cI cZ q1 a1 n1 g1 ++ ps_trW cI cZ q2 a2 n2 g2 ++ ps_lsW cI q3 b lf le lh ++ [(o0, .inl (cL, 1, .inr (.inl ov)))]) (va_runV (C := RX2) (As := [.int x, .int y, .int z]) (rest := []) ⟨hx, hb, hml, hown, hT⟩ (mX2_corner_n l dC dI cI cZ h0 q1 q2 q3 b a1 a2 n1 n2 g1 g2 lf le lh cx cy cz pl pw x y z hx0 hy0 hz0 _) (cwV 3 hT (ps_gV tw_ml_L_30 tw_im_X2_corner tw_se_X2_corner tw_in_X2 tw_co_X2_corner) rfl rfl rfl ⟨rfl, by decide, by decide, by decide +kernel⟩ ⟨Nat.le_of_ble_eq_true rfl, Nat.le_of_ble_eq_true rfl⟩) (ps_qreV (wc := ps_shW h0 q1 q2 q3 cx cy cz pl pw ++ ps_trW cI cZ q1 a1 n1 g1 ++ ps_trW cI cZ q2 a2 n2 g2 ++ ps_lsW cI q3 b lf le lh) (ci := 2) [0, 1, 2, 3, 4, 5, 6, 7, 8, 9, 10, 11, 12, 13, 14, 15, 16, 17, 18, 19, 20] hN hP hK hD rfl rfl rfl rfl rfl) rfl rfl hl.1 rfl (lv_room (Nat.le_of_ble_eq_true rfl)) dL_corner_4 ⟨Nat.le_of_ble_eq_true rfl, Nat.le_of_ble_eq_true rfl⟩) hS hA hP hD [0, 1, 2, 3, 4, 5, 6, 7, 8, 9, 10, 11, 12, 13, 14, 15, 16, 17, 18, 19, 20] [21] [1, 2, 3, 4, 5, 6, 7, 8, 9, 10, 11, 12, 13, 14, 15, 16, 17, 18, 19, 20, 21, 0] rfl rfl rfl (by decide) rfl rfl rfl (fun H locs hP hD hS => ?_)
  refine lv_goto (tgt := 14) hx hb dL_corner_7 rfl ?_
  refine lv_iconst (v := 0) hx hb dL_corner_14 (by decide) ?_
  refine W.widen (k := 1) (n := 6) (Nat.le_of_ble_eq_true rfl) (Nat.le_of_ble_eq_true rfl) ?_
  exact W.iret (v := 0) hx hb hr (fun t ht hW => ⟨⟨0, (), rfl, rfl, by rw [ht]; exact hP, va_K.moved hW.alike hK3, hD⟩, hS.F ht⟩) hS.2.2 dL_corner_15
set_option maxHeartbeats 4000000 in
set_option maxRecDepth 100000 in
theorem mL_corner_x (l : Launch) (hlt : l.stackTraces = false) (dC : Nat → ClassId) (dI : Nat → Nat → Nat) (cI cZ : ClassId) (h0 q1 q2 q3 b : Nat) (a1 a2 : Nat → Nat) (n1 n2 : Nat) (g1 g2 : ps_G) (lf le : Nat) (lh : Nat → Int32) (cx cy cz pl pw : Int32) (cL : ClassId) (o0 : Nat) (ov : Nat → Int64) (x y z : Int32) (hbad : ¬ (ps_co x = true ∧ ps_co y = true ∧ ps_co z = true)) (sz : Nat) : Met l yL_corner (.codeWith yL_corner cL_corner 5 (some .int) hhL_corner :: ps_T) ({ frames := 8, cells := 1, slots := 6, locals := 135 }) (ps_xc (dC, dI) (ps_ty3 cI cZ cL) (ps_shW h0 q1 q2 q3 cx cy cz pl pw ++ ps_trW cI cZ q1 a1 n1 g1 ++ ps_trW cI cZ q2 a2 n2 g2 ++ ps_lsW cI q3 b lf le lh ++ [(o0, .inl (cL, 1, .inr (.inl ov)))]) sz [.ref h0, .int x, .int y, .int z]) (va_Qi (fun (r : Int32) (_ : Unit) => r = 1) (ps_qB (dC, dI) (ps_ty3 cI cZ cL) (va_A (ps_shW h0 q1 q2 q3 cx cy cz pl pw ++ ps_trW cI cZ q1 a1 n1 g1 ++ ps_trW cI cZ q2 a2 n2 g2 ++ ps_lsW cI q3 b lf le lh ++ [(o0, .inl (cL, 1, .inr (.inl ov)))]) sz) (ps_shW h0 q1 q2 q3 cx cy cz pl pw ++ ps_trW cI cZ q1 a1 n1 g1 ++ ps_trW cI cZ q2 a2 n2 g2 ++ ps_lsW cI q3 b lf le lh ++ [(o0, .inl (cL, 1, .inr (.inl ov)))])) (va_A (ps_shW h0 q1 q2 q3 cx cy cz pl pw ++ ps_trW cI cZ q1 a1 n1 g1 ++ ps_trW cI cZ q2 a2 n2 g2 ++ ps_lsW cI q3 b lf le lh ++ [(o0, .inl (cL, 1, .inr (.inl ov)))]) sz)) 1 6 (va_A (ps_shW h0 q1 q2 q3 cx cy cz pl pw ++ ps_trW cI cZ q1 a1 n1 g1 ++ ps_trW cI cZ q2 a2 n2 g2 ++ ps_lsW cI q3 b lf le lh ++ [(o0, .inl (cL, 1, .inr (.inl ov)))]) sz) := by
  refine va_MetW (cc := cL_corner) (maxL := 5) (ret := (some .int)) (hh := hhL_corner) (by decide) rfl ?_
  intro p e s m args below meth c s₁ B hml hv
  obtain ⟨rfl, hsz, hN, hE, hZ, hP, hK3, hD0⟩ := hv
  have hK : va_K (dC, dI) vwCl (ps_ty cI cZ) s := hK3.sub [0, 1] rfl
  have hx := B.exec
  have hb := B.bytes
  have hr := B.returns
  have hlocks := B.notSynchronized
  have hts := atoms_spec (ws := (.codeWith yL_corner cL_corner 5 (some .int) hhL_corner :: ps_T)) B.pre
  have hT : ∀ w ∈ ps_T, w.before ([.ref h0, .int x, .int y, .int z] : List Value).toArray s = true := fun w h => hts w (List.mem_cons_of_mem _ h)
  have htab := vx_table (x := yL_corner) B (hts _ List.mem_cons_self)
  have hown : s.vm.findClass RL = some m.cls := findClass_of_methodNamed B.named
  subst hsz
  have hD := hD0.self (sz := s.heap.size)
  generalize hAe : va_A (ps_shW h0 q1 q2 q3 cx cy cz pl pw ++ ps_trW cI cZ q1 a1 n1 g1 ++ ps_trW cI cZ q2 a2 n2 g2 ++ ps_lsW cI q3 b lf le lh ++ [(o0, .inl (cL, 1, .inr (.inl ov)))]) s.heap.size = A at hD hZ ⊢
  have hA : ∀ q : Nat, s.heap.size ≤ q → A q := fun q h => by rw [← hAe]; exact Or.inr h
  have hS : va_S A s.heap s.heap [] := va_S.rf
  have hl := lv_entry ([.ref h0, .int x, .int y, .int z]) (n := 5) (Nat.le_of_ble_eq_true rfl)
  rw [lg_entry_eq]
  generalize (lg_sl ([.ref h0, .int x, .int y, .int z]) ++ List.replicate (5 - (lg_sl ([.ref h0, .int x, .int y, .int z])).length) Slot.unset).toArray = ls at hl ⊢
  have hl : lv_has ls 5 [(0, .ref h0), (1, .int x), (2, .int y), (3, .int z)] := hl
  refine lv_aload_n hx hb dL_corner_0 rfl (lv_at hl 0 rfl) ?_
  refine lv_iload_n hx hb dL_corner_1 rfl (lv_at hl 1 rfl) ?_
  refine lv_iload_n hx hb dL_corner_2 rfl (lv_at hl 2 rfl) ?_
  refine lv_iload_n hx hb dL_corner_3 rfl (lv_at hl 3 rfl) ?_
  refine ps_cx (wc := ps_shW h0 q1 q2 q3 cx cy cz pl pw ++ ps_trW cI cZ q1 a1 n1 g1 ++ ps_trW cI cZ q2 a2 n2 g2 ++ ps_lsW cI q3 b lf le lh) (wr := [(o0, .inl (cL, 1, .inr (.inl ov)))]) (w1 := ps_shW h0 q1 q2 q3 cx cy cz pl pw ++ ps_trW cI cZ q1 a1 n1 g1 ++ ps_trW cI cZ q2 a2 n2 g2 ++ ps_lsW cI q3 b lf le lh) (ws2 := ps_shW h0 q1 q2 q3 cx cy cz pl pw ++ ps_trW cI cZ q1 a1 n1 g1 ++ ps_trW cI cZ q2 a2 n2 g2 ++ ps_lsW cI q3 b lf le lh ++ [(o0, .inl (cL, 1, .inr (.inl ov)))]) (vx_runV (C := RX2) (As := [.int x, .int y, .int z]) (rest := []) ⟨hx, hb, hml, hown, hT⟩ (mX2_corner_x l hlt dC dI cI cZ h0 q1 q2 q3 b a1 a2 n1 n2 g1 g2 lf le lh cx cy cz pl pw x y z hbad _) (cwV 3 hT (ps_gV tw_ml_L_30 tw_im_X2_corner tw_se_X2_corner tw_in_X2 tw_co_X2_corner) rfl rfl rfl ⟨rfl, by decide, by decide, by decide +kernel⟩ ⟨Nat.le_of_ble_eq_true rfl, Nat.le_of_ble_eq_true rfl⟩) (ps_xreV (wc := ps_shW h0 q1 q2 q3 cx cy cz pl pw ++ ps_trW cI cZ q1 a1 n1 g1 ++ ps_trW cI cZ q2 a2 n2 g2 ++ ps_lsW cI q3 b lf le lh) (ci := 2) [0, 1, 2, 3, 4, 5, 6, 7, 8, 9, 10, 11, 12, 13, 14, 15, 16, 17, 18, 19, 20] hN hE hZ hS hA hP hK hD rfl rfl rfl rfl rfl) rfl rfl hl.1 rfl (lv_room (Nat.le_of_ble_eq_true rfl)) dL_corner_4 ⟨Nat.le_of_ble_eq_true rfl, Nat.le_of_ble_eq_true rfl⟩) hS hA hP hD [0, 1, 2, 3, 4, 5, 6, 7, 8, 9, 10, 11, 12, 13, 14, 15, 16, 17, 18, 19, 20] [21] [1, 2, 3, 4, 5, 6, 7, 8, 9, 10, 11, 12, 13, 14, 15, 16, 17, 18, 19, 20, 21, 0] rfl rfl rfl (by decide) rfl rfl rfl (fun ce q9 H locs hP hD hS hce hcv hcl => ?_)
  refine vx_catch (E := "java/lang/IllegalArgumentException") (name := "java/lang/IllegalArgumentException") hown [] ⟨0, 7, 10, 13⟩ [] (by rw [htab]; rfl) (fun z hz => by cases hz) (by decide) (by decide) (hT _ tw_cl_L_13) (va_Nw.use rfl (hE.1.1 _ (by decide +kernel))) hce hcv hcl ?_
  refine lv_astore (lv' := [(4, .ref q9), (0, .ref h0), (1, .int x), (2, .int y), (3, .int z)]) hx hb dL_corner_10 hl (by decide) rfl (fun ls hl => ?_)
  refine lv_iconst (v := 1) hx hb dL_corner_12 (by decide) ?_
  refine W.widen (k := 1) (n := 6) (Nat.le_of_ble_eq_true rfl) (Nat.le_of_ble_eq_true rfl) ?_
  exact W.iret (v := 1) hx hb hr (fun t ht hW => ⟨⟨1, (), rfl, rfl, by rw [ht]; exact hP, va_K.moved hW.alike hK3, hD⟩, hS.F ht⟩) hS.2.2 dL_corner_13
set_option maxHeartbeats 4000000 in
set_option maxRecDepth 100000 in
theorem mL_box_n (l : Launch) (hlt : l.stackTraces = false) (dC : Nat → ClassId) (dI : Nat → Nat → Nat) (cI cZ : ClassId) (h0 q1 q2 q3 b : Nat) (a1 a2 : Nat → Nat) (n1 n2 : Nat) (g1 g2 : ps_G) (lf le : Nat) (lh : Nat → Int32) (cx cy cz pl pw : Int32) (cL : ClassId) (o0 : Nat) (ov : Nat → Int64) (hn1 : n1 ≤ 48) (x y z : Int32) (hx0 : ps_co x = true) (hy0 : ps_co y = true) (hz0 : ps_co z = true) (d : Int32) (hd0 : ps_de d = true) (sz : Nat) : Met l yL_box (.codeWith yL_box cL_box 7 (some .int) hhL_box :: ps_T) ({ frames := 4, cells := 1, slots := 6, locals := 92 }) (ps_xc (dC, dI) (ps_ty3 cI cZ cL) (ps_shW h0 q1 q2 q3 cx cy cz pl pw ++ ps_trW cI cZ q1 a1 n1 g1 ++ ps_trW cI cZ q2 a2 n2 g2 ++ ps_lsW cI q3 b lf le lh ++ [(o0, .inl (cL, 1, .inr (.inl ov)))]) sz [.ref h0, .int x, .int y, .int z, .int d, .ref o0]) (va_Qi (fun (r : Int32) (_ : Unit) => r = 0) (ps_qB (dC, dI) (ps_ty3 cI cZ cL) (va_A (ps_shW h0 q1 q2 q3 cx cy cz pl pw ++ ps_trW cI cZ q1 a1 n1 g1 ++ ps_trW cI cZ q2 a2 n2 g2 ++ ps_lsW cI q3 b lf le lh ++ [(o0, .inl (cL, 1, .inr (.inl ov)))]) sz) (ps_shW h0 q1 q2 q3 cx cy cz pl pw ++ ps_trW cI cZ q1 a1 n1 g1 ++ ps_trW cI cZ q2 a2 n2 g2 ++ ps_lsW cI q3 b 0 ((ps_bx g1 (ps_bq g1 cx cy cz x y z d) lh n1).1) ((ps_bx g1 (ps_bq g1 cx cy cz x y z d) lh n1).2) ++ [(o0, .inl (cL, 1, .inr (.inl (vp_updL ov 0 (nI (ps_bx g1 (ps_bq g1 cx cy cz x y z d) lh n1).1).toInt64))))])) (va_A (ps_shW h0 q1 q2 q3 cx cy cz pl pw ++ ps_trW cI cZ q1 a1 n1 g1 ++ ps_trW cI cZ q2 a2 n2 g2 ++ ps_lsW cI q3 b lf le lh ++ [(o0, .inl (cL, 1, .inr (.inl ov)))]) sz)) 1 6 (va_A (ps_shW h0 q1 q2 q3 cx cy cz pl pw ++ ps_trW cI cZ q1 a1 n1 g1 ++ ps_trW cI cZ q2 a2 n2 g2 ++ ps_lsW cI q3 b lf le lh ++ [(o0, .inl (cL, 1, .inr (.inl ov)))]) sz) := by
  refine va_MetW (cc := cL_box) (maxL := 7) (ret := (some .int)) (hh := hhL_box) (by decide) rfl ?_
  intro p e s m args below meth c s₁ B hml hv
  obtain ⟨rfl, hsz, hN, hE, hZ, hP, hK3, hD0⟩ := hv
  have hK : va_K (dC, dI) vwCl (ps_ty cI cZ) s := hK3.sub [0, 1] rfl
  have hx := B.exec
  have hb := B.bytes
  have hr := B.returns
  have hlocks := B.notSynchronized
  have hts := atoms_spec (ws := (.codeWith yL_box cL_box 7 (some .int) hhL_box :: ps_T)) B.pre
  have hT : ∀ w ∈ ps_T, w.before ([.ref h0, .int x, .int y, .int z, .int d, .ref o0] : List Value).toArray s = true := fun w h => hts w (List.mem_cons_of_mem _ h)
  have htab := vx_table (x := yL_box) B (hts _ List.mem_cons_self)
  have hown : s.vm.findClass RL = some m.cls := findClass_of_methodNamed B.named
  subst hsz
  have hD := hD0.self (sz := s.heap.size)
  generalize hAe : va_A (ps_shW h0 q1 q2 q3 cx cy cz pl pw ++ ps_trW cI cZ q1 a1 n1 g1 ++ ps_trW cI cZ q2 a2 n2 g2 ++ ps_lsW cI q3 b lf le lh ++ [(o0, .inl (cL, 1, .inr (.inl ov)))]) s.heap.size = A at hD hZ ⊢
  have hA : ∀ q : Nat, s.heap.size ≤ q → A q := fun q h => by rw [← hAe]; exact Or.inr h
  have hS : va_S A s.heap s.heap [] := va_S.rf
  have hl := lv_entry ([.ref h0, .int x, .int y, .int z, .int d, .ref o0]) (n := 7) (Nat.le_of_ble_eq_true rfl)
  rw [lg_entry_eq]
  generalize (lg_sl ([.ref h0, .int x, .int y, .int z, .int d, .ref o0]) ++ List.replicate (7 - (lg_sl ([.ref h0, .int x, .int y, .int z, .int d, .ref o0])).length) Slot.unset).toArray = ls at hl ⊢
  have hl : lv_has ls 7 [(0, .ref h0), (1, .int x), (2, .int y), (3, .int z), (4, .int d), (5, .ref o0)] := hl
  refine lv_aload hx hb dL_box_0 (lv_at hl 5 rfl) ?_
  refine lv_iconst (v := 0) hx hb dL_box_2 (by decide) ?_
  refine lv_aload_n hx hb dL_box_3 rfl (lv_at hl 0 rfl) ?_
  refine lv_iload_n hx hb dL_box_4 rfl (lv_at hl 1 rfl) ?_
  refine lv_iload_n hx hb dL_box_5 rfl (lv_at hl 2 rfl) ?_
  refine lv_iload_n hx hb dL_box_6 rfl (lv_at hl 3 rfl) ?_
  refine lv_iload hx hb dL_box_7 (lv_at hl 4 rfl) ?_
  refine ps_cqi (wc := ps_shW h0 q1 q2 q3 cx cy cz pl pw ++ ps_trW cI cZ q1 a1 n1 g1 ++ ps_trW cI cZ q2 a2 n2 g2 ++ ps_lsW cI q3 b lf le lh) (wr := [(o0, .inl (cL, 1, .inr (.inl ov)))]) (w1 := ps_shW h0 q1 q2 q3 cx cy cz pl pw ++ ps_trW cI cZ q1 a1 n1 g1 ++ ps_trW cI cZ q2 a2 n2 g2 ++ ps_lsW cI q3 b 0 ((ps_bx g1 (ps_bq g1 cx cy cz x y z d) lh n1).1) ((ps_bx g1 (ps_bq g1 cx cy cz x y z d) lh n1).2)) (ws2 := ps_shW h0 q1 q2 q3 cx cy cz pl pw ++ ps_trW cI cZ q1 a1 n1 g1 ++ ps_trW cI cZ q2 a2 n2 g2 ++ ps_lsW cI q3 b 0 ((ps_bx g1 (ps_bq g1 cx cy cz x y z d) lh n1).1) ((ps_bx g1 (ps_bq g1 cx cy cz x y z d) lh n1).2) ++ [(o0, .inl (cL, 1, .inr (.inl ov)))]) (va_runV (C := RX2) (As := [.int x, .int y, .int z, .int d]) (rest := [.int 0, .ref o0]) ⟨hx, hb, hml, hown, hT⟩ (mX2_box_n l dC dI cI cZ h0 q1 q2 q3 b a1 a2 n1 n2 g1 g2 lf le lh cx cy cz pl pw hn1 x y z hx0 hy0 hz0 d hd0 _) (cwV 4 hT (ps_gV tw_ml_L_34 tw_im_X2_box tw_se_X2_box tw_in_X2 tw_co_X2_box) rfl rfl rfl ⟨rfl, by decide, by decide, by decide +kernel⟩ ⟨Nat.le_of_ble_eq_true rfl, Nat.le_of_ble_eq_true rfl⟩) (ps_qreV (wc := ps_shW h0 q1 q2 q3 cx cy cz pl pw ++ ps_trW cI cZ q1 a1 n1 g1 ++ ps_trW cI cZ q2 a2 n2 g2 ++ ps_lsW cI q3 b lf le lh) (ci := 2) [0, 1, 2, 3, 4, 5, 6, 7, 8, 9, 10, 11, 12, 13, 14, 15, 16, 17, 18, 19, 20] hN hP hK hD rfl rfl rfl rfl rfl) rfl rfl hl.1 rfl (lv_room (Nat.le_of_ble_eq_true rfl)) dL_box_9 ⟨Nat.le_of_ble_eq_true rfl, Nat.le_of_ble_eq_true rfl⟩) hS hA hP hD [0, 1, 2, 3, 4, 5, 6, 7, 8, 9, 10, 11, 12, 13, 14, 15, 16, 17, 18, 19, 20] [21] [1, 2, 3, 4, 5, 6, 7, 8, 9, 10, 11, 12, 13, 14, 15, 16, 17, 18, 19, 20, 21, 0] rfl rfl rfl (by decide) rfl rfl rfl (fun H locs hP hD hS => ?_)
  refine lv_i2l (v := (nI (ps_bx g1 (ps_bq g1 cx cy cz x y z d) lh n1).1).toInt64) hx hb dL_box_12 rfl ?_
  refine va_last hx hb hK3 hP hD hS 21 2 rfl rfl (by unfold vp_in; decide) dL_box_13 (fun H locs hP hD hS => ?_)
  have hP : va_P (dC, dI) vwCl (ps_shW h0 q1 q2 q3 cx cy cz pl pw ++ ps_trW cI cZ q1 a1 n1 g1 ++ ps_trW cI cZ q2 a2 n2 g2 ++ ps_lsW cI q3 b 0 ((ps_bx g1 (ps_bq g1 cx cy cz x y z d) lh n1).1) ((ps_bx g1 (ps_bq g1 cx cy cz x y z d) lh n1).2) ++ [(o0, .inl (cL, 1, .inr (.inl (vp_updL ov 0 ((nI (ps_bx g1 (ps_bq g1 cx cy cz x y z d) lh n1).1).toInt64)))))]) H := hP
  have hD : va_D A (ps_shW h0 q1 q2 q3 cx cy cz pl pw ++ ps_trW cI cZ q1 a1 n1 g1 ++ ps_trW cI cZ q2 a2 n2 g2 ++ ps_lsW cI q3 b 0 ((ps_bx g1 (ps_bq g1 cx cy cz x y z d) lh n1).1) ((ps_bx g1 (ps_bq g1 cx cy cz x y z d) lh n1).2) ++ [(o0, .inl (cL, 1, .inr (.inl (vp_updL ov 0 ((nI (ps_bx g1 (ps_bq g1 cx cy cz x y z d) lh n1).1).toInt64)))))]) := hD
  refine lv_goto (tgt := 21) hx hb dL_box_14 rfl ?_
  refine lv_iconst (v := 0) hx hb dL_box_21 (by decide) ?_
  refine W.widen (k := 1) (n := 6) (Nat.le_of_ble_eq_true rfl) (Nat.le_of_ble_eq_true rfl) ?_
  exact W.iret (v := 0) hx hb hr (fun t ht hW => ⟨⟨0, (), rfl, rfl, by rw [ht]; exact hP, va_K.moved hW.alike hK3, hD⟩, hS.F ht⟩) hS.2.2 dL_box_22
set_option maxHeartbeats 4000000 in
set_option maxRecDepth 100000 in
theorem mL_box_x1 (l : Launch) (hlt : l.stackTraces = false) (dC : Nat → ClassId) (dI : Nat → Nat → Nat) (cI cZ : ClassId) (h0 q1 q2 q3 b : Nat) (a1 a2 : Nat → Nat) (n1 n2 : Nat) (g1 g2 : ps_G) (lf le : Nat) (lh : Nat → Int32) (cx cy cz pl pw : Int32) (cL : ClassId) (o0 : Nat) (ov : Nat → Int64) (x y z : Int32) (hbad : ¬ (ps_co x = true ∧ ps_co y = true ∧ ps_co z = true)) (d : Int32) (sz : Nat) : Met l yL_box (.codeWith yL_box cL_box 7 (some .int) hhL_box :: ps_T) ({ frames := 8, cells := 1, slots := 6, locals := 137 }) (ps_xc (dC, dI) (ps_ty3 cI cZ cL) (ps_shW h0 q1 q2 q3 cx cy cz pl pw ++ ps_trW cI cZ q1 a1 n1 g1 ++ ps_trW cI cZ q2 a2 n2 g2 ++ ps_lsW cI q3 b lf le lh ++ [(o0, .inl (cL, 1, .inr (.inl ov)))]) sz [.ref h0, .int x, .int y, .int z, .int d, .ref o0]) (va_Qi (fun (r : Int32) (_ : Unit) => r = 1) (ps_qB (dC, dI) (ps_ty3 cI cZ cL) (va_A (ps_shW h0 q1 q2 q3 cx cy cz pl pw ++ ps_trW cI cZ q1 a1 n1 g1 ++ ps_trW cI cZ q2 a2 n2 g2 ++ ps_lsW cI q3 b lf le lh ++ [(o0, .inl (cL, 1, .inr (.inl ov)))]) sz) (ps_shW h0 q1 q2 q3 cx cy cz pl pw ++ ps_trW cI cZ q1 a1 n1 g1 ++ ps_trW cI cZ q2 a2 n2 g2 ++ ps_lsW cI q3 b lf le lh ++ [(o0, .inl (cL, 1, .inr (.inl ov)))])) (va_A (ps_shW h0 q1 q2 q3 cx cy cz pl pw ++ ps_trW cI cZ q1 a1 n1 g1 ++ ps_trW cI cZ q2 a2 n2 g2 ++ ps_lsW cI q3 b lf le lh ++ [(o0, .inl (cL, 1, .inr (.inl ov)))]) sz)) 1 6 (va_A (ps_shW h0 q1 q2 q3 cx cy cz pl pw ++ ps_trW cI cZ q1 a1 n1 g1 ++ ps_trW cI cZ q2 a2 n2 g2 ++ ps_lsW cI q3 b lf le lh ++ [(o0, .inl (cL, 1, .inr (.inl ov)))]) sz) := by
  refine va_MetW (cc := cL_box) (maxL := 7) (ret := (some .int)) (hh := hhL_box) (by decide) rfl ?_
  intro p e s m args below meth c s₁ B hml hv
  obtain ⟨rfl, hsz, hN, hE, hZ, hP, hK3, hD0⟩ := hv
  have hK : va_K (dC, dI) vwCl (ps_ty cI cZ) s := hK3.sub [0, 1] rfl
  have hx := B.exec
  have hb := B.bytes
  have hr := B.returns
  have hlocks := B.notSynchronized
  have hts := atoms_spec (ws := (.codeWith yL_box cL_box 7 (some .int) hhL_box :: ps_T)) B.pre
  have hT : ∀ w ∈ ps_T, w.before ([.ref h0, .int x, .int y, .int z, .int d, .ref o0] : List Value).toArray s = true := fun w h => hts w (List.mem_cons_of_mem _ h)
  have htab := vx_table (x := yL_box) B (hts _ List.mem_cons_self)
  have hown : s.vm.findClass RL = some m.cls := findClass_of_methodNamed B.named
  subst hsz
  have hD := hD0.self (sz := s.heap.size)
  generalize hAe : va_A (ps_shW h0 q1 q2 q3 cx cy cz pl pw ++ ps_trW cI cZ q1 a1 n1 g1 ++ ps_trW cI cZ q2 a2 n2 g2 ++ ps_lsW cI q3 b lf le lh ++ [(o0, .inl (cL, 1, .inr (.inl ov)))]) s.heap.size = A at hD hZ ⊢
  have hA : ∀ q : Nat, s.heap.size ≤ q → A q := fun q h => by rw [← hAe]; exact Or.inr h
  have hS : va_S A s.heap s.heap [] := va_S.rf
  have hl := lv_entry ([.ref h0, .int x, .int y, .int z, .int d, .ref o0]) (n := 7) (Nat.le_of_ble_eq_true rfl)
  rw [lg_entry_eq]
  generalize (lg_sl ([.ref h0, .int x, .int y, .int z, .int d, .ref o0]) ++ List.replicate (7 - (lg_sl ([.ref h0, .int x, .int y, .int z, .int d, .ref o0])).length) Slot.unset).toArray = ls at hl ⊢
  have hl : lv_has ls 7 [(0, .ref h0), (1, .int x), (2, .int y), (3, .int z), (4, .int d), (5, .ref o0)] := hl
  refine lv_aload hx hb dL_box_0 (lv_at hl 5 rfl) ?_
  refine lv_iconst (v := 0) hx hb dL_box_2 (by decide) ?_
  refine lv_aload_n hx hb dL_box_3 rfl (lv_at hl 0 rfl) ?_
  refine lv_iload_n hx hb dL_box_4 rfl (lv_at hl 1 rfl) ?_
  refine lv_iload_n hx hb dL_box_5 rfl (lv_at hl 2 rfl) ?_
  refine lv_iload_n hx hb dL_box_6 rfl (lv_at hl 3 rfl) ?_
  refine lv_iload hx hb dL_box_7 (lv_at hl 4 rfl) ?_
  refine ps_cx (wc := ps_shW h0 q1 q2 q3 cx cy cz pl pw ++ ps_trW cI cZ q1 a1 n1 g1 ++ ps_trW cI cZ q2 a2 n2 g2 ++ ps_lsW cI q3 b lf le lh) (wr := [(o0, .inl (cL, 1, .inr (.inl ov)))]) (w1 := ps_shW h0 q1 q2 q3 cx cy cz pl pw ++ ps_trW cI cZ q1 a1 n1 g1 ++ ps_trW cI cZ q2 a2 n2 g2 ++ ps_lsW cI q3 b lf le lh) (ws2 := ps_shW h0 q1 q2 q3 cx cy cz pl pw ++ ps_trW cI cZ q1 a1 n1 g1 ++ ps_trW cI cZ q2 a2 n2 g2 ++ ps_lsW cI q3 b lf le lh ++ [(o0, .inl (cL, 1, .inr (.inl ov)))]) (vx_runV (C := RX2) (As := [.int x, .int y, .int z, .int d]) (rest := [.int 0, .ref o0]) ⟨hx, hb, hml, hown, hT⟩ (mX2_box_x1 l hlt dC dI cI cZ h0 q1 q2 q3 b a1 a2 n1 n2 g1 g2 lf le lh cx cy cz pl pw x y z hbad d _) (cwV 4 hT (ps_gV tw_ml_L_34 tw_im_X2_box tw_se_X2_box tw_in_X2 tw_co_X2_box) rfl rfl rfl ⟨rfl, by decide, by decide, by decide +kernel⟩ ⟨Nat.le_of_ble_eq_true rfl, Nat.le_of_ble_eq_true rfl⟩) (ps_xreV (wc := ps_shW h0 q1 q2 q3 cx cy cz pl pw ++ ps_trW cI cZ q1 a1 n1 g1 ++ ps_trW cI cZ q2 a2 n2 g2 ++ ps_lsW cI q3 b lf le lh) (ci := 2) [0, 1, 2, 3, 4, 5, 6, 7, 8, 9, 10, 11, 12, 13, 14, 15, 16, 17, 18, 19, 20] hN hE hZ hS hA hP hK hD rfl rfl rfl rfl rfl) rfl rfl hl.1 rfl (lv_room (Nat.le_of_ble_eq_true rfl)) dL_box_9 ⟨Nat.le_of_ble_eq_true rfl, Nat.le_of_ble_eq_true rfl⟩) hS hA hP hD [0, 1, 2, 3, 4, 5, 6, 7, 8, 9, 10, 11, 12, 13, 14, 15, 16, 17, 18, 19, 20] [21] [1, 2, 3, 4, 5, 6, 7, 8, 9, 10, 11, 12, 13, 14, 15, 16, 17, 18, 19, 20, 21, 0] rfl rfl rfl (by decide) rfl rfl rfl (fun ce q9 H locs hP hD hS hce hcv hcl => ?_)
  refine vx_catch (E := "java/lang/IllegalArgumentException") (name := "java/lang/IllegalArgumentException") hown [] ⟨0, 14, 17, 13⟩ [] (by rw [htab]; rfl) (fun z hz => by cases hz) (by decide) (by decide) (hT _ tw_cl_L_13) (va_Nw.use rfl (hE.1.1 _ (by decide +kernel))) hce hcv hcl ?_
  refine lv_astore (lv' := [(6, .ref q9), (0, .ref h0), (1, .int x), (2, .int y), (3, .int z), (4, .int d), (5, .ref o0)]) hx hb dL_box_17 hl (by decide) rfl (fun ls hl => ?_)
  refine lv_iconst (v := 1) hx hb dL_box_19 (by decide) ?_
  refine W.widen (k := 1) (n := 6) (Nat.le_of_ble_eq_true rfl) (Nat.le_of_ble_eq_true rfl) ?_
  exact W.iret (v := 1) hx hb hr (fun t ht hW => ⟨⟨1, (), rfl, rfl, by rw [ht]; exact hP, va_K.moved hW.alike hK3, hD⟩, hS.F ht⟩) hS.2.2 dL_box_20
set_option maxHeartbeats 4000000 in
set_option maxRecDepth 100000 in
theorem mL_box_x2 (l : Launch) (hlt : l.stackTraces = false) (dC : Nat → ClassId) (dI : Nat → Nat → Nat) (cI cZ : ClassId) (h0 q1 q2 q3 b : Nat) (a1 a2 : Nat → Nat) (n1 n2 : Nat) (g1 g2 : ps_G) (lf le : Nat) (lh : Nat → Int32) (cx cy cz pl pw : Int32) (cL : ClassId) (o0 : Nat) (ov : Nat → Int64) (x y z : Int32) (hx0 : ps_co x = true) (hy0 : ps_co y = true) (hz0 : ps_co z = true) (d : Int32) (hd0 : ps_de d = false) (sz : Nat) : Met l yL_box (.codeWith yL_box cL_box 7 (some .int) hhL_box :: ps_T) ({ frames := 7, cells := 1, slots := 6, locals := 115 }) (ps_xc (dC, dI) (ps_ty3 cI cZ cL) (ps_shW h0 q1 q2 q3 cx cy cz pl pw ++ ps_trW cI cZ q1 a1 n1 g1 ++ ps_trW cI cZ q2 a2 n2 g2 ++ ps_lsW cI q3 b lf le lh ++ [(o0, .inl (cL, 1, .inr (.inl ov)))]) sz [.ref h0, .int x, .int y, .int z, .int d, .ref o0]) (va_Qi (fun (r : Int32) (_ : Unit) => r = 1) (ps_qB (dC, dI) (ps_ty3 cI cZ cL) (va_A (ps_shW h0 q1 q2 q3 cx cy cz pl pw ++ ps_trW cI cZ q1 a1 n1 g1 ++ ps_trW cI cZ q2 a2 n2 g2 ++ ps_lsW cI q3 b lf le lh ++ [(o0, .inl (cL, 1, .inr (.inl ov)))]) sz) (ps_shW h0 q1 q2 q3 cx cy cz pl pw ++ ps_trW cI cZ q1 a1 n1 g1 ++ ps_trW cI cZ q2 a2 n2 g2 ++ ps_lsW cI q3 b lf le lh ++ [(o0, .inl (cL, 1, .inr (.inl ov)))])) (va_A (ps_shW h0 q1 q2 q3 cx cy cz pl pw ++ ps_trW cI cZ q1 a1 n1 g1 ++ ps_trW cI cZ q2 a2 n2 g2 ++ ps_lsW cI q3 b lf le lh ++ [(o0, .inl (cL, 1, .inr (.inl ov)))]) sz)) 1 6 (va_A (ps_shW h0 q1 q2 q3 cx cy cz pl pw ++ ps_trW cI cZ q1 a1 n1 g1 ++ ps_trW cI cZ q2 a2 n2 g2 ++ ps_lsW cI q3 b lf le lh ++ [(o0, .inl (cL, 1, .inr (.inl ov)))]) sz) := by
  refine va_MetW (cc := cL_box) (maxL := 7) (ret := (some .int)) (hh := hhL_box) (by decide) rfl ?_
  intro p e s m args below meth c s₁ B hml hv
  obtain ⟨rfl, hsz, hN, hE, hZ, hP, hK3, hD0⟩ := hv
  have hK : va_K (dC, dI) vwCl (ps_ty cI cZ) s := hK3.sub [0, 1] rfl
  have hx := B.exec
  have hb := B.bytes
  have hr := B.returns
  have hlocks := B.notSynchronized
  have hts := atoms_spec (ws := (.codeWith yL_box cL_box 7 (some .int) hhL_box :: ps_T)) B.pre
  have hT : ∀ w ∈ ps_T, w.before ([.ref h0, .int x, .int y, .int z, .int d, .ref o0] : List Value).toArray s = true := fun w h => hts w (List.mem_cons_of_mem _ h)
  have htab := vx_table (x := yL_box) B (hts _ List.mem_cons_self)
  have hown : s.vm.findClass RL = some m.cls := findClass_of_methodNamed B.named
  subst hsz
  have hD := hD0.self (sz := s.heap.size)
  generalize hAe : va_A (ps_shW h0 q1 q2 q3 cx cy cz pl pw ++ ps_trW cI cZ q1 a1 n1 g1 ++ ps_trW cI cZ q2 a2 n2 g2 ++ ps_lsW cI q3 b lf le lh ++ [(o0, .inl (cL, 1, .inr (.inl ov)))]) s.heap.size = A at hD hZ ⊢
  have hA : ∀ q : Nat, s.heap.size ≤ q → A q := fun q h => by rw [← hAe]; exact Or.inr h
  have hS : va_S A s.heap s.heap [] := va_S.rf
  have hl := lv_entry ([.ref h0, .int x, .int y, .int z, .int d, .ref o0]) (n := 7) (Nat.le_of_ble_eq_true rfl)
  rw [lg_entry_eq]
  generalize (lg_sl ([.ref h0, .int x, .int y, .int z, .int d, .ref o0]) ++ List.replicate (7 - (lg_sl ([.ref h0, .int x, .int y, .int z, .int d, .ref o0])).length) Slot.unset).toArray = ls at hl ⊢
  have hl : lv_has ls 7 [(0, .ref h0), (1, .int x), (2, .int y), (3, .int z), (4, .int d), (5, .ref o0)] := hl
  refine lv_aload hx hb dL_box_0 (lv_at hl 5 rfl) ?_
  refine lv_iconst (v := 0) hx hb dL_box_2 (by decide) ?_
  refine lv_aload_n hx hb dL_box_3 rfl (lv_at hl 0 rfl) ?_
  refine lv_iload_n hx hb dL_box_4 rfl (lv_at hl 1 rfl) ?_
  refine lv_iload_n hx hb dL_box_5 rfl (lv_at hl 2 rfl) ?_
  refine lv_iload_n hx hb dL_box_6 rfl (lv_at hl 3 rfl) ?_
  refine lv_iload hx hb dL_box_7 (lv_at hl 4 rfl) ?_
  refine ps_cx (wc := ps_shW h0 q1 q2 q3 cx cy cz pl pw ++ ps_trW cI cZ q1 a1 n1 g1 ++ ps_trW cI cZ q2 a2 n2 g2 ++ ps_lsW cI q3 b lf le lh) (wr := [(o0, .inl (cL, 1, .inr (.inl ov)))]) (w1 := ps_shW h0 q1 q2 q3 cx cy cz pl pw ++ ps_trW cI cZ q1 a1 n1 g1 ++ ps_trW cI cZ q2 a2 n2 g2 ++ ps_lsW cI q3 b lf le lh) (ws2 := ps_shW h0 q1 q2 q3 cx cy cz pl pw ++ ps_trW cI cZ q1 a1 n1 g1 ++ ps_trW cI cZ q2 a2 n2 g2 ++ ps_lsW cI q3 b lf le lh ++ [(o0, .inl (cL, 1, .inr (.inl ov)))]) (vx_runV (C := RX2) (As := [.int x, .int y, .int z, .int d]) (rest := [.int 0, .ref o0]) ⟨hx, hb, hml, hown, hT⟩ (mX2_box_x2 l hlt dC dI cI cZ h0 q1 q2 q3 b a1 a2 n1 n2 g1 g2 lf le lh cx cy cz pl pw x y z hx0 hy0 hz0 d hd0 _) (cwV 4 hT (ps_gV tw_ml_L_34 tw_im_X2_box tw_se_X2_box tw_in_X2 tw_co_X2_box) rfl rfl rfl ⟨rfl, by decide, by decide, by decide +kernel⟩ ⟨Nat.le_of_ble_eq_true rfl, Nat.le_of_ble_eq_true rfl⟩) (ps_xreV (wc := ps_shW h0 q1 q2 q3 cx cy cz pl pw ++ ps_trW cI cZ q1 a1 n1 g1 ++ ps_trW cI cZ q2 a2 n2 g2 ++ ps_lsW cI q3 b lf le lh) (ci := 2) [0, 1, 2, 3, 4, 5, 6, 7, 8, 9, 10, 11, 12, 13, 14, 15, 16, 17, 18, 19, 20] hN hE hZ hS hA hP hK hD rfl rfl rfl rfl rfl) rfl rfl hl.1 rfl (lv_room (Nat.le_of_ble_eq_true rfl)) dL_box_9 ⟨Nat.le_of_ble_eq_true rfl, Nat.le_of_ble_eq_true rfl⟩) hS hA hP hD [0, 1, 2, 3, 4, 5, 6, 7, 8, 9, 10, 11, 12, 13, 14, 15, 16, 17, 18, 19, 20] [21] [1, 2, 3, 4, 5, 6, 7, 8, 9, 10, 11, 12, 13, 14, 15, 16, 17, 18, 19, 20, 21, 0] rfl rfl rfl (by decide) rfl rfl rfl (fun ce q9 H locs hP hD hS hce hcv hcl => ?_)
  refine vx_catch (E := "java/lang/IllegalArgumentException") (name := "java/lang/IllegalArgumentException") hown [] ⟨0, 14, 17, 13⟩ [] (by rw [htab]; rfl) (fun z hz => by cases hz) (by decide) (by decide) (hT _ tw_cl_L_13) (va_Nw.use rfl (hE.1.1 _ (by decide +kernel))) hce hcv hcl ?_
  refine lv_astore (lv' := [(6, .ref q9), (0, .ref h0), (1, .int x), (2, .int y), (3, .int z), (4, .int d), (5, .ref o0)]) hx hb dL_box_17 hl (by decide) rfl (fun ls hl => ?_)
  refine lv_iconst (v := 1) hx hb dL_box_19 (by decide) ?_
  refine W.widen (k := 1) (n := 6) (Nat.le_of_ble_eq_true rfl) (Nat.le_of_ble_eq_true rfl) ?_
  exact W.iret (v := 1) hx hb hr (fun t ht hW => ⟨⟨1, (), rfl, rfl, by rw [ht]; exact hP, va_K.moved hW.alike hK3, hD⟩, hS.F ht⟩) hS.2.2 dL_box_20
set_option maxHeartbeats 4000000 in
set_option maxRecDepth 100000 in
theorem mL_next_n (l : Launch) (hlt : l.stackTraces = false) (dC : Nat → ClassId) (dI : Nat → Nat → Nat) (cI cZ : ClassId) (h0 q1 q2 q3 b : Nat) (a1 a2 : Nat → Nat) (n1 n2 : Nat) (g1 g2 : ps_G) (lf le : Nat) (lh : Nat → Int32) (cx cy cz pl pw : Int32) (cL : ClassId) (o0 : Nat) (ov : Nat → Int64) (hfe : lf < le) (hle : le ≤ 48) (sz : Nat) : Met l yL_next (.codeWith yL_next cL_next 3 (some .int) hhL_next :: ps_T) ({ frames := 2, cells := 1, slots := 6, locals := 41 }) (ps_xc (dC, dI) (ps_ty3 cI cZ cL) (ps_shW h0 q1 q2 q3 cx cy cz pl pw ++ ps_trW cI cZ q1 a1 n1 g1 ++ ps_trW cI cZ q2 a2 n2 g2 ++ ps_lsW cI q3 b lf le lh ++ [(o0, .inl (cL, 1, .inr (.inl ov)))]) sz [.ref h0, .ref o0]) (va_Qi (fun (r : Int32) (_ : Unit) => r = 0) (ps_qB (dC, dI) (ps_ty3 cI cZ cL) (va_A (ps_shW h0 q1 q2 q3 cx cy cz pl pw ++ ps_trW cI cZ q1 a1 n1 g1 ++ ps_trW cI cZ q2 a2 n2 g2 ++ ps_lsW cI q3 b lf le lh ++ [(o0, .inl (cL, 1, .inr (.inl ov)))]) sz) (ps_shW h0 q1 q2 q3 cx cy cz pl pw ++ ps_trW cI cZ q1 a1 n1 g1 ++ ps_trW cI cZ q2 a2 n2 g2 ++ ps_lsW cI q3 b ((lf + 1)) le lh ++ [(o0, .inl (cL, 1, .inr (.inl (vp_updL ov 0 (lh lf).toInt64))))])) (va_A (ps_shW h0 q1 q2 q3 cx cy cz pl pw ++ ps_trW cI cZ q1 a1 n1 g1 ++ ps_trW cI cZ q2 a2 n2 g2 ++ ps_lsW cI q3 b lf le lh ++ [(o0, .inl (cL, 1, .inr (.inl ov)))]) sz)) 1 6 (va_A (ps_shW h0 q1 q2 q3 cx cy cz pl pw ++ ps_trW cI cZ q1 a1 n1 g1 ++ ps_trW cI cZ q2 a2 n2 g2 ++ ps_lsW cI q3 b lf le lh ++ [(o0, .inl (cL, 1, .inr (.inl ov)))]) sz) := by
  refine va_MetW (cc := cL_next) (maxL := 3) (ret := (some .int)) (hh := hhL_next) (by decide) rfl ?_
  intro p e s m args below meth c s₁ B hml hv
  obtain ⟨rfl, hsz, hN, hE, hZ, hP, hK3, hD0⟩ := hv
  have hK : va_K (dC, dI) vwCl (ps_ty cI cZ) s := hK3.sub [0, 1] rfl
  have hx := B.exec
  have hb := B.bytes
  have hr := B.returns
  have hlocks := B.notSynchronized
  have hts := atoms_spec (ws := (.codeWith yL_next cL_next 3 (some .int) hhL_next :: ps_T)) B.pre
  have hT : ∀ w ∈ ps_T, w.before ([.ref h0, .ref o0] : List Value).toArray s = true := fun w h => hts w (List.mem_cons_of_mem _ h)
  have htab := vx_table (x := yL_next) B (hts _ List.mem_cons_self)
  have hown : s.vm.findClass RL = some m.cls := findClass_of_methodNamed B.named
  subst hsz
  have hD := hD0.self (sz := s.heap.size)
  generalize hAe : va_A (ps_shW h0 q1 q2 q3 cx cy cz pl pw ++ ps_trW cI cZ q1 a1 n1 g1 ++ ps_trW cI cZ q2 a2 n2 g2 ++ ps_lsW cI q3 b lf le lh ++ [(o0, .inl (cL, 1, .inr (.inl ov)))]) s.heap.size = A at hD hZ ⊢
  have hA : ∀ q : Nat, s.heap.size ≤ q → A q := fun q h => by rw [← hAe]; exact Or.inr h
  have hS : va_S A s.heap s.heap [] := va_S.rf
  have hl := lv_entry ([.ref h0, .ref o0]) (n := 3) (Nat.le_of_ble_eq_true rfl)
  rw [lg_entry_eq]
  generalize (lg_sl ([.ref h0, .ref o0]) ++ List.replicate (3 - (lg_sl ([.ref h0, .ref o0])).length) Slot.unset).toArray = ls at hl ⊢
  have hl : lv_has ls 3 [(0, .ref h0), (1, .ref o0)] := hl
  refine lv_aload_n hx hb dL_next_0 rfl (lv_at hl 1 rfl) ?_
  refine lv_iconst (v := 0) hx hb dL_next_1 (by decide) ?_
  refine lv_aload_n hx hb dL_next_2 rfl (lv_at hl 0 rfl) ?_
  refine ps_cqi (wc := ps_shW h0 q1 q2 q3 cx cy cz pl pw ++ ps_trW cI cZ q1 a1 n1 g1 ++ ps_trW cI cZ q2 a2 n2 g2 ++ ps_lsW cI q3 b lf le lh) (wr := [(o0, .inl (cL, 1, .inr (.inl ov)))]) (w1 := ps_shW h0 q1 q2 q3 cx cy cz pl pw ++ ps_trW cI cZ q1 a1 n1 g1 ++ ps_trW cI cZ q2 a2 n2 g2 ++ ps_lsW cI q3 b ((lf + 1)) le lh) (ws2 := ps_shW h0 q1 q2 q3 cx cy cz pl pw ++ ps_trW cI cZ q1 a1 n1 g1 ++ ps_trW cI cZ q2 a2 n2 g2 ++ ps_lsW cI q3 b ((lf + 1)) le lh ++ [(o0, .inl (cL, 1, .inr (.inl ov)))]) (va_runV (C := RX2) (As := []) (rest := [.int 0, .ref o0]) ⟨hx, hb, hml, hown, hT⟩ (mX2_next_n l dC dI cI cZ h0 q1 q2 q3 b a1 a2 n1 n2 g1 g2 lf le lh cx cy cz pl pw hfe hle _) (cwV 0 hT (ps_gV tw_ml_L_38 tw_im_X2_next tw_se_X2_next tw_in_X2 tw_co_X2_next) rfl rfl rfl ⟨rfl, by decide, by decide, by decide +kernel⟩ ⟨Nat.le_of_ble_eq_true rfl, Nat.le_of_ble_eq_true rfl⟩) (ps_qreV (wc := ps_shW h0 q1 q2 q3 cx cy cz pl pw ++ ps_trW cI cZ q1 a1 n1 g1 ++ ps_trW cI cZ q2 a2 n2 g2 ++ ps_lsW cI q3 b lf le lh) (ci := 2) [0, 1, 2, 3, 4, 5, 6, 7, 8, 9, 10, 11, 12, 13, 14, 15, 16, 17, 18, 19, 20] hN hP hK hD rfl rfl rfl rfl rfl) rfl rfl hl.1 rfl (lv_room (Nat.le_of_ble_eq_true rfl)) dL_next_3 ⟨Nat.le_of_ble_eq_true rfl, Nat.le_of_ble_eq_true rfl⟩) hS hA hP hD [0, 1, 2, 3, 4, 5, 6, 7, 8, 9, 10, 11, 12, 13, 14, 15, 16, 17, 18, 19, 20] [21] [1, 2, 3, 4, 5, 6, 7, 8, 9, 10, 11, 12, 13, 14, 15, 16, 17, 18, 19, 20, 21, 0] rfl rfl rfl (by decide) rfl rfl rfl (fun H locs hP hD hS => ?_)
  refine lv_i2l (v := (lh lf).toInt64) hx hb dL_next_6 rfl ?_
  refine va_last hx hb hK3 hP hD hS 21 2 rfl rfl (by unfold vp_in; decide) dL_next_7 (fun H locs hP hD hS => ?_)
  have hP : va_P (dC, dI) vwCl (ps_shW h0 q1 q2 q3 cx cy cz pl pw ++ ps_trW cI cZ q1 a1 n1 g1 ++ ps_trW cI cZ q2 a2 n2 g2 ++ ps_lsW cI q3 b ((lf + 1)) le lh ++ [(o0, .inl (cL, 1, .inr (.inl (vp_updL ov 0 ((lh lf).toInt64)))))]) H := hP
  have hD : va_D A (ps_shW h0 q1 q2 q3 cx cy cz pl pw ++ ps_trW cI cZ q1 a1 n1 g1 ++ ps_trW cI cZ q2 a2 n2 g2 ++ ps_lsW cI q3 b ((lf + 1)) le lh ++ [(o0, .inl (cL, 1, .inr (.inl (vp_updL ov 0 ((lh lf).toInt64)))))]) := hD
  refine lv_goto (tgt := 14) hx hb dL_next_8 rfl ?_
  refine lv_iconst (v := 0) hx hb dL_next_14 (by decide) ?_
  refine W.widen (k := 1) (n := 6) (Nat.le_of_ble_eq_true rfl) (Nat.le_of_ble_eq_true rfl) ?_
  exact W.iret (v := 0) hx hb hr (fun t ht hW => ⟨⟨0, (), rfl, rfl, by rw [ht]; exact hP, va_K.moved hW.alike hK3, hD⟩, hS.F ht⟩) hS.2.2 dL_next_15
set_option maxHeartbeats 4000000 in
set_option maxRecDepth 100000 in
theorem mL_next_x (l : Launch) (hlt : l.stackTraces = false) (dC : Nat → ClassId) (dI : Nat → Nat → Nat) (cI cZ : ClassId) (h0 q1 q2 q3 b : Nat) (a1 a2 : Nat → Nat) (n1 n2 : Nat) (g1 g2 : ps_G) (lf le : Nat) (lh : Nat → Int32) (cx cy cz pl pw : Int32) (cL : ClassId) (o0 : Nat) (ov : Nat → Int64) (hle : le ≤ 48) (hfe : le ≤ lf) (hlf : lf ≤ 48) (sz : Nat) : Met l yL_next (.codeWith yL_next cL_next 3 (some .int) hhL_next :: ps_T) ({ frames := 8, cells := 1, slots := 6, locals := 131 }) (ps_xc (dC, dI) (ps_ty3 cI cZ cL) (ps_shW h0 q1 q2 q3 cx cy cz pl pw ++ ps_trW cI cZ q1 a1 n1 g1 ++ ps_trW cI cZ q2 a2 n2 g2 ++ ps_lsW cI q3 b lf le lh ++ [(o0, .inl (cL, 1, .inr (.inl ov)))]) sz [.ref h0, .ref o0]) (va_Qi (fun (r : Int32) (_ : Unit) => r = 1) (ps_qB (dC, dI) (ps_ty3 cI cZ cL) (va_A (ps_shW h0 q1 q2 q3 cx cy cz pl pw ++ ps_trW cI cZ q1 a1 n1 g1 ++ ps_trW cI cZ q2 a2 n2 g2 ++ ps_lsW cI q3 b lf le lh ++ [(o0, .inl (cL, 1, .inr (.inl ov)))]) sz) (ps_shW h0 q1 q2 q3 cx cy cz pl pw ++ ps_trW cI cZ q1 a1 n1 g1 ++ ps_trW cI cZ q2 a2 n2 g2 ++ ps_lsW cI q3 b lf le lh ++ [(o0, .inl (cL, 1, .inr (.inl ov)))])) (va_A (ps_shW h0 q1 q2 q3 cx cy cz pl pw ++ ps_trW cI cZ q1 a1 n1 g1 ++ ps_trW cI cZ q2 a2 n2 g2 ++ ps_lsW cI q3 b lf le lh ++ [(o0, .inl (cL, 1, .inr (.inl ov)))]) sz)) 1 6 (va_A (ps_shW h0 q1 q2 q3 cx cy cz pl pw ++ ps_trW cI cZ q1 a1 n1 g1 ++ ps_trW cI cZ q2 a2 n2 g2 ++ ps_lsW cI q3 b lf le lh ++ [(o0, .inl (cL, 1, .inr (.inl ov)))]) sz) := by
  refine va_MetW (cc := cL_next) (maxL := 3) (ret := (some .int)) (hh := hhL_next) (by decide) rfl ?_
  intro p e s m args below meth c s₁ B hml hv
  obtain ⟨rfl, hsz, hN, hE, hZ, hP, hK3, hD0⟩ := hv
  have hK : va_K (dC, dI) vwCl (ps_ty cI cZ) s := hK3.sub [0, 1] rfl
  have hx := B.exec
  have hb := B.bytes
  have hr := B.returns
  have hlocks := B.notSynchronized
  have hts := atoms_spec (ws := (.codeWith yL_next cL_next 3 (some .int) hhL_next :: ps_T)) B.pre
  have hT : ∀ w ∈ ps_T, w.before ([.ref h0, .ref o0] : List Value).toArray s = true := fun w h => hts w (List.mem_cons_of_mem _ h)
  have htab := vx_table (x := yL_next) B (hts _ List.mem_cons_self)
  have hown : s.vm.findClass RL = some m.cls := findClass_of_methodNamed B.named
  subst hsz
  have hD := hD0.self (sz := s.heap.size)
  generalize hAe : va_A (ps_shW h0 q1 q2 q3 cx cy cz pl pw ++ ps_trW cI cZ q1 a1 n1 g1 ++ ps_trW cI cZ q2 a2 n2 g2 ++ ps_lsW cI q3 b lf le lh ++ [(o0, .inl (cL, 1, .inr (.inl ov)))]) s.heap.size = A at hD hZ ⊢
  have hA : ∀ q : Nat, s.heap.size ≤ q → A q := fun q h => by rw [← hAe]; exact Or.inr h
  have hS : va_S A s.heap s.heap [] := va_S.rf
  have hl := lv_entry ([.ref h0, .ref o0]) (n := 3) (Nat.le_of_ble_eq_true rfl)
  rw [lg_entry_eq]
  generalize (lg_sl ([.ref h0, .ref o0]) ++ List.replicate (3 - (lg_sl ([.ref h0, .ref o0])).length) Slot.unset).toArray = ls at hl ⊢
  have hl : lv_has ls 3 [(0, .ref h0), (1, .ref o0)] := hl
  refine lv_aload_n hx hb dL_next_0 rfl (lv_at hl 1 rfl) ?_
  refine lv_iconst (v := 0) hx hb dL_next_1 (by decide) ?_
  refine lv_aload_n hx hb dL_next_2 rfl (lv_at hl 0 rfl) ?_
  refine ps_cx (wc := ps_shW h0 q1 q2 q3 cx cy cz pl pw ++ ps_trW cI cZ q1 a1 n1 g1 ++ ps_trW cI cZ q2 a2 n2 g2 ++ ps_lsW cI q3 b lf le lh) (wr := [(o0, .inl (cL, 1, .inr (.inl ov)))]) (w1 := ps_shW h0 q1 q2 q3 cx cy cz pl pw ++ ps_trW cI cZ q1 a1 n1 g1 ++ ps_trW cI cZ q2 a2 n2 g2 ++ ps_lsW cI q3 b lf le lh) (ws2 := ps_shW h0 q1 q2 q3 cx cy cz pl pw ++ ps_trW cI cZ q1 a1 n1 g1 ++ ps_trW cI cZ q2 a2 n2 g2 ++ ps_lsW cI q3 b lf le lh ++ [(o0, .inl (cL, 1, .inr (.inl ov)))]) (vx_runV (C := RX2) (As := []) (rest := [.int 0, .ref o0]) ⟨hx, hb, hml, hown, hT⟩ (mX2_next_x l hlt dC dI cI cZ h0 q1 q2 q3 b a1 a2 n1 n2 g1 g2 lf le lh cx cy cz pl pw hle hfe hlf _) (cwV 0 hT (ps_gV tw_ml_L_38 tw_im_X2_next tw_se_X2_next tw_in_X2 tw_co_X2_next) rfl rfl rfl ⟨rfl, by decide, by decide, by decide +kernel⟩ ⟨Nat.le_of_ble_eq_true rfl, Nat.le_of_ble_eq_true rfl⟩) (ps_xreV (wc := ps_shW h0 q1 q2 q3 cx cy cz pl pw ++ ps_trW cI cZ q1 a1 n1 g1 ++ ps_trW cI cZ q2 a2 n2 g2 ++ ps_lsW cI q3 b lf le lh) (ci := 2) [0, 1, 2, 3, 4, 5, 6, 7, 8, 9, 10, 11, 12, 13, 14, 15, 16, 17, 18, 19, 20] hN hE hZ hS hA hP hK hD rfl rfl rfl rfl rfl) rfl rfl hl.1 rfl (lv_room (Nat.le_of_ble_eq_true rfl)) dL_next_3 ⟨Nat.le_of_ble_eq_true rfl, Nat.le_of_ble_eq_true rfl⟩) hS hA hP hD [0, 1, 2, 3, 4, 5, 6, 7, 8, 9, 10, 11, 12, 13, 14, 15, 16, 17, 18, 19, 20] [21] [1, 2, 3, 4, 5, 6, 7, 8, 9, 10, 11, 12, 13, 14, 15, 16, 17, 18, 19, 20, 21, 0] rfl rfl rfl (by decide) rfl rfl rfl (fun ce q9 H locs hP hD hS hce hcv hcl => ?_)
  refine vx_catch (E := "java/util/NoSuchElementException") (name := "java/util/NoSuchElementException") hown [] ⟨0, 8, 11, 21⟩ [] (by rw [htab]; rfl) (fun z hz => by cases hz) (by decide) (by decide) (hT _ tw_cl_L_21) (va_Nw.use rfl (hE.1.1 _ (by decide +kernel))) hce hcv hcl ?_
  refine lv_astore_n (lv' := [(2, .ref q9), (0, .ref h0), (1, .ref o0)]) hx hb dL_next_11 rfl hl (by decide) rfl (fun ls hl => ?_)
  refine lv_iconst (v := 1) hx hb dL_next_12 (by decide) ?_
  refine W.widen (k := 1) (n := 6) (Nat.le_of_ble_eq_true rfl) (Nat.le_of_ble_eq_true rfl) ?_
  exact W.iret (v := 1) hx hb hr (fun t ht hW => ⟨⟨1, (), rfl, rfl, by rw [ht]; exact hP, va_K.moved hW.alike hK3, hD⟩, hS.F ht⟩) hS.2.2 dL_next_13
set_option maxHeartbeats 4000000 in
set_option maxRecDepth 100000 in
theorem mL_count_n (l : Launch) (hlt : l.stackTraces = false) (dC : Nat → ClassId) (dI : Nat → Nat → Nat) (cI cZ : ClassId) (h0 q1 q2 q3 b : Nat) (a1 a2 : Nat → Nat) (n1 n2 : Nat) (g1 g2 : ps_G) (lf le : Nat) (lh : Nat → Int32) (cx cy cz pl pw : Int32) (cL : ClassId) (o0 : Nat) (ov : Nat → Int64) (hn1 : n1 ≤ 48) (x y z : Int32) (hx0 : ps_co x = true) (hy0 : ps_co y = true) (hz0 : ps_co z = true) (sz : Nat) : Met l yL_count (.codeWith yL_count cL_count 6 (some .int) hhL_count :: ps_T) ({ frames := 4, cells := 1, slots := 6, locals := 92 }) (ps_xc (dC, dI) (ps_ty3 cI cZ cL) (ps_shW h0 q1 q2 q3 cx cy cz pl pw ++ ps_trW cI cZ q1 a1 n1 g1 ++ ps_trW cI cZ q2 a2 n2 g2 ++ ps_lsW cI q3 b lf le lh ++ [(o0, .inl (cL, 1, .inr (.inl ov)))]) sz [.ref h0, .int x, .int y, .int z, .ref o0]) (va_Qi (fun (r : Int32) (_ : Unit) => r = 0) (ps_qB (dC, dI) (ps_ty3 cI cZ cL) (va_A (ps_shW h0 q1 q2 q3 cx cy cz pl pw ++ ps_trW cI cZ q1 a1 n1 g1 ++ ps_trW cI cZ q2 a2 n2 g2 ++ ps_lsW cI q3 b lf le lh ++ [(o0, .inl (cL, 1, .inr (.inl ov)))]) sz) (ps_shW h0 q1 q2 q3 cx cy cz pl pw ++ ps_trW cI cZ q1 a1 n1 g1 ++ ps_trW cI cZ q2 a2 n2 g2 ++ ps_lsW cI q3 b lf le lh ++ [(o0, .inl (cL, 1, .inr (.inl (vp_updL ov 0 (nI (ps_cn (ps_ib g1 cx cy cz x y z) n1)).toInt64))))])) (va_A (ps_shW h0 q1 q2 q3 cx cy cz pl pw ++ ps_trW cI cZ q1 a1 n1 g1 ++ ps_trW cI cZ q2 a2 n2 g2 ++ ps_lsW cI q3 b lf le lh ++ [(o0, .inl (cL, 1, .inr (.inl ov)))]) sz)) 1 6 (va_A (ps_shW h0 q1 q2 q3 cx cy cz pl pw ++ ps_trW cI cZ q1 a1 n1 g1 ++ ps_trW cI cZ q2 a2 n2 g2 ++ ps_lsW cI q3 b lf le lh ++ [(o0, .inl (cL, 1, .inr (.inl ov)))]) sz) := by
  refine va_MetW (cc := cL_count) (maxL := 6) (ret := (some .int)) (hh := hhL_count) (by decide) rfl ?_
  intro p e s m args below meth c s₁ B hml hv
  obtain ⟨rfl, hsz, hN, hE, hZ, hP, hK3, hD0⟩ := hv
  have hK : va_K (dC, dI) vwCl (ps_ty cI cZ) s := hK3.sub [0, 1] rfl
  have hx := B.exec
  have hb := B.bytes
  have hr := B.returns
  have hlocks := B.notSynchronized
  have hts := atoms_spec (ws := (.codeWith yL_count cL_count 6 (some .int) hhL_count :: ps_T)) B.pre
  have hT : ∀ w ∈ ps_T, w.before ([.ref h0, .int x, .int y, .int z, .ref o0] : List Value).toArray s = true := fun w h => hts w (List.mem_cons_of_mem _ h)
  have htab := vx_table (x := yL_count) B (hts _ List.mem_cons_self)
  have hown : s.vm.findClass RL = some m.cls := findClass_of_methodNamed B.named
  subst hsz
  have hD := hD0.self (sz := s.heap.size)
  generalize hAe : va_A (ps_shW h0 q1 q2 q3 cx cy cz pl pw ++ ps_trW cI cZ q1 a1 n1 g1 ++ ps_trW cI cZ q2 a2 n2 g2 ++ ps_lsW cI q3 b lf le lh ++ [(o0, .inl (cL, 1, .inr (.inl ov)))]) s.heap.size = A at hD hZ ⊢
  have hA : ∀ q : Nat, s.heap.size ≤ q → A q := fun q h => by rw [← hAe]; exact Or.inr h
  have hS : va_S A s.heap s.heap [] := va_S.rf
  have hl := lv_entry ([.ref h0, .int x, .int y, .int z, .ref o0]) (n := 6) (Nat.le_of_ble_eq_true rfl)
  rw [lg_entry_eq]
  generalize (lg_sl ([.ref h0, .int x, .int y, .int z, .ref o0]) ++ List.replicate (6 - (lg_sl ([.ref h0, .int x, .int y, .int z, .ref o0])).length) Slot.unset).toArray = ls at hl ⊢
  have hl : lv_has ls 6 [(0, .ref h0), (1, .int x), (2, .int y), (3, .int z), (4, .ref o0)] := hl
  refine lv_aload hx hb dL_count_0 (lv_at hl 4 rfl) ?_
  refine lv_iconst (v := 0) hx hb dL_count_2 (by decide) ?_
  refine lv_aload_n hx hb dL_count_3 rfl (lv_at hl 0 rfl) ?_
  refine lv_iload_n hx hb dL_count_4 rfl (lv_at hl 1 rfl) ?_
  refine lv_iload_n hx hb dL_count_5 rfl (lv_at hl 2 rfl) ?_
  refine lv_iload_n hx hb dL_count_6 rfl (lv_at hl 3 rfl) ?_
  refine vp_callSi (va_Run.run (va_runV (C := RX2) (As := [.int x, .int y, .int z]) (rest := [.int 0, .ref o0]) ⟨hx, hb, hml, hown, hT⟩ (mX2_count_n l dC dI cI cZ h0 q1 q2 q3 b a1 a2 n1 n2 g1 g2 lf le lh cx cy cz pl pw hn1 x y z hx0 hy0 hz0) (cwV 3 hT (ps_gV tw_ml_L_42 tw_im_X2_count tw_se_X2_count tw_in_X2 tw_co_X2_count) rfl rfl rfl ⟨rfl, by decide, by decide, by decide +kernel⟩ ⟨Nat.le_of_ble_eq_true rfl, Nat.le_of_ble_eq_true rfl⟩) (ps_preV (ci := 2) (q0 := 0) hN (hP.sub (ws' := ps_shW h0 q1 q2 q3 cx cy cz pl pw ++ ps_trW cI cZ q1 a1 n1 g1 ++ ps_trW cI cZ q2 a2 n2 g2 ++ ps_lsW cI q3 b lf le lh) [0, 1, 2, 3, 4, 5, 6, 7, 8, 9, 10, 11, 12, 13, 14, 15, 16, 17, 18, 19, 20] rfl) hK rfl rfl) rfl rfl hl.1 rfl (lv_room (Nat.le_of_ble_eq_true rfl)) dL_count_7 ⟨Nat.le_of_ble_eq_true rfl, Nat.le_of_ble_eq_true rfl⟩)) (fun r hr9 => ?_)
  obtain rfl : r = nI (ps_cn (ps_ib g1 cx cy cz x y z) n1) := hr9
  refine lv_i2l (v := (nI (ps_cn (ps_ib g1 cx cy cz x y z) n1)).toInt64) hx hb dL_count_10 rfl ?_
  refine va_last hx hb hK3 hP hD hS 21 2 rfl rfl (by unfold vp_in; decide) dL_count_11 (fun H locs hP hD hS => ?_)
  have hP : va_P (dC, dI) vwCl (ps_shW h0 q1 q2 q3 cx cy cz pl pw ++ ps_trW cI cZ q1 a1 n1 g1 ++ ps_trW cI cZ q2 a2 n2 g2 ++ ps_lsW cI q3 b lf le lh ++ [(o0, .inl (cL, 1, .inr (.inl (vp_updL ov 0 ((nI (ps_cn (ps_ib g1 cx cy cz x y z) n1)).toInt64)))))]) H := hP
  have hD : va_D A (ps_shW h0 q1 q2 q3 cx cy cz pl pw ++ ps_trW cI cZ q1 a1 n1 g1 ++ ps_trW cI cZ q2 a2 n2 g2 ++ ps_lsW cI q3 b lf le lh ++ [(o0, .inl (cL, 1, .inr (.inl (vp_updL ov 0 ((nI (ps_cn (ps_ib g1 cx cy cz x y z) n1)).toInt64)))))]) := hD
  refine lv_goto (tgt := 19) hx hb dL_count_12 rfl ?_
  refine lv_iconst (v := 0) hx hb dL_count_19 (by decide) ?_
  refine W.widen (k := 1) (n := 6) (Nat.le_of_ble_eq_true rfl) (Nat.le_of_ble_eq_true rfl) ?_
  exact W.iret (v := 0) hx hb hr (fun t ht hW => ⟨⟨0, (), rfl, rfl, by rw [ht]; exact hP, va_K.moved hW.alike hK3, hD⟩, hS.F ht⟩) hS.2.2 dL_count_20
set_option maxHeartbeats 4000000 in
set_option maxRecDepth 100000 in
theorem mL_count_x (l : Launch) (hlt : l.stackTraces = false) (dC : Nat → ClassId) (dI : Nat → Nat → Nat) (cI cZ : ClassId) (h0 q1 q2 q3 b : Nat) (a1 a2 : Nat → Nat) (n1 n2 : Nat) (g1 g2 : ps_G) (lf le : Nat) (lh : Nat → Int32) (cx cy cz pl pw : Int32) (cL : ClassId) (o0 : Nat) (ov : Nat → Int64) (x y z : Int32) (hbad : ¬ (ps_co x = true ∧ ps_co y = true ∧ ps_co z = true)) (sz : Nat) : Met l yL_count (.codeWith yL_count cL_count 6 (some .int) hhL_count :: ps_T) ({ frames := 8, cells := 1, slots := 6, locals := 137 }) (ps_xc (dC, dI) (ps_ty3 cI cZ cL) (ps_shW h0 q1 q2 q3 cx cy cz pl pw ++ ps_trW cI cZ q1 a1 n1 g1 ++ ps_trW cI cZ q2 a2 n2 g2 ++ ps_lsW cI q3 b lf le lh ++ [(o0, .inl (cL, 1, .inr (.inl ov)))]) sz [.ref h0, .int x, .int y, .int z, .ref o0]) (va_Qi (fun (r : Int32) (_ : Unit) => r = 1) (ps_qB (dC, dI) (ps_ty3 cI cZ cL) (va_A (ps_shW h0 q1 q2 q3 cx cy cz pl pw ++ ps_trW cI cZ q1 a1 n1 g1 ++ ps_trW cI cZ q2 a2 n2 g2 ++ ps_lsW cI q3 b lf le lh ++ [(o0, .inl (cL, 1, .inr (.inl ov)))]) sz) (ps_shW h0 q1 q2 q3 cx cy cz pl pw ++ ps_trW cI cZ q1 a1 n1 g1 ++ ps_trW cI cZ q2 a2 n2 g2 ++ ps_lsW cI q3 b lf le lh ++ [(o0, .inl (cL, 1, .inr (.inl ov)))])) (va_A (ps_shW h0 q1 q2 q3 cx cy cz pl pw ++ ps_trW cI cZ q1 a1 n1 g1 ++ ps_trW cI cZ q2 a2 n2 g2 ++ ps_lsW cI q3 b lf le lh ++ [(o0, .inl (cL, 1, .inr (.inl ov)))]) sz)) 1 6 (va_A (ps_shW h0 q1 q2 q3 cx cy cz pl pw ++ ps_trW cI cZ q1 a1 n1 g1 ++ ps_trW cI cZ q2 a2 n2 g2 ++ ps_lsW cI q3 b lf le lh ++ [(o0, .inl (cL, 1, .inr (.inl ov)))]) sz) := by
  refine va_MetW (cc := cL_count) (maxL := 6) (ret := (some .int)) (hh := hhL_count) (by decide) rfl ?_
  intro p e s m args below meth c s₁ B hml hv
  obtain ⟨rfl, hsz, hN, hE, hZ, hP, hK3, hD0⟩ := hv
  have hK : va_K (dC, dI) vwCl (ps_ty cI cZ) s := hK3.sub [0, 1] rfl
  have hx := B.exec
  have hb := B.bytes
  have hr := B.returns
  have hlocks := B.notSynchronized
  have hts := atoms_spec (ws := (.codeWith yL_count cL_count 6 (some .int) hhL_count :: ps_T)) B.pre
  have hT : ∀ w ∈ ps_T, w.before ([.ref h0, .int x, .int y, .int z, .ref o0] : List Value).toArray s = true := fun w h => hts w (List.mem_cons_of_mem _ h)
  have htab := vx_table (x := yL_count) B (hts _ List.mem_cons_self)
  have hown : s.vm.findClass RL = some m.cls := findClass_of_methodNamed B.named
  subst hsz
  have hD := hD0.self (sz := s.heap.size)
  generalize hAe : va_A (ps_shW h0 q1 q2 q3 cx cy cz pl pw ++ ps_trW cI cZ q1 a1 n1 g1 ++ ps_trW cI cZ q2 a2 n2 g2 ++ ps_lsW cI q3 b lf le lh ++ [(o0, .inl (cL, 1, .inr (.inl ov)))]) s.heap.size = A at hD hZ ⊢
  have hA : ∀ q : Nat, s.heap.size ≤ q → A q := fun q h => by rw [← hAe]; exact Or.inr h
  have hS : va_S A s.heap s.heap [] := va_S.rf
  have hl := lv_entry ([.ref h0, .int x, .int y, .int z, .ref o0]) (n := 6) (Nat.le_of_ble_eq_true rfl)
  rw [lg_entry_eq]
  generalize (lg_sl ([.ref h0, .int x, .int y, .int z, .ref o0]) ++ List.replicate (6 - (lg_sl ([.ref h0, .int x, .int y, .int z, .ref o0])).length) Slot.unset).toArray = ls at hl ⊢
  have hl : lv_has ls 6 [(0, .ref h0), (1, .int x), (2, .int y), (3, .int z), (4, .ref o0)] := hl
  refine lv_aload hx hb dL_count_0 (lv_at hl 4 rfl) ?_
  refine lv_iconst (v := 0) hx hb dL_count_2 (by decide) ?_
  refine lv_aload_n hx hb dL_count_3 rfl (lv_at hl 0 rfl) ?_
  refine lv_iload_n hx hb dL_count_4 rfl (lv_at hl 1 rfl) ?_
  refine lv_iload_n hx hb dL_count_5 rfl (lv_at hl 2 rfl) ?_
  refine lv_iload_n hx hb dL_count_6 rfl (lv_at hl 3 rfl) ?_
  refine ps_cx (wc := ps_shW h0 q1 q2 q3 cx cy cz pl pw ++ ps_trW cI cZ q1 a1 n1 g1 ++ ps_trW cI cZ q2 a2 n2 g2 ++ ps_lsW cI q3 b lf le lh) (wr := [(o0, .inl (cL, 1, .inr (.inl ov)))]) (w1 := ps_shW h0 q1 q2 q3 cx cy cz pl pw ++ ps_trW cI cZ q1 a1 n1 g1 ++ ps_trW cI cZ q2 a2 n2 g2 ++ ps_lsW cI q3 b lf le lh) (ws2 := ps_shW h0 q1 q2 q3 cx cy cz pl pw ++ ps_trW cI cZ q1 a1 n1 g1 ++ ps_trW cI cZ q2 a2 n2 g2 ++ ps_lsW cI q3 b lf le lh ++ [(o0, .inl (cL, 1, .inr (.inl ov)))]) (vx_runV (C := RX2) (As := [.int x, .int y, .int z]) (rest := [.int 0, .ref o0]) ⟨hx, hb, hml, hown, hT⟩ (mX2_count_x l hlt dC dI cI cZ h0 q1 q2 q3 b a1 a2 n1 n2 g1 g2 lf le lh cx cy cz pl pw x y z hbad _) (cwV 3 hT (ps_gV tw_ml_L_42 tw_im_X2_count tw_se_X2_count tw_in_X2 tw_co_X2_count) rfl rfl rfl ⟨rfl, by decide, by decide, by decide +kernel⟩ ⟨Nat.le_of_ble_eq_true rfl, Nat.le_of_ble_eq_true rfl⟩) (ps_xreV (wc := ps_shW h0 q1 q2 q3 cx cy cz pl pw ++ ps_trW cI cZ q1 a1 n1 g1 ++ ps_trW cI cZ q2 a2 n2 g2 ++ ps_lsW cI q3 b lf le lh) (ci := 2) [0, 1, 2, 3, 4, 5, 6, 7, 8, 9, 10, 11, 12, 13, 14, 15, 16, 17, 18, 19, 20] hN hE hZ hS hA hP hK hD rfl rfl rfl rfl rfl) rfl rfl hl.1 rfl (lv_room (Nat.le_of_ble_eq_true rfl)) dL_count_7 ⟨Nat.le_of_ble_eq_true rfl, Nat.le_of_ble_eq_true rfl⟩) hS hA hP hD [0, 1, 2, 3, 4, 5, 6, 7, 8, 9, 10, 11, 12, 13, 14, 15, 16, 17, 18, 19, 20] [21] [1, 2, 3, 4, 5, 6, 7, 8, 9, 10, 11, 12, 13, 14, 15, 16, 17, 18, 19, 20, 21, 0] rfl rfl rfl (by decide) rfl rfl rfl (fun ce q9 H locs hP hD hS hce hcv hcl => ?_)
  refine vx_catch (E := "java/lang/IllegalArgumentException") (name := "java/lang/IllegalArgumentException") hown [] ⟨0, 12, 15, 13⟩ [] (by rw [htab]; rfl) (fun z hz => by cases hz) (by decide) (by decide) (hT _ tw_cl_L_13) (va_Nw.use rfl (hE.1.1 _ (by decide +kernel))) hce hcv hcl ?_
  refine lv_astore (lv' := [(5, .ref q9), (0, .ref h0), (1, .int x), (2, .int y), (3, .int z), (4, .ref o0)]) hx hb dL_count_15 hl (by decide) rfl (fun ls hl => ?_)
  refine lv_iconst (v := 1) hx hb dL_count_17 (by decide) ?_
  refine W.widen (k := 1) (n := 6) (Nat.le_of_ble_eq_true rfl) (Nat.le_of_ble_eq_true rfl) ?_
  exact W.iret (v := 1) hx hb hr (fun t ht hW => ⟨⟨1, (), rfl, rfl, by rw [ht]; exact hP, va_K.moved hW.alike hK3, hD⟩, hS.F ht⟩) hS.2.2 dL_count_18
set_option maxHeartbeats 4000000 in
set_option maxRecDepth 100000 in
theorem mL_nearest_n (l : Launch) (hlt : l.stackTraces = false) (dC : Nat → ClassId) (dI : Nat → Nat → Nat) (cI cZ : ClassId) (h0 q1 q2 q3 b : Nat) (a1 a2 : Nat → Nat) (n1 n2 : Nat) (g1 g2 : ps_G) (lf le : Nat) (lh : Nat → Int32) (cx cy cz pl pw : Int32) (cL : ClassId) (o0 : Nat) (ov : Nat → Int64) (hn1 : n1 ≤ 48) (x y z : Int32) (hx0 : ps_co x = true) (hy0 : ps_co y = true) (hz0 : ps_co z = true) (k : Nat) (hk1 : 1 ≤ k) (hk : k ≤ n1) (sz : Nat) : Met l yL_nearest (.codeWith yL_nearest cL_nearest 7 (some .int) hhL_nearest :: ps_T) ({ frames := 4, cells := 1, slots := 6, locals := 108 }) (ps_xc (dC, dI) (ps_ty3 cI cZ cL) (ps_shW h0 q1 q2 q3 cx cy cz pl pw ++ ps_trW cI cZ q1 a1 n1 g1 ++ ps_trW cI cZ q2 a2 n2 g2 ++ ps_lsW cI q3 b lf le lh ++ [(o0, .inl (cL, 1, .inr (.inl ov)))]) sz [.ref h0, .int x, .int y, .int z, .int (nI k), .ref o0]) (va_Qi (fun (r : Int32) (_ : Unit) => r = 0) (ps_qB (dC, dI) (ps_ty3 cI cZ cL) (va_A (ps_shW h0 q1 q2 q3 cx cy cz pl pw ++ ps_trW cI cZ q1 a1 n1 g1 ++ ps_trW cI cZ q2 a2 n2 g2 ++ ps_lsW cI q3 b lf le lh ++ [(o0, .inl (cL, 1, .inr (.inl ov)))]) sz) (ps_shW h0 q1 q2 q3 cx cy cz pl pw ++ ps_trW cI cZ q1 a1 n1 g1 ++ ps_trW cI cZ q2 a2 n2 g2 ++ ps_lsW cI q3 b lf le lh ++ [(o0, .inl (cL, 1, .inr (.inl (vp_updL ov 0 ((ps_ik (ps_dk g1 x y z) n1 k).toInt32).toInt64))))])) (va_A (ps_shW h0 q1 q2 q3 cx cy cz pl pw ++ ps_trW cI cZ q1 a1 n1 g1 ++ ps_trW cI cZ q2 a2 n2 g2 ++ ps_lsW cI q3 b lf le lh ++ [(o0, .inl (cL, 1, .inr (.inl ov)))]) sz)) 1 6 (va_A (ps_shW h0 q1 q2 q3 cx cy cz pl pw ++ ps_trW cI cZ q1 a1 n1 g1 ++ ps_trW cI cZ q2 a2 n2 g2 ++ ps_lsW cI q3 b lf le lh ++ [(o0, .inl (cL, 1, .inr (.inl ov)))]) sz) := by
  refine va_MetW (cc := cL_nearest) (maxL := 7) (ret := (some .int)) (hh := hhL_nearest) (by decide) rfl ?_
  intro p e s m args below meth c s₁ B hml hv
  obtain ⟨rfl, hsz, hN, hE, hZ, hP, hK3, hD0⟩ := hv
  have hK : va_K (dC, dI) vwCl (ps_ty cI cZ) s := hK3.sub [0, 1] rfl
  have hx := B.exec
  have hb := B.bytes
  have hr := B.returns
  have hlocks := B.notSynchronized
  have hts := atoms_spec (ws := (.codeWith yL_nearest cL_nearest 7 (some .int) hhL_nearest :: ps_T)) B.pre
  have hT : ∀ w ∈ ps_T, w.before ([.ref h0, .int x, .int y, .int z, .int (nI k), .ref o0] : List Value).toArray s = true := fun w h => hts w (List.mem_cons_of_mem _ h)
  have htab := vx_table (x := yL_nearest) B (hts _ List.mem_cons_self)
  have hown : s.vm.findClass RL = some m.cls := findClass_of_methodNamed B.named
  subst hsz
  have hD := hD0.self (sz := s.heap.size)
  generalize hAe : va_A (ps_shW h0 q1 q2 q3 cx cy cz pl pw ++ ps_trW cI cZ q1 a1 n1 g1 ++ ps_trW cI cZ q2 a2 n2 g2 ++ ps_lsW cI q3 b lf le lh ++ [(o0, .inl (cL, 1, .inr (.inl ov)))]) s.heap.size = A at hD hZ ⊢
  have hA : ∀ q : Nat, s.heap.size ≤ q → A q := fun q h => by rw [← hAe]; exact Or.inr h
  have hS : va_S A s.heap s.heap [] := va_S.rf
  have hl := lv_entry ([.ref h0, .int x, .int y, .int z, .int (nI k), .ref o0]) (n := 7) (Nat.le_of_ble_eq_true rfl)
  rw [lg_entry_eq]
  generalize (lg_sl ([.ref h0, .int x, .int y, .int z, .int (nI k), .ref o0]) ++ List.replicate (7 - (lg_sl ([.ref h0, .int x, .int y, .int z, .int (nI k), .ref o0])).length) Slot.unset).toArray = ls at hl ⊢
  have hl : lv_has ls 7 [(0, .ref h0), (1, .int x), (2, .int y), (3, .int z), (4, .int (nI k)), (5, .ref o0)] := hl
  refine lv_aload hx hb dL_nearest_0 (lv_at hl 5 rfl) ?_
  refine lv_iconst (v := 0) hx hb dL_nearest_2 (by decide) ?_
  refine lv_aload_n hx hb dL_nearest_3 rfl (lv_at hl 0 rfl) ?_
  refine lv_iload_n hx hb dL_nearest_4 rfl (lv_at hl 1 rfl) ?_
  refine lv_iload_n hx hb dL_nearest_5 rfl (lv_at hl 2 rfl) ?_
  refine lv_iload_n hx hb dL_nearest_6 rfl (lv_at hl 3 rfl) ?_
  refine lv_iload hx hb dL_nearest_7 (lv_at hl 4 rfl) ?_
  refine vp_callSi (va_Run.run (va_runV (C := RX2) (As := [.int x, .int y, .int z, .int (nI k)]) (rest := [.int 0, .ref o0]) ⟨hx, hb, hml, hown, hT⟩ (mX2_nearest_n l dC dI cI cZ h0 q1 q2 q3 b a1 a2 n1 n2 g1 g2 lf le lh cx cy cz pl pw hn1 x y z hx0 hy0 hz0 k hk1 hk) (cwV 4 hT (ps_gV tw_ml_L_46 tw_im_X2_nearest tw_se_X2_nearest tw_in_X2 tw_co_X2_nearest) rfl rfl rfl ⟨rfl, by decide, by decide, by decide +kernel⟩ ⟨Nat.le_of_ble_eq_true rfl, Nat.le_of_ble_eq_true rfl⟩) (ps_preV (ci := 2) (q0 := 0) hN (hP.sub (ws' := ps_shW h0 q1 q2 q3 cx cy cz pl pw ++ ps_trW cI cZ q1 a1 n1 g1 ++ ps_trW cI cZ q2 a2 n2 g2 ++ ps_lsW cI q3 b lf le lh) [0, 1, 2, 3, 4, 5, 6, 7, 8, 9, 10, 11, 12, 13, 14, 15, 16, 17, 18, 19, 20] rfl) hK rfl rfl) rfl rfl hl.1 rfl (lv_room (Nat.le_of_ble_eq_true rfl)) dL_nearest_9 ⟨Nat.le_of_ble_eq_true rfl, Nat.le_of_ble_eq_true rfl⟩)) (fun r hr9 => ?_)
  obtain rfl : r = (ps_ik (ps_dk g1 x y z) n1 k).toInt32 := hr9
  refine lv_i2l (v := ((ps_ik (ps_dk g1 x y z) n1 k).toInt32).toInt64) hx hb dL_nearest_12 rfl ?_
  refine va_last hx hb hK3 hP hD hS 21 2 rfl rfl (by unfold vp_in; decide) dL_nearest_13 (fun H locs hP hD hS => ?_)
  have hP : va_P (dC, dI) vwCl (ps_shW h0 q1 q2 q3 cx cy cz pl pw ++ ps_trW cI cZ q1 a1 n1 g1 ++ ps_trW cI cZ q2 a2 n2 g2 ++ ps_lsW cI q3 b lf le lh ++ [(o0, .inl (cL, 1, .inr (.inl (vp_updL ov 0 (((ps_ik (ps_dk g1 x y z) n1 k).toInt32).toInt64)))))]) H := hP
  have hD : va_D A (ps_shW h0 q1 q2 q3 cx cy cz pl pw ++ ps_trW cI cZ q1 a1 n1 g1 ++ ps_trW cI cZ q2 a2 n2 g2 ++ ps_lsW cI q3 b lf le lh ++ [(o0, .inl (cL, 1, .inr (.inl (vp_updL ov 0 (((ps_ik (ps_dk g1 x y z) n1 k).toInt32).toInt64)))))]) := hD
  refine lv_goto (tgt := 25) hx hb dL_nearest_14 rfl ?_
  refine lv_iconst (v := 0) hx hb dL_nearest_25 (by decide) ?_
  refine W.widen (k := 1) (n := 6) (Nat.le_of_ble_eq_true rfl) (Nat.le_of_ble_eq_true rfl) ?_
  exact W.iret (v := 0) hx hb hr (fun t ht hW => ⟨⟨0, (), rfl, rfl, by rw [ht]; exact hP, va_K.moved hW.alike hK3, hD⟩, hS.F ht⟩) hS.2.2 dL_nearest_26
set_option maxHeartbeats 4000000 in
set_option maxRecDepth 100000 in
theorem mL_nearest_x1 (l : Launch) (hlt : l.stackTraces = false) (dC : Nat → ClassId) (dI : Nat → Nat → Nat) (cI cZ : ClassId) (h0 q1 q2 q3 b : Nat) (a1 a2 : Nat → Nat) (n1 n2 : Nat) (g1 g2 : ps_G) (lf le : Nat) (lh : Nat → Int32) (cx cy cz pl pw : Int32) (cL : ClassId) (o0 : Nat) (ov : Nat → Int64) (x y z : Int32) (hbad : ¬ (ps_co x = true ∧ ps_co y = true ∧ ps_co z = true)) (k : Int32) (sz : Nat) : Met l yL_nearest (.codeWith yL_nearest cL_nearest 7 (some .int) hhL_nearest :: ps_T) ({ frames := 8, cells := 1, slots := 6, locals := 136 }) (ps_xc (dC, dI) (ps_ty3 cI cZ cL) (ps_shW h0 q1 q2 q3 cx cy cz pl pw ++ ps_trW cI cZ q1 a1 n1 g1 ++ ps_trW cI cZ q2 a2 n2 g2 ++ ps_lsW cI q3 b lf le lh ++ [(o0, .inl (cL, 1, .inr (.inl ov)))]) sz [.ref h0, .int x, .int y, .int z, .int k, .ref o0]) (va_Qi (fun (r : Int32) (_ : Unit) => r = 1) (ps_qB (dC, dI) (ps_ty3 cI cZ cL) (va_A (ps_shW h0 q1 q2 q3 cx cy cz pl pw ++ ps_trW cI cZ q1 a1 n1 g1 ++ ps_trW cI cZ q2 a2 n2 g2 ++ ps_lsW cI q3 b lf le lh ++ [(o0, .inl (cL, 1, .inr (.inl ov)))]) sz) (ps_shW h0 q1 q2 q3 cx cy cz pl pw ++ ps_trW cI cZ q1 a1 n1 g1 ++ ps_trW cI cZ q2 a2 n2 g2 ++ ps_lsW cI q3 b lf le lh ++ [(o0, .inl (cL, 1, .inr (.inl ov)))])) (va_A (ps_shW h0 q1 q2 q3 cx cy cz pl pw ++ ps_trW cI cZ q1 a1 n1 g1 ++ ps_trW cI cZ q2 a2 n2 g2 ++ ps_lsW cI q3 b lf le lh ++ [(o0, .inl (cL, 1, .inr (.inl ov)))]) sz)) 1 6 (va_A (ps_shW h0 q1 q2 q3 cx cy cz pl pw ++ ps_trW cI cZ q1 a1 n1 g1 ++ ps_trW cI cZ q2 a2 n2 g2 ++ ps_lsW cI q3 b lf le lh ++ [(o0, .inl (cL, 1, .inr (.inl ov)))]) sz) := by
  refine va_MetW (cc := cL_nearest) (maxL := 7) (ret := (some .int)) (hh := hhL_nearest) (by decide) rfl ?_
  intro p e s m args below meth c s₁ B hml hv
  obtain ⟨rfl, hsz, hN, hE, hZ, hP, hK3, hD0⟩ := hv
  have hK : va_K (dC, dI) vwCl (ps_ty cI cZ) s := hK3.sub [0, 1] rfl
  have hx := B.exec
  have hb := B.bytes
  have hr := B.returns
  have hlocks := B.notSynchronized
  have hts := atoms_spec (ws := (.codeWith yL_nearest cL_nearest 7 (some .int) hhL_nearest :: ps_T)) B.pre
  have hT : ∀ w ∈ ps_T, w.before ([.ref h0, .int x, .int y, .int z, .int k, .ref o0] : List Value).toArray s = true := fun w h => hts w (List.mem_cons_of_mem _ h)
  have htab := vx_table (x := yL_nearest) B (hts _ List.mem_cons_self)
  have hown : s.vm.findClass RL = some m.cls := findClass_of_methodNamed B.named
  subst hsz
  have hD := hD0.self (sz := s.heap.size)
  generalize hAe : va_A (ps_shW h0 q1 q2 q3 cx cy cz pl pw ++ ps_trW cI cZ q1 a1 n1 g1 ++ ps_trW cI cZ q2 a2 n2 g2 ++ ps_lsW cI q3 b lf le lh ++ [(o0, .inl (cL, 1, .inr (.inl ov)))]) s.heap.size = A at hD hZ ⊢
  have hA : ∀ q : Nat, s.heap.size ≤ q → A q := fun q h => by rw [← hAe]; exact Or.inr h
  have hS : va_S A s.heap s.heap [] := va_S.rf
  have hl := lv_entry ([.ref h0, .int x, .int y, .int z, .int k, .ref o0]) (n := 7) (Nat.le_of_ble_eq_true rfl)
  rw [lg_entry_eq]
  generalize (lg_sl ([.ref h0, .int x, .int y, .int z, .int k, .ref o0]) ++ List.replicate (7 - (lg_sl ([.ref h0, .int x, .int y, .int z, .int k, .ref o0])).length) Slot.unset).toArray = ls at hl ⊢
  have hl : lv_has ls 7 [(0, .ref h0), (1, .int x), (2, .int y), (3, .int z), (4, .int k), (5, .ref o0)] := hl
  refine lv_aload hx hb dL_nearest_0 (lv_at hl 5 rfl) ?_
  refine lv_iconst (v := 0) hx hb dL_nearest_2 (by decide) ?_
  refine lv_aload_n hx hb dL_nearest_3 rfl (lv_at hl 0 rfl) ?_
  refine lv_iload_n hx hb dL_nearest_4 rfl (lv_at hl 1 rfl) ?_
  refine lv_iload_n hx hb dL_nearest_5 rfl (lv_at hl 2 rfl) ?_
  refine lv_iload_n hx hb dL_nearest_6 rfl (lv_at hl 3 rfl) ?_
  refine lv_iload hx hb dL_nearest_7 (lv_at hl 4 rfl) ?_
  refine ps_cx (wc := ps_shW h0 q1 q2 q3 cx cy cz pl pw ++ ps_trW cI cZ q1 a1 n1 g1 ++ ps_trW cI cZ q2 a2 n2 g2 ++ ps_lsW cI q3 b lf le lh) (wr := [(o0, .inl (cL, 1, .inr (.inl ov)))]) (w1 := ps_shW h0 q1 q2 q3 cx cy cz pl pw ++ ps_trW cI cZ q1 a1 n1 g1 ++ ps_trW cI cZ q2 a2 n2 g2 ++ ps_lsW cI q3 b lf le lh) (ws2 := ps_shW h0 q1 q2 q3 cx cy cz pl pw ++ ps_trW cI cZ q1 a1 n1 g1 ++ ps_trW cI cZ q2 a2 n2 g2 ++ ps_lsW cI q3 b lf le lh ++ [(o0, .inl (cL, 1, .inr (.inl ov)))]) (vx_runV (C := RX2) (As := [.int x, .int y, .int z, .int k]) (rest := [.int 0, .ref o0]) ⟨hx, hb, hml, hown, hT⟩ (mX2_nearest_x1 l hlt dC dI cI cZ h0 q1 q2 q3 b a1 a2 n1 n2 g1 g2 lf le lh cx cy cz pl pw x y z hbad k _) (cwV 4 hT (ps_gV tw_ml_L_46 tw_im_X2_nearest tw_se_X2_nearest tw_in_X2 tw_co_X2_nearest) rfl rfl rfl ⟨rfl, by decide, by decide, by decide +kernel⟩ ⟨Nat.le_of_ble_eq_true rfl, Nat.le_of_ble_eq_true rfl⟩) (ps_xreV (wc := ps_shW h0 q1 q2 q3 cx cy cz pl pw ++ ps_trW cI cZ q1 a1 n1 g1 ++ ps_trW cI cZ q2 a2 n2 g2 ++ ps_lsW cI q3 b lf le lh) (ci := 2) [0, 1, 2, 3, 4, 5, 6, 7, 8, 9, 10, 11, 12, 13, 14, 15, 16, 17, 18, 19, 20] hN hE hZ hS hA hP hK hD rfl rfl rfl rfl rfl) rfl rfl hl.1 rfl (lv_room (Nat.le_of_ble_eq_true rfl)) dL_nearest_9 ⟨Nat.le_of_ble_eq_true rfl, Nat.le_of_ble_eq_true rfl⟩) hS hA hP hD [0, 1, 2, 3, 4, 5, 6, 7, 8, 9, 10, 11, 12, 13, 14, 15, 16, 17, 18, 19, 20] [21] [1, 2, 3, 4, 5, 6, 7, 8, 9, 10, 11, 12, 13, 14, 15, 16, 17, 18, 19, 20, 21, 0] rfl rfl rfl (by decide) rfl rfl rfl (fun ce q9 H locs hP hD hS hce hcv hcl => ?_)
  refine vx_catch (E := "java/lang/IllegalArgumentException") (name := "java/lang/IllegalArgumentException") hown [] ⟨0, 14, 17, 13⟩ [⟨0, 14, 21, 21⟩] (by rw [htab]; rfl) (fun z hz => by cases hz) (by decide) (by decide) (hT _ tw_cl_L_13) (va_Nw.use rfl (hE.1.1 _ (by decide +kernel))) hce hcv hcl ?_
  refine lv_astore (lv' := [(6, .ref q9), (0, .ref h0), (1, .int x), (2, .int y), (3, .int z), (4, .int k), (5, .ref o0)]) hx hb dL_nearest_17 hl (by decide) rfl (fun ls hl => ?_)
  refine lv_iconst (v := 1) hx hb dL_nearest_19 (by decide) ?_
  refine W.widen (k := 1) (n := 6) (Nat.le_of_ble_eq_true rfl) (Nat.le_of_ble_eq_true rfl) ?_
  exact W.iret (v := 1) hx hb hr (fun t ht hW => ⟨⟨1, (), rfl, rfl, by rw [ht]; exact hP, va_K.moved hW.alike hK3, hD⟩, hS.F ht⟩) hS.2.2 dL_nearest_20
set_option maxHeartbeats 4000000 in
set_option maxRecDepth 100000 in
theorem mL_nearest_x2 (l : Launch) (hlt : l.stackTraces = false) (dC : Nat → ClassId) (dI : Nat → Nat → Nat) (cI cZ : ClassId) (h0 q1 q2 q3 b : Nat) (a1 a2 : Nat → Nat) (n1 n2 : Nat) (g1 g2 : ps_G) (lf le : Nat) (lh : Nat → Int32) (cx cy cz pl pw : Int32) (cL : ClassId) (o0 : Nat) (ov : Nat → Int64) (x y z : Int32) (hx0 : ps_co x = true) (hy0 : ps_co y = true) (hz0 : ps_co z = true) (k : Int32) (hk : k < 1) (sz : Nat) : Met l yL_nearest (.codeWith yL_nearest cL_nearest 7 (some .int) hhL_nearest :: ps_T) ({ frames := 7, cells := 1, slots := 6, locals := 114 }) (ps_xc (dC, dI) (ps_ty3 cI cZ cL) (ps_shW h0 q1 q2 q3 cx cy cz pl pw ++ ps_trW cI cZ q1 a1 n1 g1 ++ ps_trW cI cZ q2 a2 n2 g2 ++ ps_lsW cI q3 b lf le lh ++ [(o0, .inl (cL, 1, .inr (.inl ov)))]) sz [.ref h0, .int x, .int y, .int z, .int k, .ref o0]) (va_Qi (fun (r : Int32) (_ : Unit) => r = 1) (ps_qB (dC, dI) (ps_ty3 cI cZ cL) (va_A (ps_shW h0 q1 q2 q3 cx cy cz pl pw ++ ps_trW cI cZ q1 a1 n1 g1 ++ ps_trW cI cZ q2 a2 n2 g2 ++ ps_lsW cI q3 b lf le lh ++ [(o0, .inl (cL, 1, .inr (.inl ov)))]) sz) (ps_shW h0 q1 q2 q3 cx cy cz pl pw ++ ps_trW cI cZ q1 a1 n1 g1 ++ ps_trW cI cZ q2 a2 n2 g2 ++ ps_lsW cI q3 b lf le lh ++ [(o0, .inl (cL, 1, .inr (.inl ov)))])) (va_A (ps_shW h0 q1 q2 q3 cx cy cz pl pw ++ ps_trW cI cZ q1 a1 n1 g1 ++ ps_trW cI cZ q2 a2 n2 g2 ++ ps_lsW cI q3 b lf le lh ++ [(o0, .inl (cL, 1, .inr (.inl ov)))]) sz)) 1 6 (va_A (ps_shW h0 q1 q2 q3 cx cy cz pl pw ++ ps_trW cI cZ q1 a1 n1 g1 ++ ps_trW cI cZ q2 a2 n2 g2 ++ ps_lsW cI q3 b lf le lh ++ [(o0, .inl (cL, 1, .inr (.inl ov)))]) sz) := by
  refine va_MetW (cc := cL_nearest) (maxL := 7) (ret := (some .int)) (hh := hhL_nearest) (by decide) rfl ?_
  intro p e s m args below meth c s₁ B hml hv
  obtain ⟨rfl, hsz, hN, hE, hZ, hP, hK3, hD0⟩ := hv
  have hK : va_K (dC, dI) vwCl (ps_ty cI cZ) s := hK3.sub [0, 1] rfl
  have hx := B.exec
  have hb := B.bytes
  have hr := B.returns
  have hlocks := B.notSynchronized
  have hts := atoms_spec (ws := (.codeWith yL_nearest cL_nearest 7 (some .int) hhL_nearest :: ps_T)) B.pre
  have hT : ∀ w ∈ ps_T, w.before ([.ref h0, .int x, .int y, .int z, .int k, .ref o0] : List Value).toArray s = true := fun w h => hts w (List.mem_cons_of_mem _ h)
  have htab := vx_table (x := yL_nearest) B (hts _ List.mem_cons_self)
  have hown : s.vm.findClass RL = some m.cls := findClass_of_methodNamed B.named
  subst hsz
  have hD := hD0.self (sz := s.heap.size)
  generalize hAe : va_A (ps_shW h0 q1 q2 q3 cx cy cz pl pw ++ ps_trW cI cZ q1 a1 n1 g1 ++ ps_trW cI cZ q2 a2 n2 g2 ++ ps_lsW cI q3 b lf le lh ++ [(o0, .inl (cL, 1, .inr (.inl ov)))]) s.heap.size = A at hD hZ ⊢
  have hA : ∀ q : Nat, s.heap.size ≤ q → A q := fun q h => by rw [← hAe]; exact Or.inr h
  have hS : va_S A s.heap s.heap [] := va_S.rf
  have hl := lv_entry ([.ref h0, .int x, .int y, .int z, .int k, .ref o0]) (n := 7) (Nat.le_of_ble_eq_true rfl)
  rw [lg_entry_eq]
  generalize (lg_sl ([.ref h0, .int x, .int y, .int z, .int k, .ref o0]) ++ List.replicate (7 - (lg_sl ([.ref h0, .int x, .int y, .int z, .int k, .ref o0])).length) Slot.unset).toArray = ls at hl ⊢
  have hl : lv_has ls 7 [(0, .ref h0), (1, .int x), (2, .int y), (3, .int z), (4, .int k), (5, .ref o0)] := hl
  refine lv_aload hx hb dL_nearest_0 (lv_at hl 5 rfl) ?_
  refine lv_iconst (v := 0) hx hb dL_nearest_2 (by decide) ?_
  refine lv_aload_n hx hb dL_nearest_3 rfl (lv_at hl 0 rfl) ?_
  refine lv_iload_n hx hb dL_nearest_4 rfl (lv_at hl 1 rfl) ?_
  refine lv_iload_n hx hb dL_nearest_5 rfl (lv_at hl 2 rfl) ?_
  refine lv_iload_n hx hb dL_nearest_6 rfl (lv_at hl 3 rfl) ?_
  refine lv_iload hx hb dL_nearest_7 (lv_at hl 4 rfl) ?_
  refine ps_cx (wc := ps_shW h0 q1 q2 q3 cx cy cz pl pw ++ ps_trW cI cZ q1 a1 n1 g1 ++ ps_trW cI cZ q2 a2 n2 g2 ++ ps_lsW cI q3 b lf le lh) (wr := [(o0, .inl (cL, 1, .inr (.inl ov)))]) (w1 := ps_shW h0 q1 q2 q3 cx cy cz pl pw ++ ps_trW cI cZ q1 a1 n1 g1 ++ ps_trW cI cZ q2 a2 n2 g2 ++ ps_lsW cI q3 b lf le lh) (ws2 := ps_shW h0 q1 q2 q3 cx cy cz pl pw ++ ps_trW cI cZ q1 a1 n1 g1 ++ ps_trW cI cZ q2 a2 n2 g2 ++ ps_lsW cI q3 b lf le lh ++ [(o0, .inl (cL, 1, .inr (.inl ov)))]) (vx_runV (C := RX2) (As := [.int x, .int y, .int z, .int k]) (rest := [.int 0, .ref o0]) ⟨hx, hb, hml, hown, hT⟩ (mX2_nearest_x2 l hlt dC dI cI cZ h0 q1 q2 q3 b a1 a2 n1 n2 g1 g2 lf le lh cx cy cz pl pw x y z hx0 hy0 hz0 k hk _) (cwV 4 hT (ps_gV tw_ml_L_46 tw_im_X2_nearest tw_se_X2_nearest tw_in_X2 tw_co_X2_nearest) rfl rfl rfl ⟨rfl, by decide, by decide, by decide +kernel⟩ ⟨Nat.le_of_ble_eq_true rfl, Nat.le_of_ble_eq_true rfl⟩) (ps_xreV (wc := ps_shW h0 q1 q2 q3 cx cy cz pl pw ++ ps_trW cI cZ q1 a1 n1 g1 ++ ps_trW cI cZ q2 a2 n2 g2 ++ ps_lsW cI q3 b lf le lh) (ci := 2) [0, 1, 2, 3, 4, 5, 6, 7, 8, 9, 10, 11, 12, 13, 14, 15, 16, 17, 18, 19, 20] hN hE hZ hS hA hP hK hD rfl rfl rfl rfl rfl) rfl rfl hl.1 rfl (lv_room (Nat.le_of_ble_eq_true rfl)) dL_nearest_9 ⟨Nat.le_of_ble_eq_true rfl, Nat.le_of_ble_eq_true rfl⟩) hS hA hP hD [0, 1, 2, 3, 4, 5, 6, 7, 8, 9, 10, 11, 12, 13, 14, 15, 16, 17, 18, 19, 20] [21] [1, 2, 3, 4, 5, 6, 7, 8, 9, 10, 11, 12, 13, 14, 15, 16, 17, 18, 19, 20, 21, 0] rfl rfl rfl (by decide) rfl rfl rfl (fun ce q9 H locs hP hD hS hce hcv hcl => ?_)
  refine vx_catch (E := "java/lang/IllegalArgumentException") (name := "java/lang/IllegalArgumentException") hown [] ⟨0, 14, 17, 13⟩ [⟨0, 14, 21, 21⟩] (by rw [htab]; rfl) (fun z hz => by cases hz) (by decide) (by decide) (hT _ tw_cl_L_13) (va_Nw.use rfl (hE.1.1 _ (by decide +kernel))) hce hcv hcl ?_
  refine lv_astore (lv' := [(6, .ref q9), (0, .ref h0), (1, .int x), (2, .int y), (3, .int z), (4, .int k), (5, .ref o0)]) hx hb dL_nearest_17 hl (by decide) rfl (fun ls hl => ?_)
  refine lv_iconst (v := 1) hx hb dL_nearest_19 (by decide) ?_
  refine W.widen (k := 1) (n := 6) (Nat.le_of_ble_eq_true rfl) (Nat.le_of_ble_eq_true rfl) ?_
  exact W.iret (v := 1) hx hb hr (fun t ht hW => ⟨⟨1, (), rfl, rfl, by rw [ht]; exact hP, va_K.moved hW.alike hK3, hD⟩, hS.F ht⟩) hS.2.2 dL_nearest_20
set_option maxHeartbeats 4000000 in
set_option maxRecDepth 100000 in
theorem mL_nearest_x3 (l : Launch) (hlt : l.stackTraces = false) (dC : Nat → ClassId) (dI : Nat → Nat → Nat) (cI cZ : ClassId) (h0 q1 q2 q3 b : Nat) (a1 a2 : Nat → Nat) (n1 n2 : Nat) (g1 g2 : ps_G) (lf le : Nat) (lh : Nat → Int32) (cx cy cz pl pw : Int32) (cL : ClassId) (o0 : Nat) (ov : Nat → Int64) (x y z : Int32) (hx0 : ps_co x = true) (hy0 : ps_co y = true) (hz0 : ps_co z = true) (k : Int32) (hk : ¬ k < 1) (hk2 : nI n1 < k) (sz : Nat) : Met l yL_nearest (.codeWith yL_nearest cL_nearest 7 (some .int) hhL_nearest :: ps_T) ({ frames := 7, cells := 1, slots := 6, locals := 114 }) (ps_xc (dC, dI) (ps_ty3 cI cZ cL) (ps_shW h0 q1 q2 q3 cx cy cz pl pw ++ ps_trW cI cZ q1 a1 n1 g1 ++ ps_trW cI cZ q2 a2 n2 g2 ++ ps_lsW cI q3 b lf le lh ++ [(o0, .inl (cL, 1, .inr (.inl ov)))]) sz [.ref h0, .int x, .int y, .int z, .int k, .ref o0]) (va_Qi (fun (r : Int32) (_ : Unit) => r = 2) (ps_qB (dC, dI) (ps_ty3 cI cZ cL) (va_A (ps_shW h0 q1 q2 q3 cx cy cz pl pw ++ ps_trW cI cZ q1 a1 n1 g1 ++ ps_trW cI cZ q2 a2 n2 g2 ++ ps_lsW cI q3 b lf le lh ++ [(o0, .inl (cL, 1, .inr (.inl ov)))]) sz) (ps_shW h0 q1 q2 q3 cx cy cz pl pw ++ ps_trW cI cZ q1 a1 n1 g1 ++ ps_trW cI cZ q2 a2 n2 g2 ++ ps_lsW cI q3 b lf le lh ++ [(o0, .inl (cL, 1, .inr (.inl ov)))])) (va_A (ps_shW h0 q1 q2 q3 cx cy cz pl pw ++ ps_trW cI cZ q1 a1 n1 g1 ++ ps_trW cI cZ q2 a2 n2 g2 ++ ps_lsW cI q3 b lf le lh ++ [(o0, .inl (cL, 1, .inr (.inl ov)))]) sz)) 1 6 (va_A (ps_shW h0 q1 q2 q3 cx cy cz pl pw ++ ps_trW cI cZ q1 a1 n1 g1 ++ ps_trW cI cZ q2 a2 n2 g2 ++ ps_lsW cI q3 b lf le lh ++ [(o0, .inl (cL, 1, .inr (.inl ov)))]) sz) := by
  refine va_MetW (cc := cL_nearest) (maxL := 7) (ret := (some .int)) (hh := hhL_nearest) (by decide) rfl ?_
  intro p e s m args below meth c s₁ B hml hv
  obtain ⟨rfl, hsz, hN, hE, hZ, hP, hK3, hD0⟩ := hv
  have hK : va_K (dC, dI) vwCl (ps_ty cI cZ) s := hK3.sub [0, 1] rfl
  have hx := B.exec
  have hb := B.bytes
  have hr := B.returns
  have hlocks := B.notSynchronized
  have hts := atoms_spec (ws := (.codeWith yL_nearest cL_nearest 7 (some .int) hhL_nearest :: ps_T)) B.pre
  have hT : ∀ w ∈ ps_T, w.before ([.ref h0, .int x, .int y, .int z, .int k, .ref o0] : List Value).toArray s = true := fun w h => hts w (List.mem_cons_of_mem _ h)
  have htab := vx_table (x := yL_nearest) B (hts _ List.mem_cons_self)
  have hown : s.vm.findClass RL = some m.cls := findClass_of_methodNamed B.named
  subst hsz
  have hD := hD0.self (sz := s.heap.size)
  generalize hAe : va_A (ps_shW h0 q1 q2 q3 cx cy cz pl pw ++ ps_trW cI cZ q1 a1 n1 g1 ++ ps_trW cI cZ q2 a2 n2 g2 ++ ps_lsW cI q3 b lf le lh ++ [(o0, .inl (cL, 1, .inr (.inl ov)))]) s.heap.size = A at hD hZ ⊢
  have hA : ∀ q : Nat, s.heap.size ≤ q → A q := fun q h => by rw [← hAe]; exact Or.inr h
  have hS : va_S A s.heap s.heap [] := va_S.rf
  have hl := lv_entry ([.ref h0, .int x, .int y, .int z, .int k, .ref o0]) (n := 7) (Nat.le_of_ble_eq_true rfl)
  rw [lg_entry_eq]
  generalize (lg_sl ([.ref h0, .int x, .int y, .int z, .int k, .ref o0]) ++ List.replicate (7 - (lg_sl ([.ref h0, .int x, .int y, .int z, .int k, .ref o0])).length) Slot.unset).toArray = ls at hl ⊢
  have hl : lv_has ls 7 [(0, .ref h0), (1, .int x), (2, .int y), (3, .int z), (4, .int k), (5, .ref o0)] := hl
  refine lv_aload hx hb dL_nearest_0 (lv_at hl 5 rfl) ?_
  refine lv_iconst (v := 0) hx hb dL_nearest_2 (by decide) ?_
  refine lv_aload_n hx hb dL_nearest_3 rfl (lv_at hl 0 rfl) ?_
  refine lv_iload_n hx hb dL_nearest_4 rfl (lv_at hl 1 rfl) ?_
  refine lv_iload_n hx hb dL_nearest_5 rfl (lv_at hl 2 rfl) ?_
  refine lv_iload_n hx hb dL_nearest_6 rfl (lv_at hl 3 rfl) ?_
  refine lv_iload hx hb dL_nearest_7 (lv_at hl 4 rfl) ?_
  refine ps_cx (wc := ps_shW h0 q1 q2 q3 cx cy cz pl pw ++ ps_trW cI cZ q1 a1 n1 g1 ++ ps_trW cI cZ q2 a2 n2 g2 ++ ps_lsW cI q3 b lf le lh) (wr := [(o0, .inl (cL, 1, .inr (.inl ov)))]) (w1 := ps_shW h0 q1 q2 q3 cx cy cz pl pw ++ ps_trW cI cZ q1 a1 n1 g1 ++ ps_trW cI cZ q2 a2 n2 g2 ++ ps_lsW cI q3 b lf le lh) (ws2 := ps_shW h0 q1 q2 q3 cx cy cz pl pw ++ ps_trW cI cZ q1 a1 n1 g1 ++ ps_trW cI cZ q2 a2 n2 g2 ++ ps_lsW cI q3 b lf le lh ++ [(o0, .inl (cL, 1, .inr (.inl ov)))]) (vx_runV (C := RX2) (As := [.int x, .int y, .int z, .int k]) (rest := [.int 0, .ref o0]) ⟨hx, hb, hml, hown, hT⟩ (mX2_nearest_x3 l hlt dC dI cI cZ h0 q1 q2 q3 b a1 a2 n1 n2 g1 g2 lf le lh cx cy cz pl pw x y z hx0 hy0 hz0 k hk hk2 _) (cwV 4 hT (ps_gV tw_ml_L_46 tw_im_X2_nearest tw_se_X2_nearest tw_in_X2 tw_co_X2_nearest) rfl rfl rfl ⟨rfl, by decide, by decide, by decide +kernel⟩ ⟨Nat.le_of_ble_eq_true rfl, Nat.le_of_ble_eq_true rfl⟩) (ps_xreV (wc := ps_shW h0 q1 q2 q3 cx cy cz pl pw ++ ps_trW cI cZ q1 a1 n1 g1 ++ ps_trW cI cZ q2 a2 n2 g2 ++ ps_lsW cI q3 b lf le lh) (ci := 2) [0, 1, 2, 3, 4, 5, 6, 7, 8, 9, 10, 11, 12, 13, 14, 15, 16, 17, 18, 19, 20] hN hE hZ hS hA hP hK hD rfl rfl rfl rfl rfl) rfl rfl hl.1 rfl (lv_room (Nat.le_of_ble_eq_true rfl)) dL_nearest_9 ⟨Nat.le_of_ble_eq_true rfl, Nat.le_of_ble_eq_true rfl⟩) hS hA hP hD [0, 1, 2, 3, 4, 5, 6, 7, 8, 9, 10, 11, 12, 13, 14, 15, 16, 17, 18, 19, 20] [21] [1, 2, 3, 4, 5, 6, 7, 8, 9, 10, 11, 12, 13, 14, 15, 16, 17, 18, 19, 20, 21, 0] rfl rfl rfl (by decide) rfl rfl rfl (fun ce q9 H locs hP hD hS hce hcv hcl => ?_)
  refine vx_catch (E := "java/util/NoSuchElementException") (name := "java/util/NoSuchElementException") hown [⟨0, 14, 17, 13⟩] ⟨0, 14, 21, 21⟩ [] (by rw [htab]; rfl) (fun z hz => by
      rcases List.mem_cons.mp hz with rfl | hz
      · exact Or.inr ⟨by decide, "java/lang/IllegalArgumentException", hT _ tw_cl_L_13, hE.2.2 _ (by decide +kernel) _ (by decide +kernel) (by decide)⟩
      · cases hz) (by decide) (by decide) (hT _ tw_cl_L_21) (va_Nw.use rfl (hE.1.1 _ (by decide +kernel))) hce hcv hcl ?_
  refine lv_astore (lv' := [(6, .ref q9), (0, .ref h0), (1, .int x), (2, .int y), (3, .int z), (4, .int k), (5, .ref o0)]) hx hb dL_nearest_21 hl (by decide) rfl (fun ls hl => ?_)
  refine lv_iconst (v := 2) hx hb dL_nearest_23 (by decide) ?_
  refine W.widen (k := 1) (n := 6) (Nat.le_of_ble_eq_true rfl) (Nat.le_of_ble_eq_true rfl) ?_
  exact W.iret (v := 2) hx hb hr (fun t ht hW => ⟨⟨2, (), rfl, rfl, by rw [ht]; exact hP, va_K.moved hW.alike hK3, hD⟩, hS.F ht⟩) hS.2.2 dL_nearest_24
set_option maxHeartbeats 4000000 in
set_option maxRecDepth 100000 in
theorem mL_kept_n (l : Launch) (hlt : l.stackTraces = false) (dC : Nat → ClassId) (dI : Nat → Nat → Nat) (cI cZ : ClassId) (h0 q1 q2 q3 b : Nat) (a1 a2 : Nat → Nat) (n1 n2 : Nat) (g1 g2 : ps_G) (lf le : Nat) (lh : Nat → Int32) (cx cy cz pl pw : Int32) (cL : ClassId) (o0 : Nat) (ov : Nat → Int64) (hn1 : n1 ≤ 48) (d x y z i : Int32) (hcu : ps_cu d x y z = true) (k : Nat) (hf : ps_fp (ps_fk g1 d x y z i) n1 = some k) (sz : Nat) : Met l yL_kept (.codeWith yL_kept cL_kept 8 (some .int) hhL_kept :: ps_T) ({ frames := 4, cells := 1, slots := 6, locals := 98 }) (ps_xc (dC, dI) (ps_ty3 cI cZ cL) (ps_shW h0 q1 q2 q3 cx cy cz pl pw ++ ps_trW cI cZ q1 a1 n1 g1 ++ ps_trW cI cZ q2 a2 n2 g2 ++ ps_lsW cI q3 b lf le lh ++ [(o0, .inl (cL, 1, .inr (.inl ov)))]) sz [.ref h0, .int d, .int x, .int y, .int z, .int i, .ref o0]) (va_Qi (fun (r : Int32) (_ : Unit) => r = 0) (ps_qB (dC, dI) (ps_ty3 cI cZ cL) (va_A (ps_shW h0 q1 q2 q3 cx cy cz pl pw ++ ps_trW cI cZ q1 a1 n1 g1 ++ ps_trW cI cZ q2 a2 n2 g2 ++ ps_lsW cI q3 b lf le lh ++ [(o0, .inl (cL, 1, .inr (.inl ov)))]) sz) (ps_shW h0 q1 q2 q3 cx cy cz pl pw ++ ps_trW cI cZ q1 a1 n1 g1 ++ ps_trW cI cZ q2 a2 n2 g2 ++ ps_lsW cI q3 b lf le lh ++ [(o0, .inl (cL, 1, .inr (.inl (vp_updL ov 0 (g1 0 k).toInt64))))])) (va_A (ps_shW h0 q1 q2 q3 cx cy cz pl pw ++ ps_trW cI cZ q1 a1 n1 g1 ++ ps_trW cI cZ q2 a2 n2 g2 ++ ps_lsW cI q3 b lf le lh ++ [(o0, .inl (cL, 1, .inr (.inl ov)))]) sz)) 1 6 (va_A (ps_shW h0 q1 q2 q3 cx cy cz pl pw ++ ps_trW cI cZ q1 a1 n1 g1 ++ ps_trW cI cZ q2 a2 n2 g2 ++ ps_lsW cI q3 b lf le lh ++ [(o0, .inl (cL, 1, .inr (.inl ov)))]) sz) := by
  refine va_MetW (cc := cL_kept) (maxL := 8) (ret := (some .int)) (hh := hhL_kept) (by decide) rfl ?_
  intro p e s m args below meth c s₁ B hml hv
  obtain ⟨rfl, hsz, hN, hE, hZ, hP, hK3, hD0⟩ := hv
  have hK : va_K (dC, dI) vwCl (ps_ty cI cZ) s := hK3.sub [0, 1] rfl
  have hx := B.exec
  have hb := B.bytes
  have hr := B.returns
  have hlocks := B.notSynchronized
  have hts := atoms_spec (ws := (.codeWith yL_kept cL_kept 8 (some .int) hhL_kept :: ps_T)) B.pre
  have hT : ∀ w ∈ ps_T, w.before ([.ref h0, .int d, .int x, .int y, .int z, .int i, .ref o0] : List Value).toArray s = true := fun w h => hts w (List.mem_cons_of_mem _ h)
  have htab := vx_table (x := yL_kept) B (hts _ List.mem_cons_self)
  have hown : s.vm.findClass RL = some m.cls := findClass_of_methodNamed B.named
  subst hsz
  have hD := hD0.self (sz := s.heap.size)
  generalize hAe : va_A (ps_shW h0 q1 q2 q3 cx cy cz pl pw ++ ps_trW cI cZ q1 a1 n1 g1 ++ ps_trW cI cZ q2 a2 n2 g2 ++ ps_lsW cI q3 b lf le lh ++ [(o0, .inl (cL, 1, .inr (.inl ov)))]) s.heap.size = A at hD hZ ⊢
  have hA : ∀ q : Nat, s.heap.size ≤ q → A q := fun q h => by rw [← hAe]; exact Or.inr h
  have hS : va_S A s.heap s.heap [] := va_S.rf
  have hl := lv_entry ([.ref h0, .int d, .int x, .int y, .int z, .int i, .ref o0]) (n := 8) (Nat.le_of_ble_eq_true rfl)
  rw [lg_entry_eq]
  generalize (lg_sl ([.ref h0, .int d, .int x, .int y, .int z, .int i, .ref o0]) ++ List.replicate (8 - (lg_sl ([.ref h0, .int d, .int x, .int y, .int z, .int i, .ref o0])).length) Slot.unset).toArray = ls at hl ⊢
  have hl : lv_has ls 8 [(0, .ref h0), (1, .int d), (2, .int x), (3, .int y), (4, .int z), (5, .int i), (6, .ref o0)] := hl
  refine lv_aload hx hb dL_kept_0 (lv_at hl 6 rfl) ?_
  refine lv_iconst (v := 0) hx hb dL_kept_2 (by decide) ?_
  refine lv_aload_n hx hb dL_kept_3 rfl (lv_at hl 0 rfl) ?_
  refine lv_iload_n hx hb dL_kept_4 rfl (lv_at hl 1 rfl) ?_
  refine lv_iload_n hx hb dL_kept_5 rfl (lv_at hl 2 rfl) ?_
  refine lv_iload_n hx hb dL_kept_6 rfl (lv_at hl 3 rfl) ?_
  refine lv_iload hx hb dL_kept_7 (lv_at hl 4 rfl) ?_
  refine lv_iload hx hb dL_kept_9 (lv_at hl 5 rfl) ?_
  refine vp_callSi (va_Run.run (va_runV (C := RX2) (As := [.int d, .int x, .int y, .int z, .int i]) (rest := [.int 0, .ref o0]) ⟨hx, hb, hml, hown, hT⟩ (mX2_kept_n l dC dI cI cZ h0 q1 q2 q3 b a1 a2 n1 n2 g1 g2 lf le lh cx cy cz pl pw hn1 d x y z i hcu k hf) (cwV 5 hT (ps_gV tw_ml_L_49 tw_im_X2_kept tw_se_X2_kept tw_in_X2 tw_co_X2_kept) rfl rfl rfl ⟨rfl, by decide, by decide, by decide +kernel⟩ ⟨Nat.le_of_ble_eq_true rfl, Nat.le_of_ble_eq_true rfl⟩) (ps_preV (ci := 2) (q0 := 0) hN (hP.sub (ws' := ps_shW h0 q1 q2 q3 cx cy cz pl pw ++ ps_trW cI cZ q1 a1 n1 g1 ++ ps_trW cI cZ q2 a2 n2 g2 ++ ps_lsW cI q3 b lf le lh) [0, 1, 2, 3, 4, 5, 6, 7, 8, 9, 10, 11, 12, 13, 14, 15, 16, 17, 18, 19, 20] rfl) hK rfl rfl) rfl rfl hl.1 rfl (lv_room (Nat.le_of_ble_eq_true rfl)) dL_kept_11 ⟨Nat.le_of_ble_eq_true rfl, Nat.le_of_ble_eq_true rfl⟩)) (fun r hr9 => ?_)
  obtain rfl : r = g1 0 k := hr9
  refine lv_i2l (v := (g1 0 k).toInt64) hx hb dL_kept_14 rfl ?_
  refine va_last hx hb hK3 hP hD hS 21 2 rfl rfl (by unfold vp_in; decide) dL_kept_15 (fun H locs hP hD hS => ?_)
  have hP : va_P (dC, dI) vwCl (ps_shW h0 q1 q2 q3 cx cy cz pl pw ++ ps_trW cI cZ q1 a1 n1 g1 ++ ps_trW cI cZ q2 a2 n2 g2 ++ ps_lsW cI q3 b lf le lh ++ [(o0, .inl (cL, 1, .inr (.inl (vp_updL ov 0 ((g1 0 k).toInt64)))))]) H := hP
  have hD : va_D A (ps_shW h0 q1 q2 q3 cx cy cz pl pw ++ ps_trW cI cZ q1 a1 n1 g1 ++ ps_trW cI cZ q2 a2 n2 g2 ++ ps_lsW cI q3 b lf le lh ++ [(o0, .inl (cL, 1, .inr (.inl (vp_updL ov 0 ((g1 0 k).toInt64)))))]) := hD
  refine lv_goto (tgt := 27) hx hb dL_kept_16 rfl ?_
  refine lv_iconst (v := 0) hx hb dL_kept_27 (by decide) ?_
  refine W.widen (k := 1) (n := 6) (Nat.le_of_ble_eq_true rfl) (Nat.le_of_ble_eq_true rfl) ?_
  exact W.iret (v := 0) hx hb hr (fun t ht hW => ⟨⟨0, (), rfl, rfl, by rw [ht]; exact hP, va_K.moved hW.alike hK3, hD⟩, hS.F ht⟩) hS.2.2 dL_kept_28
set_option maxHeartbeats 4000000 in
set_option maxRecDepth 100000 in
theorem mL_kept_x1 (l : Launch) (hlt : l.stackTraces = false) (dC : Nat → ClassId) (dI : Nat → Nat → Nat) (cI cZ : ClassId) (h0 q1 q2 q3 b : Nat) (a1 a2 : Nat → Nat) (n1 n2 : Nat) (g1 g2 : ps_G) (lf le : Nat) (lh : Nat → Int32) (cx cy cz pl pw : Int32) (cL : ClassId) (o0 : Nat) (ov : Nat → Int64) (d x y z i : Int32) (hcu : ps_cu d x y z = false) (sz : Nat) : Met l yL_kept (.codeWith yL_kept cL_kept 8 (some .int) hhL_kept :: ps_T) ({ frames := 7, cells := 1, slots := 6, locals := 116 }) (ps_xc (dC, dI) (ps_ty3 cI cZ cL) (ps_shW h0 q1 q2 q3 cx cy cz pl pw ++ ps_trW cI cZ q1 a1 n1 g1 ++ ps_trW cI cZ q2 a2 n2 g2 ++ ps_lsW cI q3 b lf le lh ++ [(o0, .inl (cL, 1, .inr (.inl ov)))]) sz [.ref h0, .int d, .int x, .int y, .int z, .int i, .ref o0]) (va_Qi (fun (r : Int32) (_ : Unit) => r = 1) (ps_qB (dC, dI) (ps_ty3 cI cZ cL) (va_A (ps_shW h0 q1 q2 q3 cx cy cz pl pw ++ ps_trW cI cZ q1 a1 n1 g1 ++ ps_trW cI cZ q2 a2 n2 g2 ++ ps_lsW cI q3 b lf le lh ++ [(o0, .inl (cL, 1, .inr (.inl ov)))]) sz) (ps_shW h0 q1 q2 q3 cx cy cz pl pw ++ ps_trW cI cZ q1 a1 n1 g1 ++ ps_trW cI cZ q2 a2 n2 g2 ++ ps_lsW cI q3 b lf le lh ++ [(o0, .inl (cL, 1, .inr (.inl ov)))])) (va_A (ps_shW h0 q1 q2 q3 cx cy cz pl pw ++ ps_trW cI cZ q1 a1 n1 g1 ++ ps_trW cI cZ q2 a2 n2 g2 ++ ps_lsW cI q3 b lf le lh ++ [(o0, .inl (cL, 1, .inr (.inl ov)))]) sz)) 1 6 (va_A (ps_shW h0 q1 q2 q3 cx cy cz pl pw ++ ps_trW cI cZ q1 a1 n1 g1 ++ ps_trW cI cZ q2 a2 n2 g2 ++ ps_lsW cI q3 b lf le lh ++ [(o0, .inl (cL, 1, .inr (.inl ov)))]) sz) := by
  refine va_MetW (cc := cL_kept) (maxL := 8) (ret := (some .int)) (hh := hhL_kept) (by decide) rfl ?_
  intro p e s m args below meth c s₁ B hml hv
  obtain ⟨rfl, hsz, hN, hE, hZ, hP, hK3, hD0⟩ := hv
  have hK : va_K (dC, dI) vwCl (ps_ty cI cZ) s := hK3.sub [0, 1] rfl
  have hx := B.exec
  have hb := B.bytes
  have hr := B.returns
  have hlocks := B.notSynchronized
  have hts := atoms_spec (ws := (.codeWith yL_kept cL_kept 8 (some .int) hhL_kept :: ps_T)) B.pre
  have hT : ∀ w ∈ ps_T, w.before ([.ref h0, .int d, .int x, .int y, .int z, .int i, .ref o0] : List Value).toArray s = true := fun w h => hts w (List.mem_cons_of_mem _ h)
  have htab := vx_table (x := yL_kept) B (hts _ List.mem_cons_self)
  have hown : s.vm.findClass RL = some m.cls := findClass_of_methodNamed B.named
  subst hsz
  have hD := hD0.self (sz := s.heap.size)
  generalize hAe : va_A (ps_shW h0 q1 q2 q3 cx cy cz pl pw ++ ps_trW cI cZ q1 a1 n1 g1 ++ ps_trW cI cZ q2 a2 n2 g2 ++ ps_lsW cI q3 b lf le lh ++ [(o0, .inl (cL, 1, .inr (.inl ov)))]) s.heap.size = A at hD hZ ⊢
  have hA : ∀ q : Nat, s.heap.size ≤ q → A q := fun q h => by rw [← hAe]; exact Or.inr h
  have hS : va_S A s.heap s.heap [] := va_S.rf
  have hl := lv_entry ([.ref h0, .int d, .int x, .int y, .int z, .int i, .ref o0]) (n := 8) (Nat.le_of_ble_eq_true rfl)
  rw [lg_entry_eq]
  generalize (lg_sl ([.ref h0, .int d, .int x, .int y, .int z, .int i, .ref o0]) ++ List.replicate (8 - (lg_sl ([.ref h0, .int d, .int x, .int y, .int z, .int i, .ref o0])).length) Slot.unset).toArray = ls at hl ⊢
  have hl : lv_has ls 8 [(0, .ref h0), (1, .int d), (2, .int x), (3, .int y), (4, .int z), (5, .int i), (6, .ref o0)] := hl
  refine lv_aload hx hb dL_kept_0 (lv_at hl 6 rfl) ?_
  refine lv_iconst (v := 0) hx hb dL_kept_2 (by decide) ?_
  refine lv_aload_n hx hb dL_kept_3 rfl (lv_at hl 0 rfl) ?_
  refine lv_iload_n hx hb dL_kept_4 rfl (lv_at hl 1 rfl) ?_
  refine lv_iload_n hx hb dL_kept_5 rfl (lv_at hl 2 rfl) ?_
  refine lv_iload_n hx hb dL_kept_6 rfl (lv_at hl 3 rfl) ?_
  refine lv_iload hx hb dL_kept_7 (lv_at hl 4 rfl) ?_
  refine lv_iload hx hb dL_kept_9 (lv_at hl 5 rfl) ?_
  refine ps_cx (wc := ps_shW h0 q1 q2 q3 cx cy cz pl pw ++ ps_trW cI cZ q1 a1 n1 g1 ++ ps_trW cI cZ q2 a2 n2 g2 ++ ps_lsW cI q3 b lf le lh) (wr := [(o0, .inl (cL, 1, .inr (.inl ov)))]) (w1 := ps_shW h0 q1 q2 q3 cx cy cz pl pw ++ ps_trW cI cZ q1 a1 n1 g1 ++ ps_trW cI cZ q2 a2 n2 g2 ++ ps_lsW cI q3 b lf le lh) (ws2 := ps_shW h0 q1 q2 q3 cx cy cz pl pw ++ ps_trW cI cZ q1 a1 n1 g1 ++ ps_trW cI cZ q2 a2 n2 g2 ++ ps_lsW cI q3 b lf le lh ++ [(o0, .inl (cL, 1, .inr (.inl ov)))]) (vx_runV (C := RX2) (As := [.int d, .int x, .int y, .int z, .int i]) (rest := [.int 0, .ref o0]) ⟨hx, hb, hml, hown, hT⟩ (mX2_kept_x1 l hlt dC dI cI cZ h0 q1 q2 q3 b a1 a2 n1 n2 g1 g2 lf le lh cx cy cz pl pw d x y z i hcu _) (cwV 5 hT (ps_gV tw_ml_L_49 tw_im_X2_kept tw_se_X2_kept tw_in_X2 tw_co_X2_kept) rfl rfl rfl ⟨rfl, by decide, by decide, by decide +kernel⟩ ⟨Nat.le_of_ble_eq_true rfl, Nat.le_of_ble_eq_true rfl⟩) (ps_xreV (wc := ps_shW h0 q1 q2 q3 cx cy cz pl pw ++ ps_trW cI cZ q1 a1 n1 g1 ++ ps_trW cI cZ q2 a2 n2 g2 ++ ps_lsW cI q3 b lf le lh) (ci := 2) [0, 1, 2, 3, 4, 5, 6, 7, 8, 9, 10, 11, 12, 13, 14, 15, 16, 17, 18, 19, 20] hN hE hZ hS hA hP hK hD rfl rfl rfl rfl rfl) rfl rfl hl.1 rfl (lv_room (Nat.le_of_ble_eq_true rfl)) dL_kept_11 ⟨Nat.le_of_ble_eq_true rfl, Nat.le_of_ble_eq_true rfl⟩) hS hA hP hD [0, 1, 2, 3, 4, 5, 6, 7, 8, 9, 10, 11, 12, 13, 14, 15, 16, 17, 18, 19, 20] [21] [1, 2, 3, 4, 5, 6, 7, 8, 9, 10, 11, 12, 13, 14, 15, 16, 17, 18, 19, 20, 21, 0] rfl rfl rfl (by decide) rfl rfl rfl (fun ce q9 H locs hP hD hS hce hcv hcl => ?_)
  refine vx_catch (E := "java/lang/IllegalArgumentException") (name := "java/lang/IllegalArgumentException") hown [] ⟨0, 16, 19, 13⟩ [⟨0, 16, 23, 21⟩] (by rw [htab]; rfl) (fun z hz => by cases hz) (by decide) (by decide) (hT _ tw_cl_L_13) (va_Nw.use rfl (hE.1.1 _ (by decide +kernel))) hce hcv hcl ?_
  refine lv_astore (lv' := [(7, .ref q9), (0, .ref h0), (1, .int d), (2, .int x), (3, .int y), (4, .int z), (5, .int i), (6, .ref o0)]) hx hb dL_kept_19 hl (by decide) rfl (fun ls hl => ?_)
  refine lv_iconst (v := 1) hx hb dL_kept_21 (by decide) ?_
  refine W.widen (k := 1) (n := 6) (Nat.le_of_ble_eq_true rfl) (Nat.le_of_ble_eq_true rfl) ?_
  exact W.iret (v := 1) hx hb hr (fun t ht hW => ⟨⟨1, (), rfl, rfl, by rw [ht]; exact hP, va_K.moved hW.alike hK3, hD⟩, hS.F ht⟩) hS.2.2 dL_kept_22
set_option maxHeartbeats 4000000 in
set_option maxRecDepth 100000 in
theorem mL_kept_x2 (l : Launch) (hlt : l.stackTraces = false) (dC : Nat → ClassId) (dI : Nat → Nat → Nat) (cI cZ : ClassId) (h0 q1 q2 q3 b : Nat) (a1 a2 : Nat → Nat) (n1 n2 : Nat) (g1 g2 : ps_G) (lf le : Nat) (lh : Nat → Int32) (cx cy cz pl pw : Int32) (cL : ClassId) (o0 : Nat) (ov : Nat → Int64) (hn1 : n1 ≤ 48) (d x y z i : Int32) (hcu : ps_cu d x y z = true) (hf : ps_fp (ps_fk g1 d x y z i) n1 = none) (sz : Nat) : Met l yL_kept (.codeWith yL_kept cL_kept 8 (some .int) hhL_kept :: ps_T) ({ frames := 7, cells := 1, slots := 6, locals := 116 }) (ps_xc (dC, dI) (ps_ty3 cI cZ cL) (ps_shW h0 q1 q2 q3 cx cy cz pl pw ++ ps_trW cI cZ q1 a1 n1 g1 ++ ps_trW cI cZ q2 a2 n2 g2 ++ ps_lsW cI q3 b lf le lh ++ [(o0, .inl (cL, 1, .inr (.inl ov)))]) sz [.ref h0, .int d, .int x, .int y, .int z, .int i, .ref o0]) (va_Qi (fun (r : Int32) (_ : Unit) => r = 2) (ps_qB (dC, dI) (ps_ty3 cI cZ cL) (va_A (ps_shW h0 q1 q2 q3 cx cy cz pl pw ++ ps_trW cI cZ q1 a1 n1 g1 ++ ps_trW cI cZ q2 a2 n2 g2 ++ ps_lsW cI q3 b lf le lh ++ [(o0, .inl (cL, 1, .inr (.inl ov)))]) sz) (ps_shW h0 q1 q2 q3 cx cy cz pl pw ++ ps_trW cI cZ q1 a1 n1 g1 ++ ps_trW cI cZ q2 a2 n2 g2 ++ ps_lsW cI q3 b lf le lh ++ [(o0, .inl (cL, 1, .inr (.inl ov)))])) (va_A (ps_shW h0 q1 q2 q3 cx cy cz pl pw ++ ps_trW cI cZ q1 a1 n1 g1 ++ ps_trW cI cZ q2 a2 n2 g2 ++ ps_lsW cI q3 b lf le lh ++ [(o0, .inl (cL, 1, .inr (.inl ov)))]) sz)) 1 6 (va_A (ps_shW h0 q1 q2 q3 cx cy cz pl pw ++ ps_trW cI cZ q1 a1 n1 g1 ++ ps_trW cI cZ q2 a2 n2 g2 ++ ps_lsW cI q3 b lf le lh ++ [(o0, .inl (cL, 1, .inr (.inl ov)))]) sz) := by
  refine va_MetW (cc := cL_kept) (maxL := 8) (ret := (some .int)) (hh := hhL_kept) (by decide) rfl ?_
  intro p e s m args below meth c s₁ B hml hv
  obtain ⟨rfl, hsz, hN, hE, hZ, hP, hK3, hD0⟩ := hv
  have hK : va_K (dC, dI) vwCl (ps_ty cI cZ) s := hK3.sub [0, 1] rfl
  have hx := B.exec
  have hb := B.bytes
  have hr := B.returns
  have hlocks := B.notSynchronized
  have hts := atoms_spec (ws := (.codeWith yL_kept cL_kept 8 (some .int) hhL_kept :: ps_T)) B.pre
  have hT : ∀ w ∈ ps_T, w.before ([.ref h0, .int d, .int x, .int y, .int z, .int i, .ref o0] : List Value).toArray s = true := fun w h => hts w (List.mem_cons_of_mem _ h)
  have htab := vx_table (x := yL_kept) B (hts _ List.mem_cons_self)
  have hown : s.vm.findClass RL = some m.cls := findClass_of_methodNamed B.named
  subst hsz
  have hD := hD0.self (sz := s.heap.size)
  generalize hAe : va_A (ps_shW h0 q1 q2 q3 cx cy cz pl pw ++ ps_trW cI cZ q1 a1 n1 g1 ++ ps_trW cI cZ q2 a2 n2 g2 ++ ps_lsW cI q3 b lf le lh ++ [(o0, .inl (cL, 1, .inr (.inl ov)))]) s.heap.size = A at hD hZ ⊢
  have hA : ∀ q : Nat, s.heap.size ≤ q → A q := fun q h => by rw [← hAe]; exact Or.inr h
  have hS : va_S A s.heap s.heap [] := va_S.rf
  have hl := lv_entry ([.ref h0, .int d, .int x, .int y, .int z, .int i, .ref o0]) (n := 8) (Nat.le_of_ble_eq_true rfl)
  rw [lg_entry_eq]
  generalize (lg_sl ([.ref h0, .int d, .int x, .int y, .int z, .int i, .ref o0]) ++ List.replicate (8 - (lg_sl ([.ref h0, .int d, .int x, .int y, .int z, .int i, .ref o0])).length) Slot.unset).toArray = ls at hl ⊢
  have hl : lv_has ls 8 [(0, .ref h0), (1, .int d), (2, .int x), (3, .int y), (4, .int z), (5, .int i), (6, .ref o0)] := hl
  refine lv_aload hx hb dL_kept_0 (lv_at hl 6 rfl) ?_
  refine lv_iconst (v := 0) hx hb dL_kept_2 (by decide) ?_
  refine lv_aload_n hx hb dL_kept_3 rfl (lv_at hl 0 rfl) ?_
  refine lv_iload_n hx hb dL_kept_4 rfl (lv_at hl 1 rfl) ?_
  refine lv_iload_n hx hb dL_kept_5 rfl (lv_at hl 2 rfl) ?_
  refine lv_iload_n hx hb dL_kept_6 rfl (lv_at hl 3 rfl) ?_
  refine lv_iload hx hb dL_kept_7 (lv_at hl 4 rfl) ?_
  refine lv_iload hx hb dL_kept_9 (lv_at hl 5 rfl) ?_
  refine ps_cx (wc := ps_shW h0 q1 q2 q3 cx cy cz pl pw ++ ps_trW cI cZ q1 a1 n1 g1 ++ ps_trW cI cZ q2 a2 n2 g2 ++ ps_lsW cI q3 b lf le lh) (wr := [(o0, .inl (cL, 1, .inr (.inl ov)))]) (w1 := ps_shW h0 q1 q2 q3 cx cy cz pl pw ++ ps_trW cI cZ q1 a1 n1 g1 ++ ps_trW cI cZ q2 a2 n2 g2 ++ ps_lsW cI q3 b lf le lh) (ws2 := ps_shW h0 q1 q2 q3 cx cy cz pl pw ++ ps_trW cI cZ q1 a1 n1 g1 ++ ps_trW cI cZ q2 a2 n2 g2 ++ ps_lsW cI q3 b lf le lh ++ [(o0, .inl (cL, 1, .inr (.inl ov)))]) (vx_runV (C := RX2) (As := [.int d, .int x, .int y, .int z, .int i]) (rest := [.int 0, .ref o0]) ⟨hx, hb, hml, hown, hT⟩ (mX2_kept_x2 l hlt dC dI cI cZ h0 q1 q2 q3 b a1 a2 n1 n2 g1 g2 lf le lh cx cy cz pl pw hn1 d x y z i hcu hf _) (cwV 5 hT (ps_gV tw_ml_L_49 tw_im_X2_kept tw_se_X2_kept tw_in_X2 tw_co_X2_kept) rfl rfl rfl ⟨rfl, by decide, by decide, by decide +kernel⟩ ⟨Nat.le_of_ble_eq_true rfl, Nat.le_of_ble_eq_true rfl⟩) (ps_xreV (wc := ps_shW h0 q1 q2 q3 cx cy cz pl pw ++ ps_trW cI cZ q1 a1 n1 g1 ++ ps_trW cI cZ q2 a2 n2 g2 ++ ps_lsW cI q3 b lf le lh) (ci := 2) [0, 1, 2, 3, 4, 5, 6, 7, 8, 9, 10, 11, 12, 13, 14, 15, 16, 17, 18, 19, 20] hN hE hZ hS hA hP hK hD rfl rfl rfl rfl rfl) rfl rfl hl.1 rfl (lv_room (Nat.le_of_ble_eq_true rfl)) dL_kept_11 ⟨Nat.le_of_ble_eq_true rfl, Nat.le_of_ble_eq_true rfl⟩) hS hA hP hD [0, 1, 2, 3, 4, 5, 6, 7, 8, 9, 10, 11, 12, 13, 14, 15, 16, 17, 18, 19, 20] [21] [1, 2, 3, 4, 5, 6, 7, 8, 9, 10, 11, 12, 13, 14, 15, 16, 17, 18, 19, 20, 21, 0] rfl rfl rfl (by decide) rfl rfl rfl (fun ce q9 H locs hP hD hS hce hcv hcl => ?_)
  refine vx_catch (E := "java/util/NoSuchElementException") (name := "java/util/NoSuchElementException") hown [⟨0, 16, 19, 13⟩] ⟨0, 16, 23, 21⟩ [] (by rw [htab]; rfl) (fun z hz => by
      rcases List.mem_cons.mp hz with rfl | hz
      · exact Or.inr ⟨by decide, "java/lang/IllegalArgumentException", hT _ tw_cl_L_13, hE.2.2 _ (by decide +kernel) _ (by decide +kernel) (by decide)⟩
      · cases hz) (by decide) (by decide) (hT _ tw_cl_L_21) (va_Nw.use rfl (hE.1.1 _ (by decide +kernel))) hce hcv hcl ?_
  refine lv_astore (lv' := [(7, .ref q9), (0, .ref h0), (1, .int d), (2, .int x), (3, .int y), (4, .int z), (5, .int i), (6, .ref o0)]) hx hb dL_kept_23 hl (by decide) rfl (fun ls hl => ?_)
  refine lv_iconst (v := 2) hx hb dL_kept_25 (by decide) ?_
  refine W.widen (k := 1) (n := 6) (Nat.le_of_ble_eq_true rfl) (Nat.le_of_ble_eq_true rfl) ?_
  exact W.iret (v := 2) hx hb hr (fun t ht hW => ⟨⟨2, (), rfl, rfl, by rw [ht]; exact hP, va_K.moved hW.alike hK3, hD⟩, hS.F ht⟩) hS.2.2 dL_kept_26
set_option maxHeartbeats 4000000 in
set_option maxRecDepth 100000 in
theorem mL_commit_0 (l : Launch) (hlt : l.stackTraces = false) (dC : Nat → ClassId) (dI : Nat → Nat → Nat) (cI cZ : ClassId) (h0 q1 q2 q3 b : Nat) (a1 a2 : Nat → Nat) (n1 n2 : Nat) (g1 g2 : ps_G) (lf le : Nat) (lh : Nat → Int32) (cx cy cz pl pw : Int32) (cL : ClassId) (o0 : Nat) (ov : Nat → Int64) (hn1 : n1 ≤ 48) (hn2 : n2 ≤ 48) (hc : ps_cn (fun k => !ps_al g2 n2 g1 k) n1 + ps_cn (fun k => !ps_al (va_up g1 7 (ps_mk g1 n2 g2 n1)) n1 g2 k) n2 = 0) (sz : Nat) : Met l yL_commit (.codeWith yL_commit cL_commit 3 (some .int) hhL_commit :: ps_T) ({ frames := 6, cells := 1, slots := 6, locals := 143 }) (ps_xc (dC, dI) (ps_ty3 cI cZ cL) (ps_shW h0 q1 q2 q3 cx cy cz pl pw ++ ps_trW cI cZ q1 a1 n1 g1 ++ ps_trW cI cZ q2 a2 n2 g2 ++ ps_lsW cI q3 b lf le lh ++ [(o0, .inl (cL, 1, .inr (.inl ov)))]) sz [.ref h0, .ref o0]) (va_Qi (fun (r : Int32) (_ : Unit) => r = 0) (ps_qB (dC, dI) (ps_ty3 cI cZ cL) (va_A (ps_shW h0 q1 q2 q3 cx cy cz pl pw ++ ps_trW cI cZ q1 a1 n1 g1 ++ ps_trW cI cZ q2 a2 n2 g2 ++ ps_lsW cI q3 b lf le lh ++ [(o0, .inl (cL, 1, .inr (.inl ov)))]) sz) (ps_shW h0 q1 q2 q3 cx cy cz pl pw ++ ps_trW cI cZ q1 a1 n1 (va_up g1 7 (ps_mk g1 n2 g2 n1)) ++ ps_trW cI cZ q2 a2 n2 (va_up g2 7 (ps_mk g2 n1 (va_up g1 7 (ps_mk g1 n2 g2 n1)) n2)) ++ ps_lsW cI q3 b lf le lh ++ [(o0, .inl (cL, 1, .inr (.inl (vp_updL ov 0 ((0 : Int32)).toInt64))))])) (va_A (ps_shW h0 q1 q2 q3 cx cy cz pl pw ++ ps_trW cI cZ q1 a1 n1 g1 ++ ps_trW cI cZ q2 a2 n2 g2 ++ ps_lsW cI q3 b lf le lh ++ [(o0, .inl (cL, 1, .inr (.inl ov)))]) sz)) 1 6 (va_A (ps_shW h0 q1 q2 q3 cx cy cz pl pw ++ ps_trW cI cZ q1 a1 n1 g1 ++ ps_trW cI cZ q2 a2 n2 g2 ++ ps_lsW cI q3 b lf le lh ++ [(o0, .inl (cL, 1, .inr (.inl ov)))]) sz) := by
  refine va_MetW (cc := cL_commit) (maxL := 3) (ret := (some .int)) (hh := hhL_commit) (by decide) rfl ?_
  intro p e s m args below meth c s₁ B hml hv
  obtain ⟨rfl, hsz, hN, hE, hZ, hP, hK3, hD0⟩ := hv
  have hK : va_K (dC, dI) vwCl (ps_ty cI cZ) s := hK3.sub [0, 1] rfl
  have hx := B.exec
  have hb := B.bytes
  have hr := B.returns
  have hlocks := B.notSynchronized
  have hts := atoms_spec (ws := (.codeWith yL_commit cL_commit 3 (some .int) hhL_commit :: ps_T)) B.pre
  have hT : ∀ w ∈ ps_T, w.before ([.ref h0, .ref o0] : List Value).toArray s = true := fun w h => hts w (List.mem_cons_of_mem _ h)
  have htab := vx_table (x := yL_commit) B (hts _ List.mem_cons_self)
  have hown : s.vm.findClass RL = some m.cls := findClass_of_methodNamed B.named
  subst hsz
  have hD := hD0.self (sz := s.heap.size)
  generalize hAe : va_A (ps_shW h0 q1 q2 q3 cx cy cz pl pw ++ ps_trW cI cZ q1 a1 n1 g1 ++ ps_trW cI cZ q2 a2 n2 g2 ++ ps_lsW cI q3 b lf le lh ++ [(o0, .inl (cL, 1, .inr (.inl ov)))]) s.heap.size = A at hD hZ ⊢
  have hA : ∀ q : Nat, s.heap.size ≤ q → A q := fun q h => by rw [← hAe]; exact Or.inr h
  have hS : va_S A s.heap s.heap [] := va_S.rf
  have hl := lv_entry ([.ref h0, .ref o0]) (n := 3) (Nat.le_of_ble_eq_true rfl)
  rw [lg_entry_eq]
  generalize (lg_sl ([.ref h0, .ref o0]) ++ List.replicate (3 - (lg_sl ([.ref h0, .ref o0])).length) Slot.unset).toArray = ls at hl ⊢
  have hl : lv_has ls 3 [(0, .ref h0), (1, .ref o0)] := hl
  refine lv_aload_n hx hb dL_commit_0 rfl (lv_at hl 1 rfl) ?_
  refine lv_iconst (v := 0) hx hb dL_commit_1 (by decide) ?_
  refine lv_aload_n hx hb dL_commit_2 rfl (lv_at hl 0 rfl) ?_
  refine ps_cqi (wc := ps_shW h0 q1 q2 q3 cx cy cz pl pw ++ ps_trW cI cZ q1 a1 n1 g1 ++ ps_trW cI cZ q2 a2 n2 g2 ++ ps_lsW cI q3 b lf le lh) (wr := [(o0, .inl (cL, 1, .inr (.inl ov)))]) (w1 := ps_shW h0 q1 q2 q3 cx cy cz pl pw ++ ps_trW cI cZ q1 a1 n1 (va_up g1 7 (ps_mk g1 n2 g2 n1)) ++ ps_trW cI cZ q2 a2 n2 (va_up g2 7 (ps_mk g2 n1 (va_up g1 7 (ps_mk g1 n2 g2 n1)) n2)) ++ ps_lsW cI q3 b lf le lh) (ws2 := ps_shW h0 q1 q2 q3 cx cy cz pl pw ++ ps_trW cI cZ q1 a1 n1 (va_up g1 7 (ps_mk g1 n2 g2 n1)) ++ ps_trW cI cZ q2 a2 n2 (va_up g2 7 (ps_mk g2 n1 (va_up g1 7 (ps_mk g1 n2 g2 n1)) n2)) ++ ps_lsW cI q3 b lf le lh ++ [(o0, .inl (cL, 1, .inr (.inl ov)))]) (va_runV (C := RX2) (As := []) (rest := [.int 0, .ref o0]) ⟨hx, hb, hml, hown, hT⟩ (mX2_commit_0 l dC dI cI cZ h0 q1 q2 q3 b a1 a2 n1 n2 g1 g2 lf le lh cx cy cz pl pw hn1 hn2 hc _) (cwV 0 hT (ps_gV tw_ml_L_52 tw_im_X2_commit tw_se_X2_commit tw_in_X2 tw_co_X2_commit) rfl rfl rfl ⟨rfl, by decide, by decide, by decide +kernel⟩ ⟨Nat.le_of_ble_eq_true rfl, Nat.le_of_ble_eq_true rfl⟩) (ps_qreV (wc := ps_shW h0 q1 q2 q3 cx cy cz pl pw ++ ps_trW cI cZ q1 a1 n1 g1 ++ ps_trW cI cZ q2 a2 n2 g2 ++ ps_lsW cI q3 b lf le lh) (ci := 2) [0, 1, 2, 3, 4, 5, 6, 7, 8, 9, 10, 11, 12, 13, 14, 15, 16, 17, 18, 19, 20] hN hP hK hD rfl rfl rfl rfl rfl) rfl rfl hl.1 rfl (lv_room (Nat.le_of_ble_eq_true rfl)) dL_commit_3 ⟨Nat.le_of_ble_eq_true rfl, Nat.le_of_ble_eq_true rfl⟩) hS hA hP hD [0, 1, 2, 3, 4, 5, 6, 7, 8, 9, 10, 11, 12, 13, 14, 15, 16, 17, 18, 19, 20] [21] [1, 2, 3, 4, 5, 6, 7, 8, 9, 10, 11, 12, 13, 14, 15, 16, 17, 18, 19, 20, 21, 0] rfl rfl rfl (by decide) rfl rfl rfl (fun H locs hP hD hS => ?_)
  refine lv_i2l (v := ((0 : Int32)).toInt64) hx hb dL_commit_6 rfl ?_
  refine va_last hx hb hK3 hP hD hS 21 2 rfl rfl (by unfold vp_in; decide) dL_commit_7 (fun H locs hP hD hS => ?_)
  have hP : va_P (dC, dI) vwCl (ps_shW h0 q1 q2 q3 cx cy cz pl pw ++ ps_trW cI cZ q1 a1 n1 (va_up g1 7 (ps_mk g1 n2 g2 n1)) ++ ps_trW cI cZ q2 a2 n2 (va_up g2 7 (ps_mk g2 n1 (va_up g1 7 (ps_mk g1 n2 g2 n1)) n2)) ++ ps_lsW cI q3 b lf le lh ++ [(o0, .inl (cL, 1, .inr (.inl (vp_updL ov 0 (((0 : Int32)).toInt64)))))]) H := hP
  have hD : va_D A (ps_shW h0 q1 q2 q3 cx cy cz pl pw ++ ps_trW cI cZ q1 a1 n1 (va_up g1 7 (ps_mk g1 n2 g2 n1)) ++ ps_trW cI cZ q2 a2 n2 (va_up g2 7 (ps_mk g2 n1 (va_up g1 7 (ps_mk g1 n2 g2 n1)) n2)) ++ ps_lsW cI q3 b lf le lh ++ [(o0, .inl (cL, 1, .inr (.inl (vp_updL ov 0 (((0 : Int32)).toInt64)))))]) := hD
  refine lv_goto (tgt := 17) hx hb dL_commit_8 rfl ?_
  refine lv_iconst (v := 0) hx hb dL_commit_17 (by decide) ?_
  refine W.widen (k := 1) (n := 6) (Nat.le_of_ble_eq_true rfl) (Nat.le_of_ble_eq_true rfl) ?_
  exact W.iret (v := 0) hx hb hr (fun t ht hW => ⟨⟨0, (), rfl, rfl, by rw [ht]; exact hP, va_K.moved hW.alike hK3, hD⟩, hS.F ht⟩) hS.2.2 dL_commit_18
set_option maxHeartbeats 4000000 in
set_option maxRecDepth 100000 in
theorem mL_commit_x1 (l : Launch) (hlt : l.stackTraces = false) (dC : Nat → ClassId) (dI : Nat → Nat → Nat) (cI cZ : ClassId) (h0 q1 q2 q3 b : Nat) (a1 a2 : Nat → Nat) (n1 n2 : Nat) (g1 g2 : ps_G) (lf le : Nat) (lh : Nat → Int32) (cx cy cz pl pw : Int32) (cL : ClassId) (o0 : Nat) (ov : Nat → Int64) (hn1 : n1 ≤ 48) (hn2 : n2 ≤ 48) (hc : 0 < ps_cn (fun k => !ps_al g2 n2 g1 k) n1 + ps_cn (fun k => !ps_al (va_up g1 7 (ps_mk g1 n2 g2 n1)) n1 g2 k) n2) (hnp : 64 - ps_cn (fun k => ps_bp (g2 6 k)) n2 < ps_cn (ps_pw (va_up g1 7 (ps_mk g1 n2 g2 n1)) n1 (va_up g2 7 (ps_mk g2 n1 (va_up g1 7 (ps_mk g1 n2 g2 n1)) n2)) n2) n1) (sz : Nat) : Met l yL_commit (.codeWith yL_commit cL_commit 3 (some .int) hhL_commit :: ps_T) ({ frames := 7, cells := 1, slots := 6, locals := 143 }) (ps_xc (dC, dI) (ps_ty3 cI cZ cL) (ps_shW h0 q1 q2 q3 cx cy cz pl pw ++ ps_trW cI cZ q1 a1 n1 g1 ++ ps_trW cI cZ q2 a2 n2 g2 ++ ps_lsW cI q3 b lf le lh ++ [(o0, .inl (cL, 1, .inr (.inl ov)))]) sz [.ref h0, .ref o0]) (va_Qi (fun (r : Int32) (_ : Unit) => r = 1) (ps_qB (dC, dI) (ps_ty3 cI cZ cL) (va_A (ps_shW h0 q1 q2 q3 cx cy cz pl pw ++ ps_trW cI cZ q1 a1 n1 g1 ++ ps_trW cI cZ q2 a2 n2 g2 ++ ps_lsW cI q3 b lf le lh ++ [(o0, .inl (cL, 1, .inr (.inl ov)))]) sz) (ps_shW h0 q1 q2 q3 cx cy cz pl pw ++ ps_trW cI cZ q1 a1 n1 (va_up g1 7 (ps_mk g1 n2 g2 n1)) ++ ps_trW cI cZ q2 a2 n2 (va_up g2 7 (ps_mk g2 n1 (va_up g1 7 (ps_mk g1 n2 g2 n1)) n2)) ++ ps_lsW cI q3 b lf le lh ++ [(o0, .inl (cL, 1, .inr (.inl ov)))])) (va_A (ps_shW h0 q1 q2 q3 cx cy cz pl pw ++ ps_trW cI cZ q1 a1 n1 g1 ++ ps_trW cI cZ q2 a2 n2 g2 ++ ps_lsW cI q3 b lf le lh ++ [(o0, .inl (cL, 1, .inr (.inl ov)))]) sz)) 1 6 (va_A (ps_shW h0 q1 q2 q3 cx cy cz pl pw ++ ps_trW cI cZ q1 a1 n1 g1 ++ ps_trW cI cZ q2 a2 n2 g2 ++ ps_lsW cI q3 b lf le lh ++ [(o0, .inl (cL, 1, .inr (.inl ov)))]) sz) := by
  refine va_MetW (cc := cL_commit) (maxL := 3) (ret := (some .int)) (hh := hhL_commit) (by decide) rfl ?_
  intro p e s m args below meth c s₁ B hml hv
  obtain ⟨rfl, hsz, hN, hE, hZ, hP, hK3, hD0⟩ := hv
  have hK : va_K (dC, dI) vwCl (ps_ty cI cZ) s := hK3.sub [0, 1] rfl
  have hx := B.exec
  have hb := B.bytes
  have hr := B.returns
  have hlocks := B.notSynchronized
  have hts := atoms_spec (ws := (.codeWith yL_commit cL_commit 3 (some .int) hhL_commit :: ps_T)) B.pre
  have hT : ∀ w ∈ ps_T, w.before ([.ref h0, .ref o0] : List Value).toArray s = true := fun w h => hts w (List.mem_cons_of_mem _ h)
  have htab := vx_table (x := yL_commit) B (hts _ List.mem_cons_self)
  have hown : s.vm.findClass RL = some m.cls := findClass_of_methodNamed B.named
  subst hsz
  have hD := hD0.self (sz := s.heap.size)
  generalize hAe : va_A (ps_shW h0 q1 q2 q3 cx cy cz pl pw ++ ps_trW cI cZ q1 a1 n1 g1 ++ ps_trW cI cZ q2 a2 n2 g2 ++ ps_lsW cI q3 b lf le lh ++ [(o0, .inl (cL, 1, .inr (.inl ov)))]) s.heap.size = A at hD hZ ⊢
  have hA : ∀ q : Nat, s.heap.size ≤ q → A q := fun q h => by rw [← hAe]; exact Or.inr h
  have hS : va_S A s.heap s.heap [] := va_S.rf
  have hl := lv_entry ([.ref h0, .ref o0]) (n := 3) (Nat.le_of_ble_eq_true rfl)
  rw [lg_entry_eq]
  generalize (lg_sl ([.ref h0, .ref o0]) ++ List.replicate (3 - (lg_sl ([.ref h0, .ref o0])).length) Slot.unset).toArray = ls at hl ⊢
  have hl : lv_has ls 3 [(0, .ref h0), (1, .ref o0)] := hl
  refine lv_aload_n hx hb dL_commit_0 rfl (lv_at hl 1 rfl) ?_
  refine lv_iconst (v := 0) hx hb dL_commit_1 (by decide) ?_
  refine lv_aload_n hx hb dL_commit_2 rfl (lv_at hl 0 rfl) ?_
  refine ps_cx (wc := ps_shW h0 q1 q2 q3 cx cy cz pl pw ++ ps_trW cI cZ q1 a1 n1 g1 ++ ps_trW cI cZ q2 a2 n2 g2 ++ ps_lsW cI q3 b lf le lh) (wr := [(o0, .inl (cL, 1, .inr (.inl ov)))]) (w1 := ps_shW h0 q1 q2 q3 cx cy cz pl pw ++ ps_trW cI cZ q1 a1 n1 (va_up g1 7 (ps_mk g1 n2 g2 n1)) ++ ps_trW cI cZ q2 a2 n2 (va_up g2 7 (ps_mk g2 n1 (va_up g1 7 (ps_mk g1 n2 g2 n1)) n2)) ++ ps_lsW cI q3 b lf le lh) (ws2 := ps_shW h0 q1 q2 q3 cx cy cz pl pw ++ ps_trW cI cZ q1 a1 n1 (va_up g1 7 (ps_mk g1 n2 g2 n1)) ++ ps_trW cI cZ q2 a2 n2 (va_up g2 7 (ps_mk g2 n1 (va_up g1 7 (ps_mk g1 n2 g2 n1)) n2)) ++ ps_lsW cI q3 b lf le lh ++ [(o0, .inl (cL, 1, .inr (.inl ov)))]) (vx_runV (C := RX2) (As := []) (rest := [.int 0, .ref o0]) ⟨hx, hb, hml, hown, hT⟩ (mX2_commit_x1 l hlt dC dI cI cZ h0 q1 q2 q3 b a1 a2 n1 n2 g1 g2 lf le lh cx cy cz pl pw hn1 hn2 hc hnp _) (cwV 0 hT (ps_gV tw_ml_L_52 tw_im_X2_commit tw_se_X2_commit tw_in_X2 tw_co_X2_commit) rfl rfl rfl ⟨rfl, by decide, by decide, by decide +kernel⟩ ⟨Nat.le_of_ble_eq_true rfl, Nat.le_of_ble_eq_true rfl⟩) (ps_xreV (wc := ps_shW h0 q1 q2 q3 cx cy cz pl pw ++ ps_trW cI cZ q1 a1 n1 g1 ++ ps_trW cI cZ q2 a2 n2 g2 ++ ps_lsW cI q3 b lf le lh) (ci := 2) [0, 1, 2, 3, 4, 5, 6, 7, 8, 9, 10, 11, 12, 13, 14, 15, 16, 17, 18, 19, 20] hN hE hZ hS hA hP hK hD rfl rfl rfl rfl rfl) rfl rfl hl.1 rfl (lv_room (Nat.le_of_ble_eq_true rfl)) dL_commit_3 ⟨Nat.le_of_ble_eq_true rfl, Nat.le_of_ble_eq_true rfl⟩) hS hA hP hD [0, 1, 2, 3, 4, 5, 6, 7, 8, 9, 10, 11, 12, 13, 14, 15, 16, 17, 18, 19, 20] [21] [1, 2, 3, 4, 5, 6, 7, 8, 9, 10, 11, 12, 13, 14, 15, 16, 17, 18, 19, 20, 21, 0] rfl rfl rfl (by decide) rfl rfl rfl (fun ce q9 H locs hP hD hS hce hcv hcl => ?_)
  refine vx_catch (E := "java/lang/IllegalStateException") (name := "java/lang/IllegalStateException") hown [] ⟨0, 8, 11, 15⟩ [⟨0, 8, 14, 55⟩] (by rw [htab]; rfl) (fun z hz => by cases hz) (by decide) (by decide) (hT _ tw_cl_L_15) (va_Nw.use rfl (hE.1.1 _ (by decide +kernel))) hce hcv hcl ?_
  refine lv_astore_n (lv' := [(2, .ref q9), (0, .ref h0), (1, .ref o0)]) hx hb dL_commit_11 rfl hl (by decide) rfl (fun ls hl => ?_)
  refine lv_iconst (v := 1) hx hb dL_commit_12 (by decide) ?_
  refine W.widen (k := 1) (n := 6) (Nat.le_of_ble_eq_true rfl) (Nat.le_of_ble_eq_true rfl) ?_
  exact W.iret (v := 1) hx hb hr (fun t ht hW => ⟨⟨1, (), rfl, rfl, by rw [ht]; exact hP, va_K.moved hW.alike hK3, hD⟩, hS.F ht⟩) hS.2.2 dL_commit_13
set_option maxHeartbeats 4000000 in
set_option maxRecDepth 100000 in
theorem mL_commit_n (l : Launch) (hlt : l.stackTraces = false) (dC : Nat → ClassId) (dI : Nat → Nat → Nat) (cI cZ : ClassId) (h0 q1 q2 q3 b : Nat) (a1 a2 : Nat → Nat) (n1 n2 : Nat) (g1 g2 : ps_G) (lf le : Nat) (lh : Nat → Int32) (cx cy cz pl pw : Int32) (cL : ClassId) (o0 : Nat) (ov : Nat → Int64) (hn1 : n1 ≤ 48) (hn2 : n2 ≤ 48) (hc : 0 < ps_cn (fun k => !ps_al g2 n2 g1 k) n1 + ps_cn (fun k => !ps_al (va_up g1 7 (ps_mk g1 n2 g2 n1)) n1 g2 k) n2) (hnp : ps_cn (ps_pw (va_up g1 7 (ps_mk g1 n2 g2 n1)) n1 (va_up g2 7 (ps_mk g2 n1 (va_up g1 7 (ps_mk g1 n2 g2 n1)) n2)) n2) n1 ≤ 64 - ps_cn (fun k => ps_bp (g2 6 k)) n2) (hpl : pl = -1 ∨ nI (ps_cn (ps_pw (va_up g1 7 (ps_mk g1 n2 g2 n1)) n1 (va_up g2 7 (ps_mk g2 n1 (va_up g1 7 (ps_mk g1 n2 g2 n1)) n2)) n2) n1 + 1) ≤ pl) (sz : Nat) : Met l yL_commit (.codeWith yL_commit cL_commit 3 (some .int) hhL_commit :: ps_T) ({ frames := 6, cells := 1, slots := 6, locals := 143 }) (ps_xc (dC, dI) (ps_ty3 cI cZ cL) (ps_shW h0 q1 q2 q3 cx cy cz pl pw ++ ps_trW cI cZ q1 a1 n1 g1 ++ ps_trW cI cZ q2 a2 n2 g2 ++ ps_lsW cI q3 b lf le lh ++ [(o0, .inl (cL, 1, .inr (.inl ov)))]) sz [.ref h0, .ref o0]) (va_Qi (fun (r : Int32) (_ : Unit) => r = 0) (ps_qB (dC, dI) (ps_ty3 cI cZ cL) (va_A (ps_shW h0 q1 q2 q3 cx cy cz pl pw ++ ps_trW cI cZ q1 a1 n1 g1 ++ ps_trW cI cZ q2 a2 n2 g2 ++ ps_lsW cI q3 b lf le lh ++ [(o0, .inl (cL, 1, .inr (.inl ov)))]) sz) (ps_shW h0 q1 q2 q3 cx cy cz ((ps_pl pl (nI (ps_cn (ps_pw (va_up g1 7 (ps_mk g1 n2 g2 n1)) n1 (va_up g2 7 (ps_mk g2 n1 (va_up g1 7 (ps_mk g1 n2 g2 n1)) n2)) n2) n1 + 1)))) ((pw + nI (ps_cn (ps_pw (va_up g1 7 (ps_mk g1 n2 g2 n1)) n1 (va_up g2 7 (ps_mk g2 n1 (va_up g1 7 (ps_mk g1 n2 g2 n1)) n2)) n2) n1 + 1))) ++ ps_trW cI cZ q1 a1 n1 (va_up g1 7 (ps_mk g1 n2 g2 n1)) ++ ps_trW cI cZ q2 a2 n1 ((ps_cp (va_up g2 7 (ps_mk g2 n1 (va_up g1 7 (ps_mk g1 n2 g2 n1)) n2)) (va_up g1 7 (ps_mk g1 n2 g2 n1)) n1)) ++ ps_lsW cI q3 b lf le lh ++ [(o0, .inl (cL, 1, .inr (.inl (vp_updL ov 0 (nI (ps_cn (ps_pw (va_up g1 7 (ps_mk g1 n2 g2 n1)) n1 (va_up g2 7 (ps_mk g2 n1 (va_up g1 7 (ps_mk g1 n2 g2 n1)) n2)) n2) n1 + 1)).toInt64))))])) (va_A (ps_shW h0 q1 q2 q3 cx cy cz pl pw ++ ps_trW cI cZ q1 a1 n1 g1 ++ ps_trW cI cZ q2 a2 n2 g2 ++ ps_lsW cI q3 b lf le lh ++ [(o0, .inl (cL, 1, .inr (.inl ov)))]) sz)) 1 6 (va_A (ps_shW h0 q1 q2 q3 cx cy cz pl pw ++ ps_trW cI cZ q1 a1 n1 g1 ++ ps_trW cI cZ q2 a2 n2 g2 ++ ps_lsW cI q3 b lf le lh ++ [(o0, .inl (cL, 1, .inr (.inl ov)))]) sz) := by
  refine va_MetW (cc := cL_commit) (maxL := 3) (ret := (some .int)) (hh := hhL_commit) (by decide) rfl ?_
  intro p e s m args below meth c s₁ B hml hv
  obtain ⟨rfl, hsz, hN, hE, hZ, hP, hK3, hD0⟩ := hv
  have hK : va_K (dC, dI) vwCl (ps_ty cI cZ) s := hK3.sub [0, 1] rfl
  have hx := B.exec
  have hb := B.bytes
  have hr := B.returns
  have hlocks := B.notSynchronized
  have hts := atoms_spec (ws := (.codeWith yL_commit cL_commit 3 (some .int) hhL_commit :: ps_T)) B.pre
  have hT : ∀ w ∈ ps_T, w.before ([.ref h0, .ref o0] : List Value).toArray s = true := fun w h => hts w (List.mem_cons_of_mem _ h)
  have htab := vx_table (x := yL_commit) B (hts _ List.mem_cons_self)
  have hown : s.vm.findClass RL = some m.cls := findClass_of_methodNamed B.named
  subst hsz
  have hD := hD0.self (sz := s.heap.size)
  generalize hAe : va_A (ps_shW h0 q1 q2 q3 cx cy cz pl pw ++ ps_trW cI cZ q1 a1 n1 g1 ++ ps_trW cI cZ q2 a2 n2 g2 ++ ps_lsW cI q3 b lf le lh ++ [(o0, .inl (cL, 1, .inr (.inl ov)))]) s.heap.size = A at hD hZ ⊢
  have hA : ∀ q : Nat, s.heap.size ≤ q → A q := fun q h => by rw [← hAe]; exact Or.inr h
  have hS : va_S A s.heap s.heap [] := va_S.rf
  have hl := lv_entry ([.ref h0, .ref o0]) (n := 3) (Nat.le_of_ble_eq_true rfl)
  rw [lg_entry_eq]
  generalize (lg_sl ([.ref h0, .ref o0]) ++ List.replicate (3 - (lg_sl ([.ref h0, .ref o0])).length) Slot.unset).toArray = ls at hl ⊢
  have hl : lv_has ls 3 [(0, .ref h0), (1, .ref o0)] := hl
  refine lv_aload_n hx hb dL_commit_0 rfl (lv_at hl 1 rfl) ?_
  refine lv_iconst (v := 0) hx hb dL_commit_1 (by decide) ?_
  refine lv_aload_n hx hb dL_commit_2 rfl (lv_at hl 0 rfl) ?_
  refine ps_cqi (wc := ps_shW h0 q1 q2 q3 cx cy cz pl pw ++ ps_trW cI cZ q1 a1 n1 g1 ++ ps_trW cI cZ q2 a2 n2 g2 ++ ps_lsW cI q3 b lf le lh) (wr := [(o0, .inl (cL, 1, .inr (.inl ov)))]) (w1 := ps_shW h0 q1 q2 q3 cx cy cz ((ps_pl pl (nI (ps_cn (ps_pw (va_up g1 7 (ps_mk g1 n2 g2 n1)) n1 (va_up g2 7 (ps_mk g2 n1 (va_up g1 7 (ps_mk g1 n2 g2 n1)) n2)) n2) n1 + 1)))) ((pw + nI (ps_cn (ps_pw (va_up g1 7 (ps_mk g1 n2 g2 n1)) n1 (va_up g2 7 (ps_mk g2 n1 (va_up g1 7 (ps_mk g1 n2 g2 n1)) n2)) n2) n1 + 1))) ++ ps_trW cI cZ q1 a1 n1 (va_up g1 7 (ps_mk g1 n2 g2 n1)) ++ ps_trW cI cZ q2 a2 n1 ((ps_cp (va_up g2 7 (ps_mk g2 n1 (va_up g1 7 (ps_mk g1 n2 g2 n1)) n2)) (va_up g1 7 (ps_mk g1 n2 g2 n1)) n1)) ++ ps_lsW cI q3 b lf le lh) (ws2 := ps_shW h0 q1 q2 q3 cx cy cz ((ps_pl pl (nI (ps_cn (ps_pw (va_up g1 7 (ps_mk g1 n2 g2 n1)) n1 (va_up g2 7 (ps_mk g2 n1 (va_up g1 7 (ps_mk g1 n2 g2 n1)) n2)) n2) n1 + 1)))) ((pw + nI (ps_cn (ps_pw (va_up g1 7 (ps_mk g1 n2 g2 n1)) n1 (va_up g2 7 (ps_mk g2 n1 (va_up g1 7 (ps_mk g1 n2 g2 n1)) n2)) n2) n1 + 1))) ++ ps_trW cI cZ q1 a1 n1 (va_up g1 7 (ps_mk g1 n2 g2 n1)) ++ ps_trW cI cZ q2 a2 n1 ((ps_cp (va_up g2 7 (ps_mk g2 n1 (va_up g1 7 (ps_mk g1 n2 g2 n1)) n2)) (va_up g1 7 (ps_mk g1 n2 g2 n1)) n1)) ++ ps_lsW cI q3 b lf le lh ++ [(o0, .inl (cL, 1, .inr (.inl ov)))]) (va_runV (C := RX2) (As := []) (rest := [.int 0, .ref o0]) ⟨hx, hb, hml, hown, hT⟩ (mX2_commit_n l dC dI cI cZ h0 q1 q2 q3 b a1 a2 n1 n2 g1 g2 lf le lh cx cy cz pl pw hn1 hn2 hc hnp hpl _) (cwV 0 hT (ps_gV tw_ml_L_52 tw_im_X2_commit tw_se_X2_commit tw_in_X2 tw_co_X2_commit) rfl rfl rfl ⟨rfl, by decide, by decide, by decide +kernel⟩ ⟨Nat.le_of_ble_eq_true rfl, Nat.le_of_ble_eq_true rfl⟩) (ps_qreV (wc := ps_shW h0 q1 q2 q3 cx cy cz pl pw ++ ps_trW cI cZ q1 a1 n1 g1 ++ ps_trW cI cZ q2 a2 n2 g2 ++ ps_lsW cI q3 b lf le lh) (ci := 2) [0, 1, 2, 3, 4, 5, 6, 7, 8, 9, 10, 11, 12, 13, 14, 15, 16, 17, 18, 19, 20] hN hP hK hD rfl rfl rfl rfl rfl) rfl rfl hl.1 rfl (lv_room (Nat.le_of_ble_eq_true rfl)) dL_commit_3 ⟨Nat.le_of_ble_eq_true rfl, Nat.le_of_ble_eq_true rfl⟩) hS hA hP hD [0, 1, 2, 3, 4, 5, 6, 7, 8, 9, 10, 11, 12, 13, 14, 15, 16, 17, 18, 19, 20] [21] [1, 2, 3, 4, 5, 6, 7, 8, 9, 10, 11, 12, 13, 14, 15, 16, 17, 18, 19, 20, 21, 0] rfl rfl rfl (by decide) rfl rfl rfl (fun H locs hP hD hS => ?_)
  refine lv_i2l (v := (nI (ps_cn (ps_pw (va_up g1 7 (ps_mk g1 n2 g2 n1)) n1 (va_up g2 7 (ps_mk g2 n1 (va_up g1 7 (ps_mk g1 n2 g2 n1)) n2)) n2) n1 + 1)).toInt64) hx hb dL_commit_6 rfl ?_
  refine va_last hx hb hK3 hP hD hS 21 2 rfl rfl (by unfold vp_in; decide) dL_commit_7 (fun H locs hP hD hS => ?_)
  have hP : va_P (dC, dI) vwCl (ps_shW h0 q1 q2 q3 cx cy cz ((ps_pl pl (nI (ps_cn (ps_pw (va_up g1 7 (ps_mk g1 n2 g2 n1)) n1 (va_up g2 7 (ps_mk g2 n1 (va_up g1 7 (ps_mk g1 n2 g2 n1)) n2)) n2) n1 + 1)))) ((pw + nI (ps_cn (ps_pw (va_up g1 7 (ps_mk g1 n2 g2 n1)) n1 (va_up g2 7 (ps_mk g2 n1 (va_up g1 7 (ps_mk g1 n2 g2 n1)) n2)) n2) n1 + 1))) ++ ps_trW cI cZ q1 a1 n1 (va_up g1 7 (ps_mk g1 n2 g2 n1)) ++ ps_trW cI cZ q2 a2 n1 ((ps_cp (va_up g2 7 (ps_mk g2 n1 (va_up g1 7 (ps_mk g1 n2 g2 n1)) n2)) (va_up g1 7 (ps_mk g1 n2 g2 n1)) n1)) ++ ps_lsW cI q3 b lf le lh ++ [(o0, .inl (cL, 1, .inr (.inl (vp_updL ov 0 ((nI (ps_cn (ps_pw (va_up g1 7 (ps_mk g1 n2 g2 n1)) n1 (va_up g2 7 (ps_mk g2 n1 (va_up g1 7 (ps_mk g1 n2 g2 n1)) n2)) n2) n1 + 1)).toInt64)))))]) H := hP
  have hD : va_D A (ps_shW h0 q1 q2 q3 cx cy cz ((ps_pl pl (nI (ps_cn (ps_pw (va_up g1 7 (ps_mk g1 n2 g2 n1)) n1 (va_up g2 7 (ps_mk g2 n1 (va_up g1 7 (ps_mk g1 n2 g2 n1)) n2)) n2) n1 + 1)))) ((pw + nI (ps_cn (ps_pw (va_up g1 7 (ps_mk g1 n2 g2 n1)) n1 (va_up g2 7 (ps_mk g2 n1 (va_up g1 7 (ps_mk g1 n2 g2 n1)) n2)) n2) n1 + 1))) ++ ps_trW cI cZ q1 a1 n1 (va_up g1 7 (ps_mk g1 n2 g2 n1)) ++ ps_trW cI cZ q2 a2 n1 ((ps_cp (va_up g2 7 (ps_mk g2 n1 (va_up g1 7 (ps_mk g1 n2 g2 n1)) n2)) (va_up g1 7 (ps_mk g1 n2 g2 n1)) n1)) ++ ps_lsW cI q3 b lf le lh ++ [(o0, .inl (cL, 1, .inr (.inl (vp_updL ov 0 ((nI (ps_cn (ps_pw (va_up g1 7 (ps_mk g1 n2 g2 n1)) n1 (va_up g2 7 (ps_mk g2 n1 (va_up g1 7 (ps_mk g1 n2 g2 n1)) n2)) n2) n1 + 1)).toInt64)))))]) := hD
  refine lv_goto (tgt := 17) hx hb dL_commit_8 rfl ?_
  refine lv_iconst (v := 0) hx hb dL_commit_17 (by decide) ?_
  refine W.widen (k := 1) (n := 6) (Nat.le_of_ble_eq_true rfl) (Nat.le_of_ble_eq_true rfl) ?_
  exact W.iret (v := 0) hx hb hr (fun t ht hW => ⟨⟨0, (), rfl, rfl, by rw [ht]; exact hP, va_K.moved hW.alike hK3, hD⟩, hS.F ht⟩) hS.2.2 dL_commit_18
set_option maxHeartbeats 4000000 in
set_option maxRecDepth 100000 in
theorem mL_commit_x2 (l : Launch) (hlt : l.stackTraces = false) (dC : Nat → ClassId) (dI : Nat → Nat → Nat) (cI cZ : ClassId) (h0 q1 q2 q3 b : Nat) (a1 a2 : Nat → Nat) (n1 n2 : Nat) (g1 g2 : ps_G) (lf le : Nat) (lh : Nat → Int32) (cx cy cz pl pw : Int32) (cL : ClassId) (o0 : Nat) (ov : Nat → Int64) (hn1 : n1 ≤ 48) (hn2 : n2 ≤ 48) (hc : 0 < ps_cn (fun k => !ps_al g2 n2 g1 k) n1 + ps_cn (fun k => !ps_al (va_up g1 7 (ps_mk g1 n2 g2 n1)) n1 g2 k) n2) (hnp : ps_cn (ps_pw (va_up g1 7 (ps_mk g1 n2 g2 n1)) n1 (va_up g2 7 (ps_mk g2 n1 (va_up g1 7 (ps_mk g1 n2 g2 n1)) n2)) n2) n1 ≤ 64 - ps_cn (fun k => ps_bp (g2 6 k)) n2) (hpl : ¬ pl = -1) (hpl2 : ¬ nI (ps_cn (ps_pw (va_up g1 7 (ps_mk g1 n2 g2 n1)) n1 (va_up g2 7 (ps_mk g2 n1 (va_up g1 7 (ps_mk g1 n2 g2 n1)) n2)) n2) n1 + 1) ≤ pl) (sz : Nat) : Met l yL_commit (.codeWith yL_commit cL_commit 3 (some .int) hhL_commit :: ps_T) ({ frames := 7, cells := 1, slots := 6, locals := 143 }) (ps_xc (dC, dI) (ps_ty3 cI cZ cL) (ps_shW h0 q1 q2 q3 cx cy cz pl pw ++ ps_trW cI cZ q1 a1 n1 g1 ++ ps_trW cI cZ q2 a2 n2 g2 ++ ps_lsW cI q3 b lf le lh ++ [(o0, .inl (cL, 1, .inr (.inl ov)))]) sz [.ref h0, .ref o0]) (va_Qi (fun (r : Int32) (_ : Unit) => r = 2) (ps_qB (dC, dI) (ps_ty3 cI cZ cL) (va_A (ps_shW h0 q1 q2 q3 cx cy cz pl pw ++ ps_trW cI cZ q1 a1 n1 g1 ++ ps_trW cI cZ q2 a2 n2 g2 ++ ps_lsW cI q3 b lf le lh ++ [(o0, .inl (cL, 1, .inr (.inl ov)))]) sz) (ps_shW h0 q1 q2 q3 0 0 0 ((-1)) ((pw + pl)) ++ ps_trW cI cZ q1 a1 n2 ((ps_cp (va_up g1 7 (ps_mk g1 n2 g2 n1)) (va_up g2 7 (ps_mk g2 n1 (va_up g1 7 (ps_mk g1 n2 g2 n1)) n2)) n2)) ++ ps_trW cI cZ q2 a2 n2 (va_up g2 7 (ps_mk g2 n1 (va_up g1 7 (ps_mk g1 n2 g2 n1)) n2)) ++ ps_lsW cI q3 b 0 0 lh ++ [(o0, .inl (cL, 1, .inr (.inl ov)))])) (va_A (ps_shW h0 q1 q2 q3 cx cy cz pl pw ++ ps_trW cI cZ q1 a1 n1 g1 ++ ps_trW cI cZ q2 a2 n2 g2 ++ ps_lsW cI q3 b lf le lh ++ [(o0, .inl (cL, 1, .inr (.inl ov)))]) sz)) 1 6 (va_A (ps_shW h0 q1 q2 q3 cx cy cz pl pw ++ ps_trW cI cZ q1 a1 n1 g1 ++ ps_trW cI cZ q2 a2 n2 g2 ++ ps_lsW cI q3 b lf le lh ++ [(o0, .inl (cL, 1, .inr (.inl ov)))]) sz) := by
  refine va_MetW (cc := cL_commit) (maxL := 3) (ret := (some .int)) (hh := hhL_commit) (by decide) rfl ?_
  intro p e s m args below meth c s₁ B hml hv
  obtain ⟨rfl, hsz, hN, hE, hZ, hP, hK3, hD0⟩ := hv
  have hK : va_K (dC, dI) vwCl (ps_ty cI cZ) s := hK3.sub [0, 1] rfl
  have hx := B.exec
  have hb := B.bytes
  have hr := B.returns
  have hlocks := B.notSynchronized
  have hts := atoms_spec (ws := (.codeWith yL_commit cL_commit 3 (some .int) hhL_commit :: ps_T)) B.pre
  have hT : ∀ w ∈ ps_T, w.before ([.ref h0, .ref o0] : List Value).toArray s = true := fun w h => hts w (List.mem_cons_of_mem _ h)
  have htab := vx_table (x := yL_commit) B (hts _ List.mem_cons_self)
  have hown : s.vm.findClass RL = some m.cls := findClass_of_methodNamed B.named
  subst hsz
  have hD := hD0.self (sz := s.heap.size)
  generalize hAe : va_A (ps_shW h0 q1 q2 q3 cx cy cz pl pw ++ ps_trW cI cZ q1 a1 n1 g1 ++ ps_trW cI cZ q2 a2 n2 g2 ++ ps_lsW cI q3 b lf le lh ++ [(o0, .inl (cL, 1, .inr (.inl ov)))]) s.heap.size = A at hD hZ ⊢
  have hA : ∀ q : Nat, s.heap.size ≤ q → A q := fun q h => by rw [← hAe]; exact Or.inr h
  have hS : va_S A s.heap s.heap [] := va_S.rf
  have hl := lv_entry ([.ref h0, .ref o0]) (n := 3) (Nat.le_of_ble_eq_true rfl)
  rw [lg_entry_eq]
  generalize (lg_sl ([.ref h0, .ref o0]) ++ List.replicate (3 - (lg_sl ([.ref h0, .ref o0])).length) Slot.unset).toArray = ls at hl ⊢
  have hl : lv_has ls 3 [(0, .ref h0), (1, .ref o0)] := hl
  refine lv_aload_n hx hb dL_commit_0 rfl (lv_at hl 1 rfl) ?_
  refine lv_iconst (v := 0) hx hb dL_commit_1 (by decide) ?_
  refine lv_aload_n hx hb dL_commit_2 rfl (lv_at hl 0 rfl) ?_
  refine ps_cx (wc := ps_shW h0 q1 q2 q3 cx cy cz pl pw ++ ps_trW cI cZ q1 a1 n1 g1 ++ ps_trW cI cZ q2 a2 n2 g2 ++ ps_lsW cI q3 b lf le lh) (wr := [(o0, .inl (cL, 1, .inr (.inl ov)))]) (w1 := ps_shW h0 q1 q2 q3 0 0 0 ((-1)) ((pw + pl)) ++ ps_trW cI cZ q1 a1 n2 ((ps_cp (va_up g1 7 (ps_mk g1 n2 g2 n1)) (va_up g2 7 (ps_mk g2 n1 (va_up g1 7 (ps_mk g1 n2 g2 n1)) n2)) n2)) ++ ps_trW cI cZ q2 a2 n2 (va_up g2 7 (ps_mk g2 n1 (va_up g1 7 (ps_mk g1 n2 g2 n1)) n2)) ++ ps_lsW cI q3 b 0 0 lh) (ws2 := ps_shW h0 q1 q2 q3 0 0 0 ((-1)) ((pw + pl)) ++ ps_trW cI cZ q1 a1 n2 ((ps_cp (va_up g1 7 (ps_mk g1 n2 g2 n1)) (va_up g2 7 (ps_mk g2 n1 (va_up g1 7 (ps_mk g1 n2 g2 n1)) n2)) n2)) ++ ps_trW cI cZ q2 a2 n2 (va_up g2 7 (ps_mk g2 n1 (va_up g1 7 (ps_mk g1 n2 g2 n1)) n2)) ++ ps_lsW cI q3 b 0 0 lh ++ [(o0, .inl (cL, 1, .inr (.inl ov)))]) (vx_runV (C := RX2) (As := []) (rest := [.int 0, .ref o0]) ⟨hx, hb, hml, hown, hT⟩ (mX2_commit_x2 l hlt dC dI cI cZ h0 q1 q2 q3 b a1 a2 n1 n2 g1 g2 lf le lh cx cy cz pl pw hn1 hn2 hc hnp hpl hpl2 _) (cwV 0 hT (ps_gV tw_ml_L_52 tw_im_X2_commit tw_se_X2_commit tw_in_X2 tw_co_X2_commit) rfl rfl rfl ⟨rfl, by decide, by decide, by decide +kernel⟩ ⟨Nat.le_of_ble_eq_true rfl, Nat.le_of_ble_eq_true rfl⟩) (ps_xreV (wc := ps_shW h0 q1 q2 q3 cx cy cz pl pw ++ ps_trW cI cZ q1 a1 n1 g1 ++ ps_trW cI cZ q2 a2 n2 g2 ++ ps_lsW cI q3 b lf le lh) (ci := 2) [0, 1, 2, 3, 4, 5, 6, 7, 8, 9, 10, 11, 12, 13, 14, 15, 16, 17, 18, 19, 20] hN hE hZ hS hA hP hK hD rfl rfl rfl rfl rfl) rfl rfl hl.1 rfl (lv_room (Nat.le_of_ble_eq_true rfl)) dL_commit_3 ⟨Nat.le_of_ble_eq_true rfl, Nat.le_of_ble_eq_true rfl⟩) hS hA hP hD [0, 1, 2, 3, 4, 5, 6, 7, 8, 9, 10, 11, 12, 13, 14, 15, 16, 17, 18, 19, 20] [21] [1, 2, 3, 4, 5, 6, 7, 8, 9, 10, 11, 12, 13, 14, 15, 16, 17, 18, 19, 20, 21, 0] rfl rfl rfl (by decide) rfl rfl rfl (fun ce q9 H locs hP hD hS hce hcv hcl => ?_)
  refine vx_catch (E := "java/lang/UnsupportedOperationException") (name := "java/lang/UnsupportedOperationException") hown [⟨0, 8, 11, 15⟩] ⟨0, 8, 14, 55⟩ [] (by rw [htab]; rfl) (fun z hz => by
      rcases List.mem_cons.mp hz with rfl | hz
      · exact Or.inr ⟨by decide, "java/lang/IllegalStateException", hT _ tw_cl_L_15, hE.2.2 _ (by decide +kernel) _ (by decide +kernel) (by decide)⟩
      · cases hz) (by decide) (by decide) (hT _ tw_cl_L_55) (va_Nw.use rfl (hE.1.1 _ (by decide +kernel))) hce hcv hcl ?_
  refine lv_astore_n (lv' := [(2, .ref q9), (0, .ref h0), (1, .ref o0)]) hx hb dL_commit_14 rfl hl (by decide) rfl (fun ls hl => ?_)
  refine lv_iconst (v := 2) hx hb dL_commit_15 (by decide) ?_
  refine W.widen (k := 1) (n := 6) (Nat.le_of_ble_eq_true rfl) (Nat.le_of_ble_eq_true rfl) ?_
  exact W.iret (v := 2) hx hb hr (fun t ht hW => ⟨⟨2, (), rfl, rfl, by rw [ht]; exact hP, va_K.moved hW.alike hK3, hD⟩, hS.F ht⟩) hS.2.2 dL_commit_16
set_option maxHeartbeats 4000000 in
set_option maxRecDepth 100000 in
theorem mL_charge_n (l : Launch) (hlt : l.stackTraces = false) (dC : Nat → ClassId) (dI : Nat → Nat → Nat) (cI cZ : ClassId) (h0 q1 q2 q3 b : Nat) (a1 a2 : Nat → Nat) (n1 n2 : Nat) (g1 g2 : ps_G) (lf le : Nat) (lh : Nat → Int32) (cx cy cz pl pw : Int32) (cL : ClassId) (o0 : Nat) (ov : Nat → Int64) (v : Int32) (h0v : ¬ v < 0) (h9v : v ≤ 99) (sz : Nat) : Met l yL_charge (.codeWith yL_charge cL_charge 3 (some .int) hhL_charge :: ps_T) ({ frames := 1, cells := 1, slots := 6, locals := 21 }) (ps_xc (dC, dI) (ps_ty3 cI cZ cL) (ps_shW h0 q1 q2 q3 cx cy cz pl pw ++ ps_trW cI cZ q1 a1 n1 g1 ++ ps_trW cI cZ q2 a2 n2 g2 ++ ps_lsW cI q3 b lf le lh ++ [(o0, .inl (cL, 1, .inr (.inl ov)))]) sz [.ref h0, .int v]) (va_Qi (fun (r : Int32) (_ : Unit) => r = 0) (ps_qB (dC, dI) (ps_ty3 cI cZ cL) (va_A (ps_shW h0 q1 q2 q3 cx cy cz pl pw ++ ps_trW cI cZ q1 a1 n1 g1 ++ ps_trW cI cZ q2 a2 n2 g2 ++ ps_lsW cI q3 b lf le lh ++ [(o0, .inl (cL, 1, .inr (.inl ov)))]) sz) (ps_shW h0 q1 q2 q3 cx cy cz v pw ++ ps_trW cI cZ q1 a1 n1 g1 ++ ps_trW cI cZ q2 a2 n2 g2 ++ ps_lsW cI q3 b lf le lh ++ [(o0, .inl (cL, 1, .inr (.inl ov)))])) (va_A (ps_shW h0 q1 q2 q3 cx cy cz pl pw ++ ps_trW cI cZ q1 a1 n1 g1 ++ ps_trW cI cZ q2 a2 n2 g2 ++ ps_lsW cI q3 b lf le lh ++ [(o0, .inl (cL, 1, .inr (.inl ov)))]) sz)) 1 6 (va_A (ps_shW h0 q1 q2 q3 cx cy cz pl pw ++ ps_trW cI cZ q1 a1 n1 g1 ++ ps_trW cI cZ q2 a2 n2 g2 ++ ps_lsW cI q3 b lf le lh ++ [(o0, .inl (cL, 1, .inr (.inl ov)))]) sz) := by
  refine va_MetW (cc := cL_charge) (maxL := 3) (ret := (some .int)) (hh := hhL_charge) (by decide) rfl ?_
  intro p e s m args below meth c s₁ B hml hv
  obtain ⟨rfl, hsz, hN, hE, hZ, hP, hK3, hD0⟩ := hv
  have hK : va_K (dC, dI) vwCl (ps_ty cI cZ) s := hK3.sub [0, 1] rfl
  have hx := B.exec
  have hb := B.bytes
  have hr := B.returns
  have hlocks := B.notSynchronized
  have hts := atoms_spec (ws := (.codeWith yL_charge cL_charge 3 (some .int) hhL_charge :: ps_T)) B.pre
  have hT : ∀ w ∈ ps_T, w.before ([.ref h0, .int v] : List Value).toArray s = true := fun w h => hts w (List.mem_cons_of_mem _ h)
  have htab := vx_table (x := yL_charge) B (hts _ List.mem_cons_self)
  have hown : s.vm.findClass RL = some m.cls := findClass_of_methodNamed B.named
  subst hsz
  have hD := hD0.self (sz := s.heap.size)
  generalize hAe : va_A (ps_shW h0 q1 q2 q3 cx cy cz pl pw ++ ps_trW cI cZ q1 a1 n1 g1 ++ ps_trW cI cZ q2 a2 n2 g2 ++ ps_lsW cI q3 b lf le lh ++ [(o0, .inl (cL, 1, .inr (.inl ov)))]) s.heap.size = A at hD hZ ⊢
  have hA : ∀ q : Nat, s.heap.size ≤ q → A q := fun q h => by rw [← hAe]; exact Or.inr h
  have hS : va_S A s.heap s.heap [] := va_S.rf
  have hl := lv_entry ([.ref h0, .int v]) (n := 3) (Nat.le_of_ble_eq_true rfl)
  rw [lg_entry_eq]
  generalize (lg_sl ([.ref h0, .int v]) ++ List.replicate (3 - (lg_sl ([.ref h0, .int v])).length) Slot.unset).toArray = ls at hl ⊢
  have hl : lv_has ls 3 [(0, .ref h0), (1, .int v)] := hl
  refine lv_aload_n hx hb dL_charge_0 rfl (lv_at hl 0 rfl) ?_
  refine lv_iload_n hx hb dL_charge_1 rfl (lv_at hl 1 rfl) ?_
  refine ps_cqv (wc := ps_shW h0 q1 q2 q3 cx cy cz pl pw ++ ps_trW cI cZ q1 a1 n1 g1 ++ ps_trW cI cZ q2 a2 n2 g2 ++ ps_lsW cI q3 b lf le lh) (wr := [(o0, .inl (cL, 1, .inr (.inl ov)))]) (w1 := ps_shW h0 q1 q2 q3 cx cy cz v pw ++ ps_trW cI cZ q1 a1 n1 g1 ++ ps_trW cI cZ q2 a2 n2 g2 ++ ps_lsW cI q3 b lf le lh) (ws2 := ps_shW h0 q1 q2 q3 cx cy cz v pw ++ ps_trW cI cZ q1 a1 n1 g1 ++ ps_trW cI cZ q2 a2 n2 g2 ++ ps_lsW cI q3 b lf le lh ++ [(o0, .inl (cL, 1, .inr (.inl ov)))]) (va_runV (C := RX2) (As := [.int v]) (rest := []) ⟨hx, hb, hml, hown, hT⟩ (mX2_charge_n l dC dI cI cZ h0 q1 q2 q3 b a1 a2 n1 n2 g1 g2 lf le lh cx cy cz pl pw v h0v h9v _) (cwV 1 hT (ps_gV tw_ml_L_57 tw_im_X2_charge tw_se_X2_charge tw_in_X2 tw_co_X2_charge) rfl rfl rfl ⟨rfl, by decide, by decide, by decide +kernel⟩ ⟨Nat.le_of_ble_eq_true rfl, Nat.le_of_ble_eq_true rfl⟩) (ps_qreV (wc := ps_shW h0 q1 q2 q3 cx cy cz pl pw ++ ps_trW cI cZ q1 a1 n1 g1 ++ ps_trW cI cZ q2 a2 n2 g2 ++ ps_lsW cI q3 b lf le lh) (ci := 2) [0, 1, 2, 3, 4, 5, 6, 7, 8, 9, 10, 11, 12, 13, 14, 15, 16, 17, 18, 19, 20] hN hP hK hD rfl rfl rfl rfl rfl) rfl rfl hl.1 rfl (lv_room (Nat.le_of_ble_eq_true rfl)) dL_charge_2 ⟨Nat.le_of_ble_eq_true rfl, Nat.le_of_ble_eq_true rfl⟩) hS hA hP hD [0, 1, 2, 3, 4, 5, 6, 7, 8, 9, 10, 11, 12, 13, 14, 15, 16, 17, 18, 19, 20] [21] [1, 2, 3, 4, 5, 6, 7, 8, 9, 10, 11, 12, 13, 14, 15, 16, 17, 18, 19, 20, 21, 0] rfl rfl rfl (by decide) rfl rfl rfl (fun H locs hP hD hS => ?_)
  refine lv_goto (tgt := 11) hx hb dL_charge_5 rfl ?_
  refine lv_iconst (v := 0) hx hb dL_charge_11 (by decide) ?_
  refine W.widen (k := 1) (n := 6) (Nat.le_of_ble_eq_true rfl) (Nat.le_of_ble_eq_true rfl) ?_
  exact W.iret (v := 0) hx hb hr (fun t ht hW => ⟨⟨0, (), rfl, rfl, by rw [ht]; exact hP, va_K.moved hW.alike hK3, hD⟩, hS.F ht⟩) hS.2.2 dL_charge_12
set_option maxHeartbeats 4000000 in
set_option maxRecDepth 100000 in
theorem mL_charge_x (l : Launch) (hlt : l.stackTraces = false) (dC : Nat → ClassId) (dI : Nat → Nat → Nat) (cI cZ : ClassId) (h0 q1 q2 q3 b : Nat) (a1 a2 : Nat → Nat) (n1 n2 : Nat) (g1 g2 : ps_G) (lf le : Nat) (lh : Nat → Int32) (cx cy cz pl pw : Int32) (cL : ClassId) (o0 : Nat) (ov : Nat → Int64) (v : Int32) (hbad : v < 0 ∨ 99 < v) (sz : Nat) : Met l yL_charge (.codeWith yL_charge cL_charge 3 (some .int) hhL_charge :: ps_T) ({ frames := 7, cells := 1, slots := 6, locals := 111 }) (ps_xc (dC, dI) (ps_ty3 cI cZ cL) (ps_shW h0 q1 q2 q3 cx cy cz pl pw ++ ps_trW cI cZ q1 a1 n1 g1 ++ ps_trW cI cZ q2 a2 n2 g2 ++ ps_lsW cI q3 b lf le lh ++ [(o0, .inl (cL, 1, .inr (.inl ov)))]) sz [.ref h0, .int v]) (va_Qi (fun (r : Int32) (_ : Unit) => r = 1) (ps_qB (dC, dI) (ps_ty3 cI cZ cL) (va_A (ps_shW h0 q1 q2 q3 cx cy cz pl pw ++ ps_trW cI cZ q1 a1 n1 g1 ++ ps_trW cI cZ q2 a2 n2 g2 ++ ps_lsW cI q3 b lf le lh ++ [(o0, .inl (cL, 1, .inr (.inl ov)))]) sz) (ps_shW h0 q1 q2 q3 cx cy cz pl pw ++ ps_trW cI cZ q1 a1 n1 g1 ++ ps_trW cI cZ q2 a2 n2 g2 ++ ps_lsW cI q3 b lf le lh ++ [(o0, .inl (cL, 1, .inr (.inl ov)))])) (va_A (ps_shW h0 q1 q2 q3 cx cy cz pl pw ++ ps_trW cI cZ q1 a1 n1 g1 ++ ps_trW cI cZ q2 a2 n2 g2 ++ ps_lsW cI q3 b lf le lh ++ [(o0, .inl (cL, 1, .inr (.inl ov)))]) sz)) 1 6 (va_A (ps_shW h0 q1 q2 q3 cx cy cz pl pw ++ ps_trW cI cZ q1 a1 n1 g1 ++ ps_trW cI cZ q2 a2 n2 g2 ++ ps_lsW cI q3 b lf le lh ++ [(o0, .inl (cL, 1, .inr (.inl ov)))]) sz) := by
  refine va_MetW (cc := cL_charge) (maxL := 3) (ret := (some .int)) (hh := hhL_charge) (by decide) rfl ?_
  intro p e s m args below meth c s₁ B hml hv
  obtain ⟨rfl, hsz, hN, hE, hZ, hP, hK3, hD0⟩ := hv
  have hK : va_K (dC, dI) vwCl (ps_ty cI cZ) s := hK3.sub [0, 1] rfl
  have hx := B.exec
  have hb := B.bytes
  have hr := B.returns
  have hlocks := B.notSynchronized
  have hts := atoms_spec (ws := (.codeWith yL_charge cL_charge 3 (some .int) hhL_charge :: ps_T)) B.pre
  have hT : ∀ w ∈ ps_T, w.before ([.ref h0, .int v] : List Value).toArray s = true := fun w h => hts w (List.mem_cons_of_mem _ h)
  have htab := vx_table (x := yL_charge) B (hts _ List.mem_cons_self)
  have hown : s.vm.findClass RL = some m.cls := findClass_of_methodNamed B.named
  subst hsz
  have hD := hD0.self (sz := s.heap.size)
  generalize hAe : va_A (ps_shW h0 q1 q2 q3 cx cy cz pl pw ++ ps_trW cI cZ q1 a1 n1 g1 ++ ps_trW cI cZ q2 a2 n2 g2 ++ ps_lsW cI q3 b lf le lh ++ [(o0, .inl (cL, 1, .inr (.inl ov)))]) s.heap.size = A at hD hZ ⊢
  have hA : ∀ q : Nat, s.heap.size ≤ q → A q := fun q h => by rw [← hAe]; exact Or.inr h
  have hS : va_S A s.heap s.heap [] := va_S.rf
  have hl := lv_entry ([.ref h0, .int v]) (n := 3) (Nat.le_of_ble_eq_true rfl)
  rw [lg_entry_eq]
  generalize (lg_sl ([.ref h0, .int v]) ++ List.replicate (3 - (lg_sl ([.ref h0, .int v])).length) Slot.unset).toArray = ls at hl ⊢
  have hl : lv_has ls 3 [(0, .ref h0), (1, .int v)] := hl
  refine lv_aload_n hx hb dL_charge_0 rfl (lv_at hl 0 rfl) ?_
  refine lv_iload_n hx hb dL_charge_1 rfl (lv_at hl 1 rfl) ?_
  refine ps_cx (wc := ps_shW h0 q1 q2 q3 cx cy cz pl pw ++ ps_trW cI cZ q1 a1 n1 g1 ++ ps_trW cI cZ q2 a2 n2 g2 ++ ps_lsW cI q3 b lf le lh) (wr := [(o0, .inl (cL, 1, .inr (.inl ov)))]) (w1 := ps_shW h0 q1 q2 q3 cx cy cz pl pw ++ ps_trW cI cZ q1 a1 n1 g1 ++ ps_trW cI cZ q2 a2 n2 g2 ++ ps_lsW cI q3 b lf le lh) (ws2 := ps_shW h0 q1 q2 q3 cx cy cz pl pw ++ ps_trW cI cZ q1 a1 n1 g1 ++ ps_trW cI cZ q2 a2 n2 g2 ++ ps_lsW cI q3 b lf le lh ++ [(o0, .inl (cL, 1, .inr (.inl ov)))]) (vx_runV (C := RX2) (As := [.int v]) (rest := []) ⟨hx, hb, hml, hown, hT⟩ (mX2_charge_x l hlt dC dI cI cZ h0 q1 q2 q3 b a1 a2 n1 n2 g1 g2 lf le lh cx cy cz pl pw v hbad _) (cwV 1 hT (ps_gV tw_ml_L_57 tw_im_X2_charge tw_se_X2_charge tw_in_X2 tw_co_X2_charge) rfl rfl rfl ⟨rfl, by decide, by decide, by decide +kernel⟩ ⟨Nat.le_of_ble_eq_true rfl, Nat.le_of_ble_eq_true rfl⟩) (ps_xreV (wc := ps_shW h0 q1 q2 q3 cx cy cz pl pw ++ ps_trW cI cZ q1 a1 n1 g1 ++ ps_trW cI cZ q2 a2 n2 g2 ++ ps_lsW cI q3 b lf le lh) (ci := 2) [0, 1, 2, 3, 4, 5, 6, 7, 8, 9, 10, 11, 12, 13, 14, 15, 16, 17, 18, 19, 20] hN hE hZ hS hA hP hK hD rfl rfl rfl rfl rfl) rfl rfl hl.1 rfl (lv_room (Nat.le_of_ble_eq_true rfl)) dL_charge_2 ⟨Nat.le_of_ble_eq_true rfl, Nat.le_of_ble_eq_true rfl⟩) hS hA hP hD [0, 1, 2, 3, 4, 5, 6, 7, 8, 9, 10, 11, 12, 13, 14, 15, 16, 17, 18, 19, 20] [21] [1, 2, 3, 4, 5, 6, 7, 8, 9, 10, 11, 12, 13, 14, 15, 16, 17, 18, 19, 20, 21, 0] rfl rfl rfl (by decide) rfl rfl rfl (fun ce q9 H locs hP hD hS hce hcv hcl => ?_)
  refine vx_catch (E := "java/lang/IllegalArgumentException") (name := "java/lang/IllegalArgumentException") hown [] ⟨0, 5, 8, 13⟩ [] (by rw [htab]; rfl) (fun z hz => by cases hz) (by decide) (by decide) (hT _ tw_cl_L_13) (va_Nw.use rfl (hE.1.1 _ (by decide +kernel))) hce hcv hcl ?_
  refine lv_astore_n (lv' := [(2, .ref q9), (0, .ref h0), (1, .int v)]) hx hb dL_charge_8 rfl hl (by decide) rfl (fun ls hl => ?_)
  refine lv_iconst (v := 1) hx hb dL_charge_9 (by decide) ?_
  refine W.widen (k := 1) (n := 6) (Nat.le_of_ble_eq_true rfl) (Nat.le_of_ble_eq_true rfl) ?_
  exact W.iret (v := 1) hx hb hr (fun t ht hW => ⟨⟨1, (), rfl, rfl, by rw [ht]; exact hP, va_K.moved hW.alike hK3, hD⟩, hS.F ht⟩) hS.2.2 dL_charge_10
