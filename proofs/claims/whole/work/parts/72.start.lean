/-! the law from its entry. -/
set_option maxHeartbeats 4000000 in
set_option maxRecDepth 100000 in
/-- from the entry, for every script of at most 3072 ints, the law comes to its end with true -/
theorem whole_start {p : Program} {e : Env} {s : State} {m : MethodId} {below : List Frame} {meth : Method} {c : Code} (l : Launch) (hlt : l.stackTraces = false) {b L : Nat} {xs : Nat → Int32} (hL : L ≤ 3072) (C0 : lw_At p s m meth c b L xs) : W p l e room_1 s m #[Value.ref b] below meth c s.heap [] 0 0 (lw_Z below #[Value.ref b] s) (entryFrame m ([Value.ref b] : List Value).toArray 7) := by
  obtain ⟨dC, dI, cI, cZ, cL, C, hN2⟩ := ps_entry l hlt hL C0
  obtain ⟨-, hb0, hr, -, -, -, -, -, hlocks, -⟩ := C0
  have C' := C
  obtain ⟨-, hx, hb, hml, hown, hT, hN, hE, hZ, hK3, hA, hX, hbl, hbA, -⟩ := C'
  generalize hAe : (fun q : Nat => s.heap.size ≤ q) = A at C hZ hA hbA
  have hend : ∀ (cells slots : Nat) (ls : Array Slot) (H : Heap) (locs : List Loc), cells ≤ 1071 → slots ≤ 9619 → va_S A s.heap H locs → W p l e room_1 s m #[Value.ref b] below meth c H locs cells slots (lw_Z below #[Value.ref b] s) (F0 m 1034 ls []) := by
    intro cells slots ls H locs h1 h2 hS
    refine lv_iconst (v := 1) hx hb dL_law_1034 (by decide) ?_
    refine va_forget (fun q hq => ?_) ?_
    · have h3 := hS.2.2 q hq
      rw [← hAe] at h3
      exact h3
    · refine W.widen (k := 1071) (n := 9619) h1 h2 ?_
      exact lw_ret hx hb0 hr hlocks dL_law_1035
  have hK : va_K (dC, dI) vwCl (ps_ty cI cZ) s := hK3.sub [0, 1] rfl
  have hS : va_S A s.heap s.heap [] := va_S.rf
  have hP : va_P (dC, dI) vwCl [] s.heap := fun k x hk => by cases hk
  have hD : va_D A [] := ⟨fun i j p q h => (by cases h), fun k q h => (by cases h)⟩
  have hl := lv_entry ([.ref b]) (n := 7) (Nat.le_of_ble_eq_true rfl)
  rw [lg_entry_eq]
  generalize (lg_sl ([.ref b]) ++ List.replicate (7 - (lg_sl ([.ref b])).length) Slot.unset).toArray = ls at hl ⊢
  have hl : lv_has ls 7 [(0, .ref b)] := hl
  refine va_new (ci := 2) (fs := [.null, .null, .null, .int 0, .int 0, .int 0, .int 0, .int 0]) (C := RX2) (T := TX2) (N := 8) hx hb hT inX2 tyX2 tyX2_ok hown (hT _ tw_cl_L_8) (hT _ tw_it_X2) (hT _ tw_in_X2) hK hP hD hS hA rfl (fun j hj => by rcases (show j = 0 ∨ j = 1 ∨ j = 2 ∨ j = 3 ∨ j = 4 ∨ j = 5 ∨ j = 6 ∨ j = 7 by omega) with rfl | rfl | rfl | rfl | rfl | rfl | rfl | rfl <;> rfl) (Nat.le_of_ble_eq_true rfl) (Nat.le_of_ble_eq_true rfl) dL_law_0 (fun q0 H hP hD hS => ?_)
  have hP : va_P (dC, dI) vwCl ([(q0, .inr (2, [.null, .null, .null, .int 0, .int 0, .int 0, .int 0, .int 0]))]) H := hP
  have hD : va_D A ([(q0, .inr (2, [.null, .null, .null, .int 0, .int 0, .int 0, .int 0, .int 0]))]) := hD
  refine lv_dup hx hb dL_law_3 rfl ?_
  refine ps_cqa (wc := [(q0, .inr (2, [.null, .null, .null, .int 0, .int 0, .int 0, .int 0, .int 0]))]) (wr := []) (w1 := fun (z9 : (Nat × Nat × Nat × Nat) × (Nat → Nat) × (Nat → Nat)) => ps_shW q0 z9.1.1 z9.1.2.1 z9.1.2.2.1 0 0 0 (-1) 0 ++ ps_trW cI cZ z9.1.1 z9.2.1 0 (fun _ _ => 0) ++ ps_trW cI cZ z9.1.2.1 z9.2.2 0 (fun _ _ => 0) ++ ps_lsW cI z9.1.2.2.1 z9.1.2.2.2 0 0 (fun _ => 0)) (va_runI (As := []) (rest := [.ref q0]) ⟨hx, hb, hml, hown, hT⟩ (mX2_init l dC dI cI cZ q0 _) (cwI 0 hT (ps_gC tw_co_X2_init) rfl rfl rfl (hT _ tw_in_X2) (hT _ tw_ml_L_61) (hT _ tw_im_X2_init) rfl ⟨by decide, by decide, by decide +kernel⟩ ⟨Nat.le_of_ble_eq_true rfl, Nat.le_of_ble_eq_true rfl⟩) ⟨fun a U g mk q => ⟨ps_qc_blind a U g mk q.1, q.2.calling⟩, fun U hU hW => ⟨(ps_qreS (wc := [(q0, .inr (2, [.null, .null, .null, .int 0, .int 0, .int 0, .int 0, .int 0]))]) (av := [.ref q0]) [0] hN hP hK hD rfl rfl rfl).2 U hU hW, hN2.warm hW⟩⟩ rfl rfl hl.1 rfl (lv_room (Nat.le_of_ble_eq_true rfl)) dL_law_4 ⟨Nat.le_of_ble_eq_true rfl, Nat.le_of_ble_eq_true rfl⟩) hS hA hP hD [0] [] rfl rfl rfl (by decide) (fun z9 H locs hP hD hS => ?_)
  have hP : va_P (dC, dI) vwCl (ps_shW q0 z9.1.1 z9.1.2.1 z9.1.2.2.1 0 0 0 (-1) 0 ++ ps_trW cI cZ z9.1.1 z9.2.1 0 (fun _ _ => 0) ++ ps_trW cI cZ z9.1.2.1 z9.2.2 0 (fun _ _ => 0) ++ ps_lsW cI z9.1.2.2.1 z9.1.2.2.2 0 0 (fun _ => 0)) H := hP
  have hD : va_D A (ps_shW q0 z9.1.1 z9.1.2.1 z9.1.2.2.1 0 0 0 (-1) 0 ++ ps_trW cI cZ z9.1.1 z9.2.1 0 (fun _ _ => 0) ++ ps_trW cI cZ z9.1.2.1 z9.2.2 0 (fun _ _ => 0) ++ ps_lsW cI z9.1.2.2.1 z9.1.2.2.2 0 0 (fun _ => 0)) := hD
  refine lv_astore_n (lv' := [(1, .ref q0), (0, .ref b)]) hx hb dL_law_7 rfl hl (by decide) rfl (fun ls hl => ?_)
  refine va_new (ci := 3) (fs := [.int 0, .int 0, .null, .null, .null, .null, .int 0, .null, .null, .null, .null, .null, .int 0, .int 0, .null, .int 0, .int 0]) (C := RX3) (T := TX3) (N := 17) hx hb hT inX3 tyX3 tyX3_ok hown (hT _ tw_cl_L_62) (hT _ tw_it_X3) (hT _ tw_in_X3) hK hP hD hS hA rfl (fun j hj => by rcases (show j = 0 ∨ j = 1 ∨ j = 2 ∨ j = 3 ∨ j = 4 ∨ j = 5 ∨ j = 6 ∨ j = 7 ∨ j = 8 ∨ j = 9 ∨ j = 10 ∨ j = 11 ∨ j = 12 ∨ j = 13 ∨ j = 14 ∨ j = 15 ∨ j = 16 by omega) with rfl | rfl | rfl | rfl | rfl | rfl | rfl | rfl | rfl | rfl | rfl | rfl | rfl | rfl | rfl | rfl | rfl <;> rfl) (Nat.le_of_ble_eq_true rfl) (Nat.le_of_ble_eq_true rfl) dL_law_8 (fun w0 H hP hD hS => ?_)
  have hP : va_P (dC, dI) vwCl (ps_shW q0 z9.1.1 z9.1.2.1 z9.1.2.2.1 0 0 0 (-1) 0 ++ ps_trW cI cZ z9.1.1 z9.2.1 0 (fun _ _ => 0) ++ ps_trW cI cZ z9.1.2.1 z9.2.2 0 (fun _ _ => 0) ++ ps_lsW cI z9.1.2.2.1 z9.1.2.2.2 0 0 (fun _ => 0) ++ [(w0, .inr (3, [.int 0, .int 0, .null, .null, .null, .null, .int 0, .null, .null, .null, .null, .null, .int 0, .int 0, .null, .int 0, .int 0]))]) H := hP
  have hD : va_D A (ps_shW q0 z9.1.1 z9.1.2.1 z9.1.2.2.1 0 0 0 (-1) 0 ++ ps_trW cI cZ z9.1.1 z9.2.1 0 (fun _ _ => 0) ++ ps_trW cI cZ z9.1.2.1 z9.2.2 0 (fun _ _ => 0) ++ ps_lsW cI z9.1.2.2.1 z9.1.2.2.2 0 0 (fun _ => 0) ++ [(w0, .inr (3, [.int 0, .int 0, .null, .null, .null, .null, .int 0, .null, .null, .null, .null, .null, .int 0, .int 0, .null, .int 0, .int 0]))]) := hD
  refine lv_dup hx hb dL_law_11 rfl ?_
  refine ps_cqa (wc := [(w0, .inr (3, [.int 0, .int 0, .null, .null, .null, .null, .int 0, .null, .null, .null, .null, .null, .int 0, .int 0, .null, .int 0, .int 0]))]) (wr := ps_shW q0 z9.1.1 z9.1.2.1 z9.1.2.2.1 0 0 0 (-1) 0 ++ ps_trW cI cZ z9.1.1 z9.2.1 0 (fun _ _ => 0) ++ ps_trW cI cZ z9.1.2.1 z9.2.2 0 (fun _ _ => 0) ++ ps_lsW cI z9.1.2.2.1 z9.1.2.2.2 0 0 (fun _ => 0)) (w1 := fun (b0 : Nat → Nat) => ps_mdW cI cZ w0 b0 0 0 0 0 0 0 (-1) (fun _ _ => 0)) (va_runI (As := []) (rest := [.ref w0]) ⟨hx, hb, hml, hown, hT⟩ (mX3_init l dC dI cI cZ w0 _) (cwI 0 hT (ps_gC tw_co_X3_init) rfl rfl rfl (hT _ tw_in_X3) (hT _ tw_ml_L_64) (hT _ tw_im_X3_init) rfl ⟨by decide, by decide, by decide +kernel⟩ ⟨Nat.le_of_ble_eq_true rfl, Nat.le_of_ble_eq_true rfl⟩) (ps_qreS (wc := [(w0, .inr (3, [.int 0, .int 0, .null, .null, .null, .null, .int 0, .null, .null, .null, .null, .null, .int 0, .int 0, .null, .int 0, .int 0]))]) [21] hN hP hK hD rfl rfl rfl) rfl rfl hl.1 rfl (lv_room (Nat.le_of_ble_eq_true rfl)) dL_law_12 ⟨Nat.le_of_ble_eq_true rfl, Nat.le_of_ble_eq_true rfl⟩) hS hA hP hD [21] [0, 1, 2, 3, 4, 5, 6, 7, 8, 9, 10, 11, 12, 13, 14, 15, 16, 17, 18, 19, 20] rfl rfl rfl (by decide) (fun b0 H locs hP hD hS => ?_)
  have hP : va_P (dC, dI) vwCl (ps_shW q0 z9.1.1 z9.1.2.1 z9.1.2.2.1 0 0 0 (-1) 0 ++ ps_trW cI cZ z9.1.1 z9.2.1 0 (fun _ _ => 0) ++ ps_trW cI cZ z9.1.2.1 z9.2.2 0 (fun _ _ => 0) ++ ps_lsW cI z9.1.2.2.1 z9.1.2.2.2 0 0 (fun _ => 0) ++ ps_mdW cI cZ w0 b0 0 0 0 0 0 0 (-1) (fun _ _ => 0)) H := hP
  have hD : va_D A (ps_shW q0 z9.1.1 z9.1.2.1 z9.1.2.2.1 0 0 0 (-1) 0 ++ ps_trW cI cZ z9.1.1 z9.2.1 0 (fun _ _ => 0) ++ ps_trW cI cZ z9.1.2.1 z9.2.2 0 (fun _ _ => 0) ++ ps_lsW cI z9.1.2.2.1 z9.1.2.2.2 0 0 (fun _ => 0) ++ ps_mdW cI cZ w0 b0 0 0 0 0 0 0 (-1) (fun _ _ => 0)) := hD
  refine lv_astore_n (lv' := [(2, .ref w0), (1, .ref q0), (0, .ref b)]) hx hb dL_law_15 rfl hl (by decide) rfl (fun ls hl => ?_)
  refine lv_iconst (v := 1) hx hb dL_law_16 (by decide) ?_
  refine va_newa (atype := .long) (ty := .long) (a0 := (1, .inr (.inl (fun _ => 0)))) hx hb (hT _ tw_ac_long) rfl hK hP hD hS hA (fun cA => rfl) (by decide) (by decide) (by decide) (Nat.le_of_ble_eq_true rfl) (Nat.le_of_ble_eq_true rfl) dL_law_17 (fun o0 cA H hK1 hP hD hS => ?_)
  have e1 : s.vm.findClass ("[" ++ (FieldType.long).toString) = some cA := (hK1.2 2 (cA, .long) rfl).2
  have e2 : s.vm.findClass ("[" ++ (FieldType.long).toString) = some cL := (hK3.2 2 (cL, .long) rfl).2
  cases ps_one_cls e1 e2
  refine lv_astore_n (lv' := [(3, .ref o0), (2, .ref w0), (1, .ref q0), (0, .ref b)]) hx hb dL_law_19 rfl hl (by decide) rfl (fun ls hl => ?_)
  refine lv_iconst (v := 0) hx hb dL_law_20 (by decide) ?_
  refine lv_istore (lv' := [(4, .int 0), (3, .ref o0), (2, .ref w0), (1, .ref q0), (0, .ref b)]) hx hb dL_law_21 hl (by decide) rfl (fun ls hl => ?_)
  refine W.widen (k := 33) (n := 1343) (Nat.le_of_ble_eq_true rfl) (Nat.le_of_ble_eq_true rfl) ?_
  have hP : va_P (dC, dI) vwCl (ps_shW q0 z9.1.1 z9.1.2.1 z9.1.2.2.1 0 0 0 (-1) 0 ++ ps_trW cI cZ z9.1.1 z9.2.1 0 (fun _ _ => 0) ++ ps_trW cI cZ z9.1.2.1 z9.2.2 0 (fun _ _ => 0) ++ ps_lsW cI z9.1.2.2.1 z9.1.2.2.2 0 0 (fun _ => 0) ++ [(o0, .inl (cL, 1, .inr (.inl (fun _ => 0))))] ++ ps_mdW cI cZ w0 b0 0 0 0 0 0 0 (-1) (fun _ _ => 0)) H := hP.sub [0, 1, 2, 3, 4, 5, 6, 7, 8, 9, 10, 11, 12, 13, 14, 15, 16, 17, 18, 19, 20, 32, 21, 22, 23, 24, 25, 26, 27, 28, 29, 30, 31] rfl
  have hD : va_D A (ps_shW q0 z9.1.1 z9.1.2.1 z9.1.2.2.1 0 0 0 (-1) 0 ++ ps_trW cI cZ z9.1.1 z9.2.1 0 (fun _ _ => 0) ++ ps_trW cI cZ z9.1.2.1 z9.2.2 0 (fun _ _ => 0) ++ ps_lsW cI z9.1.2.2.1 z9.1.2.2.2 0 0 (fun _ => 0) ++ [(o0, .inl (cL, 1, .inr (.inl (fun _ => 0))))] ++ ps_mdW cI cZ w0 b0 0 0 0 0 0 0 (-1) (fun _ _ => 0)) := hD.sub [0, 1, 2, 3, 4, 5, 6, 7, 8, 9, 10, 11, 12, 13, 14, 15, 16, 17, 18, 19, 20, 32, 21, 22, 23, 24, 25, 26, 27, 28, 29, 30, 31] (by decide) rfl
  exact ps_turns C hend (L / 6) 0 33 1343 (by omega) (by omega) rfl rfl _ _ _ _ _ _ _ _ _ _ _ _ _ _ _ _ _ _ _ _ _ _ _ _ (ps_J0 _ _ _ _) (lv_sub hl [4, 3, 2, 1, 0] rfl) hP hD hS
