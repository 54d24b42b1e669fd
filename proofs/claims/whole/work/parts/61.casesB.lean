/-! the law's cases, on. By wip/law2.py. -/
set_option maxHeartbeats 4000000 in
set_option maxRecDepth 100000 in
theorem cs_corner {p : Program} {l : Launch} {e : Env} {s : State} {m : MethodId} {args : Array Value} {below : List Frame} {meth : Method} {c : Code} {Q : State → Prop} {dC : Nat → ClassId} {dI : Nat → Nat → Nat} {cI cZ cL : ClassId} {A : Nat → Prop} {sb L : Nat} {xs : Nat → Int32} {h0 q1 q2 q3 b o0 w0 : Nat} {a1 a2 b0 : Nat → Nat} {t cells slots : Nat} (C : ps_Cx p l s m args c dC dI cI cZ cL A sb L xs) (ht : 6 * t + 6 ≤ L) (hc1 : cells + 1 ≤ room_1.cells) (hs1 : slots + 6 ≤ room_1.slots) (kk : ps_Hd p l e s m args below meth c Q dC dI cI cZ cL A sb h0 q1 q2 q3 b o0 w0 a1 a2 b0 t (cells + 1) (slots + 6) 1028) : ps_Hd p l e s m args below meth c Q dC dI cI cZ cL A sb h0 q1 q2 q3 b o0 w0 a1 a2 b0 t cells slots 412 := by
  obtain ⟨hlt, hx, hb, hml, hown, hT, hN, hE, hZ, hK3, hA, hX, hbl, hbA, hL⟩ := C
  have hK : va_K (dC, dI) vwCl (ps_ty cI cZ) s := hK3.sub [0, 1] rfl
  intro n1 n2 g1 g2 lf le lh cx cy cz pl pw ov th mn kn co ln wr lt f ls H locs hJ hl hP hD hS
  rcases ps_Jcorner hJ (xs (6 * t + 1)) (xs (6 * t + 2)) (xs (6 * t + 3)) with ⟨h1, h2, h3, h4, hJ⟩ | ⟨h1, h2⟩
  · skip
    refine lv_aload_n hx hb dL_law_412 rfl (lv_at hl 1 rfl) ?_
    refine lv_aload_n hx hb dL_law_413 rfl (lv_at hl 0 rfl) ?_
    refine lv_iload hx hb dL_law_414 (lv_at hl 4 rfl) ?_
    refine lv_iconst (v := 1) hx hb dL_law_416 (by decide) ?_
    refine lv_iadd hx hb dL_law_417 ?_
    refine ps_sld (j := 6 * t) hx hb hX hbl hbA hS 1 (by decide) (by omega) hL dL_law_418 ?_
    refine lv_aload_n hx hb dL_law_419 rfl (lv_at hl 0 rfl) ?_
    refine lv_iload hx hb dL_law_420 (lv_at hl 4 rfl) ?_
    refine lv_iconst (v := 2) hx hb dL_law_422 (by decide) ?_
    refine lv_iadd hx hb dL_law_423 ?_
    refine ps_sld (j := 6 * t) hx hb hX hbl hbA hS 2 (by decide) (by omega) hL dL_law_424 ?_
    refine lv_aload_n hx hb dL_law_425 rfl (lv_at hl 0 rfl) ?_
    refine lv_iload hx hb dL_law_426 (lv_at hl 4 rfl) ?_
    refine lv_iconst (v := 3) hx hb dL_law_428 (by decide) ?_
    refine lv_iadd hx hb dL_law_429 ?_
    refine ps_sld (j := 6 * t) hx hb hX hbl hbA hS 3 (by decide) (by omega) hL dL_law_430 ?_
    refine ps_cqi (wc := ps_shW h0 q1 q2 q3 cx cy cz pl pw ++ ps_trW cI cZ q1 a1 n1 g1 ++ ps_trW cI cZ q2 a2 n2 g2 ++ ps_lsW cI q3 b lf le lh ++ [(o0, .inl (cL, 1, .inr (.inl ov)))]) (wr := ps_mdW cI cZ w0 b0 th mn kn co ln wr lt f) (w1 := ps_shW h0 q1 q2 q3 ((xs (6 * t + 1))) ((xs (6 * t + 2))) ((xs (6 * t + 3))) pl pw ++ ps_trW cI cZ q1 a1 n1 g1 ++ ps_trW cI cZ q2 a2 n2 g2 ++ ps_lsW cI q3 b lf le lh ++ [(o0, .inl (cL, 1, .inr (.inl ov)))]) (ws2 := ps_shW h0 q1 q2 q3 ((xs (6 * t + 1))) ((xs (6 * t + 2))) ((xs (6 * t + 3))) pl pw ++ ps_trW cI cZ q1 a1 n1 g1 ++ ps_trW cI cZ q2 a2 n2 g2 ++ ps_lsW cI q3 b lf le lh ++ [(o0, .inl (cL, 1, .inr (.inl ov)))] ++ ps_mdW cI cZ w0 b0 th mn kn co ln wr lt f) (vx_runSW (As := [.ref h0, .int (xs (6 * t + 1)), .int (xs (6 * t + 2)), .int (xs (6 * t + 3))]) (rest := []) ⟨hx, hb, hml, hown, hT⟩ (mL_corner_n l hlt dC dI cI cZ h0 q1 q2 q3 b a1 a2 n1 n2 g1 g2 lf le lh cx cy cz pl pw cL o0 ov (xs (6 * t + 1)) (xs (6 * t + 2)) (xs (6 * t + 3)) h1 h2 h3 _) (vx_cwSW 4 hT (ps_gSW tw_ml_L_85 tw_st_L_corner tw_in_L tw_cw_L_corner) rfl rfl rfl ⟨by decide, by decide, by decide +kernel⟩ ⟨Nat.le_of_ble_eq_true rfl, Nat.le_of_ble_eq_true rfl⟩) (ps_xreS (wc := ps_shW h0 q1 q2 q3 cx cy cz pl pw ++ ps_trW cI cZ q1 a1 n1 g1 ++ ps_trW cI cZ q2 a2 n2 g2 ++ ps_lsW cI q3 b lf le lh ++ [(o0, .inl (cL, 1, .inr (.inl ov)))]) [0, 1, 2, 3, 4, 5, 6, 7, 8, 9, 10, 11, 12, 13, 14, 15, 16, 17, 18, 19, 20, 21] hN hE hZ hS hA hP hK3 hD rfl rfl rfl) rfl rfl hl.1 rfl (lv_room (Nat.le_of_ble_eq_true rfl)) dL_law_431 ⟨hc1, hs1⟩) hS hA hP hD [0, 1, 2, 3, 4, 5, 6, 7, 8, 9, 10, 11, 12, 13, 14, 15, 16, 17, 18, 19, 20, 21] [22, 23, 24, 25, 26, 27, 28, 29, 30, 31, 32] [11, 12, 13, 14, 15, 16, 17, 18, 19, 20, 21, 22, 23, 24, 25, 26, 27, 28, 29, 30, 31, 32, 0, 1, 2, 3, 4, 5, 6, 7, 8, 9, 10] rfl rfl rfl (by decide) rfl rfl rfl (fun H locs hP hD hS => ?_)
    have hP : va_P (dC, dI) vwCl (ps_shW h0 q1 q2 q3 ((xs (6 * t + 1))) ((xs (6 * t + 2))) ((xs (6 * t + 3))) pl pw ++ ps_trW cI cZ q1 a1 n1 g1 ++ ps_trW cI cZ q2 a2 n2 g2 ++ ps_lsW cI q3 b lf le lh ++ [(o0, .inl (cL, 1, .inr (.inl ov)))] ++ ps_mdW cI cZ w0 b0 th mn kn co ln wr lt f) H := hP
    have hD : va_D A (ps_shW h0 q1 q2 q3 ((xs (6 * t + 1))) ((xs (6 * t + 2))) ((xs (6 * t + 3))) pl pw ++ ps_trW cI cZ q1 a1 n1 g1 ++ ps_trW cI cZ q2 a2 n2 g2 ++ ps_lsW cI q3 b lf le lh ++ [(o0, .inl (cL, 1, .inr (.inl ov)))] ++ ps_mdW cI cZ w0 b0 th mn kn co ln wr lt f) := hD
    refine lv_istore (lv' := [(5, .int 0), (0, .ref sb), (1, .ref h0), (2, .ref w0), (3, .ref o0), (4, .int (nI (6 * t)))]) hx hb dL_law_434 hl (by decide) rfl (fun ls hl => ?_)
    refine lv_aload_n hx hb dL_law_436 rfl (lv_at hl 3 rfl) ?_
    refine lv_aload_n hx hb dL_law_437 rfl (lv_at hl 1 rfl) ?_
    refine lv_iload hx hb dL_law_438 (lv_at hl 5 rfl) ?_
    refine lv_iconst (v := 1) hx hb dL_law_440 (by decide) ?_
    refine lv_iadd hx hb dL_law_441 ?_
    refine ps_sld (j := 6 * t) hx hb hX hbl hbA hS 1 (by decide) (by omega) hL dL_law_442 ?_
    refine lv_aload_n hx hb dL_law_443 rfl (lv_at hl 1 rfl) ?_
    refine lv_iload hx hb dL_law_444 (lv_at hl 5 rfl) ?_
    refine lv_iconst (v := 2) hx hb dL_law_446 (by decide) ?_
    refine lv_iadd hx hb dL_law_447 ?_
    refine ps_sld (j := 6 * t) hx hb hX hbl hbA hS 2 (by decide) (by omega) hL dL_law_448 ?_
    refine lv_aload_n hx hb dL_law_449 rfl (lv_at hl 1 rfl) ?_
    refine lv_iload hx hb dL_law_450 (lv_at hl 5 rfl) ?_
    refine lv_iconst (v := 3) hx hb dL_law_452 (by decide) ?_
    refine lv_iadd hx hb dL_law_453 ?_
    refine ps_sld (j := 6 * t) hx hb hX hbl hbA hS 3 (by decide) (by omega) hL dL_law_454 ?_
    refine ps_cqv (wc := ps_mdW cI cZ w0 b0 th mn kn co ln wr lt f) (wr := ps_shW h0 q1 q2 q3 ((xs (6 * t + 1))) ((xs (6 * t + 2))) ((xs (6 * t + 3))) pl pw ++ ps_trW cI cZ q1 a1 n1 g1 ++ ps_trW cI cZ q2 a2 n2 g2 ++ ps_lsW cI q3 b lf le lh ++ [(o0, .inl (cL, 1, .inr (.inl ov)))]) (w1 := ps_mdW cI cZ w0 b0 0 mn kn (ps_pk (xs (6 * t + 1)) (xs (6 * t + 2)) (xs (6 * t + 3))) ln wr lt f) (ws2 := ps_shW h0 q1 q2 q3 ((xs (6 * t + 1))) ((xs (6 * t + 2))) ((xs (6 * t + 3))) pl pw ++ ps_trW cI cZ q1 a1 n1 g1 ++ ps_trW cI cZ q2 a2 n2 g2 ++ ps_lsW cI q3 b lf le lh ++ [(o0, .inl (cL, 1, .inr (.inl ov)))] ++ ps_mdW cI cZ w0 b0 0 mn kn (ps_pk (xs (6 * t + 1)) (xs (6 * t + 2)) (xs (6 * t + 3))) ln wr lt f) (va_runV (C := RX3) (As := [.int (xs (6 * t + 1)), .int (xs (6 * t + 2)), .int (xs (6 * t + 3))]) (rest := []) ⟨hx, hb, hml, hown, hT⟩ (mX3_corner_n l dC dI cI cZ w0 b0 th mn kn co ln wr lt f (xs (6 * t + 1)) (xs (6 * t + 2)) (xs (6 * t + 3)) h4 _) (cwV 3 hT (ps_gV tw_ml_L_88 tw_im_X3_corner tw_se_X3_corner tw_in_X3 tw_co_X3_corner) rfl rfl rfl ⟨rfl, by decide, by decide, by decide +kernel⟩ ⟨Nat.le_of_ble_eq_true rfl, Nat.le_of_ble_eq_true rfl⟩) (ps_qreV (wc := ps_mdW cI cZ w0 b0 th mn kn co ln wr lt f) (ci := 3) [22, 23, 24, 25, 26, 27, 28, 29, 30, 31, 32] hN hP hK hD rfl rfl rfl rfl rfl) rfl rfl hl.1 rfl (lv_room (Nat.le_of_ble_eq_true rfl)) dL_law_455 ⟨hc1, hs1⟩) hS hA hP hD [22, 23, 24, 25, 26, 27, 28, 29, 30, 31, 32] [0, 1, 2, 3, 4, 5, 6, 7, 8, 9, 10, 11, 12, 13, 14, 15, 16, 17, 18, 19, 20, 21] [0, 1, 2, 3, 4, 5, 6, 7, 8, 9, 10, 11, 12, 13, 14, 15, 16, 17, 18, 19, 20, 21, 22, 23, 24, 25, 26, 27, 28, 29, 30, 31, 32] rfl rfl rfl (by decide) rfl rfl rfl (fun H locs hP hD hS => ?_)
    have hP : va_P (dC, dI) vwCl (ps_shW h0 q1 q2 q3 ((xs (6 * t + 1))) ((xs (6 * t + 2))) ((xs (6 * t + 3))) pl pw ++ ps_trW cI cZ q1 a1 n1 g1 ++ ps_trW cI cZ q2 a2 n2 g2 ++ ps_lsW cI q3 b lf le lh ++ [(o0, .inl (cL, 1, .inr (.inl ov)))] ++ ps_mdW cI cZ w0 b0 0 mn kn (ps_pk (xs (6 * t + 1)) (xs (6 * t + 2)) (xs (6 * t + 3))) ln wr lt f) H := hP
    have hD : va_D A (ps_shW h0 q1 q2 q3 ((xs (6 * t + 1))) ((xs (6 * t + 2))) ((xs (6 * t + 3))) pl pw ++ ps_trW cI cZ q1 a1 n1 g1 ++ ps_trW cI cZ q2 a2 n2 g2 ++ ps_lsW cI q3 b lf le lh ++ [(o0, .inl (cL, 1, .inr (.inl ov)))] ++ ps_mdW cI cZ w0 b0 0 mn kn (ps_pk (xs (6 * t + 1)) (xs (6 * t + 2)) (xs (6 * t + 3))) ln wr lt f) := hD
    refine lv_aload_n hx hb dL_law_458 rfl (lv_at hl 3 rfl) ?_
    refine vp_callSi (va_Run.run (va_runV (C := RX3) (As := []) (rest := []) ⟨hx, hb, hml, hown, hT⟩ (mX3_thrown l dC dI cI cZ w0 b0 0 mn kn (ps_pk (xs (6 * t + 1)) (xs (6 * t + 2)) (xs (6 * t + 3))) ln wr lt f) (cwV 0 hT (ps_gV tw_ml_L_71 tw_im_X3_thrown tw_se_X3_thrown tw_in_X3 tw_co_X3_thrown) rfl rfl rfl ⟨rfl, by decide, by decide, by decide +kernel⟩ ⟨Nat.le_of_ble_eq_true rfl, Nat.le_of_ble_eq_true rfl⟩) (ps_preV (ci := 3) (q0 := 0) hN (hP.sub (ws' := ps_mdW cI cZ w0 b0 0 mn kn (ps_pk (xs (6 * t + 1)) (xs (6 * t + 2)) (xs (6 * t + 3))) ln wr lt f) [22, 23, 24, 25, 26, 27, 28, 29, 30, 31, 32] rfl) hK rfl rfl) rfl rfl hl.1 rfl (lv_room (Nat.le_of_ble_eq_true rfl)) dL_law_459 ⟨hc1, hs1⟩)) (fun r hr9 => ?_)
    obtain rfl : r = 0 := hr9
    refine lv_iload hx hb dL_law_462 (lv_at hl 0 rfl) ?_
    refine lv_icmp_eq (tgt := 469) hx hb dL_law_464 rfl (fun h464 => ?_) (fun h464 => ?_)
    · skip
      refine lv_goto (tgt := 1028) hx hb dL_law_469 rfl ?_
      refine W.widen (k := cells + 1) (n := slots + 6) (Nat.le_refl _) (Nat.le_refl _) ?_
      exact kk _ _ _ _ _ _ _ _ _ _ _ _ _ _ _ _ _ _ _ _ _ _ _ _ hJ (lv_sub hl [1, 2, 3, 4, 5] rfl) hP hD hS
    · skip
      exact absurd rfl h464
  · skip
    refine lv_aload_n hx hb dL_law_412 rfl (lv_at hl 1 rfl) ?_
    refine lv_aload_n hx hb dL_law_413 rfl (lv_at hl 0 rfl) ?_
    refine lv_iload hx hb dL_law_414 (lv_at hl 4 rfl) ?_
    refine lv_iconst (v := 1) hx hb dL_law_416 (by decide) ?_
    refine lv_iadd hx hb dL_law_417 ?_
    refine ps_sld (j := 6 * t) hx hb hX hbl hbA hS 1 (by decide) (by omega) hL dL_law_418 ?_
    refine lv_aload_n hx hb dL_law_419 rfl (lv_at hl 0 rfl) ?_
    refine lv_iload hx hb dL_law_420 (lv_at hl 4 rfl) ?_
    refine lv_iconst (v := 2) hx hb dL_law_422 (by decide) ?_
    refine lv_iadd hx hb dL_law_423 ?_
    refine ps_sld (j := 6 * t) hx hb hX hbl hbA hS 2 (by decide) (by omega) hL dL_law_424 ?_
    refine lv_aload_n hx hb dL_law_425 rfl (lv_at hl 0 rfl) ?_
    refine lv_iload hx hb dL_law_426 (lv_at hl 4 rfl) ?_
    refine lv_iconst (v := 3) hx hb dL_law_428 (by decide) ?_
    refine lv_iadd hx hb dL_law_429 ?_
    refine ps_sld (j := 6 * t) hx hb hX hbl hbA hS 3 (by decide) (by omega) hL dL_law_430 ?_
    refine ps_cqi (wc := ps_shW h0 q1 q2 q3 cx cy cz pl pw ++ ps_trW cI cZ q1 a1 n1 g1 ++ ps_trW cI cZ q2 a2 n2 g2 ++ ps_lsW cI q3 b lf le lh ++ [(o0, .inl (cL, 1, .inr (.inl ov)))]) (wr := ps_mdW cI cZ w0 b0 th mn kn co ln wr lt f) (w1 := ps_shW h0 q1 q2 q3 cx cy cz pl pw ++ ps_trW cI cZ q1 a1 n1 g1 ++ ps_trW cI cZ q2 a2 n2 g2 ++ ps_lsW cI q3 b lf le lh ++ [(o0, .inl (cL, 1, .inr (.inl ov)))]) (ws2 := ps_shW h0 q1 q2 q3 cx cy cz pl pw ++ ps_trW cI cZ q1 a1 n1 g1 ++ ps_trW cI cZ q2 a2 n2 g2 ++ ps_lsW cI q3 b lf le lh ++ [(o0, .inl (cL, 1, .inr (.inl ov)))] ++ ps_mdW cI cZ w0 b0 th mn kn co ln wr lt f) (vx_runSW (As := [.ref h0, .int (xs (6 * t + 1)), .int (xs (6 * t + 2)), .int (xs (6 * t + 3))]) (rest := []) ⟨hx, hb, hml, hown, hT⟩ (mL_corner_x l hlt dC dI cI cZ h0 q1 q2 q3 b a1 a2 n1 n2 g1 g2 lf le lh cx cy cz pl pw cL o0 ov (xs (6 * t + 1)) (xs (6 * t + 2)) (xs (6 * t + 3)) h1 _) (vx_cwSW 4 hT (ps_gSW tw_ml_L_85 tw_st_L_corner tw_in_L tw_cw_L_corner) rfl rfl rfl ⟨by decide, by decide, by decide +kernel⟩ ⟨Nat.le_of_ble_eq_true rfl, Nat.le_of_ble_eq_true rfl⟩) (ps_xreS (wc := ps_shW h0 q1 q2 q3 cx cy cz pl pw ++ ps_trW cI cZ q1 a1 n1 g1 ++ ps_trW cI cZ q2 a2 n2 g2 ++ ps_lsW cI q3 b lf le lh ++ [(o0, .inl (cL, 1, .inr (.inl ov)))]) [0, 1, 2, 3, 4, 5, 6, 7, 8, 9, 10, 11, 12, 13, 14, 15, 16, 17, 18, 19, 20, 21] hN hE hZ hS hA hP hK3 hD rfl rfl rfl) rfl rfl hl.1 rfl (lv_room (Nat.le_of_ble_eq_true rfl)) dL_law_431 ⟨hc1, hs1⟩) hS hA hP hD [0, 1, 2, 3, 4, 5, 6, 7, 8, 9, 10, 11, 12, 13, 14, 15, 16, 17, 18, 19, 20, 21] [22, 23, 24, 25, 26, 27, 28, 29, 30, 31, 32] [11, 12, 13, 14, 15, 16, 17, 18, 19, 20, 21, 22, 23, 24, 25, 26, 27, 28, 29, 30, 31, 32, 0, 1, 2, 3, 4, 5, 6, 7, 8, 9, 10] rfl rfl rfl (by decide) rfl rfl rfl (fun H locs hP hD hS => ?_)
    have hP : va_P (dC, dI) vwCl (ps_shW h0 q1 q2 q3 cx cy cz pl pw ++ ps_trW cI cZ q1 a1 n1 g1 ++ ps_trW cI cZ q2 a2 n2 g2 ++ ps_lsW cI q3 b lf le lh ++ [(o0, .inl (cL, 1, .inr (.inl ov)))] ++ ps_mdW cI cZ w0 b0 th mn kn co ln wr lt f) H := hP
    have hD : va_D A (ps_shW h0 q1 q2 q3 cx cy cz pl pw ++ ps_trW cI cZ q1 a1 n1 g1 ++ ps_trW cI cZ q2 a2 n2 g2 ++ ps_lsW cI q3 b lf le lh ++ [(o0, .inl (cL, 1, .inr (.inl ov)))] ++ ps_mdW cI cZ w0 b0 th mn kn co ln wr lt f) := hD
    refine lv_istore (lv' := [(5, .int 1), (0, .ref sb), (1, .ref h0), (2, .ref w0), (3, .ref o0), (4, .int (nI (6 * t)))]) hx hb dL_law_434 hl (by decide) rfl (fun ls hl => ?_)
    refine lv_aload_n hx hb dL_law_436 rfl (lv_at hl 3 rfl) ?_
    refine lv_aload_n hx hb dL_law_437 rfl (lv_at hl 1 rfl) ?_
    refine lv_iload hx hb dL_law_438 (lv_at hl 5 rfl) ?_
    refine lv_iconst (v := 1) hx hb dL_law_440 (by decide) ?_
    refine lv_iadd hx hb dL_law_441 ?_
    refine ps_sld (j := 6 * t) hx hb hX hbl hbA hS 1 (by decide) (by omega) hL dL_law_442 ?_
    refine lv_aload_n hx hb dL_law_443 rfl (lv_at hl 1 rfl) ?_
    refine lv_iload hx hb dL_law_444 (lv_at hl 5 rfl) ?_
    refine lv_iconst (v := 2) hx hb dL_law_446 (by decide) ?_
    refine lv_iadd hx hb dL_law_447 ?_
    refine ps_sld (j := 6 * t) hx hb hX hbl hbA hS 2 (by decide) (by omega) hL dL_law_448 ?_
    refine lv_aload_n hx hb dL_law_449 rfl (lv_at hl 1 rfl) ?_
    refine lv_iload hx hb dL_law_450 (lv_at hl 5 rfl) ?_
    refine lv_iconst (v := 3) hx hb dL_law_452 (by decide) ?_
    refine lv_iadd hx hb dL_law_453 ?_
    refine ps_sld (j := 6 * t) hx hb hX hbl hbA hS 3 (by decide) (by omega) hL dL_law_454 ?_
    refine ps_cqv (wc := ps_mdW cI cZ w0 b0 th mn kn co ln wr lt f) (wr := ps_shW h0 q1 q2 q3 cx cy cz pl pw ++ ps_trW cI cZ q1 a1 n1 g1 ++ ps_trW cI cZ q2 a2 n2 g2 ++ ps_lsW cI q3 b lf le lh ++ [(o0, .inl (cL, 1, .inr (.inl ov)))]) (w1 := ps_mdW cI cZ w0 b0 1 mn kn co ln wr lt f) (ws2 := ps_shW h0 q1 q2 q3 cx cy cz pl pw ++ ps_trW cI cZ q1 a1 n1 g1 ++ ps_trW cI cZ q2 a2 n2 g2 ++ ps_lsW cI q3 b lf le lh ++ [(o0, .inl (cL, 1, .inr (.inl ov)))] ++ ps_mdW cI cZ w0 b0 1 mn kn co ln wr lt f) (va_runV (C := RX3) (As := [.int (xs (6 * t + 1)), .int (xs (6 * t + 2)), .int (xs (6 * t + 3))]) (rest := []) ⟨hx, hb, hml, hown, hT⟩ (mX3_corner_1 l dC dI cI cZ w0 b0 th mn kn co ln wr lt f (xs (6 * t + 1)) (xs (6 * t + 2)) (xs (6 * t + 3)) h2 _) (cwV 3 hT (ps_gV tw_ml_L_88 tw_im_X3_corner tw_se_X3_corner tw_in_X3 tw_co_X3_corner) rfl rfl rfl ⟨rfl, by decide, by decide, by decide +kernel⟩ ⟨Nat.le_of_ble_eq_true rfl, Nat.le_of_ble_eq_true rfl⟩) (ps_qreV (wc := ps_mdW cI cZ w0 b0 th mn kn co ln wr lt f) (ci := 3) [22, 23, 24, 25, 26, 27, 28, 29, 30, 31, 32] hN hP hK hD rfl rfl rfl rfl rfl) rfl rfl hl.1 rfl (lv_room (Nat.le_of_ble_eq_true rfl)) dL_law_455 ⟨hc1, hs1⟩) hS hA hP hD [22, 23, 24, 25, 26, 27, 28, 29, 30, 31, 32] [0, 1, 2, 3, 4, 5, 6, 7, 8, 9, 10, 11, 12, 13, 14, 15, 16, 17, 18, 19, 20, 21] [0, 1, 2, 3, 4, 5, 6, 7, 8, 9, 10, 11, 12, 13, 14, 15, 16, 17, 18, 19, 20, 21, 22, 23, 24, 25, 26, 27, 28, 29, 30, 31, 32] rfl rfl rfl (by decide) rfl rfl rfl (fun H locs hP hD hS => ?_)
    have hP : va_P (dC, dI) vwCl (ps_shW h0 q1 q2 q3 cx cy cz pl pw ++ ps_trW cI cZ q1 a1 n1 g1 ++ ps_trW cI cZ q2 a2 n2 g2 ++ ps_lsW cI q3 b lf le lh ++ [(o0, .inl (cL, 1, .inr (.inl ov)))] ++ ps_mdW cI cZ w0 b0 1 mn kn co ln wr lt f) H := hP
    have hD : va_D A (ps_shW h0 q1 q2 q3 cx cy cz pl pw ++ ps_trW cI cZ q1 a1 n1 g1 ++ ps_trW cI cZ q2 a2 n2 g2 ++ ps_lsW cI q3 b lf le lh ++ [(o0, .inl (cL, 1, .inr (.inl ov)))] ++ ps_mdW cI cZ w0 b0 1 mn kn co ln wr lt f) := hD
    refine lv_aload_n hx hb dL_law_458 rfl (lv_at hl 3 rfl) ?_
    refine vp_callSi (va_Run.run (va_runV (C := RX3) (As := []) (rest := []) ⟨hx, hb, hml, hown, hT⟩ (mX3_thrown l dC dI cI cZ w0 b0 1 mn kn co ln wr lt f) (cwV 0 hT (ps_gV tw_ml_L_71 tw_im_X3_thrown tw_se_X3_thrown tw_in_X3 tw_co_X3_thrown) rfl rfl rfl ⟨rfl, by decide, by decide, by decide +kernel⟩ ⟨Nat.le_of_ble_eq_true rfl, Nat.le_of_ble_eq_true rfl⟩) (ps_preV (ci := 3) (q0 := 0) hN (hP.sub (ws' := ps_mdW cI cZ w0 b0 1 mn kn co ln wr lt f) [22, 23, 24, 25, 26, 27, 28, 29, 30, 31, 32] rfl) hK rfl rfl) rfl rfl hl.1 rfl (lv_room (Nat.le_of_ble_eq_true rfl)) dL_law_459 ⟨hc1, hs1⟩)) (fun r hr9 => ?_)
    obtain rfl : r = 1 := hr9
    refine lv_iload hx hb dL_law_462 (lv_at hl 0 rfl) ?_
    refine lv_icmp_eq (tgt := 469) hx hb dL_law_464 rfl (fun h464 => ?_) (fun h464 => ?_)
    · skip
      refine lv_goto (tgt := 1028) hx hb dL_law_469 rfl ?_
      refine W.widen (k := cells + 1) (n := slots + 6) (Nat.le_refl _) (Nat.le_refl _) ?_
      exact kk _ _ _ _ _ _ _ _ _ _ _ _ _ _ _ _ _ _ _ _ _ _ _ _ hJ (lv_sub hl [1, 2, 3, 4, 5] rfl) hP hD hS
    · skip
      exact absurd rfl h464
set_option maxHeartbeats 4000000 in
set_option maxRecDepth 100000 in
theorem cs_box {p : Program} {l : Launch} {e : Env} {s : State} {m : MethodId} {args : Array Value} {below : List Frame} {meth : Method} {c : Code} {Q : State → Prop} {dC : Nat → ClassId} {dI : Nat → Nat → Nat} {cI cZ cL : ClassId} {A : Nat → Prop} {sb L : Nat} {xs : Nat → Int32} {h0 q1 q2 q3 b o0 w0 : Nat} {a1 a2 b0 : Nat → Nat} {t cells slots : Nat} (C : ps_Cx p l s m args c dC dI cI cZ cL A sb L xs) (ht : 6 * t + 6 ≤ L) (hc1 : cells + 1 ≤ room_1.cells) (hs1 : slots + 6 ≤ room_1.slots) (kk : ps_Hd p l e s m args below meth c Q dC dI cI cZ cL A sb h0 q1 q2 q3 b o0 w0 a1 a2 b0 t (cells + 1) (slots + 6) 1028) : ps_Hd p l e s m args below meth c Q dC dI cI cZ cL A sb h0 q1 q2 q3 b o0 w0 a1 a2 b0 t cells slots 472 := by
  obtain ⟨hlt, hx, hb, hml, hown, hT, hN, hE, hZ, hK3, hA, hX, hbl, hbA, hL⟩ := C
  have hK : va_K (dC, dI) vwCl (ps_ty cI cZ) s := hK3.sub [0, 1] rfl
  intro n1 n2 g1 g2 lf le lh cx cy cz pl pw ov th mn kn co ln wr lt f ls H locs hJ hl hP hD hS
  rcases ps_Jbox hJ (xs (6 * t + 1)) (xs (6 * t + 2)) (xs (6 * t + 3)) (xs (6 * t + 4)) with ⟨h1, h2, h3, h4, h5, h6, h7, h8, he, hJ⟩ | ⟨h1, h2⟩ | ⟨h1, h2, h3, h4, h5⟩
  · skip
    refine lv_aload_n hx hb dL_law_472 rfl (lv_at hl 1 rfl) ?_
    refine lv_aload_n hx hb dL_law_473 rfl (lv_at hl 0 rfl) ?_
    refine lv_iload hx hb dL_law_474 (lv_at hl 4 rfl) ?_
    refine lv_iconst (v := 1) hx hb dL_law_476 (by decide) ?_
    refine lv_iadd hx hb dL_law_477 ?_
    refine ps_sld (j := 6 * t) hx hb hX hbl hbA hS 1 (by decide) (by omega) hL dL_law_478 ?_
    refine lv_aload_n hx hb dL_law_479 rfl (lv_at hl 0 rfl) ?_
    refine lv_iload hx hb dL_law_480 (lv_at hl 4 rfl) ?_
    refine lv_iconst (v := 2) hx hb dL_law_482 (by decide) ?_
    refine lv_iadd hx hb dL_law_483 ?_
    refine ps_sld (j := 6 * t) hx hb hX hbl hbA hS 2 (by decide) (by omega) hL dL_law_484 ?_
    refine lv_aload_n hx hb dL_law_485 rfl (lv_at hl 0 rfl) ?_
    refine lv_iload hx hb dL_law_486 (lv_at hl 4 rfl) ?_
    refine lv_iconst (v := 3) hx hb dL_law_488 (by decide) ?_
    refine lv_iadd hx hb dL_law_489 ?_
    refine ps_sld (j := 6 * t) hx hb hX hbl hbA hS 3 (by decide) (by omega) hL dL_law_490 ?_
    refine lv_aload_n hx hb dL_law_491 rfl (lv_at hl 0 rfl) ?_
    refine lv_iload hx hb dL_law_492 (lv_at hl 4 rfl) ?_
    refine lv_iconst (v := 4) hx hb dL_law_494 (by decide) ?_
    refine lv_iadd hx hb dL_law_495 ?_
    refine ps_sld (j := 6 * t) hx hb hX hbl hbA hS 4 (by decide) (by omega) hL dL_law_496 ?_
    refine lv_aload_n hx hb dL_law_497 rfl (lv_at hl 3 rfl) ?_
    refine ps_cqi (wc := ps_shW h0 q1 q2 q3 cx cy cz pl pw ++ ps_trW cI cZ q1 a1 n1 g1 ++ ps_trW cI cZ q2 a2 n2 g2 ++ ps_lsW cI q3 b lf le lh ++ [(o0, .inl (cL, 1, .inr (.inl ov)))]) (wr := ps_mdW cI cZ w0 b0 th mn kn co ln wr lt f) (w1 := ps_shW h0 q1 q2 q3 cx cy cz pl pw ++ ps_trW cI cZ q1 a1 n1 g1 ++ ps_trW cI cZ q2 a2 n2 g2 ++ ps_lsW cI q3 b 0 ((ps_bx g1 (ps_bq g1 cx cy cz (xs (6 * t + 1)) (xs (6 * t + 2)) (xs (6 * t + 3)) (xs (6 * t + 4))) lh n1).1) ((ps_bx g1 (ps_bq g1 cx cy cz (xs (6 * t + 1)) (xs (6 * t + 2)) (xs (6 * t + 3)) (xs (6 * t + 4))) lh n1).2) ++ [(o0, .inl (cL, 1, .inr (.inl (vp_updL ov 0 (nI (ps_bx g1 (ps_bq g1 cx cy cz (xs (6 * t + 1)) (xs (6 * t + 2)) (xs (6 * t + 3)) (xs (6 * t + 4))) lh n1).1).toInt64))))]) (ws2 := ps_shW h0 q1 q2 q3 cx cy cz pl pw ++ ps_trW cI cZ q1 a1 n1 g1 ++ ps_trW cI cZ q2 a2 n2 g2 ++ ps_lsW cI q3 b 0 ((ps_bx g1 (ps_bq g1 cx cy cz (xs (6 * t + 1)) (xs (6 * t + 2)) (xs (6 * t + 3)) (xs (6 * t + 4))) lh n1).1) ((ps_bx g1 (ps_bq g1 cx cy cz (xs (6 * t + 1)) (xs (6 * t + 2)) (xs (6 * t + 3)) (xs (6 * t + 4))) lh n1).2) ++ [(o0, .inl (cL, 1, .inr (.inl (vp_updL ov 0 (nI (ps_bx g1 (ps_bq g1 cx cy cz (xs (6 * t + 1)) (xs (6 * t + 2)) (xs (6 * t + 3)) (xs (6 * t + 4))) lh n1).1).toInt64))))] ++ ps_mdW cI cZ w0 b0 th mn kn co ln wr lt f) (vx_runSW (As := [.ref h0, .int (xs (6 * t + 1)), .int (xs (6 * t + 2)), .int (xs (6 * t + 3)), .int (xs (6 * t + 4)), .ref o0]) (rest := []) ⟨hx, hb, hml, hown, hT⟩ (mL_box_n l hlt dC dI cI cZ h0 q1 q2 q3 b a1 a2 n1 n2 g1 g2 lf le lh cx cy cz pl pw cL o0 ov h1 (xs (6 * t + 1)) (xs (6 * t + 2)) (xs (6 * t + 3)) h2 h3 h4 (xs (6 * t + 4)) h5 _) (vx_cwSW 6 hT (ps_gSW tw_ml_L_89 tw_st_L_box tw_in_L tw_cw_L_box) rfl rfl rfl ⟨by decide, by decide, by decide +kernel⟩ ⟨Nat.le_of_ble_eq_true rfl, Nat.le_of_ble_eq_true rfl⟩) (ps_xreS (wc := ps_shW h0 q1 q2 q3 cx cy cz pl pw ++ ps_trW cI cZ q1 a1 n1 g1 ++ ps_trW cI cZ q2 a2 n2 g2 ++ ps_lsW cI q3 b lf le lh ++ [(o0, .inl (cL, 1, .inr (.inl ov)))]) [0, 1, 2, 3, 4, 5, 6, 7, 8, 9, 10, 11, 12, 13, 14, 15, 16, 17, 18, 19, 20, 21] hN hE hZ hS hA hP hK3 hD rfl rfl rfl) rfl rfl hl.1 rfl (lv_room (Nat.le_of_ble_eq_true rfl)) dL_law_498 ⟨hc1, hs1⟩) hS hA hP hD [0, 1, 2, 3, 4, 5, 6, 7, 8, 9, 10, 11, 12, 13, 14, 15, 16, 17, 18, 19, 20, 21] [22, 23, 24, 25, 26, 27, 28, 29, 30, 31, 32] [11, 12, 13, 14, 15, 16, 17, 18, 19, 20, 21, 22, 23, 24, 25, 26, 27, 28, 29, 30, 31, 32, 0, 1, 2, 3, 4, 5, 6, 7, 8, 9, 10] rfl rfl rfl (by decide) rfl rfl rfl (fun H locs hP hD hS => ?_)
    have hP : va_P (dC, dI) vwCl (ps_shW h0 q1 q2 q3 cx cy cz pl pw ++ ps_trW cI cZ q1 a1 n1 g1 ++ ps_trW cI cZ q2 a2 n2 g2 ++ ps_lsW cI q3 b 0 ((ps_bx g1 (ps_bq g1 cx cy cz (xs (6 * t + 1)) (xs (6 * t + 2)) (xs (6 * t + 3)) (xs (6 * t + 4))) lh n1).1) ((ps_bx g1 (ps_bq g1 cx cy cz (xs (6 * t + 1)) (xs (6 * t + 2)) (xs (6 * t + 3)) (xs (6 * t + 4))) lh n1).2) ++ [(o0, .inl (cL, 1, .inr (.inl (vp_updL ov 0 (nI (ps_bx g1 (ps_bq g1 cx cy cz (xs (6 * t + 1)) (xs (6 * t + 2)) (xs (6 * t + 3)) (xs (6 * t + 4))) lh n1).1).toInt64))))] ++ ps_mdW cI cZ w0 b0 th mn kn co ln wr lt f) H := hP
    have hD : va_D A (ps_shW h0 q1 q2 q3 cx cy cz pl pw ++ ps_trW cI cZ q1 a1 n1 g1 ++ ps_trW cI cZ q2 a2 n2 g2 ++ ps_lsW cI q3 b 0 ((ps_bx g1 (ps_bq g1 cx cy cz (xs (6 * t + 1)) (xs (6 * t + 2)) (xs (6 * t + 3)) (xs (6 * t + 4))) lh n1).1) ((ps_bx g1 (ps_bq g1 cx cy cz (xs (6 * t + 1)) (xs (6 * t + 2)) (xs (6 * t + 3)) (xs (6 * t + 4))) lh n1).2) ++ [(o0, .inl (cL, 1, .inr (.inl (vp_updL ov 0 (nI (ps_bx g1 (ps_bq g1 cx cy cz (xs (6 * t + 1)) (xs (6 * t + 2)) (xs (6 * t + 3)) (xs (6 * t + 4))) lh n1).1).toInt64))))] ++ ps_mdW cI cZ w0 b0 th mn kn co ln wr lt f) := hD
    refine lv_istore (lv' := [(5, .int 0), (0, .ref sb), (1, .ref h0), (2, .ref w0), (3, .ref o0), (4, .int (nI (6 * t)))]) hx hb dL_law_501 hl (by decide) rfl (fun ls hl => ?_)
    refine lv_aload_n hx hb dL_law_503 rfl (lv_at hl 3 rfl) ?_
    refine lv_aload_n hx hb dL_law_504 rfl (lv_at hl 1 rfl) ?_
    refine lv_iload hx hb dL_law_505 (lv_at hl 5 rfl) ?_
    refine lv_iconst (v := 1) hx hb dL_law_507 (by decide) ?_
    refine lv_iadd hx hb dL_law_508 ?_
    refine ps_sld (j := 6 * t) hx hb hX hbl hbA hS 1 (by decide) (by omega) hL dL_law_509 ?_
    refine lv_aload_n hx hb dL_law_510 rfl (lv_at hl 1 rfl) ?_
    refine lv_iload hx hb dL_law_511 (lv_at hl 5 rfl) ?_
    refine lv_iconst (v := 2) hx hb dL_law_513 (by decide) ?_
    refine lv_iadd hx hb dL_law_514 ?_
    refine ps_sld (j := 6 * t) hx hb hX hbl hbA hS 2 (by decide) (by omega) hL dL_law_515 ?_
    refine lv_aload_n hx hb dL_law_516 rfl (lv_at hl 1 rfl) ?_
    refine lv_iload hx hb dL_law_517 (lv_at hl 5 rfl) ?_
    refine lv_iconst (v := 3) hx hb dL_law_519 (by decide) ?_
    refine lv_iadd hx hb dL_law_520 ?_
    refine ps_sld (j := 6 * t) hx hb hX hbl hbA hS 3 (by decide) (by omega) hL dL_law_521 ?_
    refine lv_aload_n hx hb dL_law_522 rfl (lv_at hl 1 rfl) ?_
    refine lv_iload hx hb dL_law_523 (lv_at hl 5 rfl) ?_
    refine lv_iconst (v := 4) hx hb dL_law_525 (by decide) ?_
    refine lv_iadd hx hb dL_law_526 ?_
    refine ps_sld (j := 6 * t) hx hb hX hbl hbA hS 4 (by decide) (by omega) hL dL_law_527 ?_
    refine ps_cqi (wc := ps_mdW cI cZ w0 b0 th mn kn co ln wr lt f) (wr := ps_shW h0 q1 q2 q3 cx cy cz pl pw ++ ps_trW cI cZ q1 a1 n1 g1 ++ ps_trW cI cZ q2 a2 n2 g2 ++ ps_lsW cI q3 b 0 ((ps_bx g1 (ps_bq g1 cx cy cz (xs (6 * t + 1)) (xs (6 * t + 2)) (xs (6 * t + 3)) (xs (6 * t + 4))) lh n1).1) ((ps_bx g1 (ps_bq g1 cx cy cz (xs (6 * t + 1)) (xs (6 * t + 2)) (xs (6 * t + 3)) (xs (6 * t + 4))) lh n1).2) ++ [(o0, .inl (cL, 1, .inr (.inl (vp_updL ov 0 (nI (ps_bx g1 (ps_bq g1 cx cy cz (xs (6 * t + 1)) (xs (6 * t + 2)) (xs (6 * t + 3)) (xs (6 * t + 4))) lh n1).1).toInt64))))]) (w1 := ps_mdW cI cZ w0 b0 0 mn kn co ((ps_bx f (ps_mb f co (ps_pk (xs (6 * t + 1)) (xs (6 * t + 2)) (xs (6 * t + 3))) (xs (6 * t + 4))) (f 9) mn).1) wr lt (va_up f 9 ((ps_bx f (ps_mb f co (ps_pk (xs (6 * t + 1)) (xs (6 * t + 2)) (xs (6 * t + 3))) (xs (6 * t + 4))) (f 9) mn).2))) (ws2 := ps_shW h0 q1 q2 q3 cx cy cz pl pw ++ ps_trW cI cZ q1 a1 n1 g1 ++ ps_trW cI cZ q2 a2 n2 g2 ++ ps_lsW cI q3 b 0 ((ps_bx g1 (ps_bq g1 cx cy cz (xs (6 * t + 1)) (xs (6 * t + 2)) (xs (6 * t + 3)) (xs (6 * t + 4))) lh n1).1) ((ps_bx g1 (ps_bq g1 cx cy cz (xs (6 * t + 1)) (xs (6 * t + 2)) (xs (6 * t + 3)) (xs (6 * t + 4))) lh n1).2) ++ [(o0, .inl (cL, 1, .inr (.inl (vp_updL ov 0 (nI (ps_bx g1 (ps_bq g1 cx cy cz (xs (6 * t + 1)) (xs (6 * t + 2)) (xs (6 * t + 3)) (xs (6 * t + 4))) lh n1).1).toInt64))))] ++ ps_mdW cI cZ w0 b0 0 mn kn co ((ps_bx f (ps_mb f co (ps_pk (xs (6 * t + 1)) (xs (6 * t + 2)) (xs (6 * t + 3))) (xs (6 * t + 4))) (f 9) mn).1) wr lt (va_up f 9 ((ps_bx f (ps_mb f co (ps_pk (xs (6 * t + 1)) (xs (6 * t + 2)) (xs (6 * t + 3))) (xs (6 * t + 4))) (f 9) mn).2))) (va_runV (C := RX3) (As := [.int (xs (6 * t + 1)), .int (xs (6 * t + 2)), .int (xs (6 * t + 3)), .int (xs (6 * t + 4))]) (rest := []) ⟨hx, hb, hml, hown, hT⟩ (mX3_box_n l dC dI cI cZ w0 b0 th mn kn co ln wr lt f h6 (xs (6 * t + 1)) (xs (6 * t + 2)) (xs (6 * t + 3)) (xs (6 * t + 4)) h7 h8 _) (cwV 4 hT (ps_gV tw_ml_L_92 tw_im_X3_box tw_se_X3_box tw_in_X3 tw_co_X3_box) rfl rfl rfl ⟨rfl, by decide, by decide, by decide +kernel⟩ ⟨Nat.le_of_ble_eq_true rfl, Nat.le_of_ble_eq_true rfl⟩) (ps_qreV (wc := ps_mdW cI cZ w0 b0 th mn kn co ln wr lt f) (ci := 3) [22, 23, 24, 25, 26, 27, 28, 29, 30, 31, 32] hN hP hK hD rfl rfl rfl rfl rfl) rfl rfl hl.1 rfl (lv_room (Nat.le_of_ble_eq_true rfl)) dL_law_528 ⟨hc1, hs1⟩) hS hA hP hD [22, 23, 24, 25, 26, 27, 28, 29, 30, 31, 32] [0, 1, 2, 3, 4, 5, 6, 7, 8, 9, 10, 11, 12, 13, 14, 15, 16, 17, 18, 19, 20, 21] [0, 1, 2, 3, 4, 5, 6, 7, 8, 9, 10, 11, 12, 13, 14, 15, 16, 17, 18, 19, 20, 21, 22, 23, 24, 25, 26, 27, 28, 29, 30, 31, 32] rfl rfl rfl (by decide) rfl rfl rfl (fun H locs hP hD hS => ?_)
    have hP : va_P (dC, dI) vwCl (ps_shW h0 q1 q2 q3 cx cy cz pl pw ++ ps_trW cI cZ q1 a1 n1 g1 ++ ps_trW cI cZ q2 a2 n2 g2 ++ ps_lsW cI q3 b 0 ((ps_bx g1 (ps_bq g1 cx cy cz (xs (6 * t + 1)) (xs (6 * t + 2)) (xs (6 * t + 3)) (xs (6 * t + 4))) lh n1).1) ((ps_bx g1 (ps_bq g1 cx cy cz (xs (6 * t + 1)) (xs (6 * t + 2)) (xs (6 * t + 3)) (xs (6 * t + 4))) lh n1).2) ++ [(o0, .inl (cL, 1, .inr (.inl (vp_updL ov 0 (nI (ps_bx g1 (ps_bq g1 cx cy cz (xs (6 * t + 1)) (xs (6 * t + 2)) (xs (6 * t + 3)) (xs (6 * t + 4))) lh n1).1).toInt64))))] ++ ps_mdW cI cZ w0 b0 0 mn kn co ((ps_bx f (ps_mb f co (ps_pk (xs (6 * t + 1)) (xs (6 * t + 2)) (xs (6 * t + 3))) (xs (6 * t + 4))) (f 9) mn).1) wr lt (va_up f 9 ((ps_bx f (ps_mb f co (ps_pk (xs (6 * t + 1)) (xs (6 * t + 2)) (xs (6 * t + 3))) (xs (6 * t + 4))) (f 9) mn).2))) H := hP
    have hD : va_D A (ps_shW h0 q1 q2 q3 cx cy cz pl pw ++ ps_trW cI cZ q1 a1 n1 g1 ++ ps_trW cI cZ q2 a2 n2 g2 ++ ps_lsW cI q3 b 0 ((ps_bx g1 (ps_bq g1 cx cy cz (xs (6 * t + 1)) (xs (6 * t + 2)) (xs (6 * t + 3)) (xs (6 * t + 4))) lh n1).1) ((ps_bx g1 (ps_bq g1 cx cy cz (xs (6 * t + 1)) (xs (6 * t + 2)) (xs (6 * t + 3)) (xs (6 * t + 4))) lh n1).2) ++ [(o0, .inl (cL, 1, .inr (.inl (vp_updL ov 0 (nI (ps_bx g1 (ps_bq g1 cx cy cz (xs (6 * t + 1)) (xs (6 * t + 2)) (xs (6 * t + 3)) (xs (6 * t + 4))) lh n1).1).toInt64))))] ++ ps_mdW cI cZ w0 b0 0 mn kn co ((ps_bx f (ps_mb f co (ps_pk (xs (6 * t + 1)) (xs (6 * t + 2)) (xs (6 * t + 3))) (xs (6 * t + 4))) (f 9) mn).1) wr lt (va_up f 9 ((ps_bx f (ps_mb f co (ps_pk (xs (6 * t + 1)) (xs (6 * t + 2)) (xs (6 * t + 3))) (xs (6 * t + 4))) (f 9) mn).2))) := hD
    refine lv_istore (lv' := [(6, .int (nI (ps_bx f (ps_mb f co (ps_pk (xs (6 * t + 1)) (xs (6 * t + 2)) (xs (6 * t + 3))) (xs (6 * t + 4))) (f 9) mn).1)), (5, .int 0), (0, .ref sb), (1, .ref h0), (2, .ref w0), (3, .ref o0), (4, .int (nI (6 * t)))]) hx hb dL_law_531 hl (by decide) rfl (fun ls hl => ?_)
    refine lv_aload_n hx hb dL_law_533 rfl (lv_at hl 4 rfl) ?_
    refine vp_callSi (va_Run.run (va_runV (C := RX3) (As := []) (rest := []) ⟨hx, hb, hml, hown, hT⟩ (mX3_thrown l dC dI cI cZ w0 b0 0 mn kn co ((ps_bx f (ps_mb f co (ps_pk (xs (6 * t + 1)) (xs (6 * t + 2)) (xs (6 * t + 3))) (xs (6 * t + 4))) (f 9) mn).1) wr lt (va_up f 9 ((ps_bx f (ps_mb f co (ps_pk (xs (6 * t + 1)) (xs (6 * t + 2)) (xs (6 * t + 3))) (xs (6 * t + 4))) (f 9) mn).2))) (cwV 0 hT (ps_gV tw_ml_L_71 tw_im_X3_thrown tw_se_X3_thrown tw_in_X3 tw_co_X3_thrown) rfl rfl rfl ⟨rfl, by decide, by decide, by decide +kernel⟩ ⟨Nat.le_of_ble_eq_true rfl, Nat.le_of_ble_eq_true rfl⟩) (ps_preV (ci := 3) (q0 := 0) hN (hP.sub (ws' := ps_mdW cI cZ w0 b0 0 mn kn co ((ps_bx f (ps_mb f co (ps_pk (xs (6 * t + 1)) (xs (6 * t + 2)) (xs (6 * t + 3))) (xs (6 * t + 4))) (f 9) mn).1) wr lt (va_up f 9 ((ps_bx f (ps_mb f co (ps_pk (xs (6 * t + 1)) (xs (6 * t + 2)) (xs (6 * t + 3))) (xs (6 * t + 4))) (f 9) mn).2))) [22, 23, 24, 25, 26, 27, 28, 29, 30, 31, 32] rfl) hK rfl rfl) rfl rfl hl.1 rfl (lv_room (Nat.le_of_ble_eq_true rfl)) dL_law_534 ⟨hc1, hs1⟩)) (fun r hr9 => ?_)
    obtain rfl : r = 0 := hr9
    refine lv_iload hx hb dL_law_537 (lv_at hl 1 rfl) ?_
    refine lv_icmp_eq (tgt := 544) hx hb dL_law_539 rfl (fun h539 => ?_) (fun h539 => ?_)
    · skip
      refine lv_iload hx hb dL_law_544 (lv_at hl 1 rfl) ?_
      refine lv_if_ne (tgt := 561) hx hb dL_law_546 rfl (fun h546 => ?_) (fun h546 => ?_)
      · skip
        exact absurd rfl h546
      · skip
        refine lv_aload_n hx hb dL_law_549 rfl (lv_at hl 5 rfl) ?_
        refine lv_iconst (v := 0) hx hb dL_law_550 (by decide) ?_
        refine va_lald hx hb hK3 hP 21 2 rfl rfl (by unfold vp_in; decide) dL_law_551 ?_
        refine lv_iload hx hb dL_law_552 (lv_at hl 0 rfl) ?_
        refine lv_i2l (v := (nI (ps_bx f (ps_mb f co (ps_pk (xs (6 * t + 1)) (xs (6 * t + 2)) (xs (6 * t + 3))) (xs (6 * t + 4))) (f 9) mn).1).toInt64) hx hb dL_law_554 rfl ?_
        refine W.lcmp hx hb dL_law_555 ?_
        refine lv_if_eq (tgt := 561) hx hb dL_law_556 rfl (fun h556 => ?_) (fun h556 => ?_)
        · skip
          refine lv_goto (tgt := 1028) hx hb dL_law_561 rfl ?_
          refine W.widen (k := cells + 1) (n := slots + 6) (Nat.le_refl _) (Nat.le_refl _) ?_
          exact kk _ _ _ _ _ _ _ _ _ _ _ _ _ _ _ _ _ _ _ _ _ _ _ _ hJ (lv_sub hl [2, 3, 4, 5, 6] rfl) hP hD hS
        · skip
          exact absurd (ps_lz (congrArg nI he)) h556
    · skip
      exact absurd rfl h539
  · skip
    refine lv_aload_n hx hb dL_law_472 rfl (lv_at hl 1 rfl) ?_
    refine lv_aload_n hx hb dL_law_473 rfl (lv_at hl 0 rfl) ?_
    refine lv_iload hx hb dL_law_474 (lv_at hl 4 rfl) ?_
    refine lv_iconst (v := 1) hx hb dL_law_476 (by decide) ?_
    refine lv_iadd hx hb dL_law_477 ?_
    refine ps_sld (j := 6 * t) hx hb hX hbl hbA hS 1 (by decide) (by omega) hL dL_law_478 ?_
    refine lv_aload_n hx hb dL_law_479 rfl (lv_at hl 0 rfl) ?_
    refine lv_iload hx hb dL_law_480 (lv_at hl 4 rfl) ?_
    refine lv_iconst (v := 2) hx hb dL_law_482 (by decide) ?_
    refine lv_iadd hx hb dL_law_483 ?_
    refine ps_sld (j := 6 * t) hx hb hX hbl hbA hS 2 (by decide) (by omega) hL dL_law_484 ?_
    refine lv_aload_n hx hb dL_law_485 rfl (lv_at hl 0 rfl) ?_
    refine lv_iload hx hb dL_law_486 (lv_at hl 4 rfl) ?_
    refine lv_iconst (v := 3) hx hb dL_law_488 (by decide) ?_
    refine lv_iadd hx hb dL_law_489 ?_
    refine ps_sld (j := 6 * t) hx hb hX hbl hbA hS 3 (by decide) (by omega) hL dL_law_490 ?_
    refine lv_aload_n hx hb dL_law_491 rfl (lv_at hl 0 rfl) ?_
    refine lv_iload hx hb dL_law_492 (lv_at hl 4 rfl) ?_
    refine lv_iconst (v := 4) hx hb dL_law_494 (by decide) ?_
    refine lv_iadd hx hb dL_law_495 ?_
    refine ps_sld (j := 6 * t) hx hb hX hbl hbA hS 4 (by decide) (by omega) hL dL_law_496 ?_
    refine lv_aload_n hx hb dL_law_497 rfl (lv_at hl 3 rfl) ?_
    refine ps_cqi (wc := ps_shW h0 q1 q2 q3 cx cy cz pl pw ++ ps_trW cI cZ q1 a1 n1 g1 ++ ps_trW cI cZ q2 a2 n2 g2 ++ ps_lsW cI q3 b lf le lh ++ [(o0, .inl (cL, 1, .inr (.inl ov)))]) (wr := ps_mdW cI cZ w0 b0 th mn kn co ln wr lt f) (w1 := ps_shW h0 q1 q2 q3 cx cy cz pl pw ++ ps_trW cI cZ q1 a1 n1 g1 ++ ps_trW cI cZ q2 a2 n2 g2 ++ ps_lsW cI q3 b lf le lh ++ [(o0, .inl (cL, 1, .inr (.inl ov)))]) (ws2 := ps_shW h0 q1 q2 q3 cx cy cz pl pw ++ ps_trW cI cZ q1 a1 n1 g1 ++ ps_trW cI cZ q2 a2 n2 g2 ++ ps_lsW cI q3 b lf le lh ++ [(o0, .inl (cL, 1, .inr (.inl ov)))] ++ ps_mdW cI cZ w0 b0 th mn kn co ln wr lt f) (vx_runSW (As := [.ref h0, .int (xs (6 * t + 1)), .int (xs (6 * t + 2)), .int (xs (6 * t + 3)), .int (xs (6 * t + 4)), .ref o0]) (rest := []) ⟨hx, hb, hml, hown, hT⟩ (mL_box_x1 l hlt dC dI cI cZ h0 q1 q2 q3 b a1 a2 n1 n2 g1 g2 lf le lh cx cy cz pl pw cL o0 ov (xs (6 * t + 1)) (xs (6 * t + 2)) (xs (6 * t + 3)) h1 (xs (6 * t + 4)) _) (vx_cwSW 6 hT (ps_gSW tw_ml_L_89 tw_st_L_box tw_in_L tw_cw_L_box) rfl rfl rfl ⟨by decide, by decide, by decide +kernel⟩ ⟨Nat.le_of_ble_eq_true rfl, Nat.le_of_ble_eq_true rfl⟩) (ps_xreS (wc := ps_shW h0 q1 q2 q3 cx cy cz pl pw ++ ps_trW cI cZ q1 a1 n1 g1 ++ ps_trW cI cZ q2 a2 n2 g2 ++ ps_lsW cI q3 b lf le lh ++ [(o0, .inl (cL, 1, .inr (.inl ov)))]) [0, 1, 2, 3, 4, 5, 6, 7, 8, 9, 10, 11, 12, 13, 14, 15, 16, 17, 18, 19, 20, 21] hN hE hZ hS hA hP hK3 hD rfl rfl rfl) rfl rfl hl.1 rfl (lv_room (Nat.le_of_ble_eq_true rfl)) dL_law_498 ⟨hc1, hs1⟩) hS hA hP hD [0, 1, 2, 3, 4, 5, 6, 7, 8, 9, 10, 11, 12, 13, 14, 15, 16, 17, 18, 19, 20, 21] [22, 23, 24, 25, 26, 27, 28, 29, 30, 31, 32] [11, 12, 13, 14, 15, 16, 17, 18, 19, 20, 21, 22, 23, 24, 25, 26, 27, 28, 29, 30, 31, 32, 0, 1, 2, 3, 4, 5, 6, 7, 8, 9, 10] rfl rfl rfl (by decide) rfl rfl rfl (fun H locs hP hD hS => ?_)
    have hP : va_P (dC, dI) vwCl (ps_shW h0 q1 q2 q3 cx cy cz pl pw ++ ps_trW cI cZ q1 a1 n1 g1 ++ ps_trW cI cZ q2 a2 n2 g2 ++ ps_lsW cI q3 b lf le lh ++ [(o0, .inl (cL, 1, .inr (.inl ov)))] ++ ps_mdW cI cZ w0 b0 th mn kn co ln wr lt f) H := hP
    have hD : va_D A (ps_shW h0 q1 q2 q3 cx cy cz pl pw ++ ps_trW cI cZ q1 a1 n1 g1 ++ ps_trW cI cZ q2 a2 n2 g2 ++ ps_lsW cI q3 b lf le lh ++ [(o0, .inl (cL, 1, .inr (.inl ov)))] ++ ps_mdW cI cZ w0 b0 th mn kn co ln wr lt f) := hD
    refine lv_istore (lv' := [(5, .int 1), (0, .ref sb), (1, .ref h0), (2, .ref w0), (3, .ref o0), (4, .int (nI (6 * t)))]) hx hb dL_law_501 hl (by decide) rfl (fun ls hl => ?_)
    refine lv_aload_n hx hb dL_law_503 rfl (lv_at hl 3 rfl) ?_
    refine lv_aload_n hx hb dL_law_504 rfl (lv_at hl 1 rfl) ?_
    refine lv_iload hx hb dL_law_505 (lv_at hl 5 rfl) ?_
    refine lv_iconst (v := 1) hx hb dL_law_507 (by decide) ?_
    refine lv_iadd hx hb dL_law_508 ?_
    refine ps_sld (j := 6 * t) hx hb hX hbl hbA hS 1 (by decide) (by omega) hL dL_law_509 ?_
    refine lv_aload_n hx hb dL_law_510 rfl (lv_at hl 1 rfl) ?_
    refine lv_iload hx hb dL_law_511 (lv_at hl 5 rfl) ?_
    refine lv_iconst (v := 2) hx hb dL_law_513 (by decide) ?_
    refine lv_iadd hx hb dL_law_514 ?_
    refine ps_sld (j := 6 * t) hx hb hX hbl hbA hS 2 (by decide) (by omega) hL dL_law_515 ?_
    refine lv_aload_n hx hb dL_law_516 rfl (lv_at hl 1 rfl) ?_
    refine lv_iload hx hb dL_law_517 (lv_at hl 5 rfl) ?_
    refine lv_iconst (v := 3) hx hb dL_law_519 (by decide) ?_
    refine lv_iadd hx hb dL_law_520 ?_
    refine ps_sld (j := 6 * t) hx hb hX hbl hbA hS 3 (by decide) (by omega) hL dL_law_521 ?_
    refine lv_aload_n hx hb dL_law_522 rfl (lv_at hl 1 rfl) ?_
    refine lv_iload hx hb dL_law_523 (lv_at hl 5 rfl) ?_
    refine lv_iconst (v := 4) hx hb dL_law_525 (by decide) ?_
    refine lv_iadd hx hb dL_law_526 ?_
    refine ps_sld (j := 6 * t) hx hb hX hbl hbA hS 4 (by decide) (by omega) hL dL_law_527 ?_
    refine ps_cqi (wc := ps_mdW cI cZ w0 b0 th mn kn co ln wr lt f) (wr := ps_shW h0 q1 q2 q3 cx cy cz pl pw ++ ps_trW cI cZ q1 a1 n1 g1 ++ ps_trW cI cZ q2 a2 n2 g2 ++ ps_lsW cI q3 b lf le lh ++ [(o0, .inl (cL, 1, .inr (.inl ov)))]) (w1 := ps_mdW cI cZ w0 b0 1 mn kn co ln wr lt f) (ws2 := ps_shW h0 q1 q2 q3 cx cy cz pl pw ++ ps_trW cI cZ q1 a1 n1 g1 ++ ps_trW cI cZ q2 a2 n2 g2 ++ ps_lsW cI q3 b lf le lh ++ [(o0, .inl (cL, 1, .inr (.inl ov)))] ++ ps_mdW cI cZ w0 b0 1 mn kn co ln wr lt f) (va_runV (C := RX3) (As := [.int (xs (6 * t + 1)), .int (xs (6 * t + 2)), .int (xs (6 * t + 3)), .int (xs (6 * t + 4))]) (rest := []) ⟨hx, hb, hml, hown, hT⟩ (mX3_box_1 l dC dI cI cZ w0 b0 th mn kn co ln wr lt f (xs (6 * t + 1)) (xs (6 * t + 2)) (xs (6 * t + 3)) (xs (6 * t + 4)) h2 _) (cwV 4 hT (ps_gV tw_ml_L_92 tw_im_X3_box tw_se_X3_box tw_in_X3 tw_co_X3_box) rfl rfl rfl ⟨rfl, by decide, by decide, by decide +kernel⟩ ⟨Nat.le_of_ble_eq_true rfl, Nat.le_of_ble_eq_true rfl⟩) (ps_qreV (wc := ps_mdW cI cZ w0 b0 th mn kn co ln wr lt f) (ci := 3) [22, 23, 24, 25, 26, 27, 28, 29, 30, 31, 32] hN hP hK hD rfl rfl rfl rfl rfl) rfl rfl hl.1 rfl (lv_room (Nat.le_of_ble_eq_true rfl)) dL_law_528 ⟨hc1, hs1⟩) hS hA hP hD [22, 23, 24, 25, 26, 27, 28, 29, 30, 31, 32] [0, 1, 2, 3, 4, 5, 6, 7, 8, 9, 10, 11, 12, 13, 14, 15, 16, 17, 18, 19, 20, 21] [0, 1, 2, 3, 4, 5, 6, 7, 8, 9, 10, 11, 12, 13, 14, 15, 16, 17, 18, 19, 20, 21, 22, 23, 24, 25, 26, 27, 28, 29, 30, 31, 32] rfl rfl rfl (by decide) rfl rfl rfl (fun H locs hP hD hS => ?_)
    have hP : va_P (dC, dI) vwCl (ps_shW h0 q1 q2 q3 cx cy cz pl pw ++ ps_trW cI cZ q1 a1 n1 g1 ++ ps_trW cI cZ q2 a2 n2 g2 ++ ps_lsW cI q3 b lf le lh ++ [(o0, .inl (cL, 1, .inr (.inl ov)))] ++ ps_mdW cI cZ w0 b0 1 mn kn co ln wr lt f) H := hP
    have hD : va_D A (ps_shW h0 q1 q2 q3 cx cy cz pl pw ++ ps_trW cI cZ q1 a1 n1 g1 ++ ps_trW cI cZ q2 a2 n2 g2 ++ ps_lsW cI q3 b lf le lh ++ [(o0, .inl (cL, 1, .inr (.inl ov)))] ++ ps_mdW cI cZ w0 b0 1 mn kn co ln wr lt f) := hD
    refine lv_istore (lv' := [(6, .int 0), (5, .int 1), (0, .ref sb), (1, .ref h0), (2, .ref w0), (3, .ref o0), (4, .int (nI (6 * t)))]) hx hb dL_law_531 hl (by decide) rfl (fun ls hl => ?_)
    refine lv_aload_n hx hb dL_law_533 rfl (lv_at hl 4 rfl) ?_
    refine vp_callSi (va_Run.run (va_runV (C := RX3) (As := []) (rest := []) ⟨hx, hb, hml, hown, hT⟩ (mX3_thrown l dC dI cI cZ w0 b0 1 mn kn co ln wr lt f) (cwV 0 hT (ps_gV tw_ml_L_71 tw_im_X3_thrown tw_se_X3_thrown tw_in_X3 tw_co_X3_thrown) rfl rfl rfl ⟨rfl, by decide, by decide, by decide +kernel⟩ ⟨Nat.le_of_ble_eq_true rfl, Nat.le_of_ble_eq_true rfl⟩) (ps_preV (ci := 3) (q0 := 0) hN (hP.sub (ws' := ps_mdW cI cZ w0 b0 1 mn kn co ln wr lt f) [22, 23, 24, 25, 26, 27, 28, 29, 30, 31, 32] rfl) hK rfl rfl) rfl rfl hl.1 rfl (lv_room (Nat.le_of_ble_eq_true rfl)) dL_law_534 ⟨hc1, hs1⟩)) (fun r hr9 => ?_)
    obtain rfl : r = 1 := hr9
    refine lv_iload hx hb dL_law_537 (lv_at hl 1 rfl) ?_
    refine lv_icmp_eq (tgt := 544) hx hb dL_law_539 rfl (fun h539 => ?_) (fun h539 => ?_)
    · skip
      refine lv_iload hx hb dL_law_544 (lv_at hl 1 rfl) ?_
      refine lv_if_ne (tgt := 561) hx hb dL_law_546 rfl (fun h546 => ?_) (fun h546 => ?_)
      · skip
        refine lv_goto (tgt := 1028) hx hb dL_law_561 rfl ?_
        refine W.widen (k := cells + 1) (n := slots + 6) (Nat.le_refl _) (Nat.le_refl _) ?_
        exact kk _ _ _ _ _ _ _ _ _ _ _ _ _ _ _ _ _ _ _ _ _ _ _ _ hJ (lv_sub hl [2, 3, 4, 5, 6] rfl) hP hD hS
      · skip
        exact absurd h546 (by decide)
    · skip
      exact absurd rfl h539
  · skip
    refine lv_aload_n hx hb dL_law_472 rfl (lv_at hl 1 rfl) ?_
    refine lv_aload_n hx hb dL_law_473 rfl (lv_at hl 0 rfl) ?_
    refine lv_iload hx hb dL_law_474 (lv_at hl 4 rfl) ?_
    refine lv_iconst (v := 1) hx hb dL_law_476 (by decide) ?_
    refine lv_iadd hx hb dL_law_477 ?_
    refine ps_sld (j := 6 * t) hx hb hX hbl hbA hS 1 (by decide) (by omega) hL dL_law_478 ?_
    refine lv_aload_n hx hb dL_law_479 rfl (lv_at hl 0 rfl) ?_
    refine lv_iload hx hb dL_law_480 (lv_at hl 4 rfl) ?_
    refine lv_iconst (v := 2) hx hb dL_law_482 (by decide) ?_
    refine lv_iadd hx hb dL_law_483 ?_
    refine ps_sld (j := 6 * t) hx hb hX hbl hbA hS 2 (by decide) (by omega) hL dL_law_484 ?_
    refine lv_aload_n hx hb dL_law_485 rfl (lv_at hl 0 rfl) ?_
    refine lv_iload hx hb dL_law_486 (lv_at hl 4 rfl) ?_
    refine lv_iconst (v := 3) hx hb dL_law_488 (by decide) ?_
    refine lv_iadd hx hb dL_law_489 ?_
    refine ps_sld (j := 6 * t) hx hb hX hbl hbA hS 3 (by decide) (by omega) hL dL_law_490 ?_
    refine lv_aload_n hx hb dL_law_491 rfl (lv_at hl 0 rfl) ?_
    refine lv_iload hx hb dL_law_492 (lv_at hl 4 rfl) ?_
    refine lv_iconst (v := 4) hx hb dL_law_494 (by decide) ?_
    refine lv_iadd hx hb dL_law_495 ?_
    refine ps_sld (j := 6 * t) hx hb hX hbl hbA hS 4 (by decide) (by omega) hL dL_law_496 ?_
    refine lv_aload_n hx hb dL_law_497 rfl (lv_at hl 3 rfl) ?_
    refine ps_cqi (wc := ps_shW h0 q1 q2 q3 cx cy cz pl pw ++ ps_trW cI cZ q1 a1 n1 g1 ++ ps_trW cI cZ q2 a2 n2 g2 ++ ps_lsW cI q3 b lf le lh ++ [(o0, .inl (cL, 1, .inr (.inl ov)))]) (wr := ps_mdW cI cZ w0 b0 th mn kn co ln wr lt f) (w1 := ps_shW h0 q1 q2 q3 cx cy cz pl pw ++ ps_trW cI cZ q1 a1 n1 g1 ++ ps_trW cI cZ q2 a2 n2 g2 ++ ps_lsW cI q3 b lf le lh ++ [(o0, .inl (cL, 1, .inr (.inl ov)))]) (ws2 := ps_shW h0 q1 q2 q3 cx cy cz pl pw ++ ps_trW cI cZ q1 a1 n1 g1 ++ ps_trW cI cZ q2 a2 n2 g2 ++ ps_lsW cI q3 b lf le lh ++ [(o0, .inl (cL, 1, .inr (.inl ov)))] ++ ps_mdW cI cZ w0 b0 th mn kn co ln wr lt f) (vx_runSW (As := [.ref h0, .int (xs (6 * t + 1)), .int (xs (6 * t + 2)), .int (xs (6 * t + 3)), .int (xs (6 * t + 4)), .ref o0]) (rest := []) ⟨hx, hb, hml, hown, hT⟩ (mL_box_x2 l hlt dC dI cI cZ h0 q1 q2 q3 b a1 a2 n1 n2 g1 g2 lf le lh cx cy cz pl pw cL o0 ov (xs (6 * t + 1)) (xs (6 * t + 2)) (xs (6 * t + 3)) h1 h2 h3 (xs (6 * t + 4)) h4 _) (vx_cwSW 6 hT (ps_gSW tw_ml_L_89 tw_st_L_box tw_in_L tw_cw_L_box) rfl rfl rfl ⟨by decide, by decide, by decide +kernel⟩ ⟨Nat.le_of_ble_eq_true rfl, Nat.le_of_ble_eq_true rfl⟩) (ps_xreS (wc := ps_shW h0 q1 q2 q3 cx cy cz pl pw ++ ps_trW cI cZ q1 a1 n1 g1 ++ ps_trW cI cZ q2 a2 n2 g2 ++ ps_lsW cI q3 b lf le lh ++ [(o0, .inl (cL, 1, .inr (.inl ov)))]) [0, 1, 2, 3, 4, 5, 6, 7, 8, 9, 10, 11, 12, 13, 14, 15, 16, 17, 18, 19, 20, 21] hN hE hZ hS hA hP hK3 hD rfl rfl rfl) rfl rfl hl.1 rfl (lv_room (Nat.le_of_ble_eq_true rfl)) dL_law_498 ⟨hc1, hs1⟩) hS hA hP hD [0, 1, 2, 3, 4, 5, 6, 7, 8, 9, 10, 11, 12, 13, 14, 15, 16, 17, 18, 19, 20, 21] [22, 23, 24, 25, 26, 27, 28, 29, 30, 31, 32] [11, 12, 13, 14, 15, 16, 17, 18, 19, 20, 21, 22, 23, 24, 25, 26, 27, 28, 29, 30, 31, 32, 0, 1, 2, 3, 4, 5, 6, 7, 8, 9, 10] rfl rfl rfl (by decide) rfl rfl rfl (fun H locs hP hD hS => ?_)
    have hP : va_P (dC, dI) vwCl (ps_shW h0 q1 q2 q3 cx cy cz pl pw ++ ps_trW cI cZ q1 a1 n1 g1 ++ ps_trW cI cZ q2 a2 n2 g2 ++ ps_lsW cI q3 b lf le lh ++ [(o0, .inl (cL, 1, .inr (.inl ov)))] ++ ps_mdW cI cZ w0 b0 th mn kn co ln wr lt f) H := hP
    have hD : va_D A (ps_shW h0 q1 q2 q3 cx cy cz pl pw ++ ps_trW cI cZ q1 a1 n1 g1 ++ ps_trW cI cZ q2 a2 n2 g2 ++ ps_lsW cI q3 b lf le lh ++ [(o0, .inl (cL, 1, .inr (.inl ov)))] ++ ps_mdW cI cZ w0 b0 th mn kn co ln wr lt f) := hD
    refine lv_istore (lv' := [(5, .int 1), (0, .ref sb), (1, .ref h0), (2, .ref w0), (3, .ref o0), (4, .int (nI (6 * t)))]) hx hb dL_law_501 hl (by decide) rfl (fun ls hl => ?_)
    refine lv_aload_n hx hb dL_law_503 rfl (lv_at hl 3 rfl) ?_
    refine lv_aload_n hx hb dL_law_504 rfl (lv_at hl 1 rfl) ?_
    refine lv_iload hx hb dL_law_505 (lv_at hl 5 rfl) ?_
    refine lv_iconst (v := 1) hx hb dL_law_507 (by decide) ?_
    refine lv_iadd hx hb dL_law_508 ?_
    refine ps_sld (j := 6 * t) hx hb hX hbl hbA hS 1 (by decide) (by omega) hL dL_law_509 ?_
    refine lv_aload_n hx hb dL_law_510 rfl (lv_at hl 1 rfl) ?_
    refine lv_iload hx hb dL_law_511 (lv_at hl 5 rfl) ?_
    refine lv_iconst (v := 2) hx hb dL_law_513 (by decide) ?_
    refine lv_iadd hx hb dL_law_514 ?_
    refine ps_sld (j := 6 * t) hx hb hX hbl hbA hS 2 (by decide) (by omega) hL dL_law_515 ?_
    refine lv_aload_n hx hb dL_law_516 rfl (lv_at hl 1 rfl) ?_
    refine lv_iload hx hb dL_law_517 (lv_at hl 5 rfl) ?_
    refine lv_iconst (v := 3) hx hb dL_law_519 (by decide) ?_
    refine lv_iadd hx hb dL_law_520 ?_
    refine ps_sld (j := 6 * t) hx hb hX hbl hbA hS 3 (by decide) (by omega) hL dL_law_521 ?_
    refine lv_aload_n hx hb dL_law_522 rfl (lv_at hl 1 rfl) ?_
    refine lv_iload hx hb dL_law_523 (lv_at hl 5 rfl) ?_
    refine lv_iconst (v := 4) hx hb dL_law_525 (by decide) ?_
    refine lv_iadd hx hb dL_law_526 ?_
    refine ps_sld (j := 6 * t) hx hb hX hbl hbA hS 4 (by decide) (by omega) hL dL_law_527 ?_
    refine ps_cqi (wc := ps_mdW cI cZ w0 b0 th mn kn co ln wr lt f) (wr := ps_shW h0 q1 q2 q3 cx cy cz pl pw ++ ps_trW cI cZ q1 a1 n1 g1 ++ ps_trW cI cZ q2 a2 n2 g2 ++ ps_lsW cI q3 b lf le lh ++ [(o0, .inl (cL, 1, .inr (.inl ov)))]) (w1 := ps_mdW cI cZ w0 b0 1 mn kn co ln wr lt f) (ws2 := ps_shW h0 q1 q2 q3 cx cy cz pl pw ++ ps_trW cI cZ q1 a1 n1 g1 ++ ps_trW cI cZ q2 a2 n2 g2 ++ ps_lsW cI q3 b lf le lh ++ [(o0, .inl (cL, 1, .inr (.inl ov)))] ++ ps_mdW cI cZ w0 b0 1 mn kn co ln wr lt f) (va_runV (C := RX3) (As := [.int (xs (6 * t + 1)), .int (xs (6 * t + 2)), .int (xs (6 * t + 3)), .int (xs (6 * t + 4))]) (rest := []) ⟨hx, hb, hml, hown, hT⟩ (mX3_box_1 l dC dI cI cZ w0 b0 th mn kn co ln wr lt f (xs (6 * t + 1)) (xs (6 * t + 2)) (xs (6 * t + 3)) (xs (6 * t + 4)) h5 _) (cwV 4 hT (ps_gV tw_ml_L_92 tw_im_X3_box tw_se_X3_box tw_in_X3 tw_co_X3_box) rfl rfl rfl ⟨rfl, by decide, by decide, by decide +kernel⟩ ⟨Nat.le_of_ble_eq_true rfl, Nat.le_of_ble_eq_true rfl⟩) (ps_qreV (wc := ps_mdW cI cZ w0 b0 th mn kn co ln wr lt f) (ci := 3) [22, 23, 24, 25, 26, 27, 28, 29, 30, 31, 32] hN hP hK hD rfl rfl rfl rfl rfl) rfl rfl hl.1 rfl (lv_room (Nat.le_of_ble_eq_true rfl)) dL_law_528 ⟨hc1, hs1⟩) hS hA hP hD [22, 23, 24, 25, 26, 27, 28, 29, 30, 31, 32] [0, 1, 2, 3, 4, 5, 6, 7, 8, 9, 10, 11, 12, 13, 14, 15, 16, 17, 18, 19, 20, 21] [0, 1, 2, 3, 4, 5, 6, 7, 8, 9, 10, 11, 12, 13, 14, 15, 16, 17, 18, 19, 20, 21, 22, 23, 24, 25, 26, 27, 28, 29, 30, 31, 32] rfl rfl rfl (by decide) rfl rfl rfl (fun H locs hP hD hS => ?_)
    have hP : va_P (dC, dI) vwCl (ps_shW h0 q1 q2 q3 cx cy cz pl pw ++ ps_trW cI cZ q1 a1 n1 g1 ++ ps_trW cI cZ q2 a2 n2 g2 ++ ps_lsW cI q3 b lf le lh ++ [(o0, .inl (cL, 1, .inr (.inl ov)))] ++ ps_mdW cI cZ w0 b0 1 mn kn co ln wr lt f) H := hP
    have hD : va_D A (ps_shW h0 q1 q2 q3 cx cy cz pl pw ++ ps_trW cI cZ q1 a1 n1 g1 ++ ps_trW cI cZ q2 a2 n2 g2 ++ ps_lsW cI q3 b lf le lh ++ [(o0, .inl (cL, 1, .inr (.inl ov)))] ++ ps_mdW cI cZ w0 b0 1 mn kn co ln wr lt f) := hD
    refine lv_istore (lv' := [(6, .int 0), (5, .int 1), (0, .ref sb), (1, .ref h0), (2, .ref w0), (3, .ref o0), (4, .int (nI (6 * t)))]) hx hb dL_law_531 hl (by decide) rfl (fun ls hl => ?_)
    refine lv_aload_n hx hb dL_law_533 rfl (lv_at hl 4 rfl) ?_
    refine vp_callSi (va_Run.run (va_runV (C := RX3) (As := []) (rest := []) ⟨hx, hb, hml, hown, hT⟩ (mX3_thrown l dC dI cI cZ w0 b0 1 mn kn co ln wr lt f) (cwV 0 hT (ps_gV tw_ml_L_71 tw_im_X3_thrown tw_se_X3_thrown tw_in_X3 tw_co_X3_thrown) rfl rfl rfl ⟨rfl, by decide, by decide, by decide +kernel⟩ ⟨Nat.le_of_ble_eq_true rfl, Nat.le_of_ble_eq_true rfl⟩) (ps_preV (ci := 3) (q0 := 0) hN (hP.sub (ws' := ps_mdW cI cZ w0 b0 1 mn kn co ln wr lt f) [22, 23, 24, 25, 26, 27, 28, 29, 30, 31, 32] rfl) hK rfl rfl) rfl rfl hl.1 rfl (lv_room (Nat.le_of_ble_eq_true rfl)) dL_law_534 ⟨hc1, hs1⟩)) (fun r hr9 => ?_)
    obtain rfl : r = 1 := hr9
    refine lv_iload hx hb dL_law_537 (lv_at hl 1 rfl) ?_
    refine lv_icmp_eq (tgt := 544) hx hb dL_law_539 rfl (fun h539 => ?_) (fun h539 => ?_)
    · skip
      refine lv_iload hx hb dL_law_544 (lv_at hl 1 rfl) ?_
      refine lv_if_ne (tgt := 561) hx hb dL_law_546 rfl (fun h546 => ?_) (fun h546 => ?_)
      · skip
        refine lv_goto (tgt := 1028) hx hb dL_law_561 rfl ?_
        refine W.widen (k := cells + 1) (n := slots + 6) (Nat.le_refl _) (Nat.le_refl _) ?_
        exact kk _ _ _ _ _ _ _ _ _ _ _ _ _ _ _ _ _ _ _ _ _ _ _ _ hJ (lv_sub hl [2, 3, 4, 5, 6] rfl) hP hD hS
      · skip
        exact absurd h546 (by decide)
    · skip
      exact absurd rfl h539
set_option maxHeartbeats 4000000 in
set_option maxRecDepth 100000 in
theorem cs_next {p : Program} {l : Launch} {e : Env} {s : State} {m : MethodId} {args : Array Value} {below : List Frame} {meth : Method} {c : Code} {Q : State → Prop} {dC : Nat → ClassId} {dI : Nat → Nat → Nat} {cI cZ cL : ClassId} {A : Nat → Prop} {sb L : Nat} {xs : Nat → Int32} {h0 q1 q2 q3 b o0 w0 : Nat} {a1 a2 b0 : Nat → Nat} {t cells slots : Nat} (C : ps_Cx p l s m args c dC dI cI cZ cL A sb L xs) (ht : 6 * t + 6 ≤ L) (hc1 : cells + 1 ≤ room_1.cells) (hs1 : slots + 6 ≤ room_1.slots) (kk : ps_Hd p l e s m args below meth c Q dC dI cI cZ cL A sb h0 q1 q2 q3 b o0 w0 a1 a2 b0 t (cells + 1) (slots + 6) 1028) : ps_Hd p l e s m args below meth c Q dC dI cI cZ cL A sb h0 q1 q2 q3 b o0 w0 a1 a2 b0 t cells slots 564 := by
  obtain ⟨hlt, hx, hb, hml, hown, hT, hN, hE, hZ, hK3, hA, hX, hbl, hbA, hL⟩ := C
  have hK : va_K (dC, dI) vwCl (ps_ty cI cZ) s := hK3.sub [0, 1] rfl
  intro n1 n2 g1 g2 lf le lh cx cy cz pl pw ov th mn kn co ln wr lt f ls H locs hJ hl hP hD hS
  rcases ps_Jnext hJ with ⟨h1, h2, h3, h4, he, hJ⟩ | ⟨h1, h2, h3, h4⟩
  · skip
    refine lv_aload_n hx hb dL_law_564 rfl (lv_at hl 1 rfl) ?_
    refine lv_aload_n hx hb dL_law_565 rfl (lv_at hl 3 rfl) ?_
    refine ps_cqi (wc := ps_shW h0 q1 q2 q3 cx cy cz pl pw ++ ps_trW cI cZ q1 a1 n1 g1 ++ ps_trW cI cZ q2 a2 n2 g2 ++ ps_lsW cI q3 b lf le lh ++ [(o0, .inl (cL, 1, .inr (.inl ov)))]) (wr := ps_mdW cI cZ w0 b0 th mn kn co ln wr lt f) (w1 := ps_shW h0 q1 q2 q3 cx cy cz pl pw ++ ps_trW cI cZ q1 a1 n1 g1 ++ ps_trW cI cZ q2 a2 n2 g2 ++ ps_lsW cI q3 b ((lf + 1)) le lh ++ [(o0, .inl (cL, 1, .inr (.inl (vp_updL ov 0 (lh lf).toInt64))))]) (ws2 := ps_shW h0 q1 q2 q3 cx cy cz pl pw ++ ps_trW cI cZ q1 a1 n1 g1 ++ ps_trW cI cZ q2 a2 n2 g2 ++ ps_lsW cI q3 b ((lf + 1)) le lh ++ [(o0, .inl (cL, 1, .inr (.inl (vp_updL ov 0 (lh lf).toInt64))))] ++ ps_mdW cI cZ w0 b0 th mn kn co ln wr lt f) (vx_runSW (As := [.ref h0, .ref o0]) (rest := []) ⟨hx, hb, hml, hown, hT⟩ (mL_next_n l hlt dC dI cI cZ h0 q1 q2 q3 b a1 a2 n1 n2 g1 g2 lf le lh cx cy cz pl pw cL o0 ov h1 h2 _) (vx_cwSW 2 hT (ps_gSW tw_ml_L_93 tw_st_L_next tw_in_L tw_cw_L_next) rfl rfl rfl ⟨by decide, by decide, by decide +kernel⟩ ⟨Nat.le_of_ble_eq_true rfl, Nat.le_of_ble_eq_true rfl⟩) (ps_xreS (wc := ps_shW h0 q1 q2 q3 cx cy cz pl pw ++ ps_trW cI cZ q1 a1 n1 g1 ++ ps_trW cI cZ q2 a2 n2 g2 ++ ps_lsW cI q3 b lf le lh ++ [(o0, .inl (cL, 1, .inr (.inl ov)))]) [0, 1, 2, 3, 4, 5, 6, 7, 8, 9, 10, 11, 12, 13, 14, 15, 16, 17, 18, 19, 20, 21] hN hE hZ hS hA hP hK3 hD rfl rfl rfl) rfl rfl hl.1 rfl (lv_room (Nat.le_of_ble_eq_true rfl)) dL_law_566 ⟨hc1, hs1⟩) hS hA hP hD [0, 1, 2, 3, 4, 5, 6, 7, 8, 9, 10, 11, 12, 13, 14, 15, 16, 17, 18, 19, 20, 21] [22, 23, 24, 25, 26, 27, 28, 29, 30, 31, 32] [11, 12, 13, 14, 15, 16, 17, 18, 19, 20, 21, 22, 23, 24, 25, 26, 27, 28, 29, 30, 31, 32, 0, 1, 2, 3, 4, 5, 6, 7, 8, 9, 10] rfl rfl rfl (by decide) rfl rfl rfl (fun H locs hP hD hS => ?_)
    have hP : va_P (dC, dI) vwCl (ps_shW h0 q1 q2 q3 cx cy cz pl pw ++ ps_trW cI cZ q1 a1 n1 g1 ++ ps_trW cI cZ q2 a2 n2 g2 ++ ps_lsW cI q3 b ((lf + 1)) le lh ++ [(o0, .inl (cL, 1, .inr (.inl (vp_updL ov 0 (lh lf).toInt64))))] ++ ps_mdW cI cZ w0 b0 th mn kn co ln wr lt f) H := hP
    have hD : va_D A (ps_shW h0 q1 q2 q3 cx cy cz pl pw ++ ps_trW cI cZ q1 a1 n1 g1 ++ ps_trW cI cZ q2 a2 n2 g2 ++ ps_lsW cI q3 b ((lf + 1)) le lh ++ [(o0, .inl (cL, 1, .inr (.inl (vp_updL ov 0 (lh lf).toInt64))))] ++ ps_mdW cI cZ w0 b0 th mn kn co ln wr lt f) := hD
    refine lv_istore (lv' := [(5, .int 0), (0, .ref sb), (1, .ref h0), (2, .ref w0), (3, .ref o0), (4, .int (nI (6 * t)))]) hx hb dL_law_569 hl (by decide) rfl (fun ls hl => ?_)
    refine lv_aload_n hx hb dL_law_571 rfl (lv_at hl 3 rfl) ?_
    refine ps_cqi (wc := ps_mdW cI cZ w0 b0 th mn kn co ln wr lt f) (wr := ps_shW h0 q1 q2 q3 cx cy cz pl pw ++ ps_trW cI cZ q1 a1 n1 g1 ++ ps_trW cI cZ q2 a2 n2 g2 ++ ps_lsW cI q3 b ((lf + 1)) le lh ++ [(o0, .inl (cL, 1, .inr (.inl (vp_updL ov 0 (lh lf).toInt64))))]) (w1 := ps_mdW cI cZ w0 b0 0 mn kn co ((ln - 1)) wr lt (va_up f 9 (ps_sh (f 9) (ln - 1)))) (ws2 := ps_shW h0 q1 q2 q3 cx cy cz pl pw ++ ps_trW cI cZ q1 a1 n1 g1 ++ ps_trW cI cZ q2 a2 n2 g2 ++ ps_lsW cI q3 b ((lf + 1)) le lh ++ [(o0, .inl (cL, 1, .inr (.inl (vp_updL ov 0 (lh lf).toInt64))))] ++ ps_mdW cI cZ w0 b0 0 mn kn co ((ln - 1)) wr lt (va_up f 9 (ps_sh (f 9) (ln - 1)))) (va_runV (C := RX3) (As := []) (rest := []) ⟨hx, hb, hml, hown, hT⟩ (mX3_next_n l dC dI cI cZ w0 b0 th mn kn co ln wr lt f h3 h4 _) (cwV 0 hT (ps_gV tw_ml_L_96 tw_im_X3_next tw_se_X3_next tw_in_X3 tw_co_X3_next) rfl rfl rfl ⟨rfl, by decide, by decide, by decide +kernel⟩ ⟨Nat.le_of_ble_eq_true rfl, Nat.le_of_ble_eq_true rfl⟩) (ps_qreV (wc := ps_mdW cI cZ w0 b0 th mn kn co ln wr lt f) (ci := 3) [22, 23, 24, 25, 26, 27, 28, 29, 30, 31, 32] hN hP hK hD rfl rfl rfl rfl rfl) rfl rfl hl.1 rfl (lv_room (Nat.le_of_ble_eq_true rfl)) dL_law_572 ⟨hc1, hs1⟩) hS hA hP hD [22, 23, 24, 25, 26, 27, 28, 29, 30, 31, 32] [0, 1, 2, 3, 4, 5, 6, 7, 8, 9, 10, 11, 12, 13, 14, 15, 16, 17, 18, 19, 20, 21] [0, 1, 2, 3, 4, 5, 6, 7, 8, 9, 10, 11, 12, 13, 14, 15, 16, 17, 18, 19, 20, 21, 22, 23, 24, 25, 26, 27, 28, 29, 30, 31, 32] rfl rfl rfl (by decide) rfl rfl rfl (fun H locs hP hD hS => ?_)
    have hP : va_P (dC, dI) vwCl (ps_shW h0 q1 q2 q3 cx cy cz pl pw ++ ps_trW cI cZ q1 a1 n1 g1 ++ ps_trW cI cZ q2 a2 n2 g2 ++ ps_lsW cI q3 b ((lf + 1)) le lh ++ [(o0, .inl (cL, 1, .inr (.inl (vp_updL ov 0 (lh lf).toInt64))))] ++ ps_mdW cI cZ w0 b0 0 mn kn co ((ln - 1)) wr lt (va_up f 9 (ps_sh (f 9) (ln - 1)))) H := hP
    have hD : va_D A (ps_shW h0 q1 q2 q3 cx cy cz pl pw ++ ps_trW cI cZ q1 a1 n1 g1 ++ ps_trW cI cZ q2 a2 n2 g2 ++ ps_lsW cI q3 b ((lf + 1)) le lh ++ [(o0, .inl (cL, 1, .inr (.inl (vp_updL ov 0 (lh lf).toInt64))))] ++ ps_mdW cI cZ w0 b0 0 mn kn co ((ln - 1)) wr lt (va_up f 9 (ps_sh (f 9) (ln - 1)))) := hD
    refine lv_istore (lv' := [(6, .int (f 9 0)), (5, .int 0), (0, .ref sb), (1, .ref h0), (2, .ref w0), (3, .ref o0), (4, .int (nI (6 * t)))]) hx hb dL_law_575 hl (by decide) rfl (fun ls hl => ?_)
    refine lv_aload_n hx hb dL_law_577 rfl (lv_at hl 4 rfl) ?_
    refine vp_callSi (va_Run.run (va_runV (C := RX3) (As := []) (rest := []) ⟨hx, hb, hml, hown, hT⟩ (mX3_thrown l dC dI cI cZ w0 b0 0 mn kn co ((ln - 1)) wr lt (va_up f 9 (ps_sh (f 9) (ln - 1)))) (cwV 0 hT (ps_gV tw_ml_L_71 tw_im_X3_thrown tw_se_X3_thrown tw_in_X3 tw_co_X3_thrown) rfl rfl rfl ⟨rfl, by decide, by decide, by decide +kernel⟩ ⟨Nat.le_of_ble_eq_true rfl, Nat.le_of_ble_eq_true rfl⟩) (ps_preV (ci := 3) (q0 := 0) hN (hP.sub (ws' := ps_mdW cI cZ w0 b0 0 mn kn co ((ln - 1)) wr lt (va_up f 9 (ps_sh (f 9) (ln - 1)))) [22, 23, 24, 25, 26, 27, 28, 29, 30, 31, 32] rfl) hK rfl rfl) rfl rfl hl.1 rfl (lv_room (Nat.le_of_ble_eq_true rfl)) dL_law_578 ⟨hc1, hs1⟩)) (fun r hr9 => ?_)
    obtain rfl : r = 0 := hr9
    refine lv_iload hx hb dL_law_581 (lv_at hl 1 rfl) ?_
    refine lv_icmp_eq (tgt := 588) hx hb dL_law_583 rfl (fun h583 => ?_) (fun h583 => ?_)
    · skip
      refine lv_iload hx hb dL_law_588 (lv_at hl 1 rfl) ?_
      refine lv_if_ne (tgt := 605) hx hb dL_law_590 rfl (fun h590 => ?_) (fun h590 => ?_)
      · skip
        exact absurd rfl h590
      · skip
        refine lv_aload_n hx hb dL_law_593 rfl (lv_at hl 5 rfl) ?_
        refine lv_iconst (v := 0) hx hb dL_law_594 (by decide) ?_
        refine va_lald hx hb hK3 hP 21 2 rfl rfl (by unfold vp_in; decide) dL_law_595 ?_
        refine lv_iload hx hb dL_law_596 (lv_at hl 0 rfl) ?_
        refine lv_i2l (v := (f 9 0).toInt64) hx hb dL_law_598 rfl ?_
        refine W.lcmp hx hb dL_law_599 ?_
        refine lv_if_eq (tgt := 605) hx hb dL_law_600 rfl (fun h600 => ?_) (fun h600 => ?_)
        · skip
          refine lv_goto (tgt := 1028) hx hb dL_law_605 rfl ?_
          refine W.widen (k := cells + 1) (n := slots + 6) (Nat.le_refl _) (Nat.le_refl _) ?_
          exact kk _ _ _ _ _ _ _ _ _ _ _ _ _ _ _ _ _ _ _ _ _ _ _ _ hJ (lv_sub hl [2, 3, 4, 5, 6] rfl) hP hD hS
        · skip
          exact absurd (ps_lz he) h600
    · skip
      exact absurd rfl h583
  · skip
    refine lv_aload_n hx hb dL_law_564 rfl (lv_at hl 1 rfl) ?_
    refine lv_aload_n hx hb dL_law_565 rfl (lv_at hl 3 rfl) ?_
    refine ps_cqi (wc := ps_shW h0 q1 q2 q3 cx cy cz pl pw ++ ps_trW cI cZ q1 a1 n1 g1 ++ ps_trW cI cZ q2 a2 n2 g2 ++ ps_lsW cI q3 b lf le lh ++ [(o0, .inl (cL, 1, .inr (.inl ov)))]) (wr := ps_mdW cI cZ w0 b0 th mn kn co ln wr lt f) (w1 := ps_shW h0 q1 q2 q3 cx cy cz pl pw ++ ps_trW cI cZ q1 a1 n1 g1 ++ ps_trW cI cZ q2 a2 n2 g2 ++ ps_lsW cI q3 b lf le lh ++ [(o0, .inl (cL, 1, .inr (.inl ov)))]) (ws2 := ps_shW h0 q1 q2 q3 cx cy cz pl pw ++ ps_trW cI cZ q1 a1 n1 g1 ++ ps_trW cI cZ q2 a2 n2 g2 ++ ps_lsW cI q3 b lf le lh ++ [(o0, .inl (cL, 1, .inr (.inl ov)))] ++ ps_mdW cI cZ w0 b0 th mn kn co ln wr lt f) (vx_runSW (As := [.ref h0, .ref o0]) (rest := []) ⟨hx, hb, hml, hown, hT⟩ (mL_next_x l hlt dC dI cI cZ h0 q1 q2 q3 b a1 a2 n1 n2 g1 g2 lf le lh cx cy cz pl pw cL o0 ov h1 h2 h3 _) (vx_cwSW 2 hT (ps_gSW tw_ml_L_93 tw_st_L_next tw_in_L tw_cw_L_next) rfl rfl rfl ⟨by decide, by decide, by decide +kernel⟩ ⟨Nat.le_of_ble_eq_true rfl, Nat.le_of_ble_eq_true rfl⟩) (ps_xreS (wc := ps_shW h0 q1 q2 q3 cx cy cz pl pw ++ ps_trW cI cZ q1 a1 n1 g1 ++ ps_trW cI cZ q2 a2 n2 g2 ++ ps_lsW cI q3 b lf le lh ++ [(o0, .inl (cL, 1, .inr (.inl ov)))]) [0, 1, 2, 3, 4, 5, 6, 7, 8, 9, 10, 11, 12, 13, 14, 15, 16, 17, 18, 19, 20, 21] hN hE hZ hS hA hP hK3 hD rfl rfl rfl) rfl rfl hl.1 rfl (lv_room (Nat.le_of_ble_eq_true rfl)) dL_law_566 ⟨hc1, hs1⟩) hS hA hP hD [0, 1, 2, 3, 4, 5, 6, 7, 8, 9, 10, 11, 12, 13, 14, 15, 16, 17, 18, 19, 20, 21] [22, 23, 24, 25, 26, 27, 28, 29, 30, 31, 32] [11, 12, 13, 14, 15, 16, 17, 18, 19, 20, 21, 22, 23, 24, 25, 26, 27, 28, 29, 30, 31, 32, 0, 1, 2, 3, 4, 5, 6, 7, 8, 9, 10] rfl rfl rfl (by decide) rfl rfl rfl (fun H locs hP hD hS => ?_)
    have hP : va_P (dC, dI) vwCl (ps_shW h0 q1 q2 q3 cx cy cz pl pw ++ ps_trW cI cZ q1 a1 n1 g1 ++ ps_trW cI cZ q2 a2 n2 g2 ++ ps_lsW cI q3 b lf le lh ++ [(o0, .inl (cL, 1, .inr (.inl ov)))] ++ ps_mdW cI cZ w0 b0 th mn kn co ln wr lt f) H := hP
    have hD : va_D A (ps_shW h0 q1 q2 q3 cx cy cz pl pw ++ ps_trW cI cZ q1 a1 n1 g1 ++ ps_trW cI cZ q2 a2 n2 g2 ++ ps_lsW cI q3 b lf le lh ++ [(o0, .inl (cL, 1, .inr (.inl ov)))] ++ ps_mdW cI cZ w0 b0 th mn kn co ln wr lt f) := hD
    refine lv_istore (lv' := [(5, .int 1), (0, .ref sb), (1, .ref h0), (2, .ref w0), (3, .ref o0), (4, .int (nI (6 * t)))]) hx hb dL_law_569 hl (by decide) rfl (fun ls hl => ?_)
    refine lv_aload_n hx hb dL_law_571 rfl (lv_at hl 3 rfl) ?_
    refine ps_cqi (wc := ps_mdW cI cZ w0 b0 th mn kn co ln wr lt f) (wr := ps_shW h0 q1 q2 q3 cx cy cz pl pw ++ ps_trW cI cZ q1 a1 n1 g1 ++ ps_trW cI cZ q2 a2 n2 g2 ++ ps_lsW cI q3 b lf le lh ++ [(o0, .inl (cL, 1, .inr (.inl ov)))]) (w1 := ps_mdW cI cZ w0 b0 1 mn kn co ln wr lt f) (ws2 := ps_shW h0 q1 q2 q3 cx cy cz pl pw ++ ps_trW cI cZ q1 a1 n1 g1 ++ ps_trW cI cZ q2 a2 n2 g2 ++ ps_lsW cI q3 b lf le lh ++ [(o0, .inl (cL, 1, .inr (.inl ov)))] ++ ps_mdW cI cZ w0 b0 1 mn kn co ln wr lt f) (va_runV (C := RX3) (As := []) (rest := []) ⟨hx, hb, hml, hown, hT⟩ (mX3_next_1 l dC dI cI cZ w0 b0 th mn kn co ln wr lt f h4 _) (cwV 0 hT (ps_gV tw_ml_L_96 tw_im_X3_next tw_se_X3_next tw_in_X3 tw_co_X3_next) rfl rfl rfl ⟨rfl, by decide, by decide, by decide +kernel⟩ ⟨Nat.le_of_ble_eq_true rfl, Nat.le_of_ble_eq_true rfl⟩) (ps_qreV (wc := ps_mdW cI cZ w0 b0 th mn kn co ln wr lt f) (ci := 3) [22, 23, 24, 25, 26, 27, 28, 29, 30, 31, 32] hN hP hK hD rfl rfl rfl rfl rfl) rfl rfl hl.1 rfl (lv_room (Nat.le_of_ble_eq_true rfl)) dL_law_572 ⟨hc1, hs1⟩) hS hA hP hD [22, 23, 24, 25, 26, 27, 28, 29, 30, 31, 32] [0, 1, 2, 3, 4, 5, 6, 7, 8, 9, 10, 11, 12, 13, 14, 15, 16, 17, 18, 19, 20, 21] [0, 1, 2, 3, 4, 5, 6, 7, 8, 9, 10, 11, 12, 13, 14, 15, 16, 17, 18, 19, 20, 21, 22, 23, 24, 25, 26, 27, 28, 29, 30, 31, 32] rfl rfl rfl (by decide) rfl rfl rfl (fun H locs hP hD hS => ?_)
    have hP : va_P (dC, dI) vwCl (ps_shW h0 q1 q2 q3 cx cy cz pl pw ++ ps_trW cI cZ q1 a1 n1 g1 ++ ps_trW cI cZ q2 a2 n2 g2 ++ ps_lsW cI q3 b lf le lh ++ [(o0, .inl (cL, 1, .inr (.inl ov)))] ++ ps_mdW cI cZ w0 b0 1 mn kn co ln wr lt f) H := hP
    have hD : va_D A (ps_shW h0 q1 q2 q3 cx cy cz pl pw ++ ps_trW cI cZ q1 a1 n1 g1 ++ ps_trW cI cZ q2 a2 n2 g2 ++ ps_lsW cI q3 b lf le lh ++ [(o0, .inl (cL, 1, .inr (.inl ov)))] ++ ps_mdW cI cZ w0 b0 1 mn kn co ln wr lt f) := hD
    refine lv_istore (lv' := [(6, .int 0), (5, .int 1), (0, .ref sb), (1, .ref h0), (2, .ref w0), (3, .ref o0), (4, .int (nI (6 * t)))]) hx hb dL_law_575 hl (by decide) rfl (fun ls hl => ?_)
    refine lv_aload_n hx hb dL_law_577 rfl (lv_at hl 4 rfl) ?_
    refine vp_callSi (va_Run.run (va_runV (C := RX3) (As := []) (rest := []) ⟨hx, hb, hml, hown, hT⟩ (mX3_thrown l dC dI cI cZ w0 b0 1 mn kn co ln wr lt f) (cwV 0 hT (ps_gV tw_ml_L_71 tw_im_X3_thrown tw_se_X3_thrown tw_in_X3 tw_co_X3_thrown) rfl rfl rfl ⟨rfl, by decide, by decide, by decide +kernel⟩ ⟨Nat.le_of_ble_eq_true rfl, Nat.le_of_ble_eq_true rfl⟩) (ps_preV (ci := 3) (q0 := 0) hN (hP.sub (ws' := ps_mdW cI cZ w0 b0 1 mn kn co ln wr lt f) [22, 23, 24, 25, 26, 27, 28, 29, 30, 31, 32] rfl) hK rfl rfl) rfl rfl hl.1 rfl (lv_room (Nat.le_of_ble_eq_true rfl)) dL_law_578 ⟨hc1, hs1⟩)) (fun r hr9 => ?_)
    obtain rfl : r = 1 := hr9
    refine lv_iload hx hb dL_law_581 (lv_at hl 1 rfl) ?_
    refine lv_icmp_eq (tgt := 588) hx hb dL_law_583 rfl (fun h583 => ?_) (fun h583 => ?_)
    · skip
      refine lv_iload hx hb dL_law_588 (lv_at hl 1 rfl) ?_
      refine lv_if_ne (tgt := 605) hx hb dL_law_590 rfl (fun h590 => ?_) (fun h590 => ?_)
      · skip
        refine lv_goto (tgt := 1028) hx hb dL_law_605 rfl ?_
        refine W.widen (k := cells + 1) (n := slots + 6) (Nat.le_refl _) (Nat.le_refl _) ?_
        exact kk _ _ _ _ _ _ _ _ _ _ _ _ _ _ _ _ _ _ _ _ _ _ _ _ hJ (lv_sub hl [2, 3, 4, 5, 6] rfl) hP hD hS
      · skip
        exact absurd h590 (by decide)
    · skip
      exact absurd rfl h583
set_option maxHeartbeats 4000000 in
set_option maxRecDepth 100000 in
theorem cs_count {p : Program} {l : Launch} {e : Env} {s : State} {m : MethodId} {args : Array Value} {below : List Frame} {meth : Method} {c : Code} {Q : State → Prop} {dC : Nat → ClassId} {dI : Nat → Nat → Nat} {cI cZ cL : ClassId} {A : Nat → Prop} {sb L : Nat} {xs : Nat → Int32} {h0 q1 q2 q3 b o0 w0 : Nat} {a1 a2 b0 : Nat → Nat} {t cells slots : Nat} (C : ps_Cx p l s m args c dC dI cI cZ cL A sb L xs) (ht : 6 * t + 6 ≤ L) (hc1 : cells + 1 ≤ room_1.cells) (hs1 : slots + 6 ≤ room_1.slots) (kk : ps_Hd p l e s m args below meth c Q dC dI cI cZ cL A sb h0 q1 q2 q3 b o0 w0 a1 a2 b0 t (cells + 1) (slots + 6) 1028) : ps_Hd p l e s m args below meth c Q dC dI cI cZ cL A sb h0 q1 q2 q3 b o0 w0 a1 a2 b0 t cells slots 608 := by
  obtain ⟨hlt, hx, hb, hml, hown, hT, hN, hE, hZ, hK3, hA, hX, hbl, hbA, hL⟩ := C
  have hK : va_K (dC, dI) vwCl (ps_ty cI cZ) s := hK3.sub [0, 1] rfl
  intro n1 n2 g1 g2 lf le lh cx cy cz pl pw ov th mn kn co ln wr lt f ls H locs hJ hl hP hD hS
  rcases ps_Jcount hJ (xs (6 * t + 1)) (xs (6 * t + 2)) (xs (6 * t + 3)) with ⟨h1, h2, h3, h4, h5, h6, he⟩ | ⟨h1, h2⟩
  · skip
    refine lv_aload_n hx hb dL_law_608 rfl (lv_at hl 1 rfl) ?_
    refine lv_aload_n hx hb dL_law_609 rfl (lv_at hl 0 rfl) ?_
    refine lv_iload hx hb dL_law_610 (lv_at hl 4 rfl) ?_
    refine lv_iconst (v := 1) hx hb dL_law_612 (by decide) ?_
    refine lv_iadd hx hb dL_law_613 ?_
    refine ps_sld (j := 6 * t) hx hb hX hbl hbA hS 1 (by decide) (by omega) hL dL_law_614 ?_
    refine lv_aload_n hx hb dL_law_615 rfl (lv_at hl 0 rfl) ?_
    refine lv_iload hx hb dL_law_616 (lv_at hl 4 rfl) ?_
    refine lv_iconst (v := 2) hx hb dL_law_618 (by decide) ?_
    refine lv_iadd hx hb dL_law_619 ?_
    refine ps_sld (j := 6 * t) hx hb hX hbl hbA hS 2 (by decide) (by omega) hL dL_law_620 ?_
    refine lv_aload_n hx hb dL_law_621 rfl (lv_at hl 0 rfl) ?_
    refine lv_iload hx hb dL_law_622 (lv_at hl 4 rfl) ?_
    refine lv_iconst (v := 3) hx hb dL_law_624 (by decide) ?_
    refine lv_iadd hx hb dL_law_625 ?_
    refine ps_sld (j := 6 * t) hx hb hX hbl hbA hS 3 (by decide) (by omega) hL dL_law_626 ?_
    refine lv_aload_n hx hb dL_law_627 rfl (lv_at hl 3 rfl) ?_
    refine ps_cqi (wc := ps_shW h0 q1 q2 q3 cx cy cz pl pw ++ ps_trW cI cZ q1 a1 n1 g1 ++ ps_trW cI cZ q2 a2 n2 g2 ++ ps_lsW cI q3 b lf le lh ++ [(o0, .inl (cL, 1, .inr (.inl ov)))]) (wr := ps_mdW cI cZ w0 b0 th mn kn co ln wr lt f) (w1 := ps_shW h0 q1 q2 q3 cx cy cz pl pw ++ ps_trW cI cZ q1 a1 n1 g1 ++ ps_trW cI cZ q2 a2 n2 g2 ++ ps_lsW cI q3 b lf le lh ++ [(o0, .inl (cL, 1, .inr (.inl (vp_updL ov 0 (nI (ps_cn (ps_ib g1 cx cy cz (xs (6 * t + 1)) (xs (6 * t + 2)) (xs (6 * t + 3))) n1)).toInt64))))]) (ws2 := ps_shW h0 q1 q2 q3 cx cy cz pl pw ++ ps_trW cI cZ q1 a1 n1 g1 ++ ps_trW cI cZ q2 a2 n2 g2 ++ ps_lsW cI q3 b lf le lh ++ [(o0, .inl (cL, 1, .inr (.inl (vp_updL ov 0 (nI (ps_cn (ps_ib g1 cx cy cz (xs (6 * t + 1)) (xs (6 * t + 2)) (xs (6 * t + 3))) n1)).toInt64))))] ++ ps_mdW cI cZ w0 b0 th mn kn co ln wr lt f) (vx_runSW (As := [.ref h0, .int (xs (6 * t + 1)), .int (xs (6 * t + 2)), .int (xs (6 * t + 3)), .ref o0]) (rest := []) ⟨hx, hb, hml, hown, hT⟩ (mL_count_n l hlt dC dI cI cZ h0 q1 q2 q3 b a1 a2 n1 n2 g1 g2 lf le lh cx cy cz pl pw cL o0 ov h1 (xs (6 * t + 1)) (xs (6 * t + 2)) (xs (6 * t + 3)) h2 h3 h4 _) (vx_cwSW 5 hT (ps_gSW tw_ml_L_97 tw_st_L_count tw_in_L tw_cw_L_count) rfl rfl rfl ⟨by decide, by decide, by decide +kernel⟩ ⟨Nat.le_of_ble_eq_true rfl, Nat.le_of_ble_eq_true rfl⟩) (ps_xreS (wc := ps_shW h0 q1 q2 q3 cx cy cz pl pw ++ ps_trW cI cZ q1 a1 n1 g1 ++ ps_trW cI cZ q2 a2 n2 g2 ++ ps_lsW cI q3 b lf le lh ++ [(o0, .inl (cL, 1, .inr (.inl ov)))]) [0, 1, 2, 3, 4, 5, 6, 7, 8, 9, 10, 11, 12, 13, 14, 15, 16, 17, 18, 19, 20, 21] hN hE hZ hS hA hP hK3 hD rfl rfl rfl) rfl rfl hl.1 rfl (lv_room (Nat.le_of_ble_eq_true rfl)) dL_law_628 ⟨hc1, hs1⟩) hS hA hP hD [0, 1, 2, 3, 4, 5, 6, 7, 8, 9, 10, 11, 12, 13, 14, 15, 16, 17, 18, 19, 20, 21] [22, 23, 24, 25, 26, 27, 28, 29, 30, 31, 32] [11, 12, 13, 14, 15, 16, 17, 18, 19, 20, 21, 22, 23, 24, 25, 26, 27, 28, 29, 30, 31, 32, 0, 1, 2, 3, 4, 5, 6, 7, 8, 9, 10] rfl rfl rfl (by decide) rfl rfl rfl (fun H locs hP hD hS => ?_)
    have hP : va_P (dC, dI) vwCl (ps_shW h0 q1 q2 q3 cx cy cz pl pw ++ ps_trW cI cZ q1 a1 n1 g1 ++ ps_trW cI cZ q2 a2 n2 g2 ++ ps_lsW cI q3 b lf le lh ++ [(o0, .inl (cL, 1, .inr (.inl (vp_updL ov 0 (nI (ps_cn (ps_ib g1 cx cy cz (xs (6 * t + 1)) (xs (6 * t + 2)) (xs (6 * t + 3))) n1)).toInt64))))] ++ ps_mdW cI cZ w0 b0 th mn kn co ln wr lt f) H := hP
    have hD : va_D A (ps_shW h0 q1 q2 q3 cx cy cz pl pw ++ ps_trW cI cZ q1 a1 n1 g1 ++ ps_trW cI cZ q2 a2 n2 g2 ++ ps_lsW cI q3 b lf le lh ++ [(o0, .inl (cL, 1, .inr (.inl (vp_updL ov 0 (nI (ps_cn (ps_ib g1 cx cy cz (xs (6 * t + 1)) (xs (6 * t + 2)) (xs (6 * t + 3))) n1)).toInt64))))] ++ ps_mdW cI cZ w0 b0 th mn kn co ln wr lt f) := hD
    refine lv_istore (lv' := [(5, .int 0), (0, .ref sb), (1, .ref h0), (2, .ref w0), (3, .ref o0), (4, .int (nI (6 * t)))]) hx hb dL_law_631 hl (by decide) rfl (fun ls hl => ?_)
    refine lv_aload_n hx hb dL_law_633 rfl (lv_at hl 3 rfl) ?_
    refine lv_aload_n hx hb dL_law_634 rfl (lv_at hl 1 rfl) ?_
    refine lv_iload hx hb dL_law_635 (lv_at hl 5 rfl) ?_
    refine lv_iconst (v := 1) hx hb dL_law_637 (by decide) ?_
    refine lv_iadd hx hb dL_law_638 ?_
    refine ps_sld (j := 6 * t) hx hb hX hbl hbA hS 1 (by decide) (by omega) hL dL_law_639 ?_
    refine lv_aload_n hx hb dL_law_640 rfl (lv_at hl 1 rfl) ?_
    refine lv_iload hx hb dL_law_641 (lv_at hl 5 rfl) ?_
    refine lv_iconst (v := 2) hx hb dL_law_643 (by decide) ?_
    refine lv_iadd hx hb dL_law_644 ?_
    refine ps_sld (j := 6 * t) hx hb hX hbl hbA hS 2 (by decide) (by omega) hL dL_law_645 ?_
    refine lv_aload_n hx hb dL_law_646 rfl (lv_at hl 1 rfl) ?_
    refine lv_iload hx hb dL_law_647 (lv_at hl 5 rfl) ?_
    refine lv_iconst (v := 3) hx hb dL_law_649 (by decide) ?_
    refine lv_iadd hx hb dL_law_650 ?_
    refine ps_sld (j := 6 * t) hx hb hX hbl hbA hS 3 (by decide) (by omega) hL dL_law_651 ?_
    refine ps_cqi (wc := ps_mdW cI cZ w0 b0 th mn kn co ln wr lt f) (wr := ps_shW h0 q1 q2 q3 cx cy cz pl pw ++ ps_trW cI cZ q1 a1 n1 g1 ++ ps_trW cI cZ q2 a2 n2 g2 ++ ps_lsW cI q3 b lf le lh ++ [(o0, .inl (cL, 1, .inr (.inl (vp_updL ov 0 (nI (ps_cn (ps_ib g1 cx cy cz (xs (6 * t + 1)) (xs (6 * t + 2)) (xs (6 * t + 3))) n1)).toInt64))))]) (w1 := ps_mdW cI cZ w0 b0 0 mn kn co ln wr lt f) (ws2 := ps_shW h0 q1 q2 q3 cx cy cz pl pw ++ ps_trW cI cZ q1 a1 n1 g1 ++ ps_trW cI cZ q2 a2 n2 g2 ++ ps_lsW cI q3 b lf le lh ++ [(o0, .inl (cL, 1, .inr (.inl (vp_updL ov 0 (nI (ps_cn (ps_ib g1 cx cy cz (xs (6 * t + 1)) (xs (6 * t + 2)) (xs (6 * t + 3))) n1)).toInt64))))] ++ ps_mdW cI cZ w0 b0 0 mn kn co ln wr lt f) (va_runV (C := RX3) (As := [.int (xs (6 * t + 1)), .int (xs (6 * t + 2)), .int (xs (6 * t + 3))]) (rest := []) ⟨hx, hb, hml, hown, hT⟩ (mX3_count_n l dC dI cI cZ w0 b0 th mn kn co ln wr lt f h5 (xs (6 * t + 1)) (xs (6 * t + 2)) (xs (6 * t + 3)) h6 _) (cwV 3 hT (ps_gV tw_ml_L_100 tw_im_X3_count tw_se_X3_count tw_in_X3 tw_co_X3_count) rfl rfl rfl ⟨rfl, by decide, by decide, by decide +kernel⟩ ⟨Nat.le_of_ble_eq_true rfl, Nat.le_of_ble_eq_true rfl⟩) (ps_qreV (wc := ps_mdW cI cZ w0 b0 th mn kn co ln wr lt f) (ci := 3) [22, 23, 24, 25, 26, 27, 28, 29, 30, 31, 32] hN hP hK hD rfl rfl rfl rfl rfl) rfl rfl hl.1 rfl (lv_room (Nat.le_of_ble_eq_true rfl)) dL_law_652 ⟨hc1, hs1⟩) hS hA hP hD [22, 23, 24, 25, 26, 27, 28, 29, 30, 31, 32] [0, 1, 2, 3, 4, 5, 6, 7, 8, 9, 10, 11, 12, 13, 14, 15, 16, 17, 18, 19, 20, 21] [0, 1, 2, 3, 4, 5, 6, 7, 8, 9, 10, 11, 12, 13, 14, 15, 16, 17, 18, 19, 20, 21, 22, 23, 24, 25, 26, 27, 28, 29, 30, 31, 32] rfl rfl rfl (by decide) rfl rfl rfl (fun H locs hP hD hS => ?_)
    have hP : va_P (dC, dI) vwCl (ps_shW h0 q1 q2 q3 cx cy cz pl pw ++ ps_trW cI cZ q1 a1 n1 g1 ++ ps_trW cI cZ q2 a2 n2 g2 ++ ps_lsW cI q3 b lf le lh ++ [(o0, .inl (cL, 1, .inr (.inl (vp_updL ov 0 (nI (ps_cn (ps_ib g1 cx cy cz (xs (6 * t + 1)) (xs (6 * t + 2)) (xs (6 * t + 3))) n1)).toInt64))))] ++ ps_mdW cI cZ w0 b0 0 mn kn co ln wr lt f) H := hP
    have hD : va_D A (ps_shW h0 q1 q2 q3 cx cy cz pl pw ++ ps_trW cI cZ q1 a1 n1 g1 ++ ps_trW cI cZ q2 a2 n2 g2 ++ ps_lsW cI q3 b lf le lh ++ [(o0, .inl (cL, 1, .inr (.inl (vp_updL ov 0 (nI (ps_cn (ps_ib g1 cx cy cz (xs (6 * t + 1)) (xs (6 * t + 2)) (xs (6 * t + 3))) n1)).toInt64))))] ++ ps_mdW cI cZ w0 b0 0 mn kn co ln wr lt f) := hD
    refine lv_istore (lv' := [(6, .int (nI (ps_cn (fun k => ps_all (ps_iq f co (ps_pk (xs (6 * t + 1)) (xs (6 * t + 2)) (xs (6 * t + 3))) k) 3) mn))), (5, .int 0), (0, .ref sb), (1, .ref h0), (2, .ref w0), (3, .ref o0), (4, .int (nI (6 * t)))]) hx hb dL_law_655 hl (by decide) rfl (fun ls hl => ?_)
    refine lv_aload_n hx hb dL_law_657 rfl (lv_at hl 4 rfl) ?_
    refine vp_callSi (va_Run.run (va_runV (C := RX3) (As := []) (rest := []) ⟨hx, hb, hml, hown, hT⟩ (mX3_thrown l dC dI cI cZ w0 b0 0 mn kn co ln wr lt f) (cwV 0 hT (ps_gV tw_ml_L_71 tw_im_X3_thrown tw_se_X3_thrown tw_in_X3 tw_co_X3_thrown) rfl rfl rfl ⟨rfl, by decide, by decide, by decide +kernel⟩ ⟨Nat.le_of_ble_eq_true rfl, Nat.le_of_ble_eq_true rfl⟩) (ps_preV (ci := 3) (q0 := 0) hN (hP.sub (ws' := ps_mdW cI cZ w0 b0 0 mn kn co ln wr lt f) [22, 23, 24, 25, 26, 27, 28, 29, 30, 31, 32] rfl) hK rfl rfl) rfl rfl hl.1 rfl (lv_room (Nat.le_of_ble_eq_true rfl)) dL_law_658 ⟨hc1, hs1⟩)) (fun r hr9 => ?_)
    obtain rfl : r = 0 := hr9
    refine lv_iload hx hb dL_law_661 (lv_at hl 1 rfl) ?_
    refine lv_icmp_eq (tgt := 668) hx hb dL_law_663 rfl (fun h663 => ?_) (fun h663 => ?_)
    · skip
      refine lv_iload hx hb dL_law_668 (lv_at hl 1 rfl) ?_
      refine lv_if_ne (tgt := 685) hx hb dL_law_670 rfl (fun h670 => ?_) (fun h670 => ?_)
      · skip
        exact absurd rfl h670
      · skip
        refine lv_aload_n hx hb dL_law_673 rfl (lv_at hl 5 rfl) ?_
        refine lv_iconst (v := 0) hx hb dL_law_674 (by decide) ?_
        refine va_lald hx hb hK3 hP 21 2 rfl rfl (by unfold vp_in; decide) dL_law_675 ?_
        refine lv_iload hx hb dL_law_676 (lv_at hl 0 rfl) ?_
        refine lv_i2l (v := (nI (ps_cn (fun k => ps_all (ps_iq f co (ps_pk (xs (6 * t + 1)) (xs (6 * t + 2)) (xs (6 * t + 3))) k) 3) mn)).toInt64) hx hb dL_law_678 rfl ?_
        refine W.lcmp hx hb dL_law_679 ?_
        refine lv_if_eq (tgt := 685) hx hb dL_law_680 rfl (fun h680 => ?_) (fun h680 => ?_)
        · skip
          refine lv_goto (tgt := 1028) hx hb dL_law_685 rfl ?_
          refine W.widen (k := cells + 1) (n := slots + 6) (Nat.le_refl _) (Nat.le_refl _) ?_
          exact kk _ _ _ _ _ _ _ _ _ _ _ _ _ _ _ _ _ _ _ _ _ _ _ _ hJ (lv_sub hl [2, 3, 4, 5, 6] rfl) hP hD hS
        · skip
          exact absurd (ps_lz (congrArg nI he)) h680
    · skip
      exact absurd rfl h663
  · skip
    refine lv_aload_n hx hb dL_law_608 rfl (lv_at hl 1 rfl) ?_
    refine lv_aload_n hx hb dL_law_609 rfl (lv_at hl 0 rfl) ?_
    refine lv_iload hx hb dL_law_610 (lv_at hl 4 rfl) ?_
    refine lv_iconst (v := 1) hx hb dL_law_612 (by decide) ?_
    refine lv_iadd hx hb dL_law_613 ?_
    refine ps_sld (j := 6 * t) hx hb hX hbl hbA hS 1 (by decide) (by omega) hL dL_law_614 ?_
    refine lv_aload_n hx hb dL_law_615 rfl (lv_at hl 0 rfl) ?_
    refine lv_iload hx hb dL_law_616 (lv_at hl 4 rfl) ?_
    refine lv_iconst (v := 2) hx hb dL_law_618 (by decide) ?_
    refine lv_iadd hx hb dL_law_619 ?_
    refine ps_sld (j := 6 * t) hx hb hX hbl hbA hS 2 (by decide) (by omega) hL dL_law_620 ?_
    refine lv_aload_n hx hb dL_law_621 rfl (lv_at hl 0 rfl) ?_
    refine lv_iload hx hb dL_law_622 (lv_at hl 4 rfl) ?_
    refine lv_iconst (v := 3) hx hb dL_law_624 (by decide) ?_
    refine lv_iadd hx hb dL_law_625 ?_
    refine ps_sld (j := 6 * t) hx hb hX hbl hbA hS 3 (by decide) (by omega) hL dL_law_626 ?_
    refine lv_aload_n hx hb dL_law_627 rfl (lv_at hl 3 rfl) ?_
    refine ps_cqi (wc := ps_shW h0 q1 q2 q3 cx cy cz pl pw ++ ps_trW cI cZ q1 a1 n1 g1 ++ ps_trW cI cZ q2 a2 n2 g2 ++ ps_lsW cI q3 b lf le lh ++ [(o0, .inl (cL, 1, .inr (.inl ov)))]) (wr := ps_mdW cI cZ w0 b0 th mn kn co ln wr lt f) (w1 := ps_shW h0 q1 q2 q3 cx cy cz pl pw ++ ps_trW cI cZ q1 a1 n1 g1 ++ ps_trW cI cZ q2 a2 n2 g2 ++ ps_lsW cI q3 b lf le lh ++ [(o0, .inl (cL, 1, .inr (.inl ov)))]) (ws2 := ps_shW h0 q1 q2 q3 cx cy cz pl pw ++ ps_trW cI cZ q1 a1 n1 g1 ++ ps_trW cI cZ q2 a2 n2 g2 ++ ps_lsW cI q3 b lf le lh ++ [(o0, .inl (cL, 1, .inr (.inl ov)))] ++ ps_mdW cI cZ w0 b0 th mn kn co ln wr lt f) (vx_runSW (As := [.ref h0, .int (xs (6 * t + 1)), .int (xs (6 * t + 2)), .int (xs (6 * t + 3)), .ref o0]) (rest := []) ⟨hx, hb, hml, hown, hT⟩ (mL_count_x l hlt dC dI cI cZ h0 q1 q2 q3 b a1 a2 n1 n2 g1 g2 lf le lh cx cy cz pl pw cL o0 ov (xs (6 * t + 1)) (xs (6 * t + 2)) (xs (6 * t + 3)) h1 _) (vx_cwSW 5 hT (ps_gSW tw_ml_L_97 tw_st_L_count tw_in_L tw_cw_L_count) rfl rfl rfl ⟨by decide, by decide, by decide +kernel⟩ ⟨Nat.le_of_ble_eq_true rfl, Nat.le_of_ble_eq_true rfl⟩) (ps_xreS (wc := ps_shW h0 q1 q2 q3 cx cy cz pl pw ++ ps_trW cI cZ q1 a1 n1 g1 ++ ps_trW cI cZ q2 a2 n2 g2 ++ ps_lsW cI q3 b lf le lh ++ [(o0, .inl (cL, 1, .inr (.inl ov)))]) [0, 1, 2, 3, 4, 5, 6, 7, 8, 9, 10, 11, 12, 13, 14, 15, 16, 17, 18, 19, 20, 21] hN hE hZ hS hA hP hK3 hD rfl rfl rfl) rfl rfl hl.1 rfl (lv_room (Nat.le_of_ble_eq_true rfl)) dL_law_628 ⟨hc1, hs1⟩) hS hA hP hD [0, 1, 2, 3, 4, 5, 6, 7, 8, 9, 10, 11, 12, 13, 14, 15, 16, 17, 18, 19, 20, 21] [22, 23, 24, 25, 26, 27, 28, 29, 30, 31, 32] [11, 12, 13, 14, 15, 16, 17, 18, 19, 20, 21, 22, 23, 24, 25, 26, 27, 28, 29, 30, 31, 32, 0, 1, 2, 3, 4, 5, 6, 7, 8, 9, 10] rfl rfl rfl (by decide) rfl rfl rfl (fun H locs hP hD hS => ?_)
    have hP : va_P (dC, dI) vwCl (ps_shW h0 q1 q2 q3 cx cy cz pl pw ++ ps_trW cI cZ q1 a1 n1 g1 ++ ps_trW cI cZ q2 a2 n2 g2 ++ ps_lsW cI q3 b lf le lh ++ [(o0, .inl (cL, 1, .inr (.inl ov)))] ++ ps_mdW cI cZ w0 b0 th mn kn co ln wr lt f) H := hP
    have hD : va_D A (ps_shW h0 q1 q2 q3 cx cy cz pl pw ++ ps_trW cI cZ q1 a1 n1 g1 ++ ps_trW cI cZ q2 a2 n2 g2 ++ ps_lsW cI q3 b lf le lh ++ [(o0, .inl (cL, 1, .inr (.inl ov)))] ++ ps_mdW cI cZ w0 b0 th mn kn co ln wr lt f) := hD
    refine lv_istore (lv' := [(5, .int 1), (0, .ref sb), (1, .ref h0), (2, .ref w0), (3, .ref o0), (4, .int (nI (6 * t)))]) hx hb dL_law_631 hl (by decide) rfl (fun ls hl => ?_)
    refine lv_aload_n hx hb dL_law_633 rfl (lv_at hl 3 rfl) ?_
    refine lv_aload_n hx hb dL_law_634 rfl (lv_at hl 1 rfl) ?_
    refine lv_iload hx hb dL_law_635 (lv_at hl 5 rfl) ?_
    refine lv_iconst (v := 1) hx hb dL_law_637 (by decide) ?_
    refine lv_iadd hx hb dL_law_638 ?_
    refine ps_sld (j := 6 * t) hx hb hX hbl hbA hS 1 (by decide) (by omega) hL dL_law_639 ?_
    refine lv_aload_n hx hb dL_law_640 rfl (lv_at hl 1 rfl) ?_
    refine lv_iload hx hb dL_law_641 (lv_at hl 5 rfl) ?_
    refine lv_iconst (v := 2) hx hb dL_law_643 (by decide) ?_
    refine lv_iadd hx hb dL_law_644 ?_
    refine ps_sld (j := 6 * t) hx hb hX hbl hbA hS 2 (by decide) (by omega) hL dL_law_645 ?_
    refine lv_aload_n hx hb dL_law_646 rfl (lv_at hl 1 rfl) ?_
    refine lv_iload hx hb dL_law_647 (lv_at hl 5 rfl) ?_
    refine lv_iconst (v := 3) hx hb dL_law_649 (by decide) ?_
    refine lv_iadd hx hb dL_law_650 ?_
    refine ps_sld (j := 6 * t) hx hb hX hbl hbA hS 3 (by decide) (by omega) hL dL_law_651 ?_
    refine ps_cqi (wc := ps_mdW cI cZ w0 b0 th mn kn co ln wr lt f) (wr := ps_shW h0 q1 q2 q3 cx cy cz pl pw ++ ps_trW cI cZ q1 a1 n1 g1 ++ ps_trW cI cZ q2 a2 n2 g2 ++ ps_lsW cI q3 b lf le lh ++ [(o0, .inl (cL, 1, .inr (.inl ov)))]) (w1 := ps_mdW cI cZ w0 b0 1 mn kn co ln wr lt f) (ws2 := ps_shW h0 q1 q2 q3 cx cy cz pl pw ++ ps_trW cI cZ q1 a1 n1 g1 ++ ps_trW cI cZ q2 a2 n2 g2 ++ ps_lsW cI q3 b lf le lh ++ [(o0, .inl (cL, 1, .inr (.inl ov)))] ++ ps_mdW cI cZ w0 b0 1 mn kn co ln wr lt f) (va_runV (C := RX3) (As := [.int (xs (6 * t + 1)), .int (xs (6 * t + 2)), .int (xs (6 * t + 3))]) (rest := []) ⟨hx, hb, hml, hown, hT⟩ (mX3_count_1 l dC dI cI cZ w0 b0 th mn kn co ln wr lt f (xs (6 * t + 1)) (xs (6 * t + 2)) (xs (6 * t + 3)) h2 _) (cwV 3 hT (ps_gV tw_ml_L_100 tw_im_X3_count tw_se_X3_count tw_in_X3 tw_co_X3_count) rfl rfl rfl ⟨rfl, by decide, by decide, by decide +kernel⟩ ⟨Nat.le_of_ble_eq_true rfl, Nat.le_of_ble_eq_true rfl⟩) (ps_qreV (wc := ps_mdW cI cZ w0 b0 th mn kn co ln wr lt f) (ci := 3) [22, 23, 24, 25, 26, 27, 28, 29, 30, 31, 32] hN hP hK hD rfl rfl rfl rfl rfl) rfl rfl hl.1 rfl (lv_room (Nat.le_of_ble_eq_true rfl)) dL_law_652 ⟨hc1, hs1⟩) hS hA hP hD [22, 23, 24, 25, 26, 27, 28, 29, 30, 31, 32] [0, 1, 2, 3, 4, 5, 6, 7, 8, 9, 10, 11, 12, 13, 14, 15, 16, 17, 18, 19, 20, 21] [0, 1, 2, 3, 4, 5, 6, 7, 8, 9, 10, 11, 12, 13, 14, 15, 16, 17, 18, 19, 20, 21, 22, 23, 24, 25, 26, 27, 28, 29, 30, 31, 32] rfl rfl rfl (by decide) rfl rfl rfl (fun H locs hP hD hS => ?_)
    have hP : va_P (dC, dI) vwCl (ps_shW h0 q1 q2 q3 cx cy cz pl pw ++ ps_trW cI cZ q1 a1 n1 g1 ++ ps_trW cI cZ q2 a2 n2 g2 ++ ps_lsW cI q3 b lf le lh ++ [(o0, .inl (cL, 1, .inr (.inl ov)))] ++ ps_mdW cI cZ w0 b0 1 mn kn co ln wr lt f) H := hP
    have hD : va_D A (ps_shW h0 q1 q2 q3 cx cy cz pl pw ++ ps_trW cI cZ q1 a1 n1 g1 ++ ps_trW cI cZ q2 a2 n2 g2 ++ ps_lsW cI q3 b lf le lh ++ [(o0, .inl (cL, 1, .inr (.inl ov)))] ++ ps_mdW cI cZ w0 b0 1 mn kn co ln wr lt f) := hD
    refine lv_istore (lv' := [(6, .int 0), (5, .int 1), (0, .ref sb), (1, .ref h0), (2, .ref w0), (3, .ref o0), (4, .int (nI (6 * t)))]) hx hb dL_law_655 hl (by decide) rfl (fun ls hl => ?_)
    refine lv_aload_n hx hb dL_law_657 rfl (lv_at hl 4 rfl) ?_
    refine vp_callSi (va_Run.run (va_runV (C := RX3) (As := []) (rest := []) ⟨hx, hb, hml, hown, hT⟩ (mX3_thrown l dC dI cI cZ w0 b0 1 mn kn co ln wr lt f) (cwV 0 hT (ps_gV tw_ml_L_71 tw_im_X3_thrown tw_se_X3_thrown tw_in_X3 tw_co_X3_thrown) rfl rfl rfl ⟨rfl, by decide, by decide, by decide +kernel⟩ ⟨Nat.le_of_ble_eq_true rfl, Nat.le_of_ble_eq_true rfl⟩) (ps_preV (ci := 3) (q0 := 0) hN (hP.sub (ws' := ps_mdW cI cZ w0 b0 1 mn kn co ln wr lt f) [22, 23, 24, 25, 26, 27, 28, 29, 30, 31, 32] rfl) hK rfl rfl) rfl rfl hl.1 rfl (lv_room (Nat.le_of_ble_eq_true rfl)) dL_law_658 ⟨hc1, hs1⟩)) (fun r hr9 => ?_)
    obtain rfl : r = 1 := hr9
    refine lv_iload hx hb dL_law_661 (lv_at hl 1 rfl) ?_
    refine lv_icmp_eq (tgt := 668) hx hb dL_law_663 rfl (fun h663 => ?_) (fun h663 => ?_)
    · skip
      refine lv_iload hx hb dL_law_668 (lv_at hl 1 rfl) ?_
      refine lv_if_ne (tgt := 685) hx hb dL_law_670 rfl (fun h670 => ?_) (fun h670 => ?_)
      · skip
        refine lv_goto (tgt := 1028) hx hb dL_law_685 rfl ?_
        refine W.widen (k := cells + 1) (n := slots + 6) (Nat.le_refl _) (Nat.le_refl _) ?_
        exact kk _ _ _ _ _ _ _ _ _ _ _ _ _ _ _ _ _ _ _ _ _ _ _ _ hJ (lv_sub hl [2, 3, 4, 5, 6] rfl) hP hD hS
      · skip
        exact absurd h670 (by decide)
    · skip
      exact absurd rfl h663
set_option maxHeartbeats 4000000 in
set_option maxRecDepth 100000 in
theorem cs_nearest {p : Program} {l : Launch} {e : Env} {s : State} {m : MethodId} {args : Array Value} {below : List Frame} {meth : Method} {c : Code} {Q : State → Prop} {dC : Nat → ClassId} {dI : Nat → Nat → Nat} {cI cZ cL : ClassId} {A : Nat → Prop} {sb L : Nat} {xs : Nat → Int32} {h0 q1 q2 q3 b o0 w0 : Nat} {a1 a2 b0 : Nat → Nat} {t cells slots : Nat} (C : ps_Cx p l s m args c dC dI cI cZ cL A sb L xs) (ht : 6 * t + 6 ≤ L) (hc1 : cells + 1 ≤ room_1.cells) (hs1 : slots + 6 ≤ room_1.slots) (kk : ps_Hd p l e s m args below meth c Q dC dI cI cZ cL A sb h0 q1 q2 q3 b o0 w0 a1 a2 b0 t (cells + 1) (slots + 6) 1028) : ps_Hd p l e s m args below meth c Q dC dI cI cZ cL A sb h0 q1 q2 q3 b o0 w0 a1 a2 b0 t cells slots 688 := by
  obtain ⟨hlt, hx, hb, hml, hown, hT, hN, hE, hZ, hK3, hA, hX, hbl, hbA, hL⟩ := C
  have hK : va_K (dC, dI) vwCl (ps_ty cI cZ) s := hK3.sub [0, 1] rfl
  intro n1 n2 g1 g2 lf le lh cx cy cz pl pw ov th mn kn co ln wr lt f ls H locs hJ hl hP hD hS
  rcases ps_Jnearest hJ (xs (6 * t + 1)) (xs (6 * t + 2)) (xs (6 * t + 3)) (xs (6 * t + 4)) with ⟨k, hk9, h1, h2, h3, h4, h5, h6, h7, h8, h9, h10, he⟩ | ⟨h1, h2⟩ | ⟨h1, h2, h3, h4, h5⟩ | ⟨h1, h2, h3, h4, h5, h6, h7⟩
  · skip
    refine lv_aload_n hx hb dL_law_688 rfl (lv_at hl 1 rfl) ?_
    refine lv_aload_n hx hb dL_law_689 rfl (lv_at hl 0 rfl) ?_
    refine lv_iload hx hb dL_law_690 (lv_at hl 4 rfl) ?_
    refine lv_iconst (v := 1) hx hb dL_law_692 (by decide) ?_
    refine lv_iadd hx hb dL_law_693 ?_
    refine ps_sld (j := 6 * t) hx hb hX hbl hbA hS 1 (by decide) (by omega) hL dL_law_694 ?_
    refine lv_aload_n hx hb dL_law_695 rfl (lv_at hl 0 rfl) ?_
    refine lv_iload hx hb dL_law_696 (lv_at hl 4 rfl) ?_
    refine lv_iconst (v := 2) hx hb dL_law_698 (by decide) ?_
    refine lv_iadd hx hb dL_law_699 ?_
    refine ps_sld (j := 6 * t) hx hb hX hbl hbA hS 2 (by decide) (by omega) hL dL_law_700 ?_
    refine lv_aload_n hx hb dL_law_701 rfl (lv_at hl 0 rfl) ?_
    refine lv_iload hx hb dL_law_702 (lv_at hl 4 rfl) ?_
    refine lv_iconst (v := 3) hx hb dL_law_704 (by decide) ?_
    refine lv_iadd hx hb dL_law_705 ?_
    refine ps_sld (j := 6 * t) hx hb hX hbl hbA hS 3 (by decide) (by omega) hL dL_law_706 ?_
    refine lv_aload_n hx hb dL_law_707 rfl (lv_at hl 0 rfl) ?_
    refine lv_iload hx hb dL_law_708 (lv_at hl 4 rfl) ?_
    refine lv_iconst (v := 4) hx hb dL_law_710 (by decide) ?_
    refine lv_iadd hx hb dL_law_711 ?_
    refine ps_sld (j := 6 * t) hx hb hX hbl hbA hS 4 (by decide) (by omega) hL dL_law_712 ?_
    refine lv_aload_n hx hb dL_law_713 rfl (lv_at hl 3 rfl) ?_
    refine ps_cqi (wc := ps_shW h0 q1 q2 q3 cx cy cz pl pw ++ ps_trW cI cZ q1 a1 n1 g1 ++ ps_trW cI cZ q2 a2 n2 g2 ++ ps_lsW cI q3 b lf le lh ++ [(o0, .inl (cL, 1, .inr (.inl ov)))]) (wr := ps_mdW cI cZ w0 b0 th mn kn co ln wr lt f) (w1 := ps_shW h0 q1 q2 q3 cx cy cz pl pw ++ ps_trW cI cZ q1 a1 n1 g1 ++ ps_trW cI cZ q2 a2 n2 g2 ++ ps_lsW cI q3 b lf le lh ++ [(o0, .inl (cL, 1, .inr (.inl (vp_updL ov 0 ((ps_ik (ps_dk g1 (xs (6 * t + 1)) (xs (6 * t + 2)) (xs (6 * t + 3))) n1 k).toInt32).toInt64))))]) (ws2 := ps_shW h0 q1 q2 q3 cx cy cz pl pw ++ ps_trW cI cZ q1 a1 n1 g1 ++ ps_trW cI cZ q2 a2 n2 g2 ++ ps_lsW cI q3 b lf le lh ++ [(o0, .inl (cL, 1, .inr (.inl (vp_updL ov 0 ((ps_ik (ps_dk g1 (xs (6 * t + 1)) (xs (6 * t + 2)) (xs (6 * t + 3))) n1 k).toInt32).toInt64))))] ++ ps_mdW cI cZ w0 b0 th mn kn co ln wr lt f) (vx_runSW (As := [.ref h0, .int (xs (6 * t + 1)), .int (xs (6 * t + 2)), .int (xs (6 * t + 3)), .int (xs (6 * t + 4)), .ref o0]) (rest := []) ⟨hx, hb, hml, hown, hT⟩ (mL_nearest_n2 l hlt dC dI cI cZ h0 q1 q2 q3 b a1 a2 n1 n2 g1 g2 lf le lh cx cy cz pl pw cL o0 ov h1 (xs (6 * t + 1)) (xs (6 * t + 2)) (xs (6 * t + 3)) h2 h3 h4 k h5 h6 (xs (6 * t + 4)) hk9 _) (vx_cwSW 6 hT (ps_gSW tw_ml_L_101 tw_st_L_nearest tw_in_L tw_cw_L_nearest) rfl rfl rfl ⟨by decide, by decide, by decide +kernel⟩ ⟨Nat.le_of_ble_eq_true rfl, Nat.le_of_ble_eq_true rfl⟩) (ps_xreS (wc := ps_shW h0 q1 q2 q3 cx cy cz pl pw ++ ps_trW cI cZ q1 a1 n1 g1 ++ ps_trW cI cZ q2 a2 n2 g2 ++ ps_lsW cI q3 b lf le lh ++ [(o0, .inl (cL, 1, .inr (.inl ov)))]) [0, 1, 2, 3, 4, 5, 6, 7, 8, 9, 10, 11, 12, 13, 14, 15, 16, 17, 18, 19, 20, 21] hN hE hZ hS hA hP hK3 hD rfl rfl rfl) rfl rfl hl.1 rfl (lv_room (Nat.le_of_ble_eq_true rfl)) dL_law_714 ⟨hc1, hs1⟩) hS hA hP hD [0, 1, 2, 3, 4, 5, 6, 7, 8, 9, 10, 11, 12, 13, 14, 15, 16, 17, 18, 19, 20, 21] [22, 23, 24, 25, 26, 27, 28, 29, 30, 31, 32] [11, 12, 13, 14, 15, 16, 17, 18, 19, 20, 21, 22, 23, 24, 25, 26, 27, 28, 29, 30, 31, 32, 0, 1, 2, 3, 4, 5, 6, 7, 8, 9, 10] rfl rfl rfl (by decide) rfl rfl rfl (fun H locs hP hD hS => ?_)
    have hP : va_P (dC, dI) vwCl (ps_shW h0 q1 q2 q3 cx cy cz pl pw ++ ps_trW cI cZ q1 a1 n1 g1 ++ ps_trW cI cZ q2 a2 n2 g2 ++ ps_lsW cI q3 b lf le lh ++ [(o0, .inl (cL, 1, .inr (.inl (vp_updL ov 0 ((ps_ik (ps_dk g1 (xs (6 * t + 1)) (xs (6 * t + 2)) (xs (6 * t + 3))) n1 k).toInt32).toInt64))))] ++ ps_mdW cI cZ w0 b0 th mn kn co ln wr lt f) H := hP
    have hD : va_D A (ps_shW h0 q1 q2 q3 cx cy cz pl pw ++ ps_trW cI cZ q1 a1 n1 g1 ++ ps_trW cI cZ q2 a2 n2 g2 ++ ps_lsW cI q3 b lf le lh ++ [(o0, .inl (cL, 1, .inr (.inl (vp_updL ov 0 ((ps_ik (ps_dk g1 (xs (6 * t + 1)) (xs (6 * t + 2)) (xs (6 * t + 3))) n1 k).toInt32).toInt64))))] ++ ps_mdW cI cZ w0 b0 th mn kn co ln wr lt f) := hD
    refine lv_istore (lv' := [(5, .int 0), (0, .ref sb), (1, .ref h0), (2, .ref w0), (3, .ref o0), (4, .int (nI (6 * t)))]) hx hb dL_law_717 hl (by decide) rfl (fun ls hl => ?_)
    refine lv_aload_n hx hb dL_law_719 rfl (lv_at hl 3 rfl) ?_
    refine lv_aload_n hx hb dL_law_720 rfl (lv_at hl 1 rfl) ?_
    refine lv_iload hx hb dL_law_721 (lv_at hl 5 rfl) ?_
    refine lv_iconst (v := 1) hx hb dL_law_723 (by decide) ?_
    refine lv_iadd hx hb dL_law_724 ?_
    refine ps_sld (j := 6 * t) hx hb hX hbl hbA hS 1 (by decide) (by omega) hL dL_law_725 ?_
    refine lv_aload_n hx hb dL_law_726 rfl (lv_at hl 1 rfl) ?_
    refine lv_iload hx hb dL_law_727 (lv_at hl 5 rfl) ?_
    refine lv_iconst (v := 2) hx hb dL_law_729 (by decide) ?_
    refine lv_iadd hx hb dL_law_730 ?_
    refine ps_sld (j := 6 * t) hx hb hX hbl hbA hS 2 (by decide) (by omega) hL dL_law_731 ?_
    refine lv_aload_n hx hb dL_law_732 rfl (lv_at hl 1 rfl) ?_
    refine lv_iload hx hb dL_law_733 (lv_at hl 5 rfl) ?_
    refine lv_iconst (v := 3) hx hb dL_law_735 (by decide) ?_
    refine lv_iadd hx hb dL_law_736 ?_
    refine ps_sld (j := 6 * t) hx hb hX hbl hbA hS 3 (by decide) (by omega) hL dL_law_737 ?_
    refine lv_aload_n hx hb dL_law_738 rfl (lv_at hl 1 rfl) ?_
    refine lv_iload hx hb dL_law_739 (lv_at hl 5 rfl) ?_
    refine lv_iconst (v := 4) hx hb dL_law_741 (by decide) ?_
    refine lv_iadd hx hb dL_law_742 ?_
    refine ps_sld (j := 6 * t) hx hb hX hbl hbA hS 4 (by decide) (by omega) hL dL_law_743 ?_
    refine ps_cqi (wc := ps_mdW cI cZ w0 b0 th mn kn co ln wr lt f) (wr := ps_shW h0 q1 q2 q3 cx cy cz pl pw ++ ps_trW cI cZ q1 a1 n1 g1 ++ ps_trW cI cZ q2 a2 n2 g2 ++ ps_lsW cI q3 b lf le lh ++ [(o0, .inl (cL, 1, .inr (.inl (vp_updL ov 0 ((ps_ik (ps_dk g1 (xs (6 * t + 1)) (xs (6 * t + 2)) (xs (6 * t + 3))) n1 k).toInt32).toInt64))))]) (w1 := ps_mdW cI cZ w0 b0 0 mn kn co ln wr lt f) (ws2 := ps_shW h0 q1 q2 q3 cx cy cz pl pw ++ ps_trW cI cZ q1 a1 n1 g1 ++ ps_trW cI cZ q2 a2 n2 g2 ++ ps_lsW cI q3 b lf le lh ++ [(o0, .inl (cL, 1, .inr (.inl (vp_updL ov 0 ((ps_ik (ps_dk g1 (xs (6 * t + 1)) (xs (6 * t + 2)) (xs (6 * t + 3))) n1 k).toInt32).toInt64))))] ++ ps_mdW cI cZ w0 b0 0 mn kn co ln wr lt f) (va_runV (C := RX3) (As := [.int (xs (6 * t + 1)), .int (xs (6 * t + 2)), .int (xs (6 * t + 3)), .int (xs (6 * t + 4))]) (rest := []) ⟨hx, hb, hml, hown, hT⟩ (mX3_nearest_n l dC dI cI cZ w0 b0 th mn kn co ln wr lt f h7 (xs (6 * t + 1)) (xs (6 * t + 2)) (xs (6 * t + 3)) (xs (6 * t + 4)) h8 h9 h10 _) (cwV 4 hT (ps_gV tw_ml_L_103 tw_im_X3_nearest tw_se_X3_nearest tw_in_X3 tw_co_X3_nearest) rfl rfl rfl ⟨rfl, by decide, by decide, by decide +kernel⟩ ⟨Nat.le_of_ble_eq_true rfl, Nat.le_of_ble_eq_true rfl⟩) (ps_qreV (wc := ps_mdW cI cZ w0 b0 th mn kn co ln wr lt f) (ci := 3) [22, 23, 24, 25, 26, 27, 28, 29, 30, 31, 32] hN hP hK hD rfl rfl rfl rfl rfl) rfl rfl hl.1 rfl (lv_room (Nat.le_of_ble_eq_true rfl)) dL_law_744 ⟨hc1, hs1⟩) hS hA hP hD [22, 23, 24, 25, 26, 27, 28, 29, 30, 31, 32] [0, 1, 2, 3, 4, 5, 6, 7, 8, 9, 10, 11, 12, 13, 14, 15, 16, 17, 18, 19, 20, 21] [0, 1, 2, 3, 4, 5, 6, 7, 8, 9, 10, 11, 12, 13, 14, 15, 16, 17, 18, 19, 20, 21, 22, 23, 24, 25, 26, 27, 28, 29, 30, 31, 32] rfl rfl rfl (by decide) rfl rfl rfl (fun H locs hP hD hS => ?_)
    have hP : va_P (dC, dI) vwCl (ps_shW h0 q1 q2 q3 cx cy cz pl pw ++ ps_trW cI cZ q1 a1 n1 g1 ++ ps_trW cI cZ q2 a2 n2 g2 ++ ps_lsW cI q3 b lf le lh ++ [(o0, .inl (cL, 1, .inr (.inl (vp_updL ov 0 ((ps_ik (ps_dk g1 (xs (6 * t + 1)) (xs (6 * t + 2)) (xs (6 * t + 3))) n1 k).toInt32).toInt64))))] ++ ps_mdW cI cZ w0 b0 0 mn kn co ln wr lt f) H := hP
    have hD : va_D A (ps_shW h0 q1 q2 q3 cx cy cz pl pw ++ ps_trW cI cZ q1 a1 n1 g1 ++ ps_trW cI cZ q2 a2 n2 g2 ++ ps_lsW cI q3 b lf le lh ++ [(o0, .inl (cL, 1, .inr (.inl (vp_updL ov 0 ((ps_ik (ps_dk g1 (xs (6 * t + 1)) (xs (6 * t + 2)) (xs (6 * t + 3))) n1 k).toInt32).toInt64))))] ++ ps_mdW cI cZ w0 b0 0 mn kn co ln wr lt f) := hD
    refine lv_istore (lv' := [(6, .int (ps_nr f mn (ps_pk (xs (6 * t + 1)) (xs (6 * t + 2)) (xs (6 * t + 3))) (xs (6 * t + 4)) mn)), (5, .int 0), (0, .ref sb), (1, .ref h0), (2, .ref w0), (3, .ref o0), (4, .int (nI (6 * t)))]) hx hb dL_law_747 hl (by decide) rfl (fun ls hl => ?_)
    refine lv_aload_n hx hb dL_law_749 rfl (lv_at hl 4 rfl) ?_
    refine vp_callSi (va_Run.run (va_runV (C := RX3) (As := []) (rest := []) ⟨hx, hb, hml, hown, hT⟩ (mX3_thrown l dC dI cI cZ w0 b0 0 mn kn co ln wr lt f) (cwV 0 hT (ps_gV tw_ml_L_71 tw_im_X3_thrown tw_se_X3_thrown tw_in_X3 tw_co_X3_thrown) rfl rfl rfl ⟨rfl, by decide, by decide, by decide +kernel⟩ ⟨Nat.le_of_ble_eq_true rfl, Nat.le_of_ble_eq_true rfl⟩) (ps_preV (ci := 3) (q0 := 0) hN (hP.sub (ws' := ps_mdW cI cZ w0 b0 0 mn kn co ln wr lt f) [22, 23, 24, 25, 26, 27, 28, 29, 30, 31, 32] rfl) hK rfl rfl) rfl rfl hl.1 rfl (lv_room (Nat.le_of_ble_eq_true rfl)) dL_law_750 ⟨hc1, hs1⟩)) (fun r hr9 => ?_)
    obtain rfl : r = 0 := hr9
    refine lv_iload hx hb dL_law_753 (lv_at hl 1 rfl) ?_
    refine lv_icmp_eq (tgt := 760) hx hb dL_law_755 rfl (fun h755 => ?_) (fun h755 => ?_)
    · skip
      refine lv_iload hx hb dL_law_760 (lv_at hl 1 rfl) ?_
      refine lv_if_ne (tgt := 777) hx hb dL_law_762 rfl (fun h762 => ?_) (fun h762 => ?_)
      · skip
        exact absurd rfl h762
      · skip
        refine lv_aload_n hx hb dL_law_765 rfl (lv_at hl 5 rfl) ?_
        refine lv_iconst (v := 0) hx hb dL_law_766 (by decide) ?_
        refine va_lald hx hb hK3 hP 21 2 rfl rfl (by unfold vp_in; decide) dL_law_767 ?_
        refine lv_iload hx hb dL_law_768 (lv_at hl 0 rfl) ?_
        refine lv_i2l (v := (ps_nr f mn (ps_pk (xs (6 * t + 1)) (xs (6 * t + 2)) (xs (6 * t + 3))) (xs (6 * t + 4)) mn).toInt64) hx hb dL_law_770 rfl ?_
        refine W.lcmp hx hb dL_law_771 ?_
        refine lv_if_eq (tgt := 777) hx hb dL_law_772 rfl (fun h772 => ?_) (fun h772 => ?_)
        · skip
          refine lv_goto (tgt := 1028) hx hb dL_law_777 rfl ?_
          refine W.widen (k := cells + 1) (n := slots + 6) (Nat.le_refl _) (Nat.le_refl _) ?_
          exact kk _ _ _ _ _ _ _ _ _ _ _ _ _ _ _ _ _ _ _ _ _ _ _ _ hJ (lv_sub hl [2, 3, 4, 5, 6] rfl) hP hD hS
        · skip
          exact absurd (ps_lz he) h772
    · skip
      exact absurd rfl h755
  · skip
    refine lv_aload_n hx hb dL_law_688 rfl (lv_at hl 1 rfl) ?_
    refine lv_aload_n hx hb dL_law_689 rfl (lv_at hl 0 rfl) ?_
    refine lv_iload hx hb dL_law_690 (lv_at hl 4 rfl) ?_
    refine lv_iconst (v := 1) hx hb dL_law_692 (by decide) ?_
    refine lv_iadd hx hb dL_law_693 ?_
    refine ps_sld (j := 6 * t) hx hb hX hbl hbA hS 1 (by decide) (by omega) hL dL_law_694 ?_
    refine lv_aload_n hx hb dL_law_695 rfl (lv_at hl 0 rfl) ?_
    refine lv_iload hx hb dL_law_696 (lv_at hl 4 rfl) ?_
    refine lv_iconst (v := 2) hx hb dL_law_698 (by decide) ?_
    refine lv_iadd hx hb dL_law_699 ?_
    refine ps_sld (j := 6 * t) hx hb hX hbl hbA hS 2 (by decide) (by omega) hL dL_law_700 ?_
    refine lv_aload_n hx hb dL_law_701 rfl (lv_at hl 0 rfl) ?_
    refine lv_iload hx hb dL_law_702 (lv_at hl 4 rfl) ?_
    refine lv_iconst (v := 3) hx hb dL_law_704 (by decide) ?_
    refine lv_iadd hx hb dL_law_705 ?_
    refine ps_sld (j := 6 * t) hx hb hX hbl hbA hS 3 (by decide) (by omega) hL dL_law_706 ?_
    refine lv_aload_n hx hb dL_law_707 rfl (lv_at hl 0 rfl) ?_
    refine lv_iload hx hb dL_law_708 (lv_at hl 4 rfl) ?_
    refine lv_iconst (v := 4) hx hb dL_law_710 (by decide) ?_
    refine lv_iadd hx hb dL_law_711 ?_
    refine ps_sld (j := 6 * t) hx hb hX hbl hbA hS 4 (by decide) (by omega) hL dL_law_712 ?_
    refine lv_aload_n hx hb dL_law_713 rfl (lv_at hl 3 rfl) ?_
    refine ps_cqi (wc := ps_shW h0 q1 q2 q3 cx cy cz pl pw ++ ps_trW cI cZ q1 a1 n1 g1 ++ ps_trW cI cZ q2 a2 n2 g2 ++ ps_lsW cI q3 b lf le lh ++ [(o0, .inl (cL, 1, .inr (.inl ov)))]) (wr := ps_mdW cI cZ w0 b0 th mn kn co ln wr lt f) (w1 := ps_shW h0 q1 q2 q3 cx cy cz pl pw ++ ps_trW cI cZ q1 a1 n1 g1 ++ ps_trW cI cZ q2 a2 n2 g2 ++ ps_lsW cI q3 b lf le lh ++ [(o0, .inl (cL, 1, .inr (.inl ov)))]) (ws2 := ps_shW h0 q1 q2 q3 cx cy cz pl pw ++ ps_trW cI cZ q1 a1 n1 g1 ++ ps_trW cI cZ q2 a2 n2 g2 ++ ps_lsW cI q3 b lf le lh ++ [(o0, .inl (cL, 1, .inr (.inl ov)))] ++ ps_mdW cI cZ w0 b0 th mn kn co ln wr lt f) (vx_runSW (As := [.ref h0, .int (xs (6 * t + 1)), .int (xs (6 * t + 2)), .int (xs (6 * t + 3)), .int (xs (6 * t + 4)), .ref o0]) (rest := []) ⟨hx, hb, hml, hown, hT⟩ (mL_nearest_x1 l hlt dC dI cI cZ h0 q1 q2 q3 b a1 a2 n1 n2 g1 g2 lf le lh cx cy cz pl pw cL o0 ov (xs (6 * t + 1)) (xs (6 * t + 2)) (xs (6 * t + 3)) h1 (xs (6 * t + 4)) _) (vx_cwSW 6 hT (ps_gSW tw_ml_L_101 tw_st_L_nearest tw_in_L tw_cw_L_nearest) rfl rfl rfl ⟨by decide, by decide, by decide +kernel⟩ ⟨Nat.le_of_ble_eq_true rfl, Nat.le_of_ble_eq_true rfl⟩) (ps_xreS (wc := ps_shW h0 q1 q2 q3 cx cy cz pl pw ++ ps_trW cI cZ q1 a1 n1 g1 ++ ps_trW cI cZ q2 a2 n2 g2 ++ ps_lsW cI q3 b lf le lh ++ [(o0, .inl (cL, 1, .inr (.inl ov)))]) [0, 1, 2, 3, 4, 5, 6, 7, 8, 9, 10, 11, 12, 13, 14, 15, 16, 17, 18, 19, 20, 21] hN hE hZ hS hA hP hK3 hD rfl rfl rfl) rfl rfl hl.1 rfl (lv_room (Nat.le_of_ble_eq_true rfl)) dL_law_714 ⟨hc1, hs1⟩) hS hA hP hD [0, 1, 2, 3, 4, 5, 6, 7, 8, 9, 10, 11, 12, 13, 14, 15, 16, 17, 18, 19, 20, 21] [22, 23, 24, 25, 26, 27, 28, 29, 30, 31, 32] [11, 12, 13, 14, 15, 16, 17, 18, 19, 20, 21, 22, 23, 24, 25, 26, 27, 28, 29, 30, 31, 32, 0, 1, 2, 3, 4, 5, 6, 7, 8, 9, 10] rfl rfl rfl (by decide) rfl rfl rfl (fun H locs hP hD hS => ?_)
    have hP : va_P (dC, dI) vwCl (ps_shW h0 q1 q2 q3 cx cy cz pl pw ++ ps_trW cI cZ q1 a1 n1 g1 ++ ps_trW cI cZ q2 a2 n2 g2 ++ ps_lsW cI q3 b lf le lh ++ [(o0, .inl (cL, 1, .inr (.inl ov)))] ++ ps_mdW cI cZ w0 b0 th mn kn co ln wr lt f) H := hP
    have hD : va_D A (ps_shW h0 q1 q2 q3 cx cy cz pl pw ++ ps_trW cI cZ q1 a1 n1 g1 ++ ps_trW cI cZ q2 a2 n2 g2 ++ ps_lsW cI q3 b lf le lh ++ [(o0, .inl (cL, 1, .inr (.inl ov)))] ++ ps_mdW cI cZ w0 b0 th mn kn co ln wr lt f) := hD
    refine lv_istore (lv' := [(5, .int 1), (0, .ref sb), (1, .ref h0), (2, .ref w0), (3, .ref o0), (4, .int (nI (6 * t)))]) hx hb dL_law_717 hl (by decide) rfl (fun ls hl => ?_)
    refine lv_aload_n hx hb dL_law_719 rfl (lv_at hl 3 rfl) ?_
    refine lv_aload_n hx hb dL_law_720 rfl (lv_at hl 1 rfl) ?_
    refine lv_iload hx hb dL_law_721 (lv_at hl 5 rfl) ?_
    refine lv_iconst (v := 1) hx hb dL_law_723 (by decide) ?_
    refine lv_iadd hx hb dL_law_724 ?_
    refine ps_sld (j := 6 * t) hx hb hX hbl hbA hS 1 (by decide) (by omega) hL dL_law_725 ?_
    refine lv_aload_n hx hb dL_law_726 rfl (lv_at hl 1 rfl) ?_
    refine lv_iload hx hb dL_law_727 (lv_at hl 5 rfl) ?_
    refine lv_iconst (v := 2) hx hb dL_law_729 (by decide) ?_
    refine lv_iadd hx hb dL_law_730 ?_
    refine ps_sld (j := 6 * t) hx hb hX hbl hbA hS 2 (by decide) (by omega) hL dL_law_731 ?_
    refine lv_aload_n hx hb dL_law_732 rfl (lv_at hl 1 rfl) ?_
    refine lv_iload hx hb dL_law_733 (lv_at hl 5 rfl) ?_
    refine lv_iconst (v := 3) hx hb dL_law_735 (by decide) ?_
    refine lv_iadd hx hb dL_law_736 ?_
    refine ps_sld (j := 6 * t) hx hb hX hbl hbA hS 3 (by decide) (by omega) hL dL_law_737 ?_
    refine lv_aload_n hx hb dL_law_738 rfl (lv_at hl 1 rfl) ?_
    refine lv_iload hx hb dL_law_739 (lv_at hl 5 rfl) ?_
    refine lv_iconst (v := 4) hx hb dL_law_741 (by decide) ?_
    refine lv_iadd hx hb dL_law_742 ?_
    refine ps_sld (j := 6 * t) hx hb hX hbl hbA hS 4 (by decide) (by omega) hL dL_law_743 ?_
    refine ps_cqi (wc := ps_mdW cI cZ w0 b0 th mn kn co ln wr lt f) (wr := ps_shW h0 q1 q2 q3 cx cy cz pl pw ++ ps_trW cI cZ q1 a1 n1 g1 ++ ps_trW cI cZ q2 a2 n2 g2 ++ ps_lsW cI q3 b lf le lh ++ [(o0, .inl (cL, 1, .inr (.inl ov)))]) (w1 := ps_mdW cI cZ w0 b0 1 mn kn co ln wr lt f) (ws2 := ps_shW h0 q1 q2 q3 cx cy cz pl pw ++ ps_trW cI cZ q1 a1 n1 g1 ++ ps_trW cI cZ q2 a2 n2 g2 ++ ps_lsW cI q3 b lf le lh ++ [(o0, .inl (cL, 1, .inr (.inl ov)))] ++ ps_mdW cI cZ w0 b0 1 mn kn co ln wr lt f) (va_runV (C := RX3) (As := [.int (xs (6 * t + 1)), .int (xs (6 * t + 2)), .int (xs (6 * t + 3)), .int (xs (6 * t + 4))]) (rest := []) ⟨hx, hb, hml, hown, hT⟩ (mX3_nearest_1 l dC dI cI cZ w0 b0 th mn kn co ln wr lt f (xs (6 * t + 1)) (xs (6 * t + 2)) (xs (6 * t + 3)) (xs (6 * t + 4)) h2 _) (cwV 4 hT (ps_gV tw_ml_L_103 tw_im_X3_nearest tw_se_X3_nearest tw_in_X3 tw_co_X3_nearest) rfl rfl rfl ⟨rfl, by decide, by decide, by decide +kernel⟩ ⟨Nat.le_of_ble_eq_true rfl, Nat.le_of_ble_eq_true rfl⟩) (ps_qreV (wc := ps_mdW cI cZ w0 b0 th mn kn co ln wr lt f) (ci := 3) [22, 23, 24, 25, 26, 27, 28, 29, 30, 31, 32] hN hP hK hD rfl rfl rfl rfl rfl) rfl rfl hl.1 rfl (lv_room (Nat.le_of_ble_eq_true rfl)) dL_law_744 ⟨hc1, hs1⟩) hS hA hP hD [22, 23, 24, 25, 26, 27, 28, 29, 30, 31, 32] [0, 1, 2, 3, 4, 5, 6, 7, 8, 9, 10, 11, 12, 13, 14, 15, 16, 17, 18, 19, 20, 21] [0, 1, 2, 3, 4, 5, 6, 7, 8, 9, 10, 11, 12, 13, 14, 15, 16, 17, 18, 19, 20, 21, 22, 23, 24, 25, 26, 27, 28, 29, 30, 31, 32] rfl rfl rfl (by decide) rfl rfl rfl (fun H locs hP hD hS => ?_)
    have hP : va_P (dC, dI) vwCl (ps_shW h0 q1 q2 q3 cx cy cz pl pw ++ ps_trW cI cZ q1 a1 n1 g1 ++ ps_trW cI cZ q2 a2 n2 g2 ++ ps_lsW cI q3 b lf le lh ++ [(o0, .inl (cL, 1, .inr (.inl ov)))] ++ ps_mdW cI cZ w0 b0 1 mn kn co ln wr lt f) H := hP
    have hD : va_D A (ps_shW h0 q1 q2 q3 cx cy cz pl pw ++ ps_trW cI cZ q1 a1 n1 g1 ++ ps_trW cI cZ q2 a2 n2 g2 ++ ps_lsW cI q3 b lf le lh ++ [(o0, .inl (cL, 1, .inr (.inl ov)))] ++ ps_mdW cI cZ w0 b0 1 mn kn co ln wr lt f) := hD
    refine lv_istore (lv' := [(6, .int 0), (5, .int 1), (0, .ref sb), (1, .ref h0), (2, .ref w0), (3, .ref o0), (4, .int (nI (6 * t)))]) hx hb dL_law_747 hl (by decide) rfl (fun ls hl => ?_)
    refine lv_aload_n hx hb dL_law_749 rfl (lv_at hl 4 rfl) ?_
    refine vp_callSi (va_Run.run (va_runV (C := RX3) (As := []) (rest := []) ⟨hx, hb, hml, hown, hT⟩ (mX3_thrown l dC dI cI cZ w0 b0 1 mn kn co ln wr lt f) (cwV 0 hT (ps_gV tw_ml_L_71 tw_im_X3_thrown tw_se_X3_thrown tw_in_X3 tw_co_X3_thrown) rfl rfl rfl ⟨rfl, by decide, by decide, by decide +kernel⟩ ⟨Nat.le_of_ble_eq_true rfl, Nat.le_of_ble_eq_true rfl⟩) (ps_preV (ci := 3) (q0 := 0) hN (hP.sub (ws' := ps_mdW cI cZ w0 b0 1 mn kn co ln wr lt f) [22, 23, 24, 25, 26, 27, 28, 29, 30, 31, 32] rfl) hK rfl rfl) rfl rfl hl.1 rfl (lv_room (Nat.le_of_ble_eq_true rfl)) dL_law_750 ⟨hc1, hs1⟩)) (fun r hr9 => ?_)
    obtain rfl : r = 1 := hr9
    refine lv_iload hx hb dL_law_753 (lv_at hl 1 rfl) ?_
    refine lv_icmp_eq (tgt := 760) hx hb dL_law_755 rfl (fun h755 => ?_) (fun h755 => ?_)
    · skip
      refine lv_iload hx hb dL_law_760 (lv_at hl 1 rfl) ?_
      refine lv_if_ne (tgt := 777) hx hb dL_law_762 rfl (fun h762 => ?_) (fun h762 => ?_)
      · skip
        refine lv_goto (tgt := 1028) hx hb dL_law_777 rfl ?_
        refine W.widen (k := cells + 1) (n := slots + 6) (Nat.le_refl _) (Nat.le_refl _) ?_
        exact kk _ _ _ _ _ _ _ _ _ _ _ _ _ _ _ _ _ _ _ _ _ _ _ _ hJ (lv_sub hl [2, 3, 4, 5, 6] rfl) hP hD hS
      · skip
        exact absurd h762 (by decide)
    · skip
      exact absurd rfl h755
  · skip
    refine lv_aload_n hx hb dL_law_688 rfl (lv_at hl 1 rfl) ?_
    refine lv_aload_n hx hb dL_law_689 rfl (lv_at hl 0 rfl) ?_
    refine lv_iload hx hb dL_law_690 (lv_at hl 4 rfl) ?_
    refine lv_iconst (v := 1) hx hb dL_law_692 (by decide) ?_
    refine lv_iadd hx hb dL_law_693 ?_
    refine ps_sld (j := 6 * t) hx hb hX hbl hbA hS 1 (by decide) (by omega) hL dL_law_694 ?_
    refine lv_aload_n hx hb dL_law_695 rfl (lv_at hl 0 rfl) ?_
    refine lv_iload hx hb dL_law_696 (lv_at hl 4 rfl) ?_
    refine lv_iconst (v := 2) hx hb dL_law_698 (by decide) ?_
    refine lv_iadd hx hb dL_law_699 ?_
    refine ps_sld (j := 6 * t) hx hb hX hbl hbA hS 2 (by decide) (by omega) hL dL_law_700 ?_
    refine lv_aload_n hx hb dL_law_701 rfl (lv_at hl 0 rfl) ?_
    refine lv_iload hx hb dL_law_702 (lv_at hl 4 rfl) ?_
    refine lv_iconst (v := 3) hx hb dL_law_704 (by decide) ?_
    refine lv_iadd hx hb dL_law_705 ?_
    refine ps_sld (j := 6 * t) hx hb hX hbl hbA hS 3 (by decide) (by omega) hL dL_law_706 ?_
    refine lv_aload_n hx hb dL_law_707 rfl (lv_at hl 0 rfl) ?_
    refine lv_iload hx hb dL_law_708 (lv_at hl 4 rfl) ?_
    refine lv_iconst (v := 4) hx hb dL_law_710 (by decide) ?_
    refine lv_iadd hx hb dL_law_711 ?_
    refine ps_sld (j := 6 * t) hx hb hX hbl hbA hS 4 (by decide) (by omega) hL dL_law_712 ?_
    refine lv_aload_n hx hb dL_law_713 rfl (lv_at hl 3 rfl) ?_
    refine ps_cqi (wc := ps_shW h0 q1 q2 q3 cx cy cz pl pw ++ ps_trW cI cZ q1 a1 n1 g1 ++ ps_trW cI cZ q2 a2 n2 g2 ++ ps_lsW cI q3 b lf le lh ++ [(o0, .inl (cL, 1, .inr (.inl ov)))]) (wr := ps_mdW cI cZ w0 b0 th mn kn co ln wr lt f) (w1 := ps_shW h0 q1 q2 q3 cx cy cz pl pw ++ ps_trW cI cZ q1 a1 n1 g1 ++ ps_trW cI cZ q2 a2 n2 g2 ++ ps_lsW cI q3 b lf le lh ++ [(o0, .inl (cL, 1, .inr (.inl ov)))]) (ws2 := ps_shW h0 q1 q2 q3 cx cy cz pl pw ++ ps_trW cI cZ q1 a1 n1 g1 ++ ps_trW cI cZ q2 a2 n2 g2 ++ ps_lsW cI q3 b lf le lh ++ [(o0, .inl (cL, 1, .inr (.inl ov)))] ++ ps_mdW cI cZ w0 b0 th mn kn co ln wr lt f) (vx_runSW (As := [.ref h0, .int (xs (6 * t + 1)), .int (xs (6 * t + 2)), .int (xs (6 * t + 3)), .int (xs (6 * t + 4)), .ref o0]) (rest := []) ⟨hx, hb, hml, hown, hT⟩ (mL_nearest_x2 l hlt dC dI cI cZ h0 q1 q2 q3 b a1 a2 n1 n2 g1 g2 lf le lh cx cy cz pl pw cL o0 ov (xs (6 * t + 1)) (xs (6 * t + 2)) (xs (6 * t + 3)) h1 h2 h3 (xs (6 * t + 4)) h4 _) (vx_cwSW 6 hT (ps_gSW tw_ml_L_101 tw_st_L_nearest tw_in_L tw_cw_L_nearest) rfl rfl rfl ⟨by decide, by decide, by decide +kernel⟩ ⟨Nat.le_of_ble_eq_true rfl, Nat.le_of_ble_eq_true rfl⟩) (ps_xreS (wc := ps_shW h0 q1 q2 q3 cx cy cz pl pw ++ ps_trW cI cZ q1 a1 n1 g1 ++ ps_trW cI cZ q2 a2 n2 g2 ++ ps_lsW cI q3 b lf le lh ++ [(o0, .inl (cL, 1, .inr (.inl ov)))]) [0, 1, 2, 3, 4, 5, 6, 7, 8, 9, 10, 11, 12, 13, 14, 15, 16, 17, 18, 19, 20, 21] hN hE hZ hS hA hP hK3 hD rfl rfl rfl) rfl rfl hl.1 rfl (lv_room (Nat.le_of_ble_eq_true rfl)) dL_law_714 ⟨hc1, hs1⟩) hS hA hP hD [0, 1, 2, 3, 4, 5, 6, 7, 8, 9, 10, 11, 12, 13, 14, 15, 16, 17, 18, 19, 20, 21] [22, 23, 24, 25, 26, 27, 28, 29, 30, 31, 32] [11, 12, 13, 14, 15, 16, 17, 18, 19, 20, 21, 22, 23, 24, 25, 26, 27, 28, 29, 30, 31, 32, 0, 1, 2, 3, 4, 5, 6, 7, 8, 9, 10] rfl rfl rfl (by decide) rfl rfl rfl (fun H locs hP hD hS => ?_)
    have hP : va_P (dC, dI) vwCl (ps_shW h0 q1 q2 q3 cx cy cz pl pw ++ ps_trW cI cZ q1 a1 n1 g1 ++ ps_trW cI cZ q2 a2 n2 g2 ++ ps_lsW cI q3 b lf le lh ++ [(o0, .inl (cL, 1, .inr (.inl ov)))] ++ ps_mdW cI cZ w0 b0 th mn kn co ln wr lt f) H := hP
    have hD : va_D A (ps_shW h0 q1 q2 q3 cx cy cz pl pw ++ ps_trW cI cZ q1 a1 n1 g1 ++ ps_trW cI cZ q2 a2 n2 g2 ++ ps_lsW cI q3 b lf le lh ++ [(o0, .inl (cL, 1, .inr (.inl ov)))] ++ ps_mdW cI cZ w0 b0 th mn kn co ln wr lt f) := hD
    refine lv_istore (lv' := [(5, .int 1), (0, .ref sb), (1, .ref h0), (2, .ref w0), (3, .ref o0), (4, .int (nI (6 * t)))]) hx hb dL_law_717 hl (by decide) rfl (fun ls hl => ?_)
    refine lv_aload_n hx hb dL_law_719 rfl (lv_at hl 3 rfl) ?_
    refine lv_aload_n hx hb dL_law_720 rfl (lv_at hl 1 rfl) ?_
    refine lv_iload hx hb dL_law_721 (lv_at hl 5 rfl) ?_
    refine lv_iconst (v := 1) hx hb dL_law_723 (by decide) ?_
    refine lv_iadd hx hb dL_law_724 ?_
    refine ps_sld (j := 6 * t) hx hb hX hbl hbA hS 1 (by decide) (by omega) hL dL_law_725 ?_
    refine lv_aload_n hx hb dL_law_726 rfl (lv_at hl 1 rfl) ?_
    refine lv_iload hx hb dL_law_727 (lv_at hl 5 rfl) ?_
    refine lv_iconst (v := 2) hx hb dL_law_729 (by decide) ?_
    refine lv_iadd hx hb dL_law_730 ?_
    refine ps_sld (j := 6 * t) hx hb hX hbl hbA hS 2 (by decide) (by omega) hL dL_law_731 ?_
    refine lv_aload_n hx hb dL_law_732 rfl (lv_at hl 1 rfl) ?_
    refine lv_iload hx hb dL_law_733 (lv_at hl 5 rfl) ?_
    refine lv_iconst (v := 3) hx hb dL_law_735 (by decide) ?_
    refine lv_iadd hx hb dL_law_736 ?_
    refine ps_sld (j := 6 * t) hx hb hX hbl hbA hS 3 (by decide) (by omega) hL dL_law_737 ?_
    refine lv_aload_n hx hb dL_law_738 rfl (lv_at hl 1 rfl) ?_
    refine lv_iload hx hb dL_law_739 (lv_at hl 5 rfl) ?_
    refine lv_iconst (v := 4) hx hb dL_law_741 (by decide) ?_
    refine lv_iadd hx hb dL_law_742 ?_
    refine ps_sld (j := 6 * t) hx hb hX hbl hbA hS 4 (by decide) (by omega) hL dL_law_743 ?_
    refine ps_cqi (wc := ps_mdW cI cZ w0 b0 th mn kn co ln wr lt f) (wr := ps_shW h0 q1 q2 q3 cx cy cz pl pw ++ ps_trW cI cZ q1 a1 n1 g1 ++ ps_trW cI cZ q2 a2 n2 g2 ++ ps_lsW cI q3 b lf le lh ++ [(o0, .inl (cL, 1, .inr (.inl ov)))]) (w1 := ps_mdW cI cZ w0 b0 1 mn kn co ln wr lt f) (ws2 := ps_shW h0 q1 q2 q3 cx cy cz pl pw ++ ps_trW cI cZ q1 a1 n1 g1 ++ ps_trW cI cZ q2 a2 n2 g2 ++ ps_lsW cI q3 b lf le lh ++ [(o0, .inl (cL, 1, .inr (.inl ov)))] ++ ps_mdW cI cZ w0 b0 1 mn kn co ln wr lt f) (va_runV (C := RX3) (As := [.int (xs (6 * t + 1)), .int (xs (6 * t + 2)), .int (xs (6 * t + 3)), .int (xs (6 * t + 4))]) (rest := []) ⟨hx, hb, hml, hown, hT⟩ (mX3_nearest_1 l dC dI cI cZ w0 b0 th mn kn co ln wr lt f (xs (6 * t + 1)) (xs (6 * t + 2)) (xs (6 * t + 3)) (xs (6 * t + 4)) h5 _) (cwV 4 hT (ps_gV tw_ml_L_103 tw_im_X3_nearest tw_se_X3_nearest tw_in_X3 tw_co_X3_nearest) rfl rfl rfl ⟨rfl, by decide, by decide, by decide +kernel⟩ ⟨Nat.le_of_ble_eq_true rfl, Nat.le_of_ble_eq_true rfl⟩) (ps_qreV (wc := ps_mdW cI cZ w0 b0 th mn kn co ln wr lt f) (ci := 3) [22, 23, 24, 25, 26, 27, 28, 29, 30, 31, 32] hN hP hK hD rfl rfl rfl rfl rfl) rfl rfl hl.1 rfl (lv_room (Nat.le_of_ble_eq_true rfl)) dL_law_744 ⟨hc1, hs1⟩) hS hA hP hD [22, 23, 24, 25, 26, 27, 28, 29, 30, 31, 32] [0, 1, 2, 3, 4, 5, 6, 7, 8, 9, 10, 11, 12, 13, 14, 15, 16, 17, 18, 19, 20, 21] [0, 1, 2, 3, 4, 5, 6, 7, 8, 9, 10, 11, 12, 13, 14, 15, 16, 17, 18, 19, 20, 21, 22, 23, 24, 25, 26, 27, 28, 29, 30, 31, 32] rfl rfl rfl (by decide) rfl rfl rfl (fun H locs hP hD hS => ?_)
    have hP : va_P (dC, dI) vwCl (ps_shW h0 q1 q2 q3 cx cy cz pl pw ++ ps_trW cI cZ q1 a1 n1 g1 ++ ps_trW cI cZ q2 a2 n2 g2 ++ ps_lsW cI q3 b lf le lh ++ [(o0, .inl (cL, 1, .inr (.inl ov)))] ++ ps_mdW cI cZ w0 b0 1 mn kn co ln wr lt f) H := hP
    have hD : va_D A (ps_shW h0 q1 q2 q3 cx cy cz pl pw ++ ps_trW cI cZ q1 a1 n1 g1 ++ ps_trW cI cZ q2 a2 n2 g2 ++ ps_lsW cI q3 b lf le lh ++ [(o0, .inl (cL, 1, .inr (.inl ov)))] ++ ps_mdW cI cZ w0 b0 1 mn kn co ln wr lt f) := hD
    refine lv_istore (lv' := [(6, .int 0), (5, .int 1), (0, .ref sb), (1, .ref h0), (2, .ref w0), (3, .ref o0), (4, .int (nI (6 * t)))]) hx hb dL_law_747 hl (by decide) rfl (fun ls hl => ?_)
    refine lv_aload_n hx hb dL_law_749 rfl (lv_at hl 4 rfl) ?_
    refine vp_callSi (va_Run.run (va_runV (C := RX3) (As := []) (rest := []) ⟨hx, hb, hml, hown, hT⟩ (mX3_thrown l dC dI cI cZ w0 b0 1 mn kn co ln wr lt f) (cwV 0 hT (ps_gV tw_ml_L_71 tw_im_X3_thrown tw_se_X3_thrown tw_in_X3 tw_co_X3_thrown) rfl rfl rfl ⟨rfl, by decide, by decide, by decide +kernel⟩ ⟨Nat.le_of_ble_eq_true rfl, Nat.le_of_ble_eq_true rfl⟩) (ps_preV (ci := 3) (q0 := 0) hN (hP.sub (ws' := ps_mdW cI cZ w0 b0 1 mn kn co ln wr lt f) [22, 23, 24, 25, 26, 27, 28, 29, 30, 31, 32] rfl) hK rfl rfl) rfl rfl hl.1 rfl (lv_room (Nat.le_of_ble_eq_true rfl)) dL_law_750 ⟨hc1, hs1⟩)) (fun r hr9 => ?_)
    obtain rfl : r = 1 := hr9
    refine lv_iload hx hb dL_law_753 (lv_at hl 1 rfl) ?_
    refine lv_icmp_eq (tgt := 760) hx hb dL_law_755 rfl (fun h755 => ?_) (fun h755 => ?_)
    · skip
      refine lv_iload hx hb dL_law_760 (lv_at hl 1 rfl) ?_
      refine lv_if_ne (tgt := 777) hx hb dL_law_762 rfl (fun h762 => ?_) (fun h762 => ?_)
      · skip
        refine lv_goto (tgt := 1028) hx hb dL_law_777 rfl ?_
        refine W.widen (k := cells + 1) (n := slots + 6) (Nat.le_refl _) (Nat.le_refl _) ?_
        exact kk _ _ _ _ _ _ _ _ _ _ _ _ _ _ _ _ _ _ _ _ _ _ _ _ hJ (lv_sub hl [2, 3, 4, 5, 6] rfl) hP hD hS
      · skip
        exact absurd h762 (by decide)
    · skip
      exact absurd rfl h755
  · skip
    refine lv_aload_n hx hb dL_law_688 rfl (lv_at hl 1 rfl) ?_
    refine lv_aload_n hx hb dL_law_689 rfl (lv_at hl 0 rfl) ?_
    refine lv_iload hx hb dL_law_690 (lv_at hl 4 rfl) ?_
    refine lv_iconst (v := 1) hx hb dL_law_692 (by decide) ?_
    refine lv_iadd hx hb dL_law_693 ?_
    refine ps_sld (j := 6 * t) hx hb hX hbl hbA hS 1 (by decide) (by omega) hL dL_law_694 ?_
    refine lv_aload_n hx hb dL_law_695 rfl (lv_at hl 0 rfl) ?_
    refine lv_iload hx hb dL_law_696 (lv_at hl 4 rfl) ?_
    refine lv_iconst (v := 2) hx hb dL_law_698 (by decide) ?_
    refine lv_iadd hx hb dL_law_699 ?_
    refine ps_sld (j := 6 * t) hx hb hX hbl hbA hS 2 (by decide) (by omega) hL dL_law_700 ?_
    refine lv_aload_n hx hb dL_law_701 rfl (lv_at hl 0 rfl) ?_
    refine lv_iload hx hb dL_law_702 (lv_at hl 4 rfl) ?_
    refine lv_iconst (v := 3) hx hb dL_law_704 (by decide) ?_
    refine lv_iadd hx hb dL_law_705 ?_
    refine ps_sld (j := 6 * t) hx hb hX hbl hbA hS 3 (by decide) (by omega) hL dL_law_706 ?_
    refine lv_aload_n hx hb dL_law_707 rfl (lv_at hl 0 rfl) ?_
    refine lv_iload hx hb dL_law_708 (lv_at hl 4 rfl) ?_
    refine lv_iconst (v := 4) hx hb dL_law_710 (by decide) ?_
    refine lv_iadd hx hb dL_law_711 ?_
    refine ps_sld (j := 6 * t) hx hb hX hbl hbA hS 4 (by decide) (by omega) hL dL_law_712 ?_
    refine lv_aload_n hx hb dL_law_713 rfl (lv_at hl 3 rfl) ?_
    refine ps_cqi (wc := ps_shW h0 q1 q2 q3 cx cy cz pl pw ++ ps_trW cI cZ q1 a1 n1 g1 ++ ps_trW cI cZ q2 a2 n2 g2 ++ ps_lsW cI q3 b lf le lh ++ [(o0, .inl (cL, 1, .inr (.inl ov)))]) (wr := ps_mdW cI cZ w0 b0 th mn kn co ln wr lt f) (w1 := ps_shW h0 q1 q2 q3 cx cy cz pl pw ++ ps_trW cI cZ q1 a1 n1 g1 ++ ps_trW cI cZ q2 a2 n2 g2 ++ ps_lsW cI q3 b lf le lh ++ [(o0, .inl (cL, 1, .inr (.inl ov)))]) (ws2 := ps_shW h0 q1 q2 q3 cx cy cz pl pw ++ ps_trW cI cZ q1 a1 n1 g1 ++ ps_trW cI cZ q2 a2 n2 g2 ++ ps_lsW cI q3 b lf le lh ++ [(o0, .inl (cL, 1, .inr (.inl ov)))] ++ ps_mdW cI cZ w0 b0 th mn kn co ln wr lt f) (vx_runSW (As := [.ref h0, .int (xs (6 * t + 1)), .int (xs (6 * t + 2)), .int (xs (6 * t + 3)), .int (xs (6 * t + 4)), .ref o0]) (rest := []) ⟨hx, hb, hml, hown, hT⟩ (mL_nearest_x3 l hlt dC dI cI cZ h0 q1 q2 q3 b a1 a2 n1 n2 g1 g2 lf le lh cx cy cz pl pw cL o0 ov (xs (6 * t + 1)) (xs (6 * t + 2)) (xs (6 * t + 3)) h1 h2 h3 (xs (6 * t + 4)) h4 h5 _) (vx_cwSW 6 hT (ps_gSW tw_ml_L_101 tw_st_L_nearest tw_in_L tw_cw_L_nearest) rfl rfl rfl ⟨by decide, by decide, by decide +kernel⟩ ⟨Nat.le_of_ble_eq_true rfl, Nat.le_of_ble_eq_true rfl⟩) (ps_xreS (wc := ps_shW h0 q1 q2 q3 cx cy cz pl pw ++ ps_trW cI cZ q1 a1 n1 g1 ++ ps_trW cI cZ q2 a2 n2 g2 ++ ps_lsW cI q3 b lf le lh ++ [(o0, .inl (cL, 1, .inr (.inl ov)))]) [0, 1, 2, 3, 4, 5, 6, 7, 8, 9, 10, 11, 12, 13, 14, 15, 16, 17, 18, 19, 20, 21] hN hE hZ hS hA hP hK3 hD rfl rfl rfl) rfl rfl hl.1 rfl (lv_room (Nat.le_of_ble_eq_true rfl)) dL_law_714 ⟨hc1, hs1⟩) hS hA hP hD [0, 1, 2, 3, 4, 5, 6, 7, 8, 9, 10, 11, 12, 13, 14, 15, 16, 17, 18, 19, 20, 21] [22, 23, 24, 25, 26, 27, 28, 29, 30, 31, 32] [11, 12, 13, 14, 15, 16, 17, 18, 19, 20, 21, 22, 23, 24, 25, 26, 27, 28, 29, 30, 31, 32, 0, 1, 2, 3, 4, 5, 6, 7, 8, 9, 10] rfl rfl rfl (by decide) rfl rfl rfl (fun H locs hP hD hS => ?_)
    have hP : va_P (dC, dI) vwCl (ps_shW h0 q1 q2 q3 cx cy cz pl pw ++ ps_trW cI cZ q1 a1 n1 g1 ++ ps_trW cI cZ q2 a2 n2 g2 ++ ps_lsW cI q3 b lf le lh ++ [(o0, .inl (cL, 1, .inr (.inl ov)))] ++ ps_mdW cI cZ w0 b0 th mn kn co ln wr lt f) H := hP
    have hD : va_D A (ps_shW h0 q1 q2 q3 cx cy cz pl pw ++ ps_trW cI cZ q1 a1 n1 g1 ++ ps_trW cI cZ q2 a2 n2 g2 ++ ps_lsW cI q3 b lf le lh ++ [(o0, .inl (cL, 1, .inr (.inl ov)))] ++ ps_mdW cI cZ w0 b0 th mn kn co ln wr lt f) := hD
    refine lv_istore (lv' := [(5, .int 2), (0, .ref sb), (1, .ref h0), (2, .ref w0), (3, .ref o0), (4, .int (nI (6 * t)))]) hx hb dL_law_717 hl (by decide) rfl (fun ls hl => ?_)
    refine lv_aload_n hx hb dL_law_719 rfl (lv_at hl 3 rfl) ?_
    refine lv_aload_n hx hb dL_law_720 rfl (lv_at hl 1 rfl) ?_
    refine lv_iload hx hb dL_law_721 (lv_at hl 5 rfl) ?_
    refine lv_iconst (v := 1) hx hb dL_law_723 (by decide) ?_
    refine lv_iadd hx hb dL_law_724 ?_
    refine ps_sld (j := 6 * t) hx hb hX hbl hbA hS 1 (by decide) (by omega) hL dL_law_725 ?_
    refine lv_aload_n hx hb dL_law_726 rfl (lv_at hl 1 rfl) ?_
    refine lv_iload hx hb dL_law_727 (lv_at hl 5 rfl) ?_
    refine lv_iconst (v := 2) hx hb dL_law_729 (by decide) ?_
    refine lv_iadd hx hb dL_law_730 ?_
    refine ps_sld (j := 6 * t) hx hb hX hbl hbA hS 2 (by decide) (by omega) hL dL_law_731 ?_
    refine lv_aload_n hx hb dL_law_732 rfl (lv_at hl 1 rfl) ?_
    refine lv_iload hx hb dL_law_733 (lv_at hl 5 rfl) ?_
    refine lv_iconst (v := 3) hx hb dL_law_735 (by decide) ?_
    refine lv_iadd hx hb dL_law_736 ?_
    refine ps_sld (j := 6 * t) hx hb hX hbl hbA hS 3 (by decide) (by omega) hL dL_law_737 ?_
    refine lv_aload_n hx hb dL_law_738 rfl (lv_at hl 1 rfl) ?_
    refine lv_iload hx hb dL_law_739 (lv_at hl 5 rfl) ?_
    refine lv_iconst (v := 4) hx hb dL_law_741 (by decide) ?_
    refine lv_iadd hx hb dL_law_742 ?_
    refine ps_sld (j := 6 * t) hx hb hX hbl hbA hS 4 (by decide) (by omega) hL dL_law_743 ?_
    refine ps_cqi (wc := ps_mdW cI cZ w0 b0 th mn kn co ln wr lt f) (wr := ps_shW h0 q1 q2 q3 cx cy cz pl pw ++ ps_trW cI cZ q1 a1 n1 g1 ++ ps_trW cI cZ q2 a2 n2 g2 ++ ps_lsW cI q3 b lf le lh ++ [(o0, .inl (cL, 1, .inr (.inl ov)))]) (w1 := ps_mdW cI cZ w0 b0 2 mn kn co ln wr lt f) (ws2 := ps_shW h0 q1 q2 q3 cx cy cz pl pw ++ ps_trW cI cZ q1 a1 n1 g1 ++ ps_trW cI cZ q2 a2 n2 g2 ++ ps_lsW cI q3 b lf le lh ++ [(o0, .inl (cL, 1, .inr (.inl ov)))] ++ ps_mdW cI cZ w0 b0 2 mn kn co ln wr lt f) (va_runV (C := RX3) (As := [.int (xs (6 * t + 1)), .int (xs (6 * t + 2)), .int (xs (6 * t + 3)), .int (xs (6 * t + 4))]) (rest := []) ⟨hx, hb, hml, hown, hT⟩ (mX3_nearest_2 l dC dI cI cZ w0 b0 th mn kn co ln wr lt f (xs (6 * t + 1)) (xs (6 * t + 2)) (xs (6 * t + 3)) (xs (6 * t + 4)) h6 h4 h7 _) (cwV 4 hT (ps_gV tw_ml_L_103 tw_im_X3_nearest tw_se_X3_nearest tw_in_X3 tw_co_X3_nearest) rfl rfl rfl ⟨rfl, by decide, by decide, by decide +kernel⟩ ⟨Nat.le_of_ble_eq_true rfl, Nat.le_of_ble_eq_true rfl⟩) (ps_qreV (wc := ps_mdW cI cZ w0 b0 th mn kn co ln wr lt f) (ci := 3) [22, 23, 24, 25, 26, 27, 28, 29, 30, 31, 32] hN hP hK hD rfl rfl rfl rfl rfl) rfl rfl hl.1 rfl (lv_room (Nat.le_of_ble_eq_true rfl)) dL_law_744 ⟨hc1, hs1⟩) hS hA hP hD [22, 23, 24, 25, 26, 27, 28, 29, 30, 31, 32] [0, 1, 2, 3, 4, 5, 6, 7, 8, 9, 10, 11, 12, 13, 14, 15, 16, 17, 18, 19, 20, 21] [0, 1, 2, 3, 4, 5, 6, 7, 8, 9, 10, 11, 12, 13, 14, 15, 16, 17, 18, 19, 20, 21, 22, 23, 24, 25, 26, 27, 28, 29, 30, 31, 32] rfl rfl rfl (by decide) rfl rfl rfl (fun H locs hP hD hS => ?_)
    have hP : va_P (dC, dI) vwCl (ps_shW h0 q1 q2 q3 cx cy cz pl pw ++ ps_trW cI cZ q1 a1 n1 g1 ++ ps_trW cI cZ q2 a2 n2 g2 ++ ps_lsW cI q3 b lf le lh ++ [(o0, .inl (cL, 1, .inr (.inl ov)))] ++ ps_mdW cI cZ w0 b0 2 mn kn co ln wr lt f) H := hP
    have hD : va_D A (ps_shW h0 q1 q2 q3 cx cy cz pl pw ++ ps_trW cI cZ q1 a1 n1 g1 ++ ps_trW cI cZ q2 a2 n2 g2 ++ ps_lsW cI q3 b lf le lh ++ [(o0, .inl (cL, 1, .inr (.inl ov)))] ++ ps_mdW cI cZ w0 b0 2 mn kn co ln wr lt f) := hD
    refine lv_istore (lv' := [(6, .int 0), (5, .int 2), (0, .ref sb), (1, .ref h0), (2, .ref w0), (3, .ref o0), (4, .int (nI (6 * t)))]) hx hb dL_law_747 hl (by decide) rfl (fun ls hl => ?_)
    refine lv_aload_n hx hb dL_law_749 rfl (lv_at hl 4 rfl) ?_
    refine vp_callSi (va_Run.run (va_runV (C := RX3) (As := []) (rest := []) ⟨hx, hb, hml, hown, hT⟩ (mX3_thrown l dC dI cI cZ w0 b0 2 mn kn co ln wr lt f) (cwV 0 hT (ps_gV tw_ml_L_71 tw_im_X3_thrown tw_se_X3_thrown tw_in_X3 tw_co_X3_thrown) rfl rfl rfl ⟨rfl, by decide, by decide, by decide +kernel⟩ ⟨Nat.le_of_ble_eq_true rfl, Nat.le_of_ble_eq_true rfl⟩) (ps_preV (ci := 3) (q0 := 0) hN (hP.sub (ws' := ps_mdW cI cZ w0 b0 2 mn kn co ln wr lt f) [22, 23, 24, 25, 26, 27, 28, 29, 30, 31, 32] rfl) hK rfl rfl) rfl rfl hl.1 rfl (lv_room (Nat.le_of_ble_eq_true rfl)) dL_law_750 ⟨hc1, hs1⟩)) (fun r hr9 => ?_)
    obtain rfl : r = 2 := hr9
    refine lv_iload hx hb dL_law_753 (lv_at hl 1 rfl) ?_
    refine lv_icmp_eq (tgt := 760) hx hb dL_law_755 rfl (fun h755 => ?_) (fun h755 => ?_)
    · skip
      refine lv_iload hx hb dL_law_760 (lv_at hl 1 rfl) ?_
      refine lv_if_ne (tgt := 777) hx hb dL_law_762 rfl (fun h762 => ?_) (fun h762 => ?_)
      · skip
        refine lv_goto (tgt := 1028) hx hb dL_law_777 rfl ?_
        refine W.widen (k := cells + 1) (n := slots + 6) (Nat.le_refl _) (Nat.le_refl _) ?_
        exact kk _ _ _ _ _ _ _ _ _ _ _ _ _ _ _ _ _ _ _ _ _ _ _ _ hJ (lv_sub hl [2, 3, 4, 5, 6] rfl) hP hD hS
      · skip
        exact absurd h762 (by decide)
    · skip
      exact absurd rfl h755
