/-! the law's cases, the rest. By wip/law2.py. -/
set_option maxHeartbeats 4000000 in
set_option maxRecDepth 100000 in
theorem cs_kept {p : Program} {l : Launch} {e : Env} {s : State} {m : MethodId} {args : Array Value} {below : List Frame} {meth : Method} {c : Code} {Q : State → Prop} {dC : Nat → ClassId} {dI : Nat → Nat → Nat} {cI cZ cL : ClassId} {A : Nat → Prop} {sb L : Nat} {xs : Nat → Int32} {h0 q1 q2 q3 b o0 w0 : Nat} {a1 a2 b0 : Nat → Nat} {t cells slots : Nat} (C : ps_Cx p l s m args c dC dI cI cZ cL A sb L xs) (ht : 6 * t + 6 ≤ L) (hc1 : cells + 1 ≤ room_1.cells) (hs1 : slots + 6 ≤ room_1.slots) (kk : ps_Hd p l e s m args below meth c Q dC dI cI cZ cL A sb h0 q1 q2 q3 b o0 w0 a1 a2 b0 t (cells + 1) (slots + 6) 1028) : ps_Hd p l e s m args below meth c Q dC dI cI cZ cL A sb h0 q1 q2 q3 b o0 w0 a1 a2 b0 t cells slots 780 := by
  obtain ⟨hlt, hx, hb, hml, hown, hT, hN, hE, hZ, hK3, hA, hX, hbl, hbA, hL⟩ := C
  have hK : va_K (dC, dI) vwCl (ps_ty cI cZ) s := hK3.sub [0, 1] rfl
  intro n1 n2 g1 g2 lf le lh cx cy cz pl pw ov th mn kn co ln wr lt f ls H locs hJ hl hP hD hS
  rcases ps_Jkept hJ (xs (6 * t + 1)) (xs (6 * t + 2)) (xs (6 * t + 3)) (xs (6 * t + 4)) (xs (6 * t + 5)) with ⟨k, q, h1, h2, h3, h4, h5, h6, h7, h8, h9, he⟩ | ⟨h1, h2⟩ | ⟨h1, h2, h3, h4, h5, h6, h7, h8, h9⟩
  · skip
    refine lv_aload_n hx hb dL_law_780 rfl (lv_at hl 1 rfl) ?_
    refine lv_aload_n hx hb dL_law_781 rfl (lv_at hl 0 rfl) ?_
    refine lv_iload hx hb dL_law_782 (lv_at hl 4 rfl) ?_
    refine lv_iconst (v := 1) hx hb dL_law_784 (by decide) ?_
    refine lv_iadd hx hb dL_law_785 ?_
    refine ps_sld (j := 6 * t) hx hb hX hbl hbA hS 1 (by decide) (by omega) hL dL_law_786 ?_
    refine lv_aload_n hx hb dL_law_787 rfl (lv_at hl 0 rfl) ?_
    refine lv_iload hx hb dL_law_788 (lv_at hl 4 rfl) ?_
    refine lv_iconst (v := 2) hx hb dL_law_790 (by decide) ?_
    refine lv_iadd hx hb dL_law_791 ?_
    refine ps_sld (j := 6 * t) hx hb hX hbl hbA hS 2 (by decide) (by omega) hL dL_law_792 ?_
    refine lv_aload_n hx hb dL_law_793 rfl (lv_at hl 0 rfl) ?_
    refine lv_iload hx hb dL_law_794 (lv_at hl 4 rfl) ?_
    refine lv_iconst (v := 3) hx hb dL_law_796 (by decide) ?_
    refine lv_iadd hx hb dL_law_797 ?_
    refine ps_sld (j := 6 * t) hx hb hX hbl hbA hS 3 (by decide) (by omega) hL dL_law_798 ?_
    refine lv_aload_n hx hb dL_law_799 rfl (lv_at hl 0 rfl) ?_
    refine lv_iload hx hb dL_law_800 (lv_at hl 4 rfl) ?_
    refine lv_iconst (v := 4) hx hb dL_law_802 (by decide) ?_
    refine lv_iadd hx hb dL_law_803 ?_
    refine ps_sld (j := 6 * t) hx hb hX hbl hbA hS 4 (by decide) (by omega) hL dL_law_804 ?_
    refine lv_aload_n hx hb dL_law_805 rfl (lv_at hl 0 rfl) ?_
    refine lv_iload hx hb dL_law_806 (lv_at hl 4 rfl) ?_
    refine lv_iconst (v := 5) hx hb dL_law_808 (by decide) ?_
    refine lv_iadd hx hb dL_law_809 ?_
    refine ps_sld (j := 6 * t) hx hb hX hbl hbA hS 5 (by decide) (by omega) hL dL_law_810 ?_
    refine lv_aload_n hx hb dL_law_811 rfl (lv_at hl 3 rfl) ?_
    refine ps_cqi (wc := ps_shW h0 q1 q2 q3 cx cy cz pl pw ++ ps_trW cI cZ q1 a1 n1 g1 ++ ps_trW cI cZ q2 a2 n2 g2 ++ ps_lsW cI q3 b lf le lh ++ [(o0, .inl (cL, 1, .inr (.inl ov)))]) (wr := ps_mdW cI cZ w0 b0 th mn kn co ln wr lt f) (w1 := ps_shW h0 q1 q2 q3 cx cy cz pl pw ++ ps_trW cI cZ q1 a1 n1 g1 ++ ps_trW cI cZ q2 a2 n2 g2 ++ ps_lsW cI q3 b lf le lh ++ [(o0, .inl (cL, 1, .inr (.inl (vp_updL ov 0 (g1 0 k).toInt64))))]) (ws2 := ps_shW h0 q1 q2 q3 cx cy cz pl pw ++ ps_trW cI cZ q1 a1 n1 g1 ++ ps_trW cI cZ q2 a2 n2 g2 ++ ps_lsW cI q3 b lf le lh ++ [(o0, .inl (cL, 1, .inr (.inl (vp_updL ov 0 (g1 0 k).toInt64))))] ++ ps_mdW cI cZ w0 b0 th mn kn co ln wr lt f) (vx_runSW (As := [.ref h0, .int (xs (6 * t + 1)), .int (xs (6 * t + 2)), .int (xs (6 * t + 3)), .int (xs (6 * t + 4)), .int (xs (6 * t + 5)), .ref o0]) (rest := []) ⟨hx, hb, hml, hown, hT⟩ (mL_kept_n l hlt dC dI cI cZ h0 q1 q2 q3 b a1 a2 n1 n2 g1 g2 lf le lh cx cy cz pl pw cL o0 ov h1 (xs (6 * t + 1)) (xs (6 * t + 2)) (xs (6 * t + 3)) (xs (6 * t + 4)) (xs (6 * t + 5)) h2 k h3 _) (vx_cwSW 7 hT (ps_gSW tw_ml_L_104 tw_st_L_kept tw_in_L tw_cw_L_kept) rfl rfl rfl ⟨by decide, by decide, by decide +kernel⟩ ⟨Nat.le_of_ble_eq_true rfl, Nat.le_of_ble_eq_true rfl⟩) (ps_xreS (wc := ps_shW h0 q1 q2 q3 cx cy cz pl pw ++ ps_trW cI cZ q1 a1 n1 g1 ++ ps_trW cI cZ q2 a2 n2 g2 ++ ps_lsW cI q3 b lf le lh ++ [(o0, .inl (cL, 1, .inr (.inl ov)))]) [0, 1, 2, 3, 4, 5, 6, 7, 8, 9, 10, 11, 12, 13, 14, 15, 16, 17, 18, 19, 20, 21] hN hE hZ hS hA hP hK3 hD rfl rfl rfl) rfl rfl hl.1 rfl (lv_room (Nat.le_of_ble_eq_true rfl)) dL_law_812 ⟨hc1, hs1⟩) hS hA hP hD [0, 1, 2, 3, 4, 5, 6, 7, 8, 9, 10, 11, 12, 13, 14, 15, 16, 17, 18, 19, 20, 21] [22, 23, 24, 25, 26, 27, 28, 29, 30, 31, 32] [11, 12, 13, 14, 15, 16, 17, 18, 19, 20, 21, 22, 23, 24, 25, 26, 27, 28, 29, 30, 31, 32, 0, 1, 2, 3, 4, 5, 6, 7, 8, 9, 10] rfl rfl rfl (by decide) rfl rfl rfl (fun H locs hP hD hS => ?_)
    have hP : va_P (dC, dI) vwCl (ps_shW h0 q1 q2 q3 cx cy cz pl pw ++ ps_trW cI cZ q1 a1 n1 g1 ++ ps_trW cI cZ q2 a2 n2 g2 ++ ps_lsW cI q3 b lf le lh ++ [(o0, .inl (cL, 1, .inr (.inl (vp_updL ov 0 (g1 0 k).toInt64))))] ++ ps_mdW cI cZ w0 b0 th mn kn co ln wr lt f) H := hP
    have hD : va_D A (ps_shW h0 q1 q2 q3 cx cy cz pl pw ++ ps_trW cI cZ q1 a1 n1 g1 ++ ps_trW cI cZ q2 a2 n2 g2 ++ ps_lsW cI q3 b lf le lh ++ [(o0, .inl (cL, 1, .inr (.inl (vp_updL ov 0 (g1 0 k).toInt64))))] ++ ps_mdW cI cZ w0 b0 th mn kn co ln wr lt f) := hD
    refine lv_istore (lv' := [(5, .int 0), (0, .ref sb), (1, .ref h0), (2, .ref w0), (3, .ref o0), (4, .int (nI (6 * t)))]) hx hb dL_law_815 hl (by decide) rfl (fun ls hl => ?_)
    refine lv_aload_n hx hb dL_law_817 rfl (lv_at hl 3 rfl) ?_
    refine lv_aload_n hx hb dL_law_818 rfl (lv_at hl 1 rfl) ?_
    refine lv_iload hx hb dL_law_819 (lv_at hl 5 rfl) ?_
    refine lv_iconst (v := 1) hx hb dL_law_821 (by decide) ?_
    refine lv_iadd hx hb dL_law_822 ?_
    refine ps_sld (j := 6 * t) hx hb hX hbl hbA hS 1 (by decide) (by omega) hL dL_law_823 ?_
    refine lv_aload_n hx hb dL_law_824 rfl (lv_at hl 1 rfl) ?_
    refine lv_iload hx hb dL_law_825 (lv_at hl 5 rfl) ?_
    refine lv_iconst (v := 2) hx hb dL_law_827 (by decide) ?_
    refine lv_iadd hx hb dL_law_828 ?_
    refine ps_sld (j := 6 * t) hx hb hX hbl hbA hS 2 (by decide) (by omega) hL dL_law_829 ?_
    refine lv_aload_n hx hb dL_law_830 rfl (lv_at hl 1 rfl) ?_
    refine lv_iload hx hb dL_law_831 (lv_at hl 5 rfl) ?_
    refine lv_iconst (v := 3) hx hb dL_law_833 (by decide) ?_
    refine lv_iadd hx hb dL_law_834 ?_
    refine ps_sld (j := 6 * t) hx hb hX hbl hbA hS 3 (by decide) (by omega) hL dL_law_835 ?_
    refine lv_aload_n hx hb dL_law_836 rfl (lv_at hl 1 rfl) ?_
    refine lv_iload hx hb dL_law_837 (lv_at hl 5 rfl) ?_
    refine lv_iconst (v := 4) hx hb dL_law_839 (by decide) ?_
    refine lv_iadd hx hb dL_law_840 ?_
    refine ps_sld (j := 6 * t) hx hb hX hbl hbA hS 4 (by decide) (by omega) hL dL_law_841 ?_
    refine lv_aload_n hx hb dL_law_842 rfl (lv_at hl 1 rfl) ?_
    refine lv_iload hx hb dL_law_843 (lv_at hl 5 rfl) ?_
    refine lv_iconst (v := 5) hx hb dL_law_845 (by decide) ?_
    refine lv_iadd hx hb dL_law_846 ?_
    refine ps_sld (j := 6 * t) hx hb hX hbl hbA hS 5 (by decide) (by omega) hL dL_law_847 ?_
    refine ps_cqi (wc := ps_mdW cI cZ w0 b0 th mn kn co ln wr lt f) (wr := ps_shW h0 q1 q2 q3 cx cy cz pl pw ++ ps_trW cI cZ q1 a1 n1 g1 ++ ps_trW cI cZ q2 a2 n2 g2 ++ ps_lsW cI q3 b lf le lh ++ [(o0, .inl (cL, 1, .inr (.inl (vp_updL ov 0 (g1 0 k).toInt64))))]) (w1 := ps_mdW cI cZ w0 b0 0 mn kn co ln wr lt f) (ws2 := ps_shW h0 q1 q2 q3 cx cy cz pl pw ++ ps_trW cI cZ q1 a1 n1 g1 ++ ps_trW cI cZ q2 a2 n2 g2 ++ ps_lsW cI q3 b lf le lh ++ [(o0, .inl (cL, 1, .inr (.inl (vp_updL ov 0 (g1 0 k).toInt64))))] ++ ps_mdW cI cZ w0 b0 0 mn kn co ln wr lt f) (va_runV (C := RX3) (As := [.int (xs (6 * t + 1)), .int (xs (6 * t + 2)), .int (xs (6 * t + 3)), .int (xs (6 * t + 4)), .int (xs (6 * t + 5))]) (rest := []) ⟨hx, hb, hml, hown, hT⟩ (mX3_kept_n l dC dI cI cZ w0 b0 th mn kn co ln wr lt f h4 (xs (6 * t + 1)) (xs (6 * t + 2)) (xs (6 * t + 3)) (xs (6 * t + 4)) (xs (6 * t + 5)) h5 h6 h7 h8 q h9 _) (cwV 5 hT (ps_gV tw_ml_L_106 tw_im_X3_kept tw_se_X3_kept tw_in_X3 tw_co_X3_kept) rfl rfl rfl ⟨rfl, by decide, by decide, by decide +kernel⟩ ⟨Nat.le_of_ble_eq_true rfl, Nat.le_of_ble_eq_true rfl⟩) (ps_qreV (wc := ps_mdW cI cZ w0 b0 th mn kn co ln wr lt f) (ci := 3) [22, 23, 24, 25, 26, 27, 28, 29, 30, 31, 32] hN hP hK hD rfl rfl rfl rfl rfl) rfl rfl hl.1 rfl (lv_room (Nat.le_of_ble_eq_true rfl)) dL_law_848 ⟨hc1, hs1⟩) hS hA hP hD [22, 23, 24, 25, 26, 27, 28, 29, 30, 31, 32] [0, 1, 2, 3, 4, 5, 6, 7, 8, 9, 10, 11, 12, 13, 14, 15, 16, 17, 18, 19, 20, 21] [0, 1, 2, 3, 4, 5, 6, 7, 8, 9, 10, 11, 12, 13, 14, 15, 16, 17, 18, 19, 20, 21, 22, 23, 24, 25, 26, 27, 28, 29, 30, 31, 32] rfl rfl rfl (by decide) rfl rfl rfl (fun H locs hP hD hS => ?_)
    have hP : va_P (dC, dI) vwCl (ps_shW h0 q1 q2 q3 cx cy cz pl pw ++ ps_trW cI cZ q1 a1 n1 g1 ++ ps_trW cI cZ q2 a2 n2 g2 ++ ps_lsW cI q3 b lf le lh ++ [(o0, .inl (cL, 1, .inr (.inl (vp_updL ov 0 (g1 0 k).toInt64))))] ++ ps_mdW cI cZ w0 b0 0 mn kn co ln wr lt f) H := hP
    have hD : va_D A (ps_shW h0 q1 q2 q3 cx cy cz pl pw ++ ps_trW cI cZ q1 a1 n1 g1 ++ ps_trW cI cZ q2 a2 n2 g2 ++ ps_lsW cI q3 b lf le lh ++ [(o0, .inl (cL, 1, .inr (.inl (vp_updL ov 0 (g1 0 k).toInt64))))] ++ ps_mdW cI cZ w0 b0 0 mn kn co ln wr lt f) := hD
    refine lv_istore (lv' := [(6, .int (f 0 q)), (5, .int 0), (0, .ref sb), (1, .ref h0), (2, .ref w0), (3, .ref o0), (4, .int (nI (6 * t)))]) hx hb dL_law_851 hl (by decide) rfl (fun ls hl => ?_)
    refine lv_aload_n hx hb dL_law_853 rfl (lv_at hl 4 rfl) ?_
    refine vp_callSi (va_Run.run (va_runV (C := RX3) (As := []) (rest := []) ⟨hx, hb, hml, hown, hT⟩ (mX3_thrown l dC dI cI cZ w0 b0 0 mn kn co ln wr lt f) (cwV 0 hT (ps_gV tw_ml_L_71 tw_im_X3_thrown tw_se_X3_thrown tw_in_X3 tw_co_X3_thrown) rfl rfl rfl ⟨rfl, by decide, by decide, by decide +kernel⟩ ⟨Nat.le_of_ble_eq_true rfl, Nat.le_of_ble_eq_true rfl⟩) (ps_preV (ci := 3) (q0 := 0) hN (hP.sub (ws' := ps_mdW cI cZ w0 b0 0 mn kn co ln wr lt f) [22, 23, 24, 25, 26, 27, 28, 29, 30, 31, 32] rfl) hK rfl rfl) rfl rfl hl.1 rfl (lv_room (Nat.le_of_ble_eq_true rfl)) dL_law_854 ⟨hc1, hs1⟩)) (fun r hr9 => ?_)
    obtain rfl : r = 0 := hr9
    refine lv_iload hx hb dL_law_857 (lv_at hl 1 rfl) ?_
    refine lv_icmp_eq (tgt := 864) hx hb dL_law_859 rfl (fun h859 => ?_) (fun h859 => ?_)
    · skip
      refine lv_iload hx hb dL_law_864 (lv_at hl 1 rfl) ?_
      refine lv_if_ne (tgt := 881) hx hb dL_law_866 rfl (fun h866 => ?_) (fun h866 => ?_)
      · skip
        exact absurd rfl h866
      · skip
        refine lv_aload_n hx hb dL_law_869 rfl (lv_at hl 5 rfl) ?_
        refine lv_iconst (v := 0) hx hb dL_law_870 (by decide) ?_
        refine va_lald hx hb hK3 hP 21 2 rfl rfl (by unfold vp_in; decide) dL_law_871 ?_
        refine lv_iload hx hb dL_law_872 (lv_at hl 0 rfl) ?_
        refine lv_i2l (v := (f 0 q).toInt64) hx hb dL_law_874 rfl ?_
        refine W.lcmp hx hb dL_law_875 ?_
        refine lv_if_eq (tgt := 881) hx hb dL_law_876 rfl (fun h876 => ?_) (fun h876 => ?_)
        · skip
          refine lv_goto (tgt := 1028) hx hb dL_law_881 rfl ?_
          refine W.widen (k := cells + 1) (n := slots + 6) (Nat.le_refl _) (Nat.le_refl _) ?_
          exact kk _ _ _ _ _ _ _ _ _ _ _ _ _ _ _ _ _ _ _ _ _ _ _ _ hJ (lv_sub hl [2, 3, 4, 5, 6] rfl) hP hD hS
        · skip
          exact absurd (ps_lz he) h876
    · skip
      exact absurd rfl h859
  · skip
    refine lv_aload_n hx hb dL_law_780 rfl (lv_at hl 1 rfl) ?_
    refine lv_aload_n hx hb dL_law_781 rfl (lv_at hl 0 rfl) ?_
    refine lv_iload hx hb dL_law_782 (lv_at hl 4 rfl) ?_
    refine lv_iconst (v := 1) hx hb dL_law_784 (by decide) ?_
    refine lv_iadd hx hb dL_law_785 ?_
    refine ps_sld (j := 6 * t) hx hb hX hbl hbA hS 1 (by decide) (by omega) hL dL_law_786 ?_
    refine lv_aload_n hx hb dL_law_787 rfl (lv_at hl 0 rfl) ?_
    refine lv_iload hx hb dL_law_788 (lv_at hl 4 rfl) ?_
    refine lv_iconst (v := 2) hx hb dL_law_790 (by decide) ?_
    refine lv_iadd hx hb dL_law_791 ?_
    refine ps_sld (j := 6 * t) hx hb hX hbl hbA hS 2 (by decide) (by omega) hL dL_law_792 ?_
    refine lv_aload_n hx hb dL_law_793 rfl (lv_at hl 0 rfl) ?_
    refine lv_iload hx hb dL_law_794 (lv_at hl 4 rfl) ?_
    refine lv_iconst (v := 3) hx hb dL_law_796 (by decide) ?_
    refine lv_iadd hx hb dL_law_797 ?_
    refine ps_sld (j := 6 * t) hx hb hX hbl hbA hS 3 (by decide) (by omega) hL dL_law_798 ?_
    refine lv_aload_n hx hb dL_law_799 rfl (lv_at hl 0 rfl) ?_
    refine lv_iload hx hb dL_law_800 (lv_at hl 4 rfl) ?_
    refine lv_iconst (v := 4) hx hb dL_law_802 (by decide) ?_
    refine lv_iadd hx hb dL_law_803 ?_
    refine ps_sld (j := 6 * t) hx hb hX hbl hbA hS 4 (by decide) (by omega) hL dL_law_804 ?_
    refine lv_aload_n hx hb dL_law_805 rfl (lv_at hl 0 rfl) ?_
    refine lv_iload hx hb dL_law_806 (lv_at hl 4 rfl) ?_
    refine lv_iconst (v := 5) hx hb dL_law_808 (by decide) ?_
    refine lv_iadd hx hb dL_law_809 ?_
    refine ps_sld (j := 6 * t) hx hb hX hbl hbA hS 5 (by decide) (by omega) hL dL_law_810 ?_
    refine lv_aload_n hx hb dL_law_811 rfl (lv_at hl 3 rfl) ?_
    refine ps_cqi (wc := ps_shW h0 q1 q2 q3 cx cy cz pl pw ++ ps_trW cI cZ q1 a1 n1 g1 ++ ps_trW cI cZ q2 a2 n2 g2 ++ ps_lsW cI q3 b lf le lh ++ [(o0, .inl (cL, 1, .inr (.inl ov)))]) (wr := ps_mdW cI cZ w0 b0 th mn kn co ln wr lt f) (w1 := ps_shW h0 q1 q2 q3 cx cy cz pl pw ++ ps_trW cI cZ q1 a1 n1 g1 ++ ps_trW cI cZ q2 a2 n2 g2 ++ ps_lsW cI q3 b lf le lh ++ [(o0, .inl (cL, 1, .inr (.inl ov)))]) (ws2 := ps_shW h0 q1 q2 q3 cx cy cz pl pw ++ ps_trW cI cZ q1 a1 n1 g1 ++ ps_trW cI cZ q2 a2 n2 g2 ++ ps_lsW cI q3 b lf le lh ++ [(o0, .inl (cL, 1, .inr (.inl ov)))] ++ ps_mdW cI cZ w0 b0 th mn kn co ln wr lt f) (vx_runSW (As := [.ref h0, .int (xs (6 * t + 1)), .int (xs (6 * t + 2)), .int (xs (6 * t + 3)), .int (xs (6 * t + 4)), .int (xs (6 * t + 5)), .ref o0]) (rest := []) ⟨hx, hb, hml, hown, hT⟩ (mL_kept_x1 l hlt dC dI cI cZ h0 q1 q2 q3 b a1 a2 n1 n2 g1 g2 lf le lh cx cy cz pl pw cL o0 ov (xs (6 * t + 1)) (xs (6 * t + 2)) (xs (6 * t + 3)) (xs (6 * t + 4)) (xs (6 * t + 5)) h1 _) (vx_cwSW 7 hT (ps_gSW tw_ml_L_104 tw_st_L_kept tw_in_L tw_cw_L_kept) rfl rfl rfl ⟨by decide, by decide, by decide +kernel⟩ ⟨Nat.le_of_ble_eq_true rfl, Nat.le_of_ble_eq_true rfl⟩) (ps_xreS (wc := ps_shW h0 q1 q2 q3 cx cy cz pl pw ++ ps_trW cI cZ q1 a1 n1 g1 ++ ps_trW cI cZ q2 a2 n2 g2 ++ ps_lsW cI q3 b lf le lh ++ [(o0, .inl (cL, 1, .inr (.inl ov)))]) [0, 1, 2, 3, 4, 5, 6, 7, 8, 9, 10, 11, 12, 13, 14, 15, 16, 17, 18, 19, 20, 21] hN hE hZ hS hA hP hK3 hD rfl rfl rfl) rfl rfl hl.1 rfl (lv_room (Nat.le_of_ble_eq_true rfl)) dL_law_812 ⟨hc1, hs1⟩) hS hA hP hD [0, 1, 2, 3, 4, 5, 6, 7, 8, 9, 10, 11, 12, 13, 14, 15, 16, 17, 18, 19, 20, 21] [22, 23, 24, 25, 26, 27, 28, 29, 30, 31, 32] [11, 12, 13, 14, 15, 16, 17, 18, 19, 20, 21, 22, 23, 24, 25, 26, 27, 28, 29, 30, 31, 32, 0, 1, 2, 3, 4, 5, 6, 7, 8, 9, 10] rfl rfl rfl (by decide) rfl rfl rfl (fun H locs hP hD hS => ?_)
    have hP : va_P (dC, dI) vwCl (ps_shW h0 q1 q2 q3 cx cy cz pl pw ++ ps_trW cI cZ q1 a1 n1 g1 ++ ps_trW cI cZ q2 a2 n2 g2 ++ ps_lsW cI q3 b lf le lh ++ [(o0, .inl (cL, 1, .inr (.inl ov)))] ++ ps_mdW cI cZ w0 b0 th mn kn co ln wr lt f) H := hP
    have hD : va_D A (ps_shW h0 q1 q2 q3 cx cy cz pl pw ++ ps_trW cI cZ q1 a1 n1 g1 ++ ps_trW cI cZ q2 a2 n2 g2 ++ ps_lsW cI q3 b lf le lh ++ [(o0, .inl (cL, 1, .inr (.inl ov)))] ++ ps_mdW cI cZ w0 b0 th mn kn co ln wr lt f) := hD
    refine lv_istore (lv' := [(5, .int 1), (0, .ref sb), (1, .ref h0), (2, .ref w0), (3, .ref o0), (4, .int (nI (6 * t)))]) hx hb dL_law_815 hl (by decide) rfl (fun ls hl => ?_)
    refine lv_aload_n hx hb dL_law_817 rfl (lv_at hl 3 rfl) ?_
    refine lv_aload_n hx hb dL_law_818 rfl (lv_at hl 1 rfl) ?_
    refine lv_iload hx hb dL_law_819 (lv_at hl 5 rfl) ?_
    refine lv_iconst (v := 1) hx hb dL_law_821 (by decide) ?_
    refine lv_iadd hx hb dL_law_822 ?_
    refine ps_sld (j := 6 * t) hx hb hX hbl hbA hS 1 (by decide) (by omega) hL dL_law_823 ?_
    refine lv_aload_n hx hb dL_law_824 rfl (lv_at hl 1 rfl) ?_
    refine lv_iload hx hb dL_law_825 (lv_at hl 5 rfl) ?_
    refine lv_iconst (v := 2) hx hb dL_law_827 (by decide) ?_
    refine lv_iadd hx hb dL_law_828 ?_
    refine ps_sld (j := 6 * t) hx hb hX hbl hbA hS 2 (by decide) (by omega) hL dL_law_829 ?_
    refine lv_aload_n hx hb dL_law_830 rfl (lv_at hl 1 rfl) ?_
    refine lv_iload hx hb dL_law_831 (lv_at hl 5 rfl) ?_
    refine lv_iconst (v := 3) hx hb dL_law_833 (by decide) ?_
    refine lv_iadd hx hb dL_law_834 ?_
    refine ps_sld (j := 6 * t) hx hb hX hbl hbA hS 3 (by decide) (by omega) hL dL_law_835 ?_
    refine lv_aload_n hx hb dL_law_836 rfl (lv_at hl 1 rfl) ?_
    refine lv_iload hx hb dL_law_837 (lv_at hl 5 rfl) ?_
    refine lv_iconst (v := 4) hx hb dL_law_839 (by decide) ?_
    refine lv_iadd hx hb dL_law_840 ?_
    refine ps_sld (j := 6 * t) hx hb hX hbl hbA hS 4 (by decide) (by omega) hL dL_law_841 ?_
    refine lv_aload_n hx hb dL_law_842 rfl (lv_at hl 1 rfl) ?_
    refine lv_iload hx hb dL_law_843 (lv_at hl 5 rfl) ?_
    refine lv_iconst (v := 5) hx hb dL_law_845 (by decide) ?_
    refine lv_iadd hx hb dL_law_846 ?_
    refine ps_sld (j := 6 * t) hx hb hX hbl hbA hS 5 (by decide) (by omega) hL dL_law_847 ?_
    refine ps_cqi (wc := ps_mdW cI cZ w0 b0 th mn kn co ln wr lt f) (wr := ps_shW h0 q1 q2 q3 cx cy cz pl pw ++ ps_trW cI cZ q1 a1 n1 g1 ++ ps_trW cI cZ q2 a2 n2 g2 ++ ps_lsW cI q3 b lf le lh ++ [(o0, .inl (cL, 1, .inr (.inl ov)))]) (w1 := ps_mdW cI cZ w0 b0 1 mn kn co ln wr lt f) (ws2 := ps_shW h0 q1 q2 q3 cx cy cz pl pw ++ ps_trW cI cZ q1 a1 n1 g1 ++ ps_trW cI cZ q2 a2 n2 g2 ++ ps_lsW cI q3 b lf le lh ++ [(o0, .inl (cL, 1, .inr (.inl ov)))] ++ ps_mdW cI cZ w0 b0 1 mn kn co ln wr lt f) (va_runV (C := RX3) (As := [.int (xs (6 * t + 1)), .int (xs (6 * t + 2)), .int (xs (6 * t + 3)), .int (xs (6 * t + 4)), .int (xs (6 * t + 5))]) (rest := []) ⟨hx, hb, hml, hown, hT⟩ (mX3_kept_1 l dC dI cI cZ w0 b0 th mn kn co ln wr lt f (xs (6 * t + 1)) (xs (6 * t + 2)) (xs (6 * t + 3)) (xs (6 * t + 4)) (xs (6 * t + 5)) h2 _) (cwV 5 hT (ps_gV tw_ml_L_106 tw_im_X3_kept tw_se_X3_kept tw_in_X3 tw_co_X3_kept) rfl rfl rfl ⟨rfl, by decide, by decide, by decide +kernel⟩ ⟨Nat.le_of_ble_eq_true rfl, Nat.le_of_ble_eq_true rfl⟩) (ps_qreV (wc := ps_mdW cI cZ w0 b0 th mn kn co ln wr lt f) (ci := 3) [22, 23, 24, 25, 26, 27, 28, 29, 30, 31, 32] hN hP hK hD rfl rfl rfl rfl rfl) rfl rfl hl.1 rfl (lv_room (Nat.le_of_ble_eq_true rfl)) dL_law_848 ⟨hc1, hs1⟩) hS hA hP hD [22, 23, 24, 25, 26, 27, 28, 29, 30, 31, 32] [0, 1, 2, 3, 4, 5, 6, 7, 8, 9, 10, 11, 12, 13, 14, 15, 16, 17, 18, 19, 20, 21] [0, 1, 2, 3, 4, 5, 6, 7, 8, 9, 10, 11, 12, 13, 14, 15, 16, 17, 18, 19, 20, 21, 22, 23, 24, 25, 26, 27, 28, 29, 30, 31, 32] rfl rfl rfl (by decide) rfl rfl rfl (fun H locs hP hD hS => ?_)
    have hP : va_P (dC, dI) vwCl (ps_shW h0 q1 q2 q3 cx cy cz pl pw ++ ps_trW cI cZ q1 a1 n1 g1 ++ ps_trW cI cZ q2 a2 n2 g2 ++ ps_lsW cI q3 b lf le lh ++ [(o0, .inl (cL, 1, .inr (.inl ov)))] ++ ps_mdW cI cZ w0 b0 1 mn kn co ln wr lt f) H := hP
    have hD : va_D A (ps_shW h0 q1 q2 q3 cx cy cz pl pw ++ ps_trW cI cZ q1 a1 n1 g1 ++ ps_trW cI cZ q2 a2 n2 g2 ++ ps_lsW cI q3 b lf le lh ++ [(o0, .inl (cL, 1, .inr (.inl ov)))] ++ ps_mdW cI cZ w0 b0 1 mn kn co ln wr lt f) := hD
    refine lv_istore (lv' := [(6, .int 0), (5, .int 1), (0, .ref sb), (1, .ref h0), (2, .ref w0), (3, .ref o0), (4, .int (nI (6 * t)))]) hx hb dL_law_851 hl (by decide) rfl (fun ls hl => ?_)
    refine lv_aload_n hx hb dL_law_853 rfl (lv_at hl 4 rfl) ?_
    refine vp_callSi (va_Run.run (va_runV (C := RX3) (As := []) (rest := []) ⟨hx, hb, hml, hown, hT⟩ (mX3_thrown l dC dI cI cZ w0 b0 1 mn kn co ln wr lt f) (cwV 0 hT (ps_gV tw_ml_L_71 tw_im_X3_thrown tw_se_X3_thrown tw_in_X3 tw_co_X3_thrown) rfl rfl rfl ⟨rfl, by decide, by decide, by decide +kernel⟩ ⟨Nat.le_of_ble_eq_true rfl, Nat.le_of_ble_eq_true rfl⟩) (ps_preV (ci := 3) (q0 := 0) hN (hP.sub (ws' := ps_mdW cI cZ w0 b0 1 mn kn co ln wr lt f) [22, 23, 24, 25, 26, 27, 28, 29, 30, 31, 32] rfl) hK rfl rfl) rfl rfl hl.1 rfl (lv_room (Nat.le_of_ble_eq_true rfl)) dL_law_854 ⟨hc1, hs1⟩)) (fun r hr9 => ?_)
    obtain rfl : r = 1 := hr9
    refine lv_iload hx hb dL_law_857 (lv_at hl 1 rfl) ?_
    refine lv_icmp_eq (tgt := 864) hx hb dL_law_859 rfl (fun h859 => ?_) (fun h859 => ?_)
    · skip
      refine lv_iload hx hb dL_law_864 (lv_at hl 1 rfl) ?_
      refine lv_if_ne (tgt := 881) hx hb dL_law_866 rfl (fun h866 => ?_) (fun h866 => ?_)
      · skip
        refine lv_goto (tgt := 1028) hx hb dL_law_881 rfl ?_
        refine W.widen (k := cells + 1) (n := slots + 6) (Nat.le_refl _) (Nat.le_refl _) ?_
        exact kk _ _ _ _ _ _ _ _ _ _ _ _ _ _ _ _ _ _ _ _ _ _ _ _ hJ (lv_sub hl [2, 3, 4, 5, 6] rfl) hP hD hS
      · skip
        exact absurd h866 (by decide)
    · skip
      exact absurd rfl h859
  · skip
    refine lv_aload_n hx hb dL_law_780 rfl (lv_at hl 1 rfl) ?_
    refine lv_aload_n hx hb dL_law_781 rfl (lv_at hl 0 rfl) ?_
    refine lv_iload hx hb dL_law_782 (lv_at hl 4 rfl) ?_
    refine lv_iconst (v := 1) hx hb dL_law_784 (by decide) ?_
    refine lv_iadd hx hb dL_law_785 ?_
    refine ps_sld (j := 6 * t) hx hb hX hbl hbA hS 1 (by decide) (by omega) hL dL_law_786 ?_
    refine lv_aload_n hx hb dL_law_787 rfl (lv_at hl 0 rfl) ?_
    refine lv_iload hx hb dL_law_788 (lv_at hl 4 rfl) ?_
    refine lv_iconst (v := 2) hx hb dL_law_790 (by decide) ?_
    refine lv_iadd hx hb dL_law_791 ?_
    refine ps_sld (j := 6 * t) hx hb hX hbl hbA hS 2 (by decide) (by omega) hL dL_law_792 ?_
    refine lv_aload_n hx hb dL_law_793 rfl (lv_at hl 0 rfl) ?_
    refine lv_iload hx hb dL_law_794 (lv_at hl 4 rfl) ?_
    refine lv_iconst (v := 3) hx hb dL_law_796 (by decide) ?_
    refine lv_iadd hx hb dL_law_797 ?_
    refine ps_sld (j := 6 * t) hx hb hX hbl hbA hS 3 (by decide) (by omega) hL dL_law_798 ?_
    refine lv_aload_n hx hb dL_law_799 rfl (lv_at hl 0 rfl) ?_
    refine lv_iload hx hb dL_law_800 (lv_at hl 4 rfl) ?_
    refine lv_iconst (v := 4) hx hb dL_law_802 (by decide) ?_
    refine lv_iadd hx hb dL_law_803 ?_
    refine ps_sld (j := 6 * t) hx hb hX hbl hbA hS 4 (by decide) (by omega) hL dL_law_804 ?_
    refine lv_aload_n hx hb dL_law_805 rfl (lv_at hl 0 rfl) ?_
    refine lv_iload hx hb dL_law_806 (lv_at hl 4 rfl) ?_
    refine lv_iconst (v := 5) hx hb dL_law_808 (by decide) ?_
    refine lv_iadd hx hb dL_law_809 ?_
    refine ps_sld (j := 6 * t) hx hb hX hbl hbA hS 5 (by decide) (by omega) hL dL_law_810 ?_
    refine lv_aload_n hx hb dL_law_811 rfl (lv_at hl 3 rfl) ?_
    refine ps_cqi (wc := ps_shW h0 q1 q2 q3 cx cy cz pl pw ++ ps_trW cI cZ q1 a1 n1 g1 ++ ps_trW cI cZ q2 a2 n2 g2 ++ ps_lsW cI q3 b lf le lh ++ [(o0, .inl (cL, 1, .inr (.inl ov)))]) (wr := ps_mdW cI cZ w0 b0 th mn kn co ln wr lt f) (w1 := ps_shW h0 q1 q2 q3 cx cy cz pl pw ++ ps_trW cI cZ q1 a1 n1 g1 ++ ps_trW cI cZ q2 a2 n2 g2 ++ ps_lsW cI q3 b lf le lh ++ [(o0, .inl (cL, 1, .inr (.inl ov)))]) (ws2 := ps_shW h0 q1 q2 q3 cx cy cz pl pw ++ ps_trW cI cZ q1 a1 n1 g1 ++ ps_trW cI cZ q2 a2 n2 g2 ++ ps_lsW cI q3 b lf le lh ++ [(o0, .inl (cL, 1, .inr (.inl ov)))] ++ ps_mdW cI cZ w0 b0 th mn kn co ln wr lt f) (vx_runSW (As := [.ref h0, .int (xs (6 * t + 1)), .int (xs (6 * t + 2)), .int (xs (6 * t + 3)), .int (xs (6 * t + 4)), .int (xs (6 * t + 5)), .ref o0]) (rest := []) ⟨hx, hb, hml, hown, hT⟩ (mL_kept_x2 l hlt dC dI cI cZ h0 q1 q2 q3 b a1 a2 n1 n2 g1 g2 lf le lh cx cy cz pl pw cL o0 ov h1 (xs (6 * t + 1)) (xs (6 * t + 2)) (xs (6 * t + 3)) (xs (6 * t + 4)) (xs (6 * t + 5)) h2 h3 _) (vx_cwSW 7 hT (ps_gSW tw_ml_L_104 tw_st_L_kept tw_in_L tw_cw_L_kept) rfl rfl rfl ⟨by decide, by decide, by decide +kernel⟩ ⟨Nat.le_of_ble_eq_true rfl, Nat.le_of_ble_eq_true rfl⟩) (ps_xreS (wc := ps_shW h0 q1 q2 q3 cx cy cz pl pw ++ ps_trW cI cZ q1 a1 n1 g1 ++ ps_trW cI cZ q2 a2 n2 g2 ++ ps_lsW cI q3 b lf le lh ++ [(o0, .inl (cL, 1, .inr (.inl ov)))]) [0, 1, 2, 3, 4, 5, 6, 7, 8, 9, 10, 11, 12, 13, 14, 15, 16, 17, 18, 19, 20, 21] hN hE hZ hS hA hP hK3 hD rfl rfl rfl) rfl rfl hl.1 rfl (lv_room (Nat.le_of_ble_eq_true rfl)) dL_law_812 ⟨hc1, hs1⟩) hS hA hP hD [0, 1, 2, 3, 4, 5, 6, 7, 8, 9, 10, 11, 12, 13, 14, 15, 16, 17, 18, 19, 20, 21] [22, 23, 24, 25, 26, 27, 28, 29, 30, 31, 32] [11, 12, 13, 14, 15, 16, 17, 18, 19, 20, 21, 22, 23, 24, 25, 26, 27, 28, 29, 30, 31, 32, 0, 1, 2, 3, 4, 5, 6, 7, 8, 9, 10] rfl rfl rfl (by decide) rfl rfl rfl (fun H locs hP hD hS => ?_)
    have hP : va_P (dC, dI) vwCl (ps_shW h0 q1 q2 q3 cx cy cz pl pw ++ ps_trW cI cZ q1 a1 n1 g1 ++ ps_trW cI cZ q2 a2 n2 g2 ++ ps_lsW cI q3 b lf le lh ++ [(o0, .inl (cL, 1, .inr (.inl ov)))] ++ ps_mdW cI cZ w0 b0 th mn kn co ln wr lt f) H := hP
    have hD : va_D A (ps_shW h0 q1 q2 q3 cx cy cz pl pw ++ ps_trW cI cZ q1 a1 n1 g1 ++ ps_trW cI cZ q2 a2 n2 g2 ++ ps_lsW cI q3 b lf le lh ++ [(o0, .inl (cL, 1, .inr (.inl ov)))] ++ ps_mdW cI cZ w0 b0 th mn kn co ln wr lt f) := hD
    refine lv_istore (lv' := [(5, .int 2), (0, .ref sb), (1, .ref h0), (2, .ref w0), (3, .ref o0), (4, .int (nI (6 * t)))]) hx hb dL_law_815 hl (by decide) rfl (fun ls hl => ?_)
    refine lv_aload_n hx hb dL_law_817 rfl (lv_at hl 3 rfl) ?_
    refine lv_aload_n hx hb dL_law_818 rfl (lv_at hl 1 rfl) ?_
    refine lv_iload hx hb dL_law_819 (lv_at hl 5 rfl) ?_
    refine lv_iconst (v := 1) hx hb dL_law_821 (by decide) ?_
    refine lv_iadd hx hb dL_law_822 ?_
    refine ps_sld (j := 6 * t) hx hb hX hbl hbA hS 1 (by decide) (by omega) hL dL_law_823 ?_
    refine lv_aload_n hx hb dL_law_824 rfl (lv_at hl 1 rfl) ?_
    refine lv_iload hx hb dL_law_825 (lv_at hl 5 rfl) ?_
    refine lv_iconst (v := 2) hx hb dL_law_827 (by decide) ?_
    refine lv_iadd hx hb dL_law_828 ?_
    refine ps_sld (j := 6 * t) hx hb hX hbl hbA hS 2 (by decide) (by omega) hL dL_law_829 ?_
    refine lv_aload_n hx hb dL_law_830 rfl (lv_at hl 1 rfl) ?_
    refine lv_iload hx hb dL_law_831 (lv_at hl 5 rfl) ?_
    refine lv_iconst (v := 3) hx hb dL_law_833 (by decide) ?_
    refine lv_iadd hx hb dL_law_834 ?_
    refine ps_sld (j := 6 * t) hx hb hX hbl hbA hS 3 (by decide) (by omega) hL dL_law_835 ?_
    refine lv_aload_n hx hb dL_law_836 rfl (lv_at hl 1 rfl) ?_
    refine lv_iload hx hb dL_law_837 (lv_at hl 5 rfl) ?_
    refine lv_iconst (v := 4) hx hb dL_law_839 (by decide) ?_
    refine lv_iadd hx hb dL_law_840 ?_
    refine ps_sld (j := 6 * t) hx hb hX hbl hbA hS 4 (by decide) (by omega) hL dL_law_841 ?_
    refine lv_aload_n hx hb dL_law_842 rfl (lv_at hl 1 rfl) ?_
    refine lv_iload hx hb dL_law_843 (lv_at hl 5 rfl) ?_
    refine lv_iconst (v := 5) hx hb dL_law_845 (by decide) ?_
    refine lv_iadd hx hb dL_law_846 ?_
    refine ps_sld (j := 6 * t) hx hb hX hbl hbA hS 5 (by decide) (by omega) hL dL_law_847 ?_
    refine ps_cqi (wc := ps_mdW cI cZ w0 b0 th mn kn co ln wr lt f) (wr := ps_shW h0 q1 q2 q3 cx cy cz pl pw ++ ps_trW cI cZ q1 a1 n1 g1 ++ ps_trW cI cZ q2 a2 n2 g2 ++ ps_lsW cI q3 b lf le lh ++ [(o0, .inl (cL, 1, .inr (.inl ov)))]) (w1 := ps_mdW cI cZ w0 b0 2 mn kn co ln wr lt f) (ws2 := ps_shW h0 q1 q2 q3 cx cy cz pl pw ++ ps_trW cI cZ q1 a1 n1 g1 ++ ps_trW cI cZ q2 a2 n2 g2 ++ ps_lsW cI q3 b lf le lh ++ [(o0, .inl (cL, 1, .inr (.inl ov)))] ++ ps_mdW cI cZ w0 b0 2 mn kn co ln wr lt f) (va_runV (C := RX3) (As := [.int (xs (6 * t + 1)), .int (xs (6 * t + 2)), .int (xs (6 * t + 3)), .int (xs (6 * t + 4)), .int (xs (6 * t + 5))]) (rest := []) ⟨hx, hb, hml, hown, hT⟩ (mX3_kept_2 l dC dI cI cZ w0 b0 th mn kn co ln wr lt f h4 (xs (6 * t + 1)) (xs (6 * t + 2)) (xs (6 * t + 3)) (xs (6 * t + 4)) (xs (6 * t + 5)) h5 h6 h7 h8 h9 _) (cwV 5 hT (ps_gV tw_ml_L_106 tw_im_X3_kept tw_se_X3_kept tw_in_X3 tw_co_X3_kept) rfl rfl rfl ⟨rfl, by decide, by decide, by decide +kernel⟩ ⟨Nat.le_of_ble_eq_true rfl, Nat.le_of_ble_eq_true rfl⟩) (ps_qreV (wc := ps_mdW cI cZ w0 b0 th mn kn co ln wr lt f) (ci := 3) [22, 23, 24, 25, 26, 27, 28, 29, 30, 31, 32] hN hP hK hD rfl rfl rfl rfl rfl) rfl rfl hl.1 rfl (lv_room (Nat.le_of_ble_eq_true rfl)) dL_law_848 ⟨hc1, hs1⟩) hS hA hP hD [22, 23, 24, 25, 26, 27, 28, 29, 30, 31, 32] [0, 1, 2, 3, 4, 5, 6, 7, 8, 9, 10, 11, 12, 13, 14, 15, 16, 17, 18, 19, 20, 21] [0, 1, 2, 3, 4, 5, 6, 7, 8, 9, 10, 11, 12, 13, 14, 15, 16, 17, 18, 19, 20, 21, 22, 23, 24, 25, 26, 27, 28, 29, 30, 31, 32] rfl rfl rfl (by decide) rfl rfl rfl (fun H locs hP hD hS => ?_)
    have hP : va_P (dC, dI) vwCl (ps_shW h0 q1 q2 q3 cx cy cz pl pw ++ ps_trW cI cZ q1 a1 n1 g1 ++ ps_trW cI cZ q2 a2 n2 g2 ++ ps_lsW cI q3 b lf le lh ++ [(o0, .inl (cL, 1, .inr (.inl ov)))] ++ ps_mdW cI cZ w0 b0 2 mn kn co ln wr lt f) H := hP
    have hD : va_D A (ps_shW h0 q1 q2 q3 cx cy cz pl pw ++ ps_trW cI cZ q1 a1 n1 g1 ++ ps_trW cI cZ q2 a2 n2 g2 ++ ps_lsW cI q3 b lf le lh ++ [(o0, .inl (cL, 1, .inr (.inl ov)))] ++ ps_mdW cI cZ w0 b0 2 mn kn co ln wr lt f) := hD
    refine lv_istore (lv' := [(6, .int 0), (5, .int 2), (0, .ref sb), (1, .ref h0), (2, .ref w0), (3, .ref o0), (4, .int (nI (6 * t)))]) hx hb dL_law_851 hl (by decide) rfl (fun ls hl => ?_)
    refine lv_aload_n hx hb dL_law_853 rfl (lv_at hl 4 rfl) ?_
    refine vp_callSi (va_Run.run (va_runV (C := RX3) (As := []) (rest := []) ⟨hx, hb, hml, hown, hT⟩ (mX3_thrown l dC dI cI cZ w0 b0 2 mn kn co ln wr lt f) (cwV 0 hT (ps_gV tw_ml_L_71 tw_im_X3_thrown tw_se_X3_thrown tw_in_X3 tw_co_X3_thrown) rfl rfl rfl ⟨rfl, by decide, by decide, by decide +kernel⟩ ⟨Nat.le_of_ble_eq_true rfl, Nat.le_of_ble_eq_true rfl⟩) (ps_preV (ci := 3) (q0 := 0) hN (hP.sub (ws' := ps_mdW cI cZ w0 b0 2 mn kn co ln wr lt f) [22, 23, 24, 25, 26, 27, 28, 29, 30, 31, 32] rfl) hK rfl rfl) rfl rfl hl.1 rfl (lv_room (Nat.le_of_ble_eq_true rfl)) dL_law_854 ⟨hc1, hs1⟩)) (fun r hr9 => ?_)
    obtain rfl : r = 2 := hr9
    refine lv_iload hx hb dL_law_857 (lv_at hl 1 rfl) ?_
    refine lv_icmp_eq (tgt := 864) hx hb dL_law_859 rfl (fun h859 => ?_) (fun h859 => ?_)
    · skip
      refine lv_iload hx hb dL_law_864 (lv_at hl 1 rfl) ?_
      refine lv_if_ne (tgt := 881) hx hb dL_law_866 rfl (fun h866 => ?_) (fun h866 => ?_)
      · skip
        refine lv_goto (tgt := 1028) hx hb dL_law_881 rfl ?_
        refine W.widen (k := cells + 1) (n := slots + 6) (Nat.le_refl _) (Nat.le_refl _) ?_
        exact kk _ _ _ _ _ _ _ _ _ _ _ _ _ _ _ _ _ _ _ _ _ _ _ _ hJ (lv_sub hl [2, 3, 4, 5, 6] rfl) hP hD hS
      · skip
        exact absurd h866 (by decide)
    · skip
      exact absurd rfl h859
set_option maxHeartbeats 4000000 in
set_option maxRecDepth 100000 in
theorem cs_commit {p : Program} {l : Launch} {e : Env} {s : State} {m : MethodId} {args : Array Value} {below : List Frame} {meth : Method} {c : Code} {Q : State → Prop} {dC : Nat → ClassId} {dI : Nat → Nat → Nat} {cI cZ cL : ClassId} {A : Nat → Prop} {sb L : Nat} {xs : Nat → Int32} {h0 q1 q2 q3 b o0 w0 : Nat} {a1 a2 b0 : Nat → Nat} {t cells slots : Nat} (C : ps_Cx p l s m args c dC dI cI cZ cL A sb L xs) (ht : 6 * t + 6 ≤ L) (hc1 : cells + 1 ≤ room_1.cells) (hs1 : slots + 6 ≤ room_1.slots) (kk : ps_Hd p l e s m args below meth c Q dC dI cI cZ cL A sb h0 q1 q2 q3 b o0 w0 a1 a2 b0 t (cells + 1) (slots + 6) 1028) : ps_Hd p l e s m args below meth c Q dC dI cI cZ cL A sb h0 q1 q2 q3 b o0 w0 a1 a2 b0 t cells slots 884 := by
  obtain ⟨hlt, hx, hb, hml, hown, hT, hN, hE, hZ, hK3, hA, hX, hbl, hbA, hL⟩ := C
  have hK : va_K (dC, dI) vwCl (ps_ty cI cZ) s := hK3.sub [0, 1] rfl
  intro n1 n2 g1 g2 lf le lh cx cy cz pl pw ov th mn kn co ln wr lt f ls H locs hJ hl hP hD hS
  obtain ⟨b1, b2, b3, b4, hroad⟩ := ps_Jcommit hJ
  rcases hroad with ⟨h1, h2, hJ⟩ | ⟨h1, h2, h3, h4, hJ⟩ | ⟨h1, h2, h3, h4, h5, h6, he, hJ⟩ | ⟨h1, h2, h3, h4, h5, h6, h7, h8, hJ⟩
  · skip
    refine lv_aload_n hx hb dL_law_884 rfl (lv_at hl 1 rfl) ?_
    refine lv_aload_n hx hb dL_law_885 rfl (lv_at hl 3 rfl) ?_
    refine ps_cqi (wc := ps_shW h0 q1 q2 q3 cx cy cz pl pw ++ ps_trW cI cZ q1 a1 n1 g1 ++ ps_trW cI cZ q2 a2 n2 g2 ++ ps_lsW cI q3 b lf le lh ++ [(o0, .inl (cL, 1, .inr (.inl ov)))]) (wr := ps_mdW cI cZ w0 b0 th mn kn co ln wr lt f) (w1 := ps_shW h0 q1 q2 q3 cx cy cz pl pw ++ ps_trW cI cZ q1 a1 n1 (va_up g1 7 (ps_mk g1 n2 g2 n1)) ++ ps_trW cI cZ q2 a2 n2 (va_up g2 7 (ps_mk g2 n1 (va_up g1 7 (ps_mk g1 n2 g2 n1)) n2)) ++ ps_lsW cI q3 b lf le lh ++ [(o0, .inl (cL, 1, .inr (.inl (vp_updL ov 0 ((0 : Int32)).toInt64))))]) (ws2 := ps_shW h0 q1 q2 q3 cx cy cz pl pw ++ ps_trW cI cZ q1 a1 n1 (va_up g1 7 (ps_mk g1 n2 g2 n1)) ++ ps_trW cI cZ q2 a2 n2 (va_up g2 7 (ps_mk g2 n1 (va_up g1 7 (ps_mk g1 n2 g2 n1)) n2)) ++ ps_lsW cI q3 b lf le lh ++ [(o0, .inl (cL, 1, .inr (.inl (vp_updL ov 0 ((0 : Int32)).toInt64))))] ++ ps_mdW cI cZ w0 b0 th mn kn co ln wr lt f) (vx_runSW (As := [.ref h0, .ref o0]) (rest := []) ⟨hx, hb, hml, hown, hT⟩ (mL_commit_0 l hlt dC dI cI cZ h0 q1 q2 q3 b a1 a2 n1 n2 g1 g2 lf le lh cx cy cz pl pw cL o0 ov b1 b2 h1 _) (vx_cwSW 2 hT (ps_gSW tw_ml_L_107 tw_st_L_commit tw_in_L tw_cw_L_commit) rfl rfl rfl ⟨by decide, by decide, by decide +kernel⟩ ⟨Nat.le_of_ble_eq_true rfl, Nat.le_of_ble_eq_true rfl⟩) (ps_xreS (wc := ps_shW h0 q1 q2 q3 cx cy cz pl pw ++ ps_trW cI cZ q1 a1 n1 g1 ++ ps_trW cI cZ q2 a2 n2 g2 ++ ps_lsW cI q3 b lf le lh ++ [(o0, .inl (cL, 1, .inr (.inl ov)))]) [0, 1, 2, 3, 4, 5, 6, 7, 8, 9, 10, 11, 12, 13, 14, 15, 16, 17, 18, 19, 20, 21] hN hE hZ hS hA hP hK3 hD rfl rfl rfl) rfl rfl hl.1 rfl (lv_room (Nat.le_of_ble_eq_true rfl)) dL_law_886 ⟨hc1, hs1⟩) hS hA hP hD [0, 1, 2, 3, 4, 5, 6, 7, 8, 9, 10, 11, 12, 13, 14, 15, 16, 17, 18, 19, 20, 21] [22, 23, 24, 25, 26, 27, 28, 29, 30, 31, 32] [11, 12, 13, 14, 15, 16, 17, 18, 19, 20, 21, 22, 23, 24, 25, 26, 27, 28, 29, 30, 31, 32, 0, 1, 2, 3, 4, 5, 6, 7, 8, 9, 10] rfl rfl rfl (by decide) rfl rfl rfl (fun H locs hP hD hS => ?_)
    have hP : va_P (dC, dI) vwCl (ps_shW h0 q1 q2 q3 cx cy cz pl pw ++ ps_trW cI cZ q1 a1 n1 (va_up g1 7 (ps_mk g1 n2 g2 n1)) ++ ps_trW cI cZ q2 a2 n2 (va_up g2 7 (ps_mk g2 n1 (va_up g1 7 (ps_mk g1 n2 g2 n1)) n2)) ++ ps_lsW cI q3 b lf le lh ++ [(o0, .inl (cL, 1, .inr (.inl (vp_updL ov 0 ((0 : Int32)).toInt64))))] ++ ps_mdW cI cZ w0 b0 th mn kn co ln wr lt f) H := hP
    have hD : va_D A (ps_shW h0 q1 q2 q3 cx cy cz pl pw ++ ps_trW cI cZ q1 a1 n1 (va_up g1 7 (ps_mk g1 n2 g2 n1)) ++ ps_trW cI cZ q2 a2 n2 (va_up g2 7 (ps_mk g2 n1 (va_up g1 7 (ps_mk g1 n2 g2 n1)) n2)) ++ ps_lsW cI q3 b lf le lh ++ [(o0, .inl (cL, 1, .inr (.inl (vp_updL ov 0 ((0 : Int32)).toInt64))))] ++ ps_mdW cI cZ w0 b0 th mn kn co ln wr lt f) := hD
    refine lv_istore (lv' := [(5, .int 0), (0, .ref sb), (1, .ref h0), (2, .ref w0), (3, .ref o0), (4, .int (nI (6 * t)))]) hx hb dL_law_889 hl (by decide) rfl (fun ls hl => ?_)
    refine lv_aload_n hx hb dL_law_891 rfl (lv_at hl 3 rfl) ?_
    refine ps_cqi (wc := ps_mdW cI cZ w0 b0 th mn kn co ln wr lt f) (wr := ps_shW h0 q1 q2 q3 cx cy cz pl pw ++ ps_trW cI cZ q1 a1 n1 (va_up g1 7 (ps_mk g1 n2 g2 n1)) ++ ps_trW cI cZ q2 a2 n2 (va_up g2 7 (ps_mk g2 n1 (va_up g1 7 (ps_mk g1 n2 g2 n1)) n2)) ++ ps_lsW cI q3 b lf le lh ++ [(o0, .inl (cL, 1, .inr (.inl (vp_updL ov 0 ((0 : Int32)).toInt64))))]) (w1 := ps_mdW cI cZ w0 b0 0 mn kn co ln wr lt f) (ws2 := ps_shW h0 q1 q2 q3 cx cy cz pl pw ++ ps_trW cI cZ q1 a1 n1 (va_up g1 7 (ps_mk g1 n2 g2 n1)) ++ ps_trW cI cZ q2 a2 n2 (va_up g2 7 (ps_mk g2 n1 (va_up g1 7 (ps_mk g1 n2 g2 n1)) n2)) ++ ps_lsW cI q3 b lf le lh ++ [(o0, .inl (cL, 1, .inr (.inl (vp_updL ov 0 ((0 : Int32)).toInt64))))] ++ ps_mdW cI cZ w0 b0 0 mn kn co ln wr lt f) (va_runV (C := RX3) (As := []) (rest := []) ⟨hx, hb, hml, hown, hT⟩ (mX3_commit_0 l dC dI cI cZ w0 b0 th mn kn co ln wr lt f b3 b4 h2 _) (cwV 0 hT (ps_gV tw_ml_L_109 tw_im_X3_commit tw_se_X3_commit tw_in_X3 tw_co_X3_commit) rfl rfl rfl ⟨rfl, by decide, by decide, by decide +kernel⟩ ⟨Nat.le_of_ble_eq_true rfl, Nat.le_of_ble_eq_true rfl⟩) (ps_qreV (wc := ps_mdW cI cZ w0 b0 th mn kn co ln wr lt f) (ci := 3) [22, 23, 24, 25, 26, 27, 28, 29, 30, 31, 32] hN hP hK hD rfl rfl rfl rfl rfl) rfl rfl hl.1 rfl (lv_room (Nat.le_of_ble_eq_true rfl)) dL_law_892 ⟨hc1, hs1⟩) hS hA hP hD [22, 23, 24, 25, 26, 27, 28, 29, 30, 31, 32] [0, 1, 2, 3, 4, 5, 6, 7, 8, 9, 10, 11, 12, 13, 14, 15, 16, 17, 18, 19, 20, 21] [0, 1, 2, 3, 4, 5, 6, 7, 8, 9, 10, 11, 12, 13, 14, 15, 16, 17, 18, 19, 20, 21, 22, 23, 24, 25, 26, 27, 28, 29, 30, 31, 32] rfl rfl rfl (by decide) rfl rfl rfl (fun H locs hP hD hS => ?_)
    have hP : va_P (dC, dI) vwCl (ps_shW h0 q1 q2 q3 cx cy cz pl pw ++ ps_trW cI cZ q1 a1 n1 (va_up g1 7 (ps_mk g1 n2 g2 n1)) ++ ps_trW cI cZ q2 a2 n2 (va_up g2 7 (ps_mk g2 n1 (va_up g1 7 (ps_mk g1 n2 g2 n1)) n2)) ++ ps_lsW cI q3 b lf le lh ++ [(o0, .inl (cL, 1, .inr (.inl (vp_updL ov 0 ((0 : Int32)).toInt64))))] ++ ps_mdW cI cZ w0 b0 0 mn kn co ln wr lt f) H := hP
    have hD : va_D A (ps_shW h0 q1 q2 q3 cx cy cz pl pw ++ ps_trW cI cZ q1 a1 n1 (va_up g1 7 (ps_mk g1 n2 g2 n1)) ++ ps_trW cI cZ q2 a2 n2 (va_up g2 7 (ps_mk g2 n1 (va_up g1 7 (ps_mk g1 n2 g2 n1)) n2)) ++ ps_lsW cI q3 b lf le lh ++ [(o0, .inl (cL, 1, .inr (.inl (vp_updL ov 0 ((0 : Int32)).toInt64))))] ++ ps_mdW cI cZ w0 b0 0 mn kn co ln wr lt f) := hD
    refine lv_istore (lv' := [(6, .int ((0 : Int32))), (5, .int 0), (0, .ref sb), (1, .ref h0), (2, .ref w0), (3, .ref o0), (4, .int (nI (6 * t)))]) hx hb dL_law_895 hl (by decide) rfl (fun ls hl => ?_)
    refine lv_aload_n hx hb dL_law_897 rfl (lv_at hl 4 rfl) ?_
    refine vp_callSi (va_Run.run (va_runV (C := RX3) (As := []) (rest := []) ⟨hx, hb, hml, hown, hT⟩ (mX3_thrown l dC dI cI cZ w0 b0 0 mn kn co ln wr lt f) (cwV 0 hT (ps_gV tw_ml_L_71 tw_im_X3_thrown tw_se_X3_thrown tw_in_X3 tw_co_X3_thrown) rfl rfl rfl ⟨rfl, by decide, by decide, by decide +kernel⟩ ⟨Nat.le_of_ble_eq_true rfl, Nat.le_of_ble_eq_true rfl⟩) (ps_preV (ci := 3) (q0 := 0) hN (hP.sub (ws' := ps_mdW cI cZ w0 b0 0 mn kn co ln wr lt f) [22, 23, 24, 25, 26, 27, 28, 29, 30, 31, 32] rfl) hK rfl rfl) rfl rfl hl.1 rfl (lv_room (Nat.le_of_ble_eq_true rfl)) dL_law_898 ⟨hc1, hs1⟩)) (fun r hr9 => ?_)
    obtain rfl : r = 0 := hr9
    refine lv_iload hx hb dL_law_901 (lv_at hl 1 rfl) ?_
    refine lv_icmp_eq (tgt := 908) hx hb dL_law_903 rfl (fun h903 => ?_) (fun h903 => ?_)
    · skip
      refine lv_iload hx hb dL_law_908 (lv_at hl 1 rfl) ?_
      refine lv_if_ne (tgt := 925) hx hb dL_law_910 rfl (fun h910 => ?_) (fun h910 => ?_)
      · skip
        exact absurd rfl h910
      · skip
        refine lv_aload_n hx hb dL_law_913 rfl (lv_at hl 5 rfl) ?_
        refine lv_iconst (v := 0) hx hb dL_law_914 (by decide) ?_
        refine va_lald hx hb hK3 hP 21 2 rfl rfl (by unfold vp_in; decide) dL_law_915 ?_
        refine lv_iload hx hb dL_law_916 (lv_at hl 0 rfl) ?_
        refine lv_i2l (v := ((0 : Int32)).toInt64) hx hb dL_law_918 rfl ?_
        refine W.lcmp hx hb dL_law_919 ?_
        refine lv_if_eq (tgt := 925) hx hb dL_law_920 rfl (fun h920 => ?_) (fun h920 => ?_)
        · skip
          refine lv_goto (tgt := 1028) hx hb dL_law_925 rfl ?_
          refine W.widen (k := cells + 1) (n := slots + 6) (Nat.le_refl _) (Nat.le_refl _) ?_
          exact kk _ _ _ _ _ _ _ _ _ _ _ _ _ _ _ _ _ _ _ _ _ _ _ _ hJ (lv_sub hl [2, 3, 4, 5, 6] rfl) hP hD hS
        · skip
          exact absurd (ps_lz rfl) h920
    · skip
      exact absurd rfl h903
  · skip
    refine lv_aload_n hx hb dL_law_884 rfl (lv_at hl 1 rfl) ?_
    refine lv_aload_n hx hb dL_law_885 rfl (lv_at hl 3 rfl) ?_
    refine ps_cqi (wc := ps_shW h0 q1 q2 q3 cx cy cz pl pw ++ ps_trW cI cZ q1 a1 n1 g1 ++ ps_trW cI cZ q2 a2 n2 g2 ++ ps_lsW cI q3 b lf le lh ++ [(o0, .inl (cL, 1, .inr (.inl ov)))]) (wr := ps_mdW cI cZ w0 b0 th mn kn co ln wr lt f) (w1 := ps_shW h0 q1 q2 q3 cx cy cz pl pw ++ ps_trW cI cZ q1 a1 n1 (va_up g1 7 (ps_mk g1 n2 g2 n1)) ++ ps_trW cI cZ q2 a2 n2 (va_up g2 7 (ps_mk g2 n1 (va_up g1 7 (ps_mk g1 n2 g2 n1)) n2)) ++ ps_lsW cI q3 b lf le lh ++ [(o0, .inl (cL, 1, .inr (.inl ov)))]) (ws2 := ps_shW h0 q1 q2 q3 cx cy cz pl pw ++ ps_trW cI cZ q1 a1 n1 (va_up g1 7 (ps_mk g1 n2 g2 n1)) ++ ps_trW cI cZ q2 a2 n2 (va_up g2 7 (ps_mk g2 n1 (va_up g1 7 (ps_mk g1 n2 g2 n1)) n2)) ++ ps_lsW cI q3 b lf le lh ++ [(o0, .inl (cL, 1, .inr (.inl ov)))] ++ ps_mdW cI cZ w0 b0 th mn kn co ln wr lt f) (vx_runSW (As := [.ref h0, .ref o0]) (rest := []) ⟨hx, hb, hml, hown, hT⟩ (mL_commit_x1 l hlt dC dI cI cZ h0 q1 q2 q3 b a1 a2 n1 n2 g1 g2 lf le lh cx cy cz pl pw cL o0 ov b1 b2 h1 h2 _) (vx_cwSW 2 hT (ps_gSW tw_ml_L_107 tw_st_L_commit tw_in_L tw_cw_L_commit) rfl rfl rfl ⟨by decide, by decide, by decide +kernel⟩ ⟨Nat.le_of_ble_eq_true rfl, Nat.le_of_ble_eq_true rfl⟩) (ps_xreS (wc := ps_shW h0 q1 q2 q3 cx cy cz pl pw ++ ps_trW cI cZ q1 a1 n1 g1 ++ ps_trW cI cZ q2 a2 n2 g2 ++ ps_lsW cI q3 b lf le lh ++ [(o0, .inl (cL, 1, .inr (.inl ov)))]) [0, 1, 2, 3, 4, 5, 6, 7, 8, 9, 10, 11, 12, 13, 14, 15, 16, 17, 18, 19, 20, 21] hN hE hZ hS hA hP hK3 hD rfl rfl rfl) rfl rfl hl.1 rfl (lv_room (Nat.le_of_ble_eq_true rfl)) dL_law_886 ⟨hc1, hs1⟩) hS hA hP hD [0, 1, 2, 3, 4, 5, 6, 7, 8, 9, 10, 11, 12, 13, 14, 15, 16, 17, 18, 19, 20, 21] [22, 23, 24, 25, 26, 27, 28, 29, 30, 31, 32] [11, 12, 13, 14, 15, 16, 17, 18, 19, 20, 21, 22, 23, 24, 25, 26, 27, 28, 29, 30, 31, 32, 0, 1, 2, 3, 4, 5, 6, 7, 8, 9, 10] rfl rfl rfl (by decide) rfl rfl rfl (fun H locs hP hD hS => ?_)
    have hP : va_P (dC, dI) vwCl (ps_shW h0 q1 q2 q3 cx cy cz pl pw ++ ps_trW cI cZ q1 a1 n1 (va_up g1 7 (ps_mk g1 n2 g2 n1)) ++ ps_trW cI cZ q2 a2 n2 (va_up g2 7 (ps_mk g2 n1 (va_up g1 7 (ps_mk g1 n2 g2 n1)) n2)) ++ ps_lsW cI q3 b lf le lh ++ [(o0, .inl (cL, 1, .inr (.inl ov)))] ++ ps_mdW cI cZ w0 b0 th mn kn co ln wr lt f) H := hP
    have hD : va_D A (ps_shW h0 q1 q2 q3 cx cy cz pl pw ++ ps_trW cI cZ q1 a1 n1 (va_up g1 7 (ps_mk g1 n2 g2 n1)) ++ ps_trW cI cZ q2 a2 n2 (va_up g2 7 (ps_mk g2 n1 (va_up g1 7 (ps_mk g1 n2 g2 n1)) n2)) ++ ps_lsW cI q3 b lf le lh ++ [(o0, .inl (cL, 1, .inr (.inl ov)))] ++ ps_mdW cI cZ w0 b0 th mn kn co ln wr lt f) := hD
    refine lv_istore (lv' := [(5, .int 1), (0, .ref sb), (1, .ref h0), (2, .ref w0), (3, .ref o0), (4, .int (nI (6 * t)))]) hx hb dL_law_889 hl (by decide) rfl (fun ls hl => ?_)
    refine lv_aload_n hx hb dL_law_891 rfl (lv_at hl 3 rfl) ?_
    refine ps_cqi (wc := ps_mdW cI cZ w0 b0 th mn kn co ln wr lt f) (wr := ps_shW h0 q1 q2 q3 cx cy cz pl pw ++ ps_trW cI cZ q1 a1 n1 (va_up g1 7 (ps_mk g1 n2 g2 n1)) ++ ps_trW cI cZ q2 a2 n2 (va_up g2 7 (ps_mk g2 n1 (va_up g1 7 (ps_mk g1 n2 g2 n1)) n2)) ++ ps_lsW cI q3 b lf le lh ++ [(o0, .inl (cL, 1, .inr (.inl ov)))]) (w1 := ps_mdW cI cZ w0 b0 1 mn kn co ln wr lt f) (ws2 := ps_shW h0 q1 q2 q3 cx cy cz pl pw ++ ps_trW cI cZ q1 a1 n1 (va_up g1 7 (ps_mk g1 n2 g2 n1)) ++ ps_trW cI cZ q2 a2 n2 (va_up g2 7 (ps_mk g2 n1 (va_up g1 7 (ps_mk g1 n2 g2 n1)) n2)) ++ ps_lsW cI q3 b lf le lh ++ [(o0, .inl (cL, 1, .inr (.inl ov)))] ++ ps_mdW cI cZ w0 b0 1 mn kn co ln wr lt f) (va_runV (C := RX3) (As := []) (rest := []) ⟨hx, hb, hml, hown, hT⟩ (mX3_commit_1 l dC dI cI cZ w0 b0 th mn kn co ln wr lt f b3 b4 h3 h4 _) (cwV 0 hT (ps_gV tw_ml_L_109 tw_im_X3_commit tw_se_X3_commit tw_in_X3 tw_co_X3_commit) rfl rfl rfl ⟨rfl, by decide, by decide, by decide +kernel⟩ ⟨Nat.le_of_ble_eq_true rfl, Nat.le_of_ble_eq_true rfl⟩) (ps_qreV (wc := ps_mdW cI cZ w0 b0 th mn kn co ln wr lt f) (ci := 3) [22, 23, 24, 25, 26, 27, 28, 29, 30, 31, 32] hN hP hK hD rfl rfl rfl rfl rfl) rfl rfl hl.1 rfl (lv_room (Nat.le_of_ble_eq_true rfl)) dL_law_892 ⟨hc1, hs1⟩) hS hA hP hD [22, 23, 24, 25, 26, 27, 28, 29, 30, 31, 32] [0, 1, 2, 3, 4, 5, 6, 7, 8, 9, 10, 11, 12, 13, 14, 15, 16, 17, 18, 19, 20, 21] [0, 1, 2, 3, 4, 5, 6, 7, 8, 9, 10, 11, 12, 13, 14, 15, 16, 17, 18, 19, 20, 21, 22, 23, 24, 25, 26, 27, 28, 29, 30, 31, 32] rfl rfl rfl (by decide) rfl rfl rfl (fun H locs hP hD hS => ?_)
    have hP : va_P (dC, dI) vwCl (ps_shW h0 q1 q2 q3 cx cy cz pl pw ++ ps_trW cI cZ q1 a1 n1 (va_up g1 7 (ps_mk g1 n2 g2 n1)) ++ ps_trW cI cZ q2 a2 n2 (va_up g2 7 (ps_mk g2 n1 (va_up g1 7 (ps_mk g1 n2 g2 n1)) n2)) ++ ps_lsW cI q3 b lf le lh ++ [(o0, .inl (cL, 1, .inr (.inl ov)))] ++ ps_mdW cI cZ w0 b0 1 mn kn co ln wr lt f) H := hP
    have hD : va_D A (ps_shW h0 q1 q2 q3 cx cy cz pl pw ++ ps_trW cI cZ q1 a1 n1 (va_up g1 7 (ps_mk g1 n2 g2 n1)) ++ ps_trW cI cZ q2 a2 n2 (va_up g2 7 (ps_mk g2 n1 (va_up g1 7 (ps_mk g1 n2 g2 n1)) n2)) ++ ps_lsW cI q3 b lf le lh ++ [(o0, .inl (cL, 1, .inr (.inl ov)))] ++ ps_mdW cI cZ w0 b0 1 mn kn co ln wr lt f) := hD
    refine lv_istore (lv' := [(6, .int 0), (5, .int 1), (0, .ref sb), (1, .ref h0), (2, .ref w0), (3, .ref o0), (4, .int (nI (6 * t)))]) hx hb dL_law_895 hl (by decide) rfl (fun ls hl => ?_)
    refine lv_aload_n hx hb dL_law_897 rfl (lv_at hl 4 rfl) ?_
    refine vp_callSi (va_Run.run (va_runV (C := RX3) (As := []) (rest := []) ⟨hx, hb, hml, hown, hT⟩ (mX3_thrown l dC dI cI cZ w0 b0 1 mn kn co ln wr lt f) (cwV 0 hT (ps_gV tw_ml_L_71 tw_im_X3_thrown tw_se_X3_thrown tw_in_X3 tw_co_X3_thrown) rfl rfl rfl ⟨rfl, by decide, by decide, by decide +kernel⟩ ⟨Nat.le_of_ble_eq_true rfl, Nat.le_of_ble_eq_true rfl⟩) (ps_preV (ci := 3) (q0 := 0) hN (hP.sub (ws' := ps_mdW cI cZ w0 b0 1 mn kn co ln wr lt f) [22, 23, 24, 25, 26, 27, 28, 29, 30, 31, 32] rfl) hK rfl rfl) rfl rfl hl.1 rfl (lv_room (Nat.le_of_ble_eq_true rfl)) dL_law_898 ⟨hc1, hs1⟩)) (fun r hr9 => ?_)
    obtain rfl : r = 1 := hr9
    refine lv_iload hx hb dL_law_901 (lv_at hl 1 rfl) ?_
    refine lv_icmp_eq (tgt := 908) hx hb dL_law_903 rfl (fun h903 => ?_) (fun h903 => ?_)
    · skip
      refine lv_iload hx hb dL_law_908 (lv_at hl 1 rfl) ?_
      refine lv_if_ne (tgt := 925) hx hb dL_law_910 rfl (fun h910 => ?_) (fun h910 => ?_)
      · skip
        refine lv_goto (tgt := 1028) hx hb dL_law_925 rfl ?_
        refine W.widen (k := cells + 1) (n := slots + 6) (Nat.le_refl _) (Nat.le_refl _) ?_
        exact kk _ _ _ _ _ _ _ _ _ _ _ _ _ _ _ _ _ _ _ _ _ _ _ _ hJ (lv_sub hl [2, 3, 4, 5, 6] rfl) hP hD hS
      · skip
        exact absurd h910 (by decide)
    · skip
      exact absurd rfl h903
  · skip
    refine lv_aload_n hx hb dL_law_884 rfl (lv_at hl 1 rfl) ?_
    refine lv_aload_n hx hb dL_law_885 rfl (lv_at hl 3 rfl) ?_
    refine ps_cqi (wc := ps_shW h0 q1 q2 q3 cx cy cz pl pw ++ ps_trW cI cZ q1 a1 n1 g1 ++ ps_trW cI cZ q2 a2 n2 g2 ++ ps_lsW cI q3 b lf le lh ++ [(o0, .inl (cL, 1, .inr (.inl ov)))]) (wr := ps_mdW cI cZ w0 b0 th mn kn co ln wr lt f) (w1 := ps_shW h0 q1 q2 q3 cx cy cz ((ps_pl pl (nI (ps_cn (ps_pw (va_up g1 7 (ps_mk g1 n2 g2 n1)) n1 (va_up g2 7 (ps_mk g2 n1 (va_up g1 7 (ps_mk g1 n2 g2 n1)) n2)) n2) n1 + 1)))) ((pw + nI (ps_cn (ps_pw (va_up g1 7 (ps_mk g1 n2 g2 n1)) n1 (va_up g2 7 (ps_mk g2 n1 (va_up g1 7 (ps_mk g1 n2 g2 n1)) n2)) n2) n1 + 1))) ++ ps_trW cI cZ q1 a1 n1 (va_up g1 7 (ps_mk g1 n2 g2 n1)) ++ ps_trW cI cZ q2 a2 n1 ((ps_cp (va_up g2 7 (ps_mk g2 n1 (va_up g1 7 (ps_mk g1 n2 g2 n1)) n2)) (va_up g1 7 (ps_mk g1 n2 g2 n1)) n1)) ++ ps_lsW cI q3 b lf le lh ++ [(o0, .inl (cL, 1, .inr (.inl (vp_updL ov 0 (nI (ps_cn (ps_pw (va_up g1 7 (ps_mk g1 n2 g2 n1)) n1 (va_up g2 7 (ps_mk g2 n1 (va_up g1 7 (ps_mk g1 n2 g2 n1)) n2)) n2) n1 + 1)).toInt64))))]) (ws2 := ps_shW h0 q1 q2 q3 cx cy cz ((ps_pl pl (nI (ps_cn (ps_pw (va_up g1 7 (ps_mk g1 n2 g2 n1)) n1 (va_up g2 7 (ps_mk g2 n1 (va_up g1 7 (ps_mk g1 n2 g2 n1)) n2)) n2) n1 + 1)))) ((pw + nI (ps_cn (ps_pw (va_up g1 7 (ps_mk g1 n2 g2 n1)) n1 (va_up g2 7 (ps_mk g2 n1 (va_up g1 7 (ps_mk g1 n2 g2 n1)) n2)) n2) n1 + 1))) ++ ps_trW cI cZ q1 a1 n1 (va_up g1 7 (ps_mk g1 n2 g2 n1)) ++ ps_trW cI cZ q2 a2 n1 ((ps_cp (va_up g2 7 (ps_mk g2 n1 (va_up g1 7 (ps_mk g1 n2 g2 n1)) n2)) (va_up g1 7 (ps_mk g1 n2 g2 n1)) n1)) ++ ps_lsW cI q3 b lf le lh ++ [(o0, .inl (cL, 1, .inr (.inl (vp_updL ov 0 (nI (ps_cn (ps_pw (va_up g1 7 (ps_mk g1 n2 g2 n1)) n1 (va_up g2 7 (ps_mk g2 n1 (va_up g1 7 (ps_mk g1 n2 g2 n1)) n2)) n2) n1 + 1)).toInt64))))] ++ ps_mdW cI cZ w0 b0 th mn kn co ln wr lt f) (vx_runSW (As := [.ref h0, .ref o0]) (rest := []) ⟨hx, hb, hml, hown, hT⟩ (mL_commit_n l hlt dC dI cI cZ h0 q1 q2 q3 b a1 a2 n1 n2 g1 g2 lf le lh cx cy cz pl pw cL o0 ov b1 b2 h1 h2 h3 _) (vx_cwSW 2 hT (ps_gSW tw_ml_L_107 tw_st_L_commit tw_in_L tw_cw_L_commit) rfl rfl rfl ⟨by decide, by decide, by decide +kernel⟩ ⟨Nat.le_of_ble_eq_true rfl, Nat.le_of_ble_eq_true rfl⟩) (ps_xreS (wc := ps_shW h0 q1 q2 q3 cx cy cz pl pw ++ ps_trW cI cZ q1 a1 n1 g1 ++ ps_trW cI cZ q2 a2 n2 g2 ++ ps_lsW cI q3 b lf le lh ++ [(o0, .inl (cL, 1, .inr (.inl ov)))]) [0, 1, 2, 3, 4, 5, 6, 7, 8, 9, 10, 11, 12, 13, 14, 15, 16, 17, 18, 19, 20, 21] hN hE hZ hS hA hP hK3 hD rfl rfl rfl) rfl rfl hl.1 rfl (lv_room (Nat.le_of_ble_eq_true rfl)) dL_law_886 ⟨hc1, hs1⟩) hS hA hP hD [0, 1, 2, 3, 4, 5, 6, 7, 8, 9, 10, 11, 12, 13, 14, 15, 16, 17, 18, 19, 20, 21] [22, 23, 24, 25, 26, 27, 28, 29, 30, 31, 32] [11, 12, 13, 14, 15, 16, 17, 18, 19, 20, 21, 22, 23, 24, 25, 26, 27, 28, 29, 30, 31, 32, 0, 1, 2, 3, 4, 5, 6, 7, 8, 9, 10] rfl rfl rfl (by decide) rfl rfl rfl (fun H locs hP hD hS => ?_)
    have hP : va_P (dC, dI) vwCl (ps_shW h0 q1 q2 q3 cx cy cz ((ps_pl pl (nI (ps_cn (ps_pw (va_up g1 7 (ps_mk g1 n2 g2 n1)) n1 (va_up g2 7 (ps_mk g2 n1 (va_up g1 7 (ps_mk g1 n2 g2 n1)) n2)) n2) n1 + 1)))) ((pw + nI (ps_cn (ps_pw (va_up g1 7 (ps_mk g1 n2 g2 n1)) n1 (va_up g2 7 (ps_mk g2 n1 (va_up g1 7 (ps_mk g1 n2 g2 n1)) n2)) n2) n1 + 1))) ++ ps_trW cI cZ q1 a1 n1 (va_up g1 7 (ps_mk g1 n2 g2 n1)) ++ ps_trW cI cZ q2 a2 n1 ((ps_cp (va_up g2 7 (ps_mk g2 n1 (va_up g1 7 (ps_mk g1 n2 g2 n1)) n2)) (va_up g1 7 (ps_mk g1 n2 g2 n1)) n1)) ++ ps_lsW cI q3 b lf le lh ++ [(o0, .inl (cL, 1, .inr (.inl (vp_updL ov 0 (nI (ps_cn (ps_pw (va_up g1 7 (ps_mk g1 n2 g2 n1)) n1 (va_up g2 7 (ps_mk g2 n1 (va_up g1 7 (ps_mk g1 n2 g2 n1)) n2)) n2) n1 + 1)).toInt64))))] ++ ps_mdW cI cZ w0 b0 th mn kn co ln wr lt f) H := hP
    have hD : va_D A (ps_shW h0 q1 q2 q3 cx cy cz ((ps_pl pl (nI (ps_cn (ps_pw (va_up g1 7 (ps_mk g1 n2 g2 n1)) n1 (va_up g2 7 (ps_mk g2 n1 (va_up g1 7 (ps_mk g1 n2 g2 n1)) n2)) n2) n1 + 1)))) ((pw + nI (ps_cn (ps_pw (va_up g1 7 (ps_mk g1 n2 g2 n1)) n1 (va_up g2 7 (ps_mk g2 n1 (va_up g1 7 (ps_mk g1 n2 g2 n1)) n2)) n2) n1 + 1))) ++ ps_trW cI cZ q1 a1 n1 (va_up g1 7 (ps_mk g1 n2 g2 n1)) ++ ps_trW cI cZ q2 a2 n1 ((ps_cp (va_up g2 7 (ps_mk g2 n1 (va_up g1 7 (ps_mk g1 n2 g2 n1)) n2)) (va_up g1 7 (ps_mk g1 n2 g2 n1)) n1)) ++ ps_lsW cI q3 b lf le lh ++ [(o0, .inl (cL, 1, .inr (.inl (vp_updL ov 0 (nI (ps_cn (ps_pw (va_up g1 7 (ps_mk g1 n2 g2 n1)) n1 (va_up g2 7 (ps_mk g2 n1 (va_up g1 7 (ps_mk g1 n2 g2 n1)) n2)) n2) n1 + 1)).toInt64))))] ++ ps_mdW cI cZ w0 b0 th mn kn co ln wr lt f) := hD
    refine lv_istore (lv' := [(5, .int 0), (0, .ref sb), (1, .ref h0), (2, .ref w0), (3, .ref o0), (4, .int (nI (6 * t)))]) hx hb dL_law_889 hl (by decide) rfl (fun ls hl => ?_)
    refine lv_aload_n hx hb dL_law_891 rfl (lv_at hl 3 rfl) ?_
    refine ps_cqi (wc := ps_mdW cI cZ w0 b0 th mn kn co ln wr lt f) (wr := ps_shW h0 q1 q2 q3 cx cy cz ((ps_pl pl (nI (ps_cn (ps_pw (va_up g1 7 (ps_mk g1 n2 g2 n1)) n1 (va_up g2 7 (ps_mk g2 n1 (va_up g1 7 (ps_mk g1 n2 g2 n1)) n2)) n2) n1 + 1)))) ((pw + nI (ps_cn (ps_pw (va_up g1 7 (ps_mk g1 n2 g2 n1)) n1 (va_up g2 7 (ps_mk g2 n1 (va_up g1 7 (ps_mk g1 n2 g2 n1)) n2)) n2) n1 + 1))) ++ ps_trW cI cZ q1 a1 n1 (va_up g1 7 (ps_mk g1 n2 g2 n1)) ++ ps_trW cI cZ q2 a2 n1 ((ps_cp (va_up g2 7 (ps_mk g2 n1 (va_up g1 7 (ps_mk g1 n2 g2 n1)) n2)) (va_up g1 7 (ps_mk g1 n2 g2 n1)) n1)) ++ ps_lsW cI q3 b lf le lh ++ [(o0, .inl (cL, 1, .inr (.inl (vp_updL ov 0 (nI (ps_cn (ps_pw (va_up g1 7 (ps_mk g1 n2 g2 n1)) n1 (va_up g2 7 (ps_mk g2 n1 (va_up g1 7 (ps_mk g1 n2 g2 n1)) n2)) n2) n1 + 1)).toInt64))))]) (w1 := ps_mdW cI cZ w0 b0 0 mn mn co ln ((wr + nI (ps_tp (ps_wq f mn kn) (ps_wc f mn) mn) + 1)) ((if lt < 0 then lt else lt - nI (ps_tp (ps_wq f mn kn) (ps_wc f mn) mn) - 1)) ((ps_kG f mn))) (ws2 := ps_shW h0 q1 q2 q3 cx cy cz ((ps_pl pl (nI (ps_cn (ps_pw (va_up g1 7 (ps_mk g1 n2 g2 n1)) n1 (va_up g2 7 (ps_mk g2 n1 (va_up g1 7 (ps_mk g1 n2 g2 n1)) n2)) n2) n1 + 1)))) ((pw + nI (ps_cn (ps_pw (va_up g1 7 (ps_mk g1 n2 g2 n1)) n1 (va_up g2 7 (ps_mk g2 n1 (va_up g1 7 (ps_mk g1 n2 g2 n1)) n2)) n2) n1 + 1))) ++ ps_trW cI cZ q1 a1 n1 (va_up g1 7 (ps_mk g1 n2 g2 n1)) ++ ps_trW cI cZ q2 a2 n1 ((ps_cp (va_up g2 7 (ps_mk g2 n1 (va_up g1 7 (ps_mk g1 n2 g2 n1)) n2)) (va_up g1 7 (ps_mk g1 n2 g2 n1)) n1)) ++ ps_lsW cI q3 b lf le lh ++ [(o0, .inl (cL, 1, .inr (.inl (vp_updL ov 0 (nI (ps_cn (ps_pw (va_up g1 7 (ps_mk g1 n2 g2 n1)) n1 (va_up g2 7 (ps_mk g2 n1 (va_up g1 7 (ps_mk g1 n2 g2 n1)) n2)) n2) n1 + 1)).toInt64))))] ++ ps_mdW cI cZ w0 b0 0 mn mn co ln ((wr + nI (ps_tp (ps_wq f mn kn) (ps_wc f mn) mn) + 1)) ((if lt < 0 then lt else lt - nI (ps_tp (ps_wq f mn kn) (ps_wc f mn) mn) - 1)) ((ps_kG f mn))) (va_runV (C := RX3) (As := []) (rest := []) ⟨hx, hb, hml, hown, hT⟩ (mX3_commit_n l dC dI cI cZ w0 b0 th mn kn co ln wr lt f b3 b4 h4 h5 h6 _) (cwV 0 hT (ps_gV tw_ml_L_109 tw_im_X3_commit tw_se_X3_commit tw_in_X3 tw_co_X3_commit) rfl rfl rfl ⟨rfl, by decide, by decide, by decide +kernel⟩ ⟨Nat.le_of_ble_eq_true rfl, Nat.le_of_ble_eq_true rfl⟩) (ps_qreV (wc := ps_mdW cI cZ w0 b0 th mn kn co ln wr lt f) (ci := 3) [22, 23, 24, 25, 26, 27, 28, 29, 30, 31, 32] hN hP hK hD rfl rfl rfl rfl rfl) rfl rfl hl.1 rfl (lv_room (Nat.le_of_ble_eq_true rfl)) dL_law_892 ⟨hc1, hs1⟩) hS hA hP hD [22, 23, 24, 25, 26, 27, 28, 29, 30, 31, 32] [0, 1, 2, 3, 4, 5, 6, 7, 8, 9, 10, 11, 12, 13, 14, 15, 16, 17, 18, 19, 20, 21] [0, 1, 2, 3, 4, 5, 6, 7, 8, 9, 10, 11, 12, 13, 14, 15, 16, 17, 18, 19, 20, 21, 22, 23, 24, 25, 26, 27, 28, 29, 30, 31, 32] rfl rfl rfl (by decide) rfl rfl rfl (fun H locs hP hD hS => ?_)
    have hP : va_P (dC, dI) vwCl (ps_shW h0 q1 q2 q3 cx cy cz ((ps_pl pl (nI (ps_cn (ps_pw (va_up g1 7 (ps_mk g1 n2 g2 n1)) n1 (va_up g2 7 (ps_mk g2 n1 (va_up g1 7 (ps_mk g1 n2 g2 n1)) n2)) n2) n1 + 1)))) ((pw + nI (ps_cn (ps_pw (va_up g1 7 (ps_mk g1 n2 g2 n1)) n1 (va_up g2 7 (ps_mk g2 n1 (va_up g1 7 (ps_mk g1 n2 g2 n1)) n2)) n2) n1 + 1))) ++ ps_trW cI cZ q1 a1 n1 (va_up g1 7 (ps_mk g1 n2 g2 n1)) ++ ps_trW cI cZ q2 a2 n1 ((ps_cp (va_up g2 7 (ps_mk g2 n1 (va_up g1 7 (ps_mk g1 n2 g2 n1)) n2)) (va_up g1 7 (ps_mk g1 n2 g2 n1)) n1)) ++ ps_lsW cI q3 b lf le lh ++ [(o0, .inl (cL, 1, .inr (.inl (vp_updL ov 0 (nI (ps_cn (ps_pw (va_up g1 7 (ps_mk g1 n2 g2 n1)) n1 (va_up g2 7 (ps_mk g2 n1 (va_up g1 7 (ps_mk g1 n2 g2 n1)) n2)) n2) n1 + 1)).toInt64))))] ++ ps_mdW cI cZ w0 b0 0 mn mn co ln ((wr + nI (ps_tp (ps_wq f mn kn) (ps_wc f mn) mn) + 1)) ((if lt < 0 then lt else lt - nI (ps_tp (ps_wq f mn kn) (ps_wc f mn) mn) - 1)) ((ps_kG f mn))) H := hP
    have hD : va_D A (ps_shW h0 q1 q2 q3 cx cy cz ((ps_pl pl (nI (ps_cn (ps_pw (va_up g1 7 (ps_mk g1 n2 g2 n1)) n1 (va_up g2 7 (ps_mk g2 n1 (va_up g1 7 (ps_mk g1 n2 g2 n1)) n2)) n2) n1 + 1)))) ((pw + nI (ps_cn (ps_pw (va_up g1 7 (ps_mk g1 n2 g2 n1)) n1 (va_up g2 7 (ps_mk g2 n1 (va_up g1 7 (ps_mk g1 n2 g2 n1)) n2)) n2) n1 + 1))) ++ ps_trW cI cZ q1 a1 n1 (va_up g1 7 (ps_mk g1 n2 g2 n1)) ++ ps_trW cI cZ q2 a2 n1 ((ps_cp (va_up g2 7 (ps_mk g2 n1 (va_up g1 7 (ps_mk g1 n2 g2 n1)) n2)) (va_up g1 7 (ps_mk g1 n2 g2 n1)) n1)) ++ ps_lsW cI q3 b lf le lh ++ [(o0, .inl (cL, 1, .inr (.inl (vp_updL ov 0 (nI (ps_cn (ps_pw (va_up g1 7 (ps_mk g1 n2 g2 n1)) n1 (va_up g2 7 (ps_mk g2 n1 (va_up g1 7 (ps_mk g1 n2 g2 n1)) n2)) n2) n1 + 1)).toInt64))))] ++ ps_mdW cI cZ w0 b0 0 mn mn co ln ((wr + nI (ps_tp (ps_wq f mn kn) (ps_wc f mn) mn) + 1)) ((if lt < 0 then lt else lt - nI (ps_tp (ps_wq f mn kn) (ps_wc f mn) mn) - 1)) ((ps_kG f mn))) := hD
    refine lv_istore (lv' := [(6, .int (nI (ps_tp (ps_wq f mn kn) (ps_wc f mn) mn + 1))), (5, .int 0), (0, .ref sb), (1, .ref h0), (2, .ref w0), (3, .ref o0), (4, .int (nI (6 * t)))]) hx hb dL_law_895 hl (by decide) rfl (fun ls hl => ?_)
    refine lv_aload_n hx hb dL_law_897 rfl (lv_at hl 4 rfl) ?_
    refine vp_callSi (va_Run.run (va_runV (C := RX3) (As := []) (rest := []) ⟨hx, hb, hml, hown, hT⟩ (mX3_thrown l dC dI cI cZ w0 b0 0 mn mn co ln ((wr + nI (ps_tp (ps_wq f mn kn) (ps_wc f mn) mn) + 1)) ((if lt < 0 then lt else lt - nI (ps_tp (ps_wq f mn kn) (ps_wc f mn) mn) - 1)) ((ps_kG f mn))) (cwV 0 hT (ps_gV tw_ml_L_71 tw_im_X3_thrown tw_se_X3_thrown tw_in_X3 tw_co_X3_thrown) rfl rfl rfl ⟨rfl, by decide, by decide, by decide +kernel⟩ ⟨Nat.le_of_ble_eq_true rfl, Nat.le_of_ble_eq_true rfl⟩) (ps_preV (ci := 3) (q0 := 0) hN (hP.sub (ws' := ps_mdW cI cZ w0 b0 0 mn mn co ln ((wr + nI (ps_tp (ps_wq f mn kn) (ps_wc f mn) mn) + 1)) ((if lt < 0 then lt else lt - nI (ps_tp (ps_wq f mn kn) (ps_wc f mn) mn) - 1)) ((ps_kG f mn))) [22, 23, 24, 25, 26, 27, 28, 29, 30, 31, 32] rfl) hK rfl rfl) rfl rfl hl.1 rfl (lv_room (Nat.le_of_ble_eq_true rfl)) dL_law_898 ⟨hc1, hs1⟩)) (fun r hr9 => ?_)
    obtain rfl : r = 0 := hr9
    refine lv_iload hx hb dL_law_901 (lv_at hl 1 rfl) ?_
    refine lv_icmp_eq (tgt := 908) hx hb dL_law_903 rfl (fun h903 => ?_) (fun h903 => ?_)
    · skip
      refine lv_iload hx hb dL_law_908 (lv_at hl 1 rfl) ?_
      refine lv_if_ne (tgt := 925) hx hb dL_law_910 rfl (fun h910 => ?_) (fun h910 => ?_)
      · skip
        exact absurd rfl h910
      · skip
        refine lv_aload_n hx hb dL_law_913 rfl (lv_at hl 5 rfl) ?_
        refine lv_iconst (v := 0) hx hb dL_law_914 (by decide) ?_
        refine va_lald hx hb hK3 hP 21 2 rfl rfl (by unfold vp_in; decide) dL_law_915 ?_
        refine lv_iload hx hb dL_law_916 (lv_at hl 0 rfl) ?_
        refine lv_i2l (v := (nI (ps_tp (ps_wq f mn kn) (ps_wc f mn) mn + 1)).toInt64) hx hb dL_law_918 rfl ?_
        refine W.lcmp hx hb dL_law_919 ?_
        refine lv_if_eq (tgt := 925) hx hb dL_law_920 rfl (fun h920 => ?_) (fun h920 => ?_)
        · skip
          refine lv_goto (tgt := 1028) hx hb dL_law_925 rfl ?_
          refine W.widen (k := cells + 1) (n := slots + 6) (Nat.le_refl _) (Nat.le_refl _) ?_
          exact kk _ _ _ _ _ _ _ _ _ _ _ _ _ _ _ _ _ _ _ _ _ _ _ _ hJ (lv_sub hl [2, 3, 4, 5, 6] rfl) hP hD hS
        · skip
          exact absurd (ps_lz he) h920
    · skip
      exact absurd rfl h903
  · skip
    refine lv_aload_n hx hb dL_law_884 rfl (lv_at hl 1 rfl) ?_
    refine lv_aload_n hx hb dL_law_885 rfl (lv_at hl 3 rfl) ?_
    refine ps_cqi (wc := ps_shW h0 q1 q2 q3 cx cy cz pl pw ++ ps_trW cI cZ q1 a1 n1 g1 ++ ps_trW cI cZ q2 a2 n2 g2 ++ ps_lsW cI q3 b lf le lh ++ [(o0, .inl (cL, 1, .inr (.inl ov)))]) (wr := ps_mdW cI cZ w0 b0 th mn kn co ln wr lt f) (w1 := ps_shW h0 q1 q2 q3 0 0 0 ((-1)) ((pw + pl)) ++ ps_trW cI cZ q1 a1 n2 ((ps_cp (va_up g1 7 (ps_mk g1 n2 g2 n1)) (va_up g2 7 (ps_mk g2 n1 (va_up g1 7 (ps_mk g1 n2 g2 n1)) n2)) n2)) ++ ps_trW cI cZ q2 a2 n2 (va_up g2 7 (ps_mk g2 n1 (va_up g1 7 (ps_mk g1 n2 g2 n1)) n2)) ++ ps_lsW cI q3 b 0 0 lh ++ [(o0, .inl (cL, 1, .inr (.inl ov)))]) (ws2 := ps_shW h0 q1 q2 q3 0 0 0 ((-1)) ((pw + pl)) ++ ps_trW cI cZ q1 a1 n2 ((ps_cp (va_up g1 7 (ps_mk g1 n2 g2 n1)) (va_up g2 7 (ps_mk g2 n1 (va_up g1 7 (ps_mk g1 n2 g2 n1)) n2)) n2)) ++ ps_trW cI cZ q2 a2 n2 (va_up g2 7 (ps_mk g2 n1 (va_up g1 7 (ps_mk g1 n2 g2 n1)) n2)) ++ ps_lsW cI q3 b 0 0 lh ++ [(o0, .inl (cL, 1, .inr (.inl ov)))] ++ ps_mdW cI cZ w0 b0 th mn kn co ln wr lt f) (vx_runSW (As := [.ref h0, .ref o0]) (rest := []) ⟨hx, hb, hml, hown, hT⟩ (mL_commit_x2 l hlt dC dI cI cZ h0 q1 q2 q3 b a1 a2 n1 n2 g1 g2 lf le lh cx cy cz pl pw cL o0 ov b1 b2 h1 h2 h3 h4 _) (vx_cwSW 2 hT (ps_gSW tw_ml_L_107 tw_st_L_commit tw_in_L tw_cw_L_commit) rfl rfl rfl ⟨by decide, by decide, by decide +kernel⟩ ⟨Nat.le_of_ble_eq_true rfl, Nat.le_of_ble_eq_true rfl⟩) (ps_xreS (wc := ps_shW h0 q1 q2 q3 cx cy cz pl pw ++ ps_trW cI cZ q1 a1 n1 g1 ++ ps_trW cI cZ q2 a2 n2 g2 ++ ps_lsW cI q3 b lf le lh ++ [(o0, .inl (cL, 1, .inr (.inl ov)))]) [0, 1, 2, 3, 4, 5, 6, 7, 8, 9, 10, 11, 12, 13, 14, 15, 16, 17, 18, 19, 20, 21] hN hE hZ hS hA hP hK3 hD rfl rfl rfl) rfl rfl hl.1 rfl (lv_room (Nat.le_of_ble_eq_true rfl)) dL_law_886 ⟨hc1, hs1⟩) hS hA hP hD [0, 1, 2, 3, 4, 5, 6, 7, 8, 9, 10, 11, 12, 13, 14, 15, 16, 17, 18, 19, 20, 21] [22, 23, 24, 25, 26, 27, 28, 29, 30, 31, 32] [11, 12, 13, 14, 15, 16, 17, 18, 19, 20, 21, 22, 23, 24, 25, 26, 27, 28, 29, 30, 31, 32, 0, 1, 2, 3, 4, 5, 6, 7, 8, 9, 10] rfl rfl rfl (by decide) rfl rfl rfl (fun H locs hP hD hS => ?_)
    have hP : va_P (dC, dI) vwCl (ps_shW h0 q1 q2 q3 0 0 0 ((-1)) ((pw + pl)) ++ ps_trW cI cZ q1 a1 n2 ((ps_cp (va_up g1 7 (ps_mk g1 n2 g2 n1)) (va_up g2 7 (ps_mk g2 n1 (va_up g1 7 (ps_mk g1 n2 g2 n1)) n2)) n2)) ++ ps_trW cI cZ q2 a2 n2 (va_up g2 7 (ps_mk g2 n1 (va_up g1 7 (ps_mk g1 n2 g2 n1)) n2)) ++ ps_lsW cI q3 b 0 0 lh ++ [(o0, .inl (cL, 1, .inr (.inl ov)))] ++ ps_mdW cI cZ w0 b0 th mn kn co ln wr lt f) H := hP
    have hD : va_D A (ps_shW h0 q1 q2 q3 0 0 0 ((-1)) ((pw + pl)) ++ ps_trW cI cZ q1 a1 n2 ((ps_cp (va_up g1 7 (ps_mk g1 n2 g2 n1)) (va_up g2 7 (ps_mk g2 n1 (va_up g1 7 (ps_mk g1 n2 g2 n1)) n2)) n2)) ++ ps_trW cI cZ q2 a2 n2 (va_up g2 7 (ps_mk g2 n1 (va_up g1 7 (ps_mk g1 n2 g2 n1)) n2)) ++ ps_lsW cI q3 b 0 0 lh ++ [(o0, .inl (cL, 1, .inr (.inl ov)))] ++ ps_mdW cI cZ w0 b0 th mn kn co ln wr lt f) := hD
    refine lv_istore (lv' := [(5, .int 2), (0, .ref sb), (1, .ref h0), (2, .ref w0), (3, .ref o0), (4, .int (nI (6 * t)))]) hx hb dL_law_889 hl (by decide) rfl (fun ls hl => ?_)
    refine lv_aload_n hx hb dL_law_891 rfl (lv_at hl 3 rfl) ?_
    refine ps_cqi (wc := ps_mdW cI cZ w0 b0 th mn kn co ln wr lt f) (wr := ps_shW h0 q1 q2 q3 0 0 0 ((-1)) ((pw + pl)) ++ ps_trW cI cZ q1 a1 n2 ((ps_cp (va_up g1 7 (ps_mk g1 n2 g2 n1)) (va_up g2 7 (ps_mk g2 n1 (va_up g1 7 (ps_mk g1 n2 g2 n1)) n2)) n2)) ++ ps_trW cI cZ q2 a2 n2 (va_up g2 7 (ps_mk g2 n1 (va_up g1 7 (ps_mk g1 n2 g2 n1)) n2)) ++ ps_lsW cI q3 b 0 0 lh ++ [(o0, .inl (cL, 1, .inr (.inl ov)))]) (w1 := ps_mdW cI cZ w0 b0 2 kn kn 0 0 ((wr + lt)) ((-1)) ((ps_st (ps_oG f kn) kn))) (ws2 := ps_shW h0 q1 q2 q3 0 0 0 ((-1)) ((pw + pl)) ++ ps_trW cI cZ q1 a1 n2 ((ps_cp (va_up g1 7 (ps_mk g1 n2 g2 n1)) (va_up g2 7 (ps_mk g2 n1 (va_up g1 7 (ps_mk g1 n2 g2 n1)) n2)) n2)) ++ ps_trW cI cZ q2 a2 n2 (va_up g2 7 (ps_mk g2 n1 (va_up g1 7 (ps_mk g1 n2 g2 n1)) n2)) ++ ps_lsW cI q3 b 0 0 lh ++ [(o0, .inl (cL, 1, .inr (.inl ov)))] ++ ps_mdW cI cZ w0 b0 2 kn kn 0 0 ((wr + lt)) ((-1)) ((ps_st (ps_oG f kn) kn))) (va_runV (C := RX3) (As := []) (rest := []) ⟨hx, hb, hml, hown, hT⟩ (mX3_commit_2 l dC dI cI cZ w0 b0 th mn kn co ln wr lt f b3 b4 h5 h6 h7 h8 _) (cwV 0 hT (ps_gV tw_ml_L_109 tw_im_X3_commit tw_se_X3_commit tw_in_X3 tw_co_X3_commit) rfl rfl rfl ⟨rfl, by decide, by decide, by decide +kernel⟩ ⟨Nat.le_of_ble_eq_true rfl, Nat.le_of_ble_eq_true rfl⟩) (ps_qreV (wc := ps_mdW cI cZ w0 b0 th mn kn co ln wr lt f) (ci := 3) [22, 23, 24, 25, 26, 27, 28, 29, 30, 31, 32] hN hP hK hD rfl rfl rfl rfl rfl) rfl rfl hl.1 rfl (lv_room (Nat.le_of_ble_eq_true rfl)) dL_law_892 ⟨hc1, hs1⟩) hS hA hP hD [22, 23, 24, 25, 26, 27, 28, 29, 30, 31, 32] [0, 1, 2, 3, 4, 5, 6, 7, 8, 9, 10, 11, 12, 13, 14, 15, 16, 17, 18, 19, 20, 21] [0, 1, 2, 3, 4, 5, 6, 7, 8, 9, 10, 11, 12, 13, 14, 15, 16, 17, 18, 19, 20, 21, 22, 23, 24, 25, 26, 27, 28, 29, 30, 31, 32] rfl rfl rfl (by decide) rfl rfl rfl (fun H locs hP hD hS => ?_)
    have hP : va_P (dC, dI) vwCl (ps_shW h0 q1 q2 q3 0 0 0 ((-1)) ((pw + pl)) ++ ps_trW cI cZ q1 a1 n2 ((ps_cp (va_up g1 7 (ps_mk g1 n2 g2 n1)) (va_up g2 7 (ps_mk g2 n1 (va_up g1 7 (ps_mk g1 n2 g2 n1)) n2)) n2)) ++ ps_trW cI cZ q2 a2 n2 (va_up g2 7 (ps_mk g2 n1 (va_up g1 7 (ps_mk g1 n2 g2 n1)) n2)) ++ ps_lsW cI q3 b 0 0 lh ++ [(o0, .inl (cL, 1, .inr (.inl ov)))] ++ ps_mdW cI cZ w0 b0 2 kn kn 0 0 ((wr + lt)) ((-1)) ((ps_st (ps_oG f kn) kn))) H := hP
    have hD : va_D A (ps_shW h0 q1 q2 q3 0 0 0 ((-1)) ((pw + pl)) ++ ps_trW cI cZ q1 a1 n2 ((ps_cp (va_up g1 7 (ps_mk g1 n2 g2 n1)) (va_up g2 7 (ps_mk g2 n1 (va_up g1 7 (ps_mk g1 n2 g2 n1)) n2)) n2)) ++ ps_trW cI cZ q2 a2 n2 (va_up g2 7 (ps_mk g2 n1 (va_up g1 7 (ps_mk g1 n2 g2 n1)) n2)) ++ ps_lsW cI q3 b 0 0 lh ++ [(o0, .inl (cL, 1, .inr (.inl ov)))] ++ ps_mdW cI cZ w0 b0 2 kn kn 0 0 ((wr + lt)) ((-1)) ((ps_st (ps_oG f kn) kn))) := hD
    refine lv_istore (lv' := [(6, .int 0), (5, .int 2), (0, .ref sb), (1, .ref h0), (2, .ref w0), (3, .ref o0), (4, .int (nI (6 * t)))]) hx hb dL_law_895 hl (by decide) rfl (fun ls hl => ?_)
    refine lv_aload_n hx hb dL_law_897 rfl (lv_at hl 4 rfl) ?_
    refine vp_callSi (va_Run.run (va_runV (C := RX3) (As := []) (rest := []) ⟨hx, hb, hml, hown, hT⟩ (mX3_thrown l dC dI cI cZ w0 b0 2 kn kn 0 0 ((wr + lt)) ((-1)) ((ps_st (ps_oG f kn) kn))) (cwV 0 hT (ps_gV tw_ml_L_71 tw_im_X3_thrown tw_se_X3_thrown tw_in_X3 tw_co_X3_thrown) rfl rfl rfl ⟨rfl, by decide, by decide, by decide +kernel⟩ ⟨Nat.le_of_ble_eq_true rfl, Nat.le_of_ble_eq_true rfl⟩) (ps_preV (ci := 3) (q0 := 0) hN (hP.sub (ws' := ps_mdW cI cZ w0 b0 2 kn kn 0 0 ((wr + lt)) ((-1)) ((ps_st (ps_oG f kn) kn))) [22, 23, 24, 25, 26, 27, 28, 29, 30, 31, 32] rfl) hK rfl rfl) rfl rfl hl.1 rfl (lv_room (Nat.le_of_ble_eq_true rfl)) dL_law_898 ⟨hc1, hs1⟩)) (fun r hr9 => ?_)
    obtain rfl : r = 2 := hr9
    refine lv_iload hx hb dL_law_901 (lv_at hl 1 rfl) ?_
    refine lv_icmp_eq (tgt := 908) hx hb dL_law_903 rfl (fun h903 => ?_) (fun h903 => ?_)
    · skip
      refine lv_iload hx hb dL_law_908 (lv_at hl 1 rfl) ?_
      refine lv_if_ne (tgt := 925) hx hb dL_law_910 rfl (fun h910 => ?_) (fun h910 => ?_)
      · skip
        refine lv_goto (tgt := 1028) hx hb dL_law_925 rfl ?_
        refine W.widen (k := cells + 1) (n := slots + 6) (Nat.le_refl _) (Nat.le_refl _) ?_
        exact kk _ _ _ _ _ _ _ _ _ _ _ _ _ _ _ _ _ _ _ _ _ _ _ _ hJ (lv_sub hl [2, 3, 4, 5, 6] rfl) hP hD hS
      · skip
        exact absurd h910 (by decide)
    · skip
      exact absurd rfl h903
set_option maxHeartbeats 4000000 in
set_option maxRecDepth 100000 in
theorem cs_charge {p : Program} {l : Launch} {e : Env} {s : State} {m : MethodId} {args : Array Value} {below : List Frame} {meth : Method} {c : Code} {Q : State → Prop} {dC : Nat → ClassId} {dI : Nat → Nat → Nat} {cI cZ cL : ClassId} {A : Nat → Prop} {sb L : Nat} {xs : Nat → Int32} {h0 q1 q2 q3 b o0 w0 : Nat} {a1 a2 b0 : Nat → Nat} {t cells slots : Nat} (C : ps_Cx p l s m args c dC dI cI cZ cL A sb L xs) (ht : 6 * t + 6 ≤ L) (hc1 : cells + 1 ≤ room_1.cells) (hs1 : slots + 6 ≤ room_1.slots) (kk : ps_Hd p l e s m args below meth c Q dC dI cI cZ cL A sb h0 q1 q2 q3 b o0 w0 a1 a2 b0 t (cells + 1) (slots + 6) 1028) : ps_Hd p l e s m args below meth c Q dC dI cI cZ cL A sb h0 q1 q2 q3 b o0 w0 a1 a2 b0 t cells slots 928 := by
  obtain ⟨hlt, hx, hb, hml, hown, hT, hN, hE, hZ, hK3, hA, hX, hbl, hbA, hL⟩ := C
  have hK : va_K (dC, dI) vwCl (ps_ty cI cZ) s := hK3.sub [0, 1] rfl
  intro n1 n2 g1 g2 lf le lh cx cy cz pl pw ov th mn kn co ln wr lt f ls H locs hJ hl hP hD hS
  rcases ps_Jcharge hJ (xs (6 * t + 1)) with ⟨h1, h2, h3, hJ⟩ | ⟨h1, h2⟩
  · skip
    refine lv_aload_n hx hb dL_law_928 rfl (lv_at hl 1 rfl) ?_
    refine lv_aload_n hx hb dL_law_929 rfl (lv_at hl 0 rfl) ?_
    refine lv_iload hx hb dL_law_930 (lv_at hl 4 rfl) ?_
    refine lv_iconst (v := 1) hx hb dL_law_932 (by decide) ?_
    refine lv_iadd hx hb dL_law_933 ?_
    refine ps_sld (j := 6 * t) hx hb hX hbl hbA hS 1 (by decide) (by omega) hL dL_law_934 ?_
    refine ps_cqi (wc := ps_shW h0 q1 q2 q3 cx cy cz pl pw ++ ps_trW cI cZ q1 a1 n1 g1 ++ ps_trW cI cZ q2 a2 n2 g2 ++ ps_lsW cI q3 b lf le lh ++ [(o0, .inl (cL, 1, .inr (.inl ov)))]) (wr := ps_mdW cI cZ w0 b0 th mn kn co ln wr lt f) (w1 := ps_shW h0 q1 q2 q3 cx cy cz ((xs (6 * t + 1))) pw ++ ps_trW cI cZ q1 a1 n1 g1 ++ ps_trW cI cZ q2 a2 n2 g2 ++ ps_lsW cI q3 b lf le lh ++ [(o0, .inl (cL, 1, .inr (.inl ov)))]) (ws2 := ps_shW h0 q1 q2 q3 cx cy cz ((xs (6 * t + 1))) pw ++ ps_trW cI cZ q1 a1 n1 g1 ++ ps_trW cI cZ q2 a2 n2 g2 ++ ps_lsW cI q3 b lf le lh ++ [(o0, .inl (cL, 1, .inr (.inl ov)))] ++ ps_mdW cI cZ w0 b0 th mn kn co ln wr lt f) (vx_runSW (As := [.ref h0, .int (xs (6 * t + 1))]) (rest := []) ⟨hx, hb, hml, hown, hT⟩ (mL_charge_n l hlt dC dI cI cZ h0 q1 q2 q3 b a1 a2 n1 n2 g1 g2 lf le lh cx cy cz pl pw cL o0 ov (xs (6 * t + 1)) h1 h2 _) (vx_cwSW 2 hT (ps_gSW tw_ml_L_110 tw_st_L_charge tw_in_L tw_cw_L_charge) rfl rfl rfl ⟨by decide, by decide, by decide +kernel⟩ ⟨Nat.le_of_ble_eq_true rfl, Nat.le_of_ble_eq_true rfl⟩) (ps_xreS (wc := ps_shW h0 q1 q2 q3 cx cy cz pl pw ++ ps_trW cI cZ q1 a1 n1 g1 ++ ps_trW cI cZ q2 a2 n2 g2 ++ ps_lsW cI q3 b lf le lh ++ [(o0, .inl (cL, 1, .inr (.inl ov)))]) [0, 1, 2, 3, 4, 5, 6, 7, 8, 9, 10, 11, 12, 13, 14, 15, 16, 17, 18, 19, 20, 21] hN hE hZ hS hA hP hK3 hD rfl rfl rfl) rfl rfl hl.1 rfl (lv_room (Nat.le_of_ble_eq_true rfl)) dL_law_935 ⟨hc1, hs1⟩) hS hA hP hD [0, 1, 2, 3, 4, 5, 6, 7, 8, 9, 10, 11, 12, 13, 14, 15, 16, 17, 18, 19, 20, 21] [22, 23, 24, 25, 26, 27, 28, 29, 30, 31, 32] [11, 12, 13, 14, 15, 16, 17, 18, 19, 20, 21, 22, 23, 24, 25, 26, 27, 28, 29, 30, 31, 32, 0, 1, 2, 3, 4, 5, 6, 7, 8, 9, 10] rfl rfl rfl (by decide) rfl rfl rfl (fun H locs hP hD hS => ?_)
    have hP : va_P (dC, dI) vwCl (ps_shW h0 q1 q2 q3 cx cy cz ((xs (6 * t + 1))) pw ++ ps_trW cI cZ q1 a1 n1 g1 ++ ps_trW cI cZ q2 a2 n2 g2 ++ ps_lsW cI q3 b lf le lh ++ [(o0, .inl (cL, 1, .inr (.inl ov)))] ++ ps_mdW cI cZ w0 b0 th mn kn co ln wr lt f) H := hP
    have hD : va_D A (ps_shW h0 q1 q2 q3 cx cy cz ((xs (6 * t + 1))) pw ++ ps_trW cI cZ q1 a1 n1 g1 ++ ps_trW cI cZ q2 a2 n2 g2 ++ ps_lsW cI q3 b lf le lh ++ [(o0, .inl (cL, 1, .inr (.inl ov)))] ++ ps_mdW cI cZ w0 b0 th mn kn co ln wr lt f) := hD
    refine lv_istore (lv' := [(5, .int 0), (0, .ref sb), (1, .ref h0), (2, .ref w0), (3, .ref o0), (4, .int (nI (6 * t)))]) hx hb dL_law_938 hl (by decide) rfl (fun ls hl => ?_)
    refine lv_aload_n hx hb dL_law_940 rfl (lv_at hl 3 rfl) ?_
    refine lv_aload_n hx hb dL_law_941 rfl (lv_at hl 1 rfl) ?_
    refine lv_iload hx hb dL_law_942 (lv_at hl 5 rfl) ?_
    refine lv_iconst (v := 1) hx hb dL_law_944 (by decide) ?_
    refine lv_iadd hx hb dL_law_945 ?_
    refine ps_sld (j := 6 * t) hx hb hX hbl hbA hS 1 (by decide) (by omega) hL dL_law_946 ?_
    refine ps_cqv (wc := ps_mdW cI cZ w0 b0 th mn kn co ln wr lt f) (wr := ps_shW h0 q1 q2 q3 cx cy cz ((xs (6 * t + 1))) pw ++ ps_trW cI cZ q1 a1 n1 g1 ++ ps_trW cI cZ q2 a2 n2 g2 ++ ps_lsW cI q3 b lf le lh ++ [(o0, .inl (cL, 1, .inr (.inl ov)))]) (w1 := ps_mdW cI cZ w0 b0 0 mn kn co ln wr (xs (6 * t + 1)) f) (ws2 := ps_shW h0 q1 q2 q3 cx cy cz ((xs (6 * t + 1))) pw ++ ps_trW cI cZ q1 a1 n1 g1 ++ ps_trW cI cZ q2 a2 n2 g2 ++ ps_lsW cI q3 b lf le lh ++ [(o0, .inl (cL, 1, .inr (.inl ov)))] ++ ps_mdW cI cZ w0 b0 0 mn kn co ln wr (xs (6 * t + 1)) f) (va_runV (C := RX3) (As := [.int (xs (6 * t + 1))]) (rest := []) ⟨hx, hb, hml, hown, hT⟩ (mX3_charge_n l dC dI cI cZ w0 b0 th mn kn co ln wr lt f (xs (6 * t + 1)) h3 _) (cwV 1 hT (ps_gV tw_ml_L_113 tw_im_X3_charge tw_se_X3_charge tw_in_X3 tw_co_X3_charge) rfl rfl rfl ⟨rfl, by decide, by decide, by decide +kernel⟩ ⟨Nat.le_of_ble_eq_true rfl, Nat.le_of_ble_eq_true rfl⟩) (ps_qreV (wc := ps_mdW cI cZ w0 b0 th mn kn co ln wr lt f) (ci := 3) [22, 23, 24, 25, 26, 27, 28, 29, 30, 31, 32] hN hP hK hD rfl rfl rfl rfl rfl) rfl rfl hl.1 rfl (lv_room (Nat.le_of_ble_eq_true rfl)) dL_law_947 ⟨hc1, hs1⟩) hS hA hP hD [22, 23, 24, 25, 26, 27, 28, 29, 30, 31, 32] [0, 1, 2, 3, 4, 5, 6, 7, 8, 9, 10, 11, 12, 13, 14, 15, 16, 17, 18, 19, 20, 21] [0, 1, 2, 3, 4, 5, 6, 7, 8, 9, 10, 11, 12, 13, 14, 15, 16, 17, 18, 19, 20, 21, 22, 23, 24, 25, 26, 27, 28, 29, 30, 31, 32] rfl rfl rfl (by decide) rfl rfl rfl (fun H locs hP hD hS => ?_)
    have hP : va_P (dC, dI) vwCl (ps_shW h0 q1 q2 q3 cx cy cz ((xs (6 * t + 1))) pw ++ ps_trW cI cZ q1 a1 n1 g1 ++ ps_trW cI cZ q2 a2 n2 g2 ++ ps_lsW cI q3 b lf le lh ++ [(o0, .inl (cL, 1, .inr (.inl ov)))] ++ ps_mdW cI cZ w0 b0 0 mn kn co ln wr (xs (6 * t + 1)) f) H := hP
    have hD : va_D A (ps_shW h0 q1 q2 q3 cx cy cz ((xs (6 * t + 1))) pw ++ ps_trW cI cZ q1 a1 n1 g1 ++ ps_trW cI cZ q2 a2 n2 g2 ++ ps_lsW cI q3 b lf le lh ++ [(o0, .inl (cL, 1, .inr (.inl ov)))] ++ ps_mdW cI cZ w0 b0 0 mn kn co ln wr (xs (6 * t + 1)) f) := hD
    refine lv_aload_n hx hb dL_law_950 rfl (lv_at hl 3 rfl) ?_
    refine vp_callSi (va_Run.run (va_runV (C := RX3) (As := []) (rest := []) ⟨hx, hb, hml, hown, hT⟩ (mX3_thrown l dC dI cI cZ w0 b0 0 mn kn co ln wr (xs (6 * t + 1)) f) (cwV 0 hT (ps_gV tw_ml_L_71 tw_im_X3_thrown tw_se_X3_thrown tw_in_X3 tw_co_X3_thrown) rfl rfl rfl ⟨rfl, by decide, by decide, by decide +kernel⟩ ⟨Nat.le_of_ble_eq_true rfl, Nat.le_of_ble_eq_true rfl⟩) (ps_preV (ci := 3) (q0 := 0) hN (hP.sub (ws' := ps_mdW cI cZ w0 b0 0 mn kn co ln wr (xs (6 * t + 1)) f) [22, 23, 24, 25, 26, 27, 28, 29, 30, 31, 32] rfl) hK rfl rfl) rfl rfl hl.1 rfl (lv_room (Nat.le_of_ble_eq_true rfl)) dL_law_951 ⟨hc1, hs1⟩)) (fun r hr9 => ?_)
    obtain rfl : r = 0 := hr9
    refine lv_iload hx hb dL_law_954 (lv_at hl 0 rfl) ?_
    refine lv_icmp_eq (tgt := 961) hx hb dL_law_956 rfl (fun h956 => ?_) (fun h956 => ?_)
    · skip
      refine lv_goto (tgt := 1028) hx hb dL_law_961 rfl ?_
      refine W.widen (k := cells + 1) (n := slots + 6) (Nat.le_refl _) (Nat.le_refl _) ?_
      exact kk _ _ _ _ _ _ _ _ _ _ _ _ _ _ _ _ _ _ _ _ _ _ _ _ hJ (lv_sub hl [1, 2, 3, 4, 5] rfl) hP hD hS
    · skip
      exact absurd rfl h956
  · skip
    refine lv_aload_n hx hb dL_law_928 rfl (lv_at hl 1 rfl) ?_
    refine lv_aload_n hx hb dL_law_929 rfl (lv_at hl 0 rfl) ?_
    refine lv_iload hx hb dL_law_930 (lv_at hl 4 rfl) ?_
    refine lv_iconst (v := 1) hx hb dL_law_932 (by decide) ?_
    refine lv_iadd hx hb dL_law_933 ?_
    refine ps_sld (j := 6 * t) hx hb hX hbl hbA hS 1 (by decide) (by omega) hL dL_law_934 ?_
    refine ps_cqi (wc := ps_shW h0 q1 q2 q3 cx cy cz pl pw ++ ps_trW cI cZ q1 a1 n1 g1 ++ ps_trW cI cZ q2 a2 n2 g2 ++ ps_lsW cI q3 b lf le lh ++ [(o0, .inl (cL, 1, .inr (.inl ov)))]) (wr := ps_mdW cI cZ w0 b0 th mn kn co ln wr lt f) (w1 := ps_shW h0 q1 q2 q3 cx cy cz pl pw ++ ps_trW cI cZ q1 a1 n1 g1 ++ ps_trW cI cZ q2 a2 n2 g2 ++ ps_lsW cI q3 b lf le lh ++ [(o0, .inl (cL, 1, .inr (.inl ov)))]) (ws2 := ps_shW h0 q1 q2 q3 cx cy cz pl pw ++ ps_trW cI cZ q1 a1 n1 g1 ++ ps_trW cI cZ q2 a2 n2 g2 ++ ps_lsW cI q3 b lf le lh ++ [(o0, .inl (cL, 1, .inr (.inl ov)))] ++ ps_mdW cI cZ w0 b0 th mn kn co ln wr lt f) (vx_runSW (As := [.ref h0, .int (xs (6 * t + 1))]) (rest := []) ⟨hx, hb, hml, hown, hT⟩ (mL_charge_x l hlt dC dI cI cZ h0 q1 q2 q3 b a1 a2 n1 n2 g1 g2 lf le lh cx cy cz pl pw cL o0 ov (xs (6 * t + 1)) h1 _) (vx_cwSW 2 hT (ps_gSW tw_ml_L_110 tw_st_L_charge tw_in_L tw_cw_L_charge) rfl rfl rfl ⟨by decide, by decide, by decide +kernel⟩ ⟨Nat.le_of_ble_eq_true rfl, Nat.le_of_ble_eq_true rfl⟩) (ps_xreS (wc := ps_shW h0 q1 q2 q3 cx cy cz pl pw ++ ps_trW cI cZ q1 a1 n1 g1 ++ ps_trW cI cZ q2 a2 n2 g2 ++ ps_lsW cI q3 b lf le lh ++ [(o0, .inl (cL, 1, .inr (.inl ov)))]) [0, 1, 2, 3, 4, 5, 6, 7, 8, 9, 10, 11, 12, 13, 14, 15, 16, 17, 18, 19, 20, 21] hN hE hZ hS hA hP hK3 hD rfl rfl rfl) rfl rfl hl.1 rfl (lv_room (Nat.le_of_ble_eq_true rfl)) dL_law_935 ⟨hc1, hs1⟩) hS hA hP hD [0, 1, 2, 3, 4, 5, 6, 7, 8, 9, 10, 11, 12, 13, 14, 15, 16, 17, 18, 19, 20, 21] [22, 23, 24, 25, 26, 27, 28, 29, 30, 31, 32] [11, 12, 13, 14, 15, 16, 17, 18, 19, 20, 21, 22, 23, 24, 25, 26, 27, 28, 29, 30, 31, 32, 0, 1, 2, 3, 4, 5, 6, 7, 8, 9, 10] rfl rfl rfl (by decide) rfl rfl rfl (fun H locs hP hD hS => ?_)
    have hP : va_P (dC, dI) vwCl (ps_shW h0 q1 q2 q3 cx cy cz pl pw ++ ps_trW cI cZ q1 a1 n1 g1 ++ ps_trW cI cZ q2 a2 n2 g2 ++ ps_lsW cI q3 b lf le lh ++ [(o0, .inl (cL, 1, .inr (.inl ov)))] ++ ps_mdW cI cZ w0 b0 th mn kn co ln wr lt f) H := hP
    have hD : va_D A (ps_shW h0 q1 q2 q3 cx cy cz pl pw ++ ps_trW cI cZ q1 a1 n1 g1 ++ ps_trW cI cZ q2 a2 n2 g2 ++ ps_lsW cI q3 b lf le lh ++ [(o0, .inl (cL, 1, .inr (.inl ov)))] ++ ps_mdW cI cZ w0 b0 th mn kn co ln wr lt f) := hD
    refine lv_istore (lv' := [(5, .int 1), (0, .ref sb), (1, .ref h0), (2, .ref w0), (3, .ref o0), (4, .int (nI (6 * t)))]) hx hb dL_law_938 hl (by decide) rfl (fun ls hl => ?_)
    refine lv_aload_n hx hb dL_law_940 rfl (lv_at hl 3 rfl) ?_
    refine lv_aload_n hx hb dL_law_941 rfl (lv_at hl 1 rfl) ?_
    refine lv_iload hx hb dL_law_942 (lv_at hl 5 rfl) ?_
    refine lv_iconst (v := 1) hx hb dL_law_944 (by decide) ?_
    refine lv_iadd hx hb dL_law_945 ?_
    refine ps_sld (j := 6 * t) hx hb hX hbl hbA hS 1 (by decide) (by omega) hL dL_law_946 ?_
    refine ps_cqv (wc := ps_mdW cI cZ w0 b0 th mn kn co ln wr lt f) (wr := ps_shW h0 q1 q2 q3 cx cy cz pl pw ++ ps_trW cI cZ q1 a1 n1 g1 ++ ps_trW cI cZ q2 a2 n2 g2 ++ ps_lsW cI q3 b lf le lh ++ [(o0, .inl (cL, 1, .inr (.inl ov)))]) (w1 := ps_mdW cI cZ w0 b0 1 mn kn co ln wr lt f) (ws2 := ps_shW h0 q1 q2 q3 cx cy cz pl pw ++ ps_trW cI cZ q1 a1 n1 g1 ++ ps_trW cI cZ q2 a2 n2 g2 ++ ps_lsW cI q3 b lf le lh ++ [(o0, .inl (cL, 1, .inr (.inl ov)))] ++ ps_mdW cI cZ w0 b0 1 mn kn co ln wr lt f) (va_runV (C := RX3) (As := [.int (xs (6 * t + 1))]) (rest := []) ⟨hx, hb, hml, hown, hT⟩ (mX3_charge_1 l dC dI cI cZ w0 b0 th mn kn co ln wr lt f (xs (6 * t + 1)) h2 _) (cwV 1 hT (ps_gV tw_ml_L_113 tw_im_X3_charge tw_se_X3_charge tw_in_X3 tw_co_X3_charge) rfl rfl rfl ⟨rfl, by decide, by decide, by decide +kernel⟩ ⟨Nat.le_of_ble_eq_true rfl, Nat.le_of_ble_eq_true rfl⟩) (ps_qreV (wc := ps_mdW cI cZ w0 b0 th mn kn co ln wr lt f) (ci := 3) [22, 23, 24, 25, 26, 27, 28, 29, 30, 31, 32] hN hP hK hD rfl rfl rfl rfl rfl) rfl rfl hl.1 rfl (lv_room (Nat.le_of_ble_eq_true rfl)) dL_law_947 ⟨hc1, hs1⟩) hS hA hP hD [22, 23, 24, 25, 26, 27, 28, 29, 30, 31, 32] [0, 1, 2, 3, 4, 5, 6, 7, 8, 9, 10, 11, 12, 13, 14, 15, 16, 17, 18, 19, 20, 21] [0, 1, 2, 3, 4, 5, 6, 7, 8, 9, 10, 11, 12, 13, 14, 15, 16, 17, 18, 19, 20, 21, 22, 23, 24, 25, 26, 27, 28, 29, 30, 31, 32] rfl rfl rfl (by decide) rfl rfl rfl (fun H locs hP hD hS => ?_)
    have hP : va_P (dC, dI) vwCl (ps_shW h0 q1 q2 q3 cx cy cz pl pw ++ ps_trW cI cZ q1 a1 n1 g1 ++ ps_trW cI cZ q2 a2 n2 g2 ++ ps_lsW cI q3 b lf le lh ++ [(o0, .inl (cL, 1, .inr (.inl ov)))] ++ ps_mdW cI cZ w0 b0 1 mn kn co ln wr lt f) H := hP
    have hD : va_D A (ps_shW h0 q1 q2 q3 cx cy cz pl pw ++ ps_trW cI cZ q1 a1 n1 g1 ++ ps_trW cI cZ q2 a2 n2 g2 ++ ps_lsW cI q3 b lf le lh ++ [(o0, .inl (cL, 1, .inr (.inl ov)))] ++ ps_mdW cI cZ w0 b0 1 mn kn co ln wr lt f) := hD
    refine lv_aload_n hx hb dL_law_950 rfl (lv_at hl 3 rfl) ?_
    refine vp_callSi (va_Run.run (va_runV (C := RX3) (As := []) (rest := []) ⟨hx, hb, hml, hown, hT⟩ (mX3_thrown l dC dI cI cZ w0 b0 1 mn kn co ln wr lt f) (cwV 0 hT (ps_gV tw_ml_L_71 tw_im_X3_thrown tw_se_X3_thrown tw_in_X3 tw_co_X3_thrown) rfl rfl rfl ⟨rfl, by decide, by decide, by decide +kernel⟩ ⟨Nat.le_of_ble_eq_true rfl, Nat.le_of_ble_eq_true rfl⟩) (ps_preV (ci := 3) (q0 := 0) hN (hP.sub (ws' := ps_mdW cI cZ w0 b0 1 mn kn co ln wr lt f) [22, 23, 24, 25, 26, 27, 28, 29, 30, 31, 32] rfl) hK rfl rfl) rfl rfl hl.1 rfl (lv_room (Nat.le_of_ble_eq_true rfl)) dL_law_951 ⟨hc1, hs1⟩)) (fun r hr9 => ?_)
    obtain rfl : r = 1 := hr9
    refine lv_iload hx hb dL_law_954 (lv_at hl 0 rfl) ?_
    refine lv_icmp_eq (tgt := 961) hx hb dL_law_956 rfl (fun h956 => ?_) (fun h956 => ?_)
    · skip
      refine lv_goto (tgt := 1028) hx hb dL_law_961 rfl ?_
      refine W.widen (k := cells + 1) (n := slots + 6) (Nat.le_refl _) (Nat.le_refl _) ?_
      exact kk _ _ _ _ _ _ _ _ _ _ _ _ _ _ _ _ _ _ _ _ _ _ _ _ hJ (lv_sub hl [1, 2, 3, 4, 5] rfl) hP hD hS
    · skip
      exact absurd rfl h956
set_option maxHeartbeats 4000000 in
set_option maxRecDepth 100000 in
theorem cs_open {p : Program} {l : Launch} {e : Env} {s : State} {m : MethodId} {args : Array Value} {below : List Frame} {meth : Method} {c : Code} {Q : State → Prop} {dC : Nat → ClassId} {dI : Nat → Nat → Nat} {cI cZ cL : ClassId} {A : Nat → Prop} {sb L : Nat} {xs : Nat → Int32} {h0 q1 q2 q3 b o0 w0 : Nat} {a1 a2 b0 : Nat → Nat} {t cells slots : Nat} (C : ps_Cx p l s m args c dC dI cI cZ cL A sb L xs) (ht : 6 * t + 6 ≤ L) (hc1 : cells + 1 ≤ room_1.cells) (hs1 : slots + 6 ≤ room_1.slots) (kk : ps_Hd p l e s m args below meth c Q dC dI cI cZ cL A sb h0 q1 q2 q3 b o0 w0 a1 a2 b0 t (cells + 1) (slots + 6) 1028) : ps_Hd p l e s m args below meth c Q dC dI cI cZ cL A sb h0 q1 q2 q3 b o0 w0 a1 a2 b0 t cells slots 964 := by
  obtain ⟨hlt, hx, hb, hml, hown, hT, hN, hE, hZ, hK3, hA, hX, hbl, hbA, hL⟩ := C
  have hK : va_K (dC, dI) vwCl (ps_ty cI cZ) s := hK3.sub [0, 1] rfl
  intro n1 n2 g1 g2 lf le lh cx cy cz pl pw ov th mn kn co ln wr lt f ls H locs hJ hl hP hD hS
  obtain ⟨h1, h2, h3, hJ⟩ := ps_Jopen hJ
  refine lv_aload_n hx hb dL_law_964 rfl (lv_at hl 1 rfl) ?_
  refine ps_cqi (wc := ps_shW h0 q1 q2 q3 cx cy cz pl pw ++ ps_trW cI cZ q1 a1 n1 g1 ++ ps_trW cI cZ q2 a2 n2 g2 ++ ps_lsW cI q3 b lf le lh) (wr := [(o0, .inl (cL, 1, .inr (.inl ov)))] ++ ps_mdW cI cZ w0 b0 th mn kn co ln wr lt f) (w1 := ps_shW h0 q1 q2 q3 0 0 0 pl pw ++ ps_trW cI cZ q1 a1 n2 ((ps_cp g1 g2 n2)) ++ ps_trW cI cZ q2 a2 n2 g2 ++ ps_lsW cI q3 b 0 0 lh) (ws2 := ps_shW h0 q1 q2 q3 0 0 0 pl pw ++ ps_trW cI cZ q1 a1 n2 ((ps_cp g1 g2 n2)) ++ ps_trW cI cZ q2 a2 n2 g2 ++ ps_lsW cI q3 b 0 0 lh ++ [(o0, .inl (cL, 1, .inr (.inl ov)))] ++ ps_mdW cI cZ w0 b0 th mn kn co ln wr lt f) (va_runV (C := RX2) (As := []) (rest := []) ⟨hx, hb, hml, hown, hT⟩ (mX2_open l dC dI cI cZ h0 q1 q2 q3 b a1 a2 n1 n2 g1 g2 lf le lh cx cy cz pl pw h1 _) (cwV 0 hT (ps_gV tw_ml_L_114 tw_im_X2_open tw_se_X2_open tw_in_X2 tw_co_X2_open) rfl rfl rfl ⟨rfl, by decide, by decide, by decide +kernel⟩ ⟨Nat.le_of_ble_eq_true rfl, Nat.le_of_ble_eq_true rfl⟩) (ps_qreV (wc := ps_shW h0 q1 q2 q3 cx cy cz pl pw ++ ps_trW cI cZ q1 a1 n1 g1 ++ ps_trW cI cZ q2 a2 n2 g2 ++ ps_lsW cI q3 b lf le lh) (ci := 2) [0, 1, 2, 3, 4, 5, 6, 7, 8, 9, 10, 11, 12, 13, 14, 15, 16, 17, 18, 19, 20] hN hP hK hD rfl rfl rfl rfl rfl) rfl rfl hl.1 rfl (lv_room (Nat.le_of_ble_eq_true rfl)) dL_law_965 ⟨(Nat.le_of_succ_le hc1), (Nat.le_trans (Nat.le_add_right _ 6) hs1)⟩) hS hA hP hD [0, 1, 2, 3, 4, 5, 6, 7, 8, 9, 10, 11, 12, 13, 14, 15, 16, 17, 18, 19, 20] [21, 22, 23, 24, 25, 26, 27, 28, 29, 30, 31, 32] [12, 13, 14, 15, 16, 17, 18, 19, 20, 21, 22, 23, 24, 25, 26, 27, 28, 29, 30, 31, 32, 0, 1, 2, 3, 4, 5, 6, 7, 8, 9, 10, 11] rfl rfl rfl (by decide) rfl rfl rfl (fun H locs hP hD hS => ?_)
  have hP : va_P (dC, dI) vwCl (ps_shW h0 q1 q2 q3 0 0 0 pl pw ++ ps_trW cI cZ q1 a1 n2 ((ps_cp g1 g2 n2)) ++ ps_trW cI cZ q2 a2 n2 g2 ++ ps_lsW cI q3 b 0 0 lh ++ [(o0, .inl (cL, 1, .inr (.inl ov)))] ++ ps_mdW cI cZ w0 b0 th mn kn co ln wr lt f) H := hP
  have hD : va_D A (ps_shW h0 q1 q2 q3 0 0 0 pl pw ++ ps_trW cI cZ q1 a1 n2 ((ps_cp g1 g2 n2)) ++ ps_trW cI cZ q2 a2 n2 g2 ++ ps_lsW cI q3 b 0 0 lh ++ [(o0, .inl (cL, 1, .inr (.inl ov)))] ++ ps_mdW cI cZ w0 b0 th mn kn co ln wr lt f) := hD
  refine lv_aload_n hx hb dL_law_968 rfl (lv_at hl 2 rfl) ?_
  refine ps_cqi (wc := ps_mdW cI cZ w0 b0 th mn kn co ln wr lt f) (wr := ps_shW h0 q1 q2 q3 0 0 0 pl pw ++ ps_trW cI cZ q1 a1 n2 ((ps_cp g1 g2 n2)) ++ ps_trW cI cZ q2 a2 n2 g2 ++ ps_lsW cI q3 b 0 0 lh ++ [(o0, .inl (cL, 1, .inr (.inl ov)))]) (w1 := ps_mdW cI cZ w0 b0 0 kn kn 0 0 wr lt ((ps_st (ps_oG f kn) kn))) (ws2 := ps_shW h0 q1 q2 q3 0 0 0 pl pw ++ ps_trW cI cZ q1 a1 n2 ((ps_cp g1 g2 n2)) ++ ps_trW cI cZ q2 a2 n2 g2 ++ ps_lsW cI q3 b 0 0 lh ++ [(o0, .inl (cL, 1, .inr (.inl ov)))] ++ ps_mdW cI cZ w0 b0 0 kn kn 0 0 wr lt ((ps_st (ps_oG f kn) kn))) (va_runV (C := RX3) (As := []) (rest := [.int (nI n2)]) ⟨hx, hb, hml, hown, hT⟩ (mX3_open l dC dI cI cZ w0 b0 th mn kn co ln wr lt f h2 _) (cwV 0 hT (ps_gV tw_ml_L_117 tw_im_X3_open tw_se_X3_open tw_in_X3 tw_co_X3_open) rfl rfl rfl ⟨rfl, by decide, by decide, by decide +kernel⟩ ⟨Nat.le_of_ble_eq_true rfl, Nat.le_of_ble_eq_true rfl⟩) (ps_qreV (wc := ps_mdW cI cZ w0 b0 th mn kn co ln wr lt f) (ci := 3) [22, 23, 24, 25, 26, 27, 28, 29, 30, 31, 32] hN hP hK hD rfl rfl rfl rfl rfl) rfl rfl hl.1 rfl (lv_room (Nat.le_of_ble_eq_true rfl)) dL_law_969 ⟨(Nat.le_of_succ_le hc1), (Nat.le_trans (Nat.le_add_right _ 6) hs1)⟩) hS hA hP hD [22, 23, 24, 25, 26, 27, 28, 29, 30, 31, 32] [0, 1, 2, 3, 4, 5, 6, 7, 8, 9, 10, 11, 12, 13, 14, 15, 16, 17, 18, 19, 20, 21] [0, 1, 2, 3, 4, 5, 6, 7, 8, 9, 10, 11, 12, 13, 14, 15, 16, 17, 18, 19, 20, 21, 22, 23, 24, 25, 26, 27, 28, 29, 30, 31, 32] rfl rfl rfl (by decide) rfl rfl rfl (fun H locs hP hD hS => ?_)
  have hP : va_P (dC, dI) vwCl (ps_shW h0 q1 q2 q3 0 0 0 pl pw ++ ps_trW cI cZ q1 a1 n2 ((ps_cp g1 g2 n2)) ++ ps_trW cI cZ q2 a2 n2 g2 ++ ps_lsW cI q3 b 0 0 lh ++ [(o0, .inl (cL, 1, .inr (.inl ov)))] ++ ps_mdW cI cZ w0 b0 0 kn kn 0 0 wr lt ((ps_st (ps_oG f kn) kn))) H := hP
  have hD : va_D A (ps_shW h0 q1 q2 q3 0 0 0 pl pw ++ ps_trW cI cZ q1 a1 n2 ((ps_cp g1 g2 n2)) ++ ps_trW cI cZ q2 a2 n2 g2 ++ ps_lsW cI q3 b 0 0 lh ++ [(o0, .inl (cL, 1, .inr (.inl ov)))] ++ ps_mdW cI cZ w0 b0 0 kn kn 0 0 wr lt ((ps_st (ps_oG f kn) kn))) := hD
  refine lv_icmp_eq (tgt := 1028) hx hb dL_law_972 rfl (fun h972 => ?_) (fun h972 => ?_)
  · skip
    refine W.widen (k := cells + 1) (n := slots + 6) (show cells ≤ cells + 1 from Nat.le_add_right _ _) (show slots ≤ slots + 6 from Nat.le_add_right _ _) ?_
    exact kk _ _ _ _ _ _ _ _ _ _ _ _ _ _ _ _ _ _ _ _ _ _ _ _ hJ (lv_sub hl [0, 1, 2, 3, 4] rfl) hP hD hS
  · skip
    exact absurd (congrArg nI h3) h972
set_option maxHeartbeats 4000000 in
set_option maxRecDepth 100000 in
theorem cs_state {p : Program} {l : Launch} {e : Env} {s : State} {m : MethodId} {args : Array Value} {below : List Frame} {meth : Method} {c : Code} {Q : State → Prop} {dC : Nat → ClassId} {dI : Nat → Nat → Nat} {cI cZ cL : ClassId} {A : Nat → Prop} {sb L : Nat} {xs : Nat → Int32} {h0 q1 q2 q3 b o0 w0 : Nat} {a1 a2 b0 : Nat → Nat} {t cells slots : Nat} (C : ps_Cx p l s m args c dC dI cI cZ cL A sb L xs) (ht : 6 * t + 6 ≤ L) (hc1 : cells + 1 ≤ room_1.cells) (hs1 : slots + 6 ≤ room_1.slots) (kk : ps_Hd p l e s m args below meth c Q dC dI cI cZ cL A sb h0 q1 q2 q3 b o0 w0 a1 a2 b0 t (cells + 1) (slots + 6) 1028) : ps_Hd p l e s m args below meth c Q dC dI cI cZ cL A sb h0 q1 q2 q3 b o0 w0 a1 a2 b0 t cells slots 977 := by
  obtain ⟨hlt, hx, hb, hml, hown, hT, hN, hE, hZ, hK3, hA, hX, hbl, hbA, hL⟩ := C
  have hK : va_K (dC, dI) vwCl (ps_ty cI cZ) s := hK3.sub [0, 1] rfl
  intro n1 n2 g1 g2 lf le lh cx cy cz pl pw ov th mn kn co ln wr lt f ls H locs hJ hl hP hD hS
  obtain ⟨h1, h2, h3, h4, h5, h6, he⟩ := ps_Jstate hJ (xs (6 * t + 1))
  refine lv_aload_n hx hb dL_law_977 rfl (lv_at hl 1 rfl) ?_
  refine lv_aload_n hx hb dL_law_978 rfl (lv_at hl 0 rfl) ?_
  refine lv_iload hx hb dL_law_979 (lv_at hl 4 rfl) ?_
  refine lv_iconst (v := 1) hx hb dL_law_981 (by decide) ?_
  refine lv_iadd hx hb dL_law_982 ?_
  refine ps_sld (j := 6 * t) hx hb hX hbl hbA hS 1 (by decide) (by omega) hL dL_law_983 ?_
  refine vp_callSi (va_Run.run (va_runV (C := RX2) (As := [.int (xs (6 * t + 1))]) (rest := []) ⟨hx, hb, hml, hown, hT⟩ (mX2_state l dC dI cI cZ h0 q1 q2 q3 b a1 a2 n1 n2 g1 g2 lf le lh cx cy cz pl pw h1 h2 h3 (xs (6 * t + 1))) (cwV 1 hT (ps_gV tw_ml_L_118 tw_im_X2_state tw_se_X2_state tw_in_X2 tw_co_X2_state) rfl rfl rfl ⟨rfl, by decide, by decide, by decide +kernel⟩ ⟨Nat.le_of_ble_eq_true rfl, Nat.le_of_ble_eq_true rfl⟩) (ps_preV (ci := 2) (q0 := 0) hN (hP.sub (ws' := ps_shW h0 q1 q2 q3 cx cy cz pl pw ++ ps_trW cI cZ q1 a1 n1 g1 ++ ps_trW cI cZ q2 a2 n2 g2 ++ ps_lsW cI q3 b lf le lh) [0, 1, 2, 3, 4, 5, 6, 7, 8, 9, 10, 11, 12, 13, 14, 15, 16, 17, 18, 19, 20] rfl) hK rfl rfl) rfl rfl hl.1 rfl (lv_room (Nat.le_of_ble_eq_true rfl)) dL_law_984 ⟨(Nat.le_of_succ_le hc1), (Nat.le_trans (Nat.le_add_right _ 6) hs1)⟩)) (fun r hr9 => ?_)
  obtain rfl : r = ps_sv n1 n2 g1 g2 lf le pw (xs (6 * t + 1)) := hr9
  refine lv_aload_n hx hb dL_law_987 rfl (lv_at hl 2 rfl) ?_
  refine lv_aload_n hx hb dL_law_988 rfl (lv_at hl 0 rfl) ?_
  refine lv_iload hx hb dL_law_989 (lv_at hl 4 rfl) ?_
  refine lv_iconst (v := 1) hx hb dL_law_991 (by decide) ?_
  refine lv_iadd hx hb dL_law_992 ?_
  refine ps_sld (j := 6 * t) hx hb hX hbl hbA hS 1 (by decide) (by omega) hL dL_law_993 ?_
  refine ps_cqi (wc := ps_mdW cI cZ w0 b0 th mn kn co ln wr lt f) (wr := ps_shW h0 q1 q2 q3 cx cy cz pl pw ++ ps_trW cI cZ q1 a1 n1 g1 ++ ps_trW cI cZ q2 a2 n2 g2 ++ ps_lsW cI q3 b lf le lh ++ [(o0, .inl (cL, 1, .inr (.inl ov)))]) (w1 := ps_mdW cI cZ w0 b0 0 mn kn co ln wr lt f) (ws2 := ps_shW h0 q1 q2 q3 cx cy cz pl pw ++ ps_trW cI cZ q1 a1 n1 g1 ++ ps_trW cI cZ q2 a2 n2 g2 ++ ps_lsW cI q3 b lf le lh ++ [(o0, .inl (cL, 1, .inr (.inl ov)))] ++ ps_mdW cI cZ w0 b0 0 mn kn co ln wr lt f) (va_runV (C := RX3) (As := [.int (xs (6 * t + 1))]) (rest := [.int (ps_sv n1 n2 g1 g2 lf le pw (xs (6 * t + 1)))]) ⟨hx, hb, hml, hown, hT⟩ (mX3_state l dC dI cI cZ w0 b0 th mn kn co ln wr lt f h5 h6 (xs (6 * t + 1)) _) (cwV 1 hT (ps_gV tw_ml_L_121 tw_im_X3_state tw_se_X3_state tw_in_X3 tw_co_X3_state) rfl rfl rfl ⟨rfl, by decide, by decide, by decide +kernel⟩ ⟨Nat.le_of_ble_eq_true rfl, Nat.le_of_ble_eq_true rfl⟩) (ps_qreV (wc := ps_mdW cI cZ w0 b0 th mn kn co ln wr lt f) (ci := 3) [22, 23, 24, 25, 26, 27, 28, 29, 30, 31, 32] hN hP hK hD rfl rfl rfl rfl rfl) rfl rfl hl.1 rfl (lv_room (Nat.le_of_ble_eq_true rfl)) dL_law_994 ⟨(Nat.le_of_succ_le hc1), (Nat.le_trans (Nat.le_add_right _ 6) hs1)⟩) hS hA hP hD [22, 23, 24, 25, 26, 27, 28, 29, 30, 31, 32] [0, 1, 2, 3, 4, 5, 6, 7, 8, 9, 10, 11, 12, 13, 14, 15, 16, 17, 18, 19, 20, 21] [0, 1, 2, 3, 4, 5, 6, 7, 8, 9, 10, 11, 12, 13, 14, 15, 16, 17, 18, 19, 20, 21, 22, 23, 24, 25, 26, 27, 28, 29, 30, 31, 32] rfl rfl rfl (by decide) rfl rfl rfl (fun H locs hP hD hS => ?_)
  have hP : va_P (dC, dI) vwCl (ps_shW h0 q1 q2 q3 cx cy cz pl pw ++ ps_trW cI cZ q1 a1 n1 g1 ++ ps_trW cI cZ q2 a2 n2 g2 ++ ps_lsW cI q3 b lf le lh ++ [(o0, .inl (cL, 1, .inr (.inl ov)))] ++ ps_mdW cI cZ w0 b0 0 mn kn co ln wr lt f) H := hP
  have hD : va_D A (ps_shW h0 q1 q2 q3 cx cy cz pl pw ++ ps_trW cI cZ q1 a1 n1 g1 ++ ps_trW cI cZ q2 a2 n2 g2 ++ ps_lsW cI q3 b lf le lh ++ [(o0, .inl (cL, 1, .inr (.inl ov)))] ++ ps_mdW cI cZ w0 b0 0 mn kn co ln wr lt f) := hD
  refine lv_icmp_eq (tgt := 1028) hx hb dL_law_997 rfl (fun h997 => ?_) (fun h997 => ?_)
  · skip
    refine W.widen (k := cells + 1) (n := slots + 6) (show cells ≤ cells + 1 from Nat.le_add_right _ _) (show slots ≤ slots + 6 from Nat.le_add_right _ _) ?_
    exact kk _ _ _ _ _ _ _ _ _ _ _ _ _ _ _ _ _ _ _ _ _ _ _ _ hJ (lv_sub hl [0, 1, 2, 3, 4] rfl) hP hD hS
  · skip
    exact absurd he h997
set_option maxHeartbeats 4000000 in
set_option maxRecDepth 100000 in
theorem cs_rank {p : Program} {l : Launch} {e : Env} {s : State} {m : MethodId} {args : Array Value} {below : List Frame} {meth : Method} {c : Code} {Q : State → Prop} {dC : Nat → ClassId} {dI : Nat → Nat → Nat} {cI cZ cL : ClassId} {A : Nat → Prop} {sb L : Nat} {xs : Nat → Int32} {h0 q1 q2 q3 b o0 w0 : Nat} {a1 a2 b0 : Nat → Nat} {t cells slots : Nat} (C : ps_Cx p l s m args c dC dI cI cZ cL A sb L xs) (ht : 6 * t + 6 ≤ L) (hc1 : cells + 1 ≤ room_1.cells) (hs1 : slots + 6 ≤ room_1.slots) (kk : ps_Hd p l e s m args below meth c Q dC dI cI cZ cL A sb h0 q1 q2 q3 b o0 w0 a1 a2 b0 t (cells + 1) (slots + 6) 1028) : ps_Hd p l e s m args below meth c Q dC dI cI cZ cL A sb h0 q1 q2 q3 b o0 w0 a1 a2 b0 t cells slots 1002 := by
  obtain ⟨hlt, hx, hb, hml, hown, hT, hN, hE, hZ, hK3, hA, hX, hbl, hbA, hL⟩ := C
  have hK : va_K (dC, dI) vwCl (ps_ty cI cZ) s := hK3.sub [0, 1] rfl
  intro n1 n2 g1 g2 lf le lh cx cy cz pl pw ov th mn kn co ln wr lt f ls H locs hJ hl hP hD hS
  skip
  refine lv_aload_n hx hb dL_law_1002 rfl (lv_at hl 1 rfl) ?_
  refine lv_aload_n hx hb dL_law_1003 rfl (lv_at hl 0 rfl) ?_
  refine lv_iload hx hb dL_law_1004 (lv_at hl 4 rfl) ?_
  refine lv_iconst (v := 1) hx hb dL_law_1006 (by decide) ?_
  refine lv_iadd hx hb dL_law_1007 ?_
  refine ps_sld (j := 6 * t) hx hb hX hbl hbA hS 1 (by decide) (by omega) hL dL_law_1008 ?_
  refine vp_callSl (va_Run.run (va_runV (C := RX2) (As := [.int (xs (6 * t + 1))]) (rest := []) ⟨hx, hb, hml, hown, hT⟩ (mX2_rank l dC dI cI cZ h0 q1 q2 q3 b a1 a2 n1 n2 g1 g2 lf le lh cx cy cz pl pw (xs (6 * t + 1))) (cwV 1 hT (ps_gV tw_ml_L_122 tw_im_X2_rank tw_se_X2_rank tw_in_X2 tw_co_X2_rank) rfl rfl rfl ⟨rfl, by decide, by decide, by decide +kernel⟩ ⟨Nat.le_of_ble_eq_true rfl, Nat.le_of_ble_eq_true rfl⟩) (ps_preV (ci := 2) (q0 := 0) hN (hP.sub (ws' := ps_shW h0 q1 q2 q3 cx cy cz pl pw ++ ps_trW cI cZ q1 a1 n1 g1 ++ ps_trW cI cZ q2 a2 n2 g2 ++ ps_lsW cI q3 b lf le lh) [0, 1, 2, 3, 4, 5, 6, 7, 8, 9, 10, 11, 12, 13, 14, 15, 16, 17, 18, 19, 20] rfl) hK rfl rfl) rfl rfl hl.1 rfl (lv_room (Nat.le_of_ble_eq_true rfl)) dL_law_1009 ⟨(Nat.le_of_succ_le hc1), (Nat.le_trans (Nat.le_add_right _ 6) hs1)⟩)) (fun r hr9 => ?_)
  obtain rfl : r = lN (ps_rk (xs (6 * t + 1))) := hr9
  refine lv_aload_n hx hb dL_law_1012 rfl (lv_at hl 2 rfl) ?_
  refine lv_aload_n hx hb dL_law_1013 rfl (lv_at hl 0 rfl) ?_
  refine lv_iload hx hb dL_law_1014 (lv_at hl 4 rfl) ?_
  refine lv_iconst (v := 1) hx hb dL_law_1016 (by decide) ?_
  refine lv_iadd hx hb dL_law_1017 ?_
  refine ps_sld (j := 6 * t) hx hb hX hbl hbA hS 1 (by decide) (by omega) hL dL_law_1018 ?_
  refine ps_cql (wc := ps_mdW cI cZ w0 b0 th mn kn co ln wr lt f) (wr := ps_shW h0 q1 q2 q3 cx cy cz pl pw ++ ps_trW cI cZ q1 a1 n1 g1 ++ ps_trW cI cZ q2 a2 n2 g2 ++ ps_lsW cI q3 b lf le lh ++ [(o0, .inl (cL, 1, .inr (.inl ov)))]) (w1 := ps_mdW cI cZ w0 b0 0 mn kn co ln wr lt f) (ws2 := ps_shW h0 q1 q2 q3 cx cy cz pl pw ++ ps_trW cI cZ q1 a1 n1 g1 ++ ps_trW cI cZ q2 a2 n2 g2 ++ ps_lsW cI q3 b lf le lh ++ [(o0, .inl (cL, 1, .inr (.inl ov)))] ++ ps_mdW cI cZ w0 b0 0 mn kn co ln wr lt f) (va_runV (C := RX3) (As := [.int (xs (6 * t + 1))]) (rest := [.long (lN (ps_rk (xs (6 * t + 1))))]) ⟨hx, hb, hml, hown, hT⟩ (mX3_rank l dC dI cI cZ w0 b0 th mn kn co ln wr lt f (xs (6 * t + 1)) _) (cwV 1 hT (ps_gV tw_ml_L_126 tw_im_X3_rank tw_se_X3_rank tw_in_X3 tw_co_X3_rank) rfl rfl rfl ⟨rfl, by decide, by decide, by decide +kernel⟩ ⟨Nat.le_of_ble_eq_true rfl, Nat.le_of_ble_eq_true rfl⟩) (ps_qreV (wc := ps_mdW cI cZ w0 b0 th mn kn co ln wr lt f) (ci := 3) [22, 23, 24, 25, 26, 27, 28, 29, 30, 31, 32] hN hP hK hD rfl rfl rfl rfl rfl) rfl rfl hl.1 rfl (lv_room (Nat.le_of_ble_eq_true rfl)) dL_law_1019 ⟨(Nat.le_of_succ_le hc1), (Nat.le_trans (Nat.le_add_right _ 6) hs1)⟩) hS hA hP hD [22, 23, 24, 25, 26, 27, 28, 29, 30, 31, 32] [0, 1, 2, 3, 4, 5, 6, 7, 8, 9, 10, 11, 12, 13, 14, 15, 16, 17, 18, 19, 20, 21] [0, 1, 2, 3, 4, 5, 6, 7, 8, 9, 10, 11, 12, 13, 14, 15, 16, 17, 18, 19, 20, 21, 22, 23, 24, 25, 26, 27, 28, 29, 30, 31, 32] rfl rfl rfl (by decide) rfl rfl rfl (fun H locs hP hD hS => ?_)
  have hP : va_P (dC, dI) vwCl (ps_shW h0 q1 q2 q3 cx cy cz pl pw ++ ps_trW cI cZ q1 a1 n1 g1 ++ ps_trW cI cZ q2 a2 n2 g2 ++ ps_lsW cI q3 b lf le lh ++ [(o0, .inl (cL, 1, .inr (.inl ov)))] ++ ps_mdW cI cZ w0 b0 0 mn kn co ln wr lt f) H := hP
  have hD : va_D A (ps_shW h0 q1 q2 q3 cx cy cz pl pw ++ ps_trW cI cZ q1 a1 n1 g1 ++ ps_trW cI cZ q2 a2 n2 g2 ++ ps_lsW cI q3 b lf le lh ++ [(o0, .inl (cL, 1, .inr (.inl ov)))] ++ ps_mdW cI cZ w0 b0 0 mn kn co ln wr lt f) := hD
  refine W.lcmp hx hb dL_law_1022 ?_
  refine lv_if_eq (tgt := 1028) hx hb dL_law_1023 rfl (fun h1023 => ?_) (fun h1023 => ?_)
  · skip
    refine W.widen (k := cells + 1) (n := slots + 6) (show cells ≤ cells + 1 from Nat.le_add_right _ _) (show slots ≤ slots + 6 from Nat.le_add_right _ _) ?_
    exact kk _ _ _ _ _ _ _ _ _ _ _ _ _ _ _ _ _ _ _ _ _ _ _ _ hJ (lv_sub hl [0, 1, 2, 3, 4] rfl) hP hD hS
  · skip
    exact absurd ((lg_cmp_eq _ _).mpr rfl) h1023
