/-! one turn of the law's loop; all of them. -/
section PSW
variable {p : Program} {l : Launch} {e : Env} {R : Room} {s : State} {m : MethodId} {args : Array Value} {below : List Frame} {meth : Method} {c : Code} {H : Heap} {locs : List Loc} {cells slots : Nat} {Q : State → Prop}
variable {cc : ByteArray} {pc : Nat} {ls : Array Slot} {rest : List Value} {A : Nat → Prop} {H0 : Heap}
theorem ps_sld0 (hexec : p.tables.exec = Jvm.exec) (hb : c.code = cc) {b L : Nat} {xs : Nat → Int32} (hX : va_X b L xs s H0) (hbl : b < H0.size) (hbA : ¬ A b) (hS : va_S A H0 H locs) {j : Nat} (h : j < L) (hL : L ≤ 3072) (hdg : decode cc pc = .ok (.iaload, 1))
    (kk : W p l e R s m args below meth c H locs cells slots Q (F0 m (pc + 1) ls (.int (xs j) :: rest))) : W p l e R s m args below meth c H locs cells slots Q (F0 m pc ls (.int (nI j) :: .ref b :: rest)) := by
  refine va_sld hexec hb hX hbl hbA hS (vp_in_nI h (by omega)) hdg ?_
  rw [nI_clamp (by omega)]
  exact kk
end PSW
theorem ps_more {L t : Nat} (hL : L ≤ 3072) (ht : 6 * t ≤ L) (h : ¬ Int32.ofNat L - 6 < nI (6 * t)) : 6 * t + 6 ≤ L := by
  have h1 := Int32.not_lt.mp h
  rw [Int32.le_iff_toInt_le, nI_toInt (by omega)] at h1
  have h2 : (Int32.ofNat L - 6).toInt = (L : Int) - 6 := pk_sub_toInt (a := L) (b := 6) (by omega) (by omega)
  rw [h2] at h1
  omega

set_option maxHeartbeats 4000000 in
set_option maxRecDepth 100000 in
theorem ps_turn {p : Program} {l : Launch} {e : Env} {s : State} {m : MethodId} {args : Array Value} {below : List Frame} {meth : Method} {c : Code} {Q : State → Prop} {dC : Nat → ClassId} {dI : Nat → Nat → Nat} {cI cZ cL : ClassId} {A : Nat → Prop} {sb L : Nat} {xs : Nat → Int32} {h0 q1 q2 q3 b o0 w0 : Nat} {a1 a2 b0 : Nat → Nat} {t cells slots : Nat} (C : ps_Cx p l s m args c dC dI cI cZ cL A sb L xs) (h6 : 6 * t ≤ L) (hc1 : cells + 1 ≤ room_1.cells) (hs1 : slots + 6 ≤ room_1.slots) (hend : ∀ (ls : Array Slot) (H : Heap) (locs : List Loc), va_S A s.heap H locs → W p l e room_1 s m args below meth c H locs cells slots Q (F0 m 1034 ls [])) (hnext : 6 * t + 6 ≤ L → ps_Hd p l e s m args below meth c Q dC dI cI cZ cL A sb h0 q1 q2 q3 b o0 w0 a1 a2 b0 (t + 1) (cells + 1) (slots + 6) 23) : ps_Hd p l e s m args below meth c Q dC dI cI cZ cL A sb h0 q1 q2 q3 b o0 w0 a1 a2 b0 t cells slots 23 := by
  have C' := C
  obtain ⟨hlt, hx, hb, hml, hown, hT, hN, hE, hZ, hK3, hA, hX, hbl, hbA, hL⟩ := C'
  intro n1 n2 g1 g2 lf le lh cx cy cz pl pw ov th mn kn co ln wr lt f ls H locs hJ hl hP hD hS
  refine lv_iload hx hb dL_law_23 (lv_at hl 4 rfl) ?_
  refine lv_aload_n hx hb dL_law_25 rfl (lv_at hl 0 rfl) ?_
  refine va_slen hx hb hX hbl hbA hS dL_law_26 ?_
  refine lv_bipush (v := 6) hx hb dL_law_27 (by decide) ?_
  refine lv_isub hx hb dL_law_29 ?_
  refine lv_icmp_gt (tgt := 1034) hx hb dL_law_30 rfl (fun h30 => ?_) (fun h30 => ?_)
  · exact hend ls H locs hS
  have ht : 6 * t + 6 ≤ L := ps_more hL h6 h30
  have h1028 : ps_Hd p l e s m args below meth c Q dC dI cI cZ cL A sb h0 q1 q2 q3 b o0 w0 a1 a2 b0 t (cells + 1) (slots + 6) 1028 := by
    intro n1 n2 g1 g2 lf le lh cx cy cz pl pw ov th mn kn co ln wr lt f ls H locs hJ hl hP hD hS
    refine lv_iinc (k := 4) (v := nI (6 * (t + 1))) (lv' := [(4, .int (nI (6 * (t + 1)))), (0, .ref sb), (1, .ref h0), (2, .ref w0), (3, .ref o0)]) hx hb dL_law_1028 hl rfl (by rw [show Int32.ofInt 6 = nI 6 by decide, nI_add]; rfl) (by decide) rfl (fun ls hl => ?_)
    refine lv_goto (tgt := 23) hx hb dL_law_1031 rfl ?_
    exact hnext ht _ _ _ _ _ _ _ _ _ _ _ _ _ _ _ _ _ _ _ _ _ _ _ _ hJ (lv_sub hl [1, 2, 3, 4, 0] rfl) hP hD hS
  refine lv_aload_n hx hb dL_law_33 rfl (lv_at hl 0 rfl) ?_
  refine lv_iload hx hb dL_law_34 (lv_at hl 4 rfl) ?_
  refine ps_sld0 hx hb hX hbl hbA hS (by omega) hL dL_law_36 ?_
  refine lv_bipush (v := 15) hx hb dL_law_37 (by decide) ?_
  refine lv_iand hx hb dL_law_39 ?_
  generalize xs (6 * t) &&& 15 = x
  by_cases hv0 : x = 0
  · refine lv_tableIn (x := x) (off := 76) (tgt := 116) hx hb dL_law_40 (by rw [hv0]; decide) (by rw [hv0]; decide) (by rw [hv0]; rfl) rfl ?_
    exact cs_add C ht hc1 hs1 h1028 n1 n2 g1 g2 lf le lh cx cy cz pl pw ov th mn kn co ln wr lt f ls H locs hJ hl hP hD hS
  by_cases hv1 : x = 1
  · refine lv_tableIn (x := x) (off := 180) (tgt := 220) hx hb dL_law_40 (by rw [hv1]; decide) (by rw [hv1]; decide) (by rw [hv1]; rfl) rfl ?_
    exact cs_remove C ht hc1 hs1 h1028 n1 n2 g1 g2 lf le lh cx cy cz pl pw ov th mn kn co ln wr lt f ls H locs hJ hl hP hD hS
  by_cases hv2 : x = 2
  · refine lv_tableIn (x := x) (off := 236) (tgt := 276) hx hb dL_law_40 (by rw [hv2]; decide) (by rw [hv2]; decide) (by rw [hv2]; rfl) rfl ?_
    exact cs_recolour C ht hc1 hs1 h1028 n1 n2 g1 g2 lf le lh cx cy cz pl pw ov th mn kn co ln wr lt f ls H locs hJ hl hP hD hS
  by_cases hv3 : x = 3
  · refine lv_tableIn (x := x) (off := 304) (tgt := 344) hx hb dL_law_40 (by rw [hv3]; decide) (by rw [hv3]; decide) (by rw [hv3]; rfl) rfl ?_
    exact cs_field C ht hc1 hs1 h1028 n1 n2 g1 g2 lf le lh cx cy cz pl pw ov th mn kn co ln wr lt f ls H locs hJ hl hP hD hS
  by_cases hv4 : x = 4
  · refine lv_tableIn (x := x) (off := 372) (tgt := 412) hx hb dL_law_40 (by rw [hv4]; decide) (by rw [hv4]; decide) (by rw [hv4]; rfl) rfl ?_
    exact cs_corner C ht hc1 hs1 h1028 n1 n2 g1 g2 lf le lh cx cy cz pl pw ov th mn kn co ln wr lt f ls H locs hJ hl hP hD hS
  by_cases hv5 : x = 5
  · refine lv_tableIn (x := x) (off := 432) (tgt := 472) hx hb dL_law_40 (by rw [hv5]; decide) (by rw [hv5]; decide) (by rw [hv5]; rfl) rfl ?_
    exact cs_box C ht hc1 hs1 h1028 n1 n2 g1 g2 lf le lh cx cy cz pl pw ov th mn kn co ln wr lt f ls H locs hJ hl hP hD hS
  by_cases hv6 : x = 6
  · refine lv_tableIn (x := x) (off := 524) (tgt := 564) hx hb dL_law_40 (by rw [hv6]; decide) (by rw [hv6]; decide) (by rw [hv6]; rfl) rfl ?_
    exact cs_next C ht hc1 hs1 h1028 n1 n2 g1 g2 lf le lh cx cy cz pl pw ov th mn kn co ln wr lt f ls H locs hJ hl hP hD hS
  by_cases hv7 : x = 7
  · refine lv_tableIn (x := x) (off := 568) (tgt := 608) hx hb dL_law_40 (by rw [hv7]; decide) (by rw [hv7]; decide) (by rw [hv7]; rfl) rfl ?_
    exact cs_count C ht hc1 hs1 h1028 n1 n2 g1 g2 lf le lh cx cy cz pl pw ov th mn kn co ln wr lt f ls H locs hJ hl hP hD hS
  by_cases hv8 : x = 8
  · refine lv_tableIn (x := x) (off := 648) (tgt := 688) hx hb dL_law_40 (by rw [hv8]; decide) (by rw [hv8]; decide) (by rw [hv8]; rfl) rfl ?_
    exact cs_nearest C ht hc1 hs1 h1028 n1 n2 g1 g2 lf le lh cx cy cz pl pw ov th mn kn co ln wr lt f ls H locs hJ hl hP hD hS
  by_cases hv9 : x = 9
  · refine lv_tableIn (x := x) (off := 740) (tgt := 780) hx hb dL_law_40 (by rw [hv9]; decide) (by rw [hv9]; decide) (by rw [hv9]; rfl) rfl ?_
    exact cs_kept C ht hc1 hs1 h1028 n1 n2 g1 g2 lf le lh cx cy cz pl pw ov th mn kn co ln wr lt f ls H locs hJ hl hP hD hS
  by_cases hv10 : x = 10
  · refine lv_tableIn (x := x) (off := 844) (tgt := 884) hx hb dL_law_40 (by rw [hv10]; decide) (by rw [hv10]; decide) (by rw [hv10]; rfl) rfl ?_
    exact cs_commit C ht hc1 hs1 h1028 n1 n2 g1 g2 lf le lh cx cy cz pl pw ov th mn kn co ln wr lt f ls H locs hJ hl hP hD hS
  by_cases hv11 : x = 11
  · refine lv_tableIn (x := x) (off := 888) (tgt := 928) hx hb dL_law_40 (by rw [hv11]; decide) (by rw [hv11]; decide) (by rw [hv11]; rfl) rfl ?_
    exact cs_charge C ht hc1 hs1 h1028 n1 n2 g1 g2 lf le lh cx cy cz pl pw ov th mn kn co ln wr lt f ls H locs hJ hl hP hD hS
  by_cases hv12 : x = 12
  · refine lv_tableIn (x := x) (off := 924) (tgt := 964) hx hb dL_law_40 (by rw [hv12]; decide) (by rw [hv12]; decide) (by rw [hv12]; rfl) rfl ?_
    exact cs_open C ht hc1 hs1 h1028 n1 n2 g1 g2 lf le lh cx cy cz pl pw ov th mn kn co ln wr lt f ls H locs hJ hl hP hD hS
  by_cases hv13 : x = 13
  · refine lv_tableIn (x := x) (off := 937) (tgt := 977) hx hb dL_law_40 (by rw [hv13]; decide) (by rw [hv13]; decide) (by rw [hv13]; rfl) rfl ?_
    exact cs_state C ht hc1 hs1 h1028 n1 n2 g1 g2 lf le lh cx cy cz pl pw ov th mn kn co ln wr lt f ls H locs hJ hl hP hD hS
  by_cases hv14 : x = 14
  · refine lv_tableIn (x := x) (off := 962) (tgt := 1002) hx hb dL_law_40 (by rw [hv14]; decide) (by rw [hv14]; decide) (by rw [hv14]; rfl) rfl ?_
    exact cs_rank C ht hc1 hs1 h1028 n1 n2 g1 g2 lf le lh cx cy cz pl pw ov th mn kn co ln wr lt f ls H locs hJ hl hP hD hS
  have hn0 : (x : Int32).toInt ≠ 0 := ps_ne_toInt hv0
  have hn1 : (x : Int32).toInt ≠ 1 := ps_ne_toInt hv1
  have hn2 : (x : Int32).toInt ≠ 2 := ps_ne_toInt hv2
  have hn3 : (x : Int32).toInt ≠ 3 := ps_ne_toInt hv3
  have hn4 : (x : Int32).toInt ≠ 4 := ps_ne_toInt hv4
  have hn5 : (x : Int32).toInt ≠ 5 := ps_ne_toInt hv5
  have hn6 : (x : Int32).toInt ≠ 6 := ps_ne_toInt hv6
  have hn7 : (x : Int32).toInt ≠ 7 := ps_ne_toInt hv7
  have hn8 : (x : Int32).toInt ≠ 8 := ps_ne_toInt hv8
  have hn9 : (x : Int32).toInt ≠ 9 := ps_ne_toInt hv9
  have hn10 : (x : Int32).toInt ≠ 10 := ps_ne_toInt hv10
  have hn11 : (x : Int32).toInt ≠ 11 := ps_ne_toInt hv11
  have hn12 : (x : Int32).toInt ≠ 12 := ps_ne_toInt hv12
  have hn13 : (x : Int32).toInt ≠ 13 := ps_ne_toInt hv13
  have hn14 : (x : Int32).toInt ≠ 14 := ps_ne_toInt hv14
  refine lv_tableOut (x := x) (tgt := 1028) hx hb dL_law_40 (by omega) rfl ?_
  refine W.widen (k := cells + 1) (n := slots + 6) (Nat.le_add_right _ _) (Nat.le_add_right _ _) ?_
  exact h1028 n1 n2 g1 g2 lf le lh cx cy cz pl pw ov th mn kn co ln wr lt f ls H locs hJ hl hP hD hS
set_option maxHeartbeats 4000000 in
set_option maxRecDepth 100000 in
theorem ps_turns {p : Program} {l : Launch} {e : Env} {s : State} {m : MethodId} {args : Array Value} {below : List Frame} {meth : Method} {c : Code} {Q : State → Prop} {dC : Nat → ClassId} {dI : Nat → Nat → Nat} {cI cZ cL : ClassId} {A : Nat → Prop} {sb L : Nat} {xs : Nat → Int32} {h0 q1 q2 q3 b o0 w0 : Nat} {a1 a2 b0 : Nat → Nat} (C : ps_Cx p l s m args c dC dI cI cZ cL A sb L xs) (hend : ∀ (cells slots : Nat) (ls : Array Slot) (H : Heap) (locs : List Loc), cells ≤ 1071 → slots ≤ 9619 → va_S A s.heap H locs → W p l e room_1 s m args below meth c H locs cells slots Q (F0 m 1034 ls [])) : ∀ n t cells slots : Nat, L ≤ 6 * t + 6 * n + 5 → 6 * t ≤ L → cells = 33 + t → slots = 1343 + 6 * t → ps_Hd p l e s m args below meth c Q dC dI cI cZ cL A sb h0 q1 q2 q3 b o0 w0 a1 a2 b0 t cells slots 23
  | 0, t, cells, slots, h1, h2, hc, hs => by
    have hL : L ≤ 3072 := C.2.2.2.2.2.2.2.2.2.2.2.2.2.2
    have c1 : cells + 1 ≤ 1071 := by omega
    have s1 : slots + 6 ≤ 9619 := by omega
    exact ps_turn C h2 c1 s1 (fun ls H locs hS => hend cells slots ls H locs (by omega) (by omega) hS) (fun h => by omega)
  | n + 1, t, cells, slots, h1, h2, hc, hs => by
    have hL : L ≤ 3072 := C.2.2.2.2.2.2.2.2.2.2.2.2.2.2
    have c1 : cells + 1 ≤ 1071 := by omega
    have s1 : slots + 6 ≤ 9619 := by omega
    exact ps_turn C h2 c1 s1 (fun ls H locs hS => hend cells slots ls H locs (by omega) (by omega) hS) (fun h => ps_turns C hend n (t + 1) (cells + 1) (slots + 6) (by omega) (by omega) (by omega) (by omega))
