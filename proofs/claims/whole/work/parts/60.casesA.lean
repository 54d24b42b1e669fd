/-! the law's cases: each from its label to the loop's end. By wip/law2.py. -/
theorem ps_gSW {own : String} {idx n : Nat} {y : MethodName} {b : ByteArray} {r : Option FieldType} {hh : List (Nat × Nat × Nat × Nat)} (h1 : Cond.methodLink own idx y ∈ ps_T) (h2 : Cond.static y ∈ ps_T) (h4 : Cond.initialized y.cls ∈ ps_T) (h5 : Cond.codeWith y b n r hh ∈ ps_T) : GoodIn ps_T (va_wsS own idx y (.codeWith y b n r hh :: ps_T)) := by
  intro w hw
  refine ps_T_self w ?_
  simp only [va_wsS, List.cons_append, List.nil_append, List.mem_cons] at hw
  rcases hw with rfl | rfl | rfl | rfl | h <;> assumption
theorem ps_lz {f : Nat → Int64} {v w : Int32} (e : v = w) : lg_cmp (vp_updL f 0 v.toInt64 (Int32.toNatClampNeg 0)) w.toInt64 = 0 := by
  rw [e, lg_cmp_eq]
  exact pk_uLs
section PSV
variable {p : Program} {l : Launch} {e : Env} {R : Room} {s : State} {m : MethodId} {args : Array Value} {below : List Frame} {meth : Method} {c : Code} {H : Heap} {locs : List Loc} {cells slots : Nat} {Q : State → Prop}
variable {cc : ByteArray} {pc : Nat} {ls : Array Slot} {rest : List Value} {A : Nat → Prop} {H0 : Heap}
/-- the script's int at j + k -/
theorem ps_sld (hexec : p.tables.exec = Jvm.exec) (hb : c.code = cc) {b L : Nat} {xs : Nat → Int32} (hX : va_X b L xs s H0) (hbl : b < H0.size) (hbA : ¬ A b) (hS : va_S A H0 H locs) {j : Nat} (k : Nat) {x : Int32} (ex : x = nI k) (h : j + k < L) (hL : L ≤ 3072) (hdg : decode cc pc = .ok (.iaload, 1))
    (kk : W p l e R s m args below meth c H locs cells slots Q (F0 m (pc + 1) ls (.int (xs (j + k)) :: rest))) : W p l e R s m args below meth c H locs cells slots Q (F0 m pc ls (.int (nI j + x) :: .ref b :: rest)) := by
  rw [ex, nI_add]
  refine va_sld hexec hb hX hbl hbA hS (vp_in_nI h (by omega)) hdg ?_
  rw [nI_clamp (by omega)]
  exact kk
end PSV
/-- what holds throughout the law's loop -/
def ps_Cx (p : Program) (l : Launch) (s : State) (m : MethodId) (args : Array Value) (c : Code) (dC : Nat → ClassId) (dI : Nat → Nat → Nat) (cI cZ cL : ClassId) (A : Nat → Prop) (sb L : Nat) (xs : Nat → Int32) : Prop :=
  l.stackTraces = false ∧ p.tables.exec = Jvm.exec ∧ c.code = cL_law ∧ c.maxLocals = 7 ∧ s.vm.findClass RL = some m.cls ∧ (∀ w ∈ ps_T, w.before args s = true) ∧ ps_N s ∧ ps_Ex s ∧ ps_Z A s s.heap ∧ va_K (dC, dI) vwCl (ps_ty3 cI cZ cL) s ∧ (∀ q : Nat, s.heap.size ≤ q → A q) ∧ va_X sb L xs s s.heap ∧ sb < s.heap.size ∧ ¬ A sb ∧ L ≤ 3072
/-- the goal at pc, for every state that the invariant allows -/
def ps_Hd (p : Program) (l : Launch) (e : Env) (s : State) (m : MethodId) (args : Array Value) (below : List Frame) (meth : Method) (c : Code) (Q : State → Prop) (dC : Nat → ClassId) (dI : Nat → Nat → Nat) (cI cZ cL : ClassId) (A : Nat → Prop) (sb h0 q1 q2 q3 b o0 w0 : Nat) (a1 a2 b0 : Nat → Nat) (t cells slots pc : Nat) : Prop :=
  ∀ (n1 n2 : Nat) (g1 g2 : ps_G) (lf le : Nat) (lh : Nat → Int32) (cx cy cz pl pw : Int32) (ov : Nat → Int64) (th : Int32) (mn kn : Nat) (co : Int32) (ln : Nat) (wr lt : Int32) (f : ps_G) (ls : Array Slot) (H : Heap) (locs : List Loc),
    ps_J n1 n2 g1 g2 lf le lh cx cy cz pl pw mn kn co ln wr lt f → lv_has ls 7 [(0, .ref sb), (1, .ref h0), (2, .ref w0), (3, .ref o0), (4, .int (nI (6 * t)))] →
    va_P (dC, dI) vwCl (ps_shW h0 q1 q2 q3 cx cy cz pl pw ++ ps_trW cI cZ q1 a1 n1 g1 ++ ps_trW cI cZ q2 a2 n2 g2 ++ ps_lsW cI q3 b lf le lh ++ [(o0, .inl (cL, 1, .inr (.inl ov)))] ++ ps_mdW cI cZ w0 b0 th mn kn co ln wr lt f) H →
    va_D A (ps_shW h0 q1 q2 q3 cx cy cz pl pw ++ ps_trW cI cZ q1 a1 n1 g1 ++ ps_trW cI cZ q2 a2 n2 g2 ++ ps_lsW cI q3 b lf le lh ++ [(o0, .inl (cL, 1, .inr (.inl ov)))] ++ ps_mdW cI cZ w0 b0 th mn kn co ln wr lt f) →
    va_S A s.heap H locs → W p l e room_1 s m args below meth c H locs cells slots Q (F0 m pc ls [])
theorem mX3_corner_n (l : Launch) (dC : Nat → ClassId) (dI : Nat → Nat → Nat) (cI cZ : ClassId) (w0 : Nat) (b0 : Nat → Nat) (th : Int32) (mn kn : Nat) (co : Int32) (ln : Nat) (wr lt : Int32) (f : ps_G) (x y z : Int32) (h0 : ps_ip x y z = true) (sz : Nat) : Met l yX3_corner (.code yX3_corner cX3_corner 4 none :: ps_T) ({ frames := 2, cells := 0, slots := 0, locals := 44 }) (ps_qc (dC, dI) (ps_ty cI cZ) (ps_mdW cI cZ w0 b0 th mn kn co ln wr lt f) sz [.ref w0, .int x, .int y, .int z]) (va_Qv (fun _ : Unit => True) (ps_qB (dC, dI) (ps_ty cI cZ) (va_A (ps_mdW cI cZ w0 b0 th mn kn co ln wr lt f) sz) (ps_mdW cI cZ w0 b0 0 mn kn (ps_pk x y z) ln wr lt f)) (va_A (ps_mdW cI cZ w0 b0 th mn kn co ln wr lt f) sz)) 0 0 (va_A (ps_mdW cI cZ w0 b0 th mn kn co ln wr lt f) sz) := by
  have h := mX3_corner l dC dI cI cZ w0 b0 th mn kn co ln wr lt f x y z sz
  rw [if_pos h0, if_pos h0] at h
  exact h
theorem mX3_corner_1 (l : Launch) (dC : Nat → ClassId) (dI : Nat → Nat → Nat) (cI cZ : ClassId) (w0 : Nat) (b0 : Nat → Nat) (th : Int32) (mn kn : Nat) (co : Int32) (ln : Nat) (wr lt : Int32) (f : ps_G) (x y z : Int32) (h0 : ps_ip x y z = false) (sz : Nat) : Met l yX3_corner (.code yX3_corner cX3_corner 4 none :: ps_T) ({ frames := 2, cells := 0, slots := 0, locals := 44 }) (ps_qc (dC, dI) (ps_ty cI cZ) (ps_mdW cI cZ w0 b0 th mn kn co ln wr lt f) sz [.ref w0, .int x, .int y, .int z]) (va_Qv (fun _ : Unit => True) (ps_qB (dC, dI) (ps_ty cI cZ) (va_A (ps_mdW cI cZ w0 b0 th mn kn co ln wr lt f) sz) (ps_mdW cI cZ w0 b0 1 mn kn co ln wr lt f)) (va_A (ps_mdW cI cZ w0 b0 th mn kn co ln wr lt f) sz)) 0 0 (va_A (ps_mdW cI cZ w0 b0 th mn kn co ln wr lt f) sz) := by
  have h := mX3_corner l dC dI cI cZ w0 b0 th mn kn co ln wr lt f x y z sz
  rw [if_neg (by rw [h0]; decide), if_neg (by rw [h0]; decide)] at h
  exact h
theorem mX3_charge_n (l : Launch) (dC : Nat → ClassId) (dI : Nat → Nat → Nat) (cI cZ : ClassId) (w0 : Nat) (b0 : Nat → Nat) (th : Int32) (mn kn : Nat) (co : Int32) (ln : Nat) (wr lt : Int32) (f : ps_G) (v : Int32) (h0 : ps_inr v 0 99 = true) (sz : Nat) : Met l yX3_charge (.code yX3_charge cX3_charge 2 none :: ps_T) ({ frames := 1, cells := 0, slots := 0, locals := 22 }) (ps_qc (dC, dI) (ps_ty cI cZ) (ps_mdW cI cZ w0 b0 th mn kn co ln wr lt f) sz [.ref w0, .int v]) (va_Qv (fun _ : Unit => True) (ps_qB (dC, dI) (ps_ty cI cZ) (va_A (ps_mdW cI cZ w0 b0 th mn kn co ln wr lt f) sz) (ps_mdW cI cZ w0 b0 0 mn kn co ln wr v f)) (va_A (ps_mdW cI cZ w0 b0 th mn kn co ln wr lt f) sz)) 0 0 (va_A (ps_mdW cI cZ w0 b0 th mn kn co ln wr lt f) sz) := by
  have h := mX3_charge l dC dI cI cZ w0 b0 th mn kn co ln wr lt f v sz
  rw [if_pos h0, if_pos h0] at h
  exact h
theorem mX3_charge_1 (l : Launch) (dC : Nat → ClassId) (dI : Nat → Nat → Nat) (cI cZ : ClassId) (w0 : Nat) (b0 : Nat → Nat) (th : Int32) (mn kn : Nat) (co : Int32) (ln : Nat) (wr lt : Int32) (f : ps_G) (v : Int32) (h0 : ps_inr v 0 99 = false) (sz : Nat) : Met l yX3_charge (.code yX3_charge cX3_charge 2 none :: ps_T) ({ frames := 1, cells := 0, slots := 0, locals := 22 }) (ps_qc (dC, dI) (ps_ty cI cZ) (ps_mdW cI cZ w0 b0 th mn kn co ln wr lt f) sz [.ref w0, .int v]) (va_Qv (fun _ : Unit => True) (ps_qB (dC, dI) (ps_ty cI cZ) (va_A (ps_mdW cI cZ w0 b0 th mn kn co ln wr lt f) sz) (ps_mdW cI cZ w0 b0 1 mn kn co ln wr lt f)) (va_A (ps_mdW cI cZ w0 b0 th mn kn co ln wr lt f) sz)) 0 0 (va_A (ps_mdW cI cZ w0 b0 th mn kn co ln wr lt f) sz) := by
  have h := mX3_charge l dC dI cI cZ w0 b0 th mn kn co ln wr lt f v sz
  rw [if_neg (by rw [h0]; decide), if_neg (by rw [h0]; decide)] at h
  exact h
theorem mL_nearest_n2 (l : Launch) (hlt : l.stackTraces = false) (dC : Nat → ClassId) (dI : Nat → Nat → Nat) (cI cZ : ClassId) (h0 q1 q2 q3 b : Nat) (a1 a2 : Nat → Nat) (n1 n2 : Nat) (g1 g2 : ps_G) (lf le : Nat) (lh : Nat → Int32) (cx cy cz pl pw : Int32) (cL : ClassId) (o0 : Nat) (ov : Nat → Int64) (hn1 : n1 ≤ 48) (x y z : Int32) (hx0 : ps_co x = true) (hy0 : ps_co y = true) (hz0 : ps_co z = true) (k : Nat) (hk1 : 1 ≤ k) (hk : k ≤ n1) (k9 : Int32) (hk9 : k9 = nI k) (sz : Nat) : Met l yL_nearest (.codeWith yL_nearest cL_nearest 7 (some .int) hhL_nearest :: ps_T) ({ frames := 4, cells := 1, slots := 6, locals := 108 }) (ps_xc (dC, dI) (ps_ty3 cI cZ cL) (ps_shW h0 q1 q2 q3 cx cy cz pl pw ++ ps_trW cI cZ q1 a1 n1 g1 ++ ps_trW cI cZ q2 a2 n2 g2 ++ ps_lsW cI q3 b lf le lh ++ [(o0, .inl (cL, 1, .inr (.inl ov)))]) sz [.ref h0, .int x, .int y, .int z, .int k9, .ref o0]) (va_Qi (fun (r : Int32) (_ : Unit) => r = 0) (ps_qB (dC, dI) (ps_ty3 cI cZ cL) (va_A (ps_shW h0 q1 q2 q3 cx cy cz pl pw ++ ps_trW cI cZ q1 a1 n1 g1 ++ ps_trW cI cZ q2 a2 n2 g2 ++ ps_lsW cI q3 b lf le lh ++ [(o0, .inl (cL, 1, .inr (.inl ov)))]) sz) (ps_shW h0 q1 q2 q3 cx cy cz pl pw ++ ps_trW cI cZ q1 a1 n1 g1 ++ ps_trW cI cZ q2 a2 n2 g2 ++ ps_lsW cI q3 b lf le lh ++ [(o0, .inl (cL, 1, .inr (.inl (vp_updL ov 0 ((ps_ik (ps_dk g1 x y z) n1 k).toInt32).toInt64))))])) (va_A (ps_shW h0 q1 q2 q3 cx cy cz pl pw ++ ps_trW cI cZ q1 a1 n1 g1 ++ ps_trW cI cZ q2 a2 n2 g2 ++ ps_lsW cI q3 b lf le lh ++ [(o0, .inl (cL, 1, .inr (.inl ov)))]) sz)) 1 6 (va_A (ps_shW h0 q1 q2 q3 cx cy cz pl pw ++ ps_trW cI cZ q1 a1 n1 g1 ++ ps_trW cI cZ q2 a2 n2 g2 ++ ps_lsW cI q3 b lf le lh ++ [(o0, .inl (cL, 1, .inr (.inl ov)))]) sz) := by
  subst hk9
  exact mL_nearest_n l hlt dC dI cI cZ h0 q1 q2 q3 b a1 a2 n1 n2 g1 g2 lf le lh cx cy cz pl pw cL o0 ov hn1 x y z hx0 hy0 hz0 k hk1 hk sz
set_option maxHeartbeats 4000000 in
set_option maxRecDepth 100000 in
theorem cs_add {p : Program} {l : Launch} {e : Env} {s : State} {m : MethodId} {args : Array Value} {below : List Frame} {meth : Method} {c : Code} {Q : State → Prop} {dC : Nat → ClassId} {dI : Nat → Nat → Nat} {cI cZ cL : ClassId} {A : Nat → Prop} {sb L : Nat} {xs : Nat → Int32} {h0 q1 q2 q3 b o0 w0 : Nat} {a1 a2 b0 : Nat → Nat} {t cells slots : Nat} (C : ps_Cx p l s m args c dC dI cI cZ cL A sb L xs) (ht : 6 * t + 6 ≤ L) (hc1 : cells + 1 ≤ room_1.cells) (hs1 : slots + 6 ≤ room_1.slots) (kk : ps_Hd p l e s m args below meth c Q dC dI cI cZ cL A sb h0 q1 q2 q3 b o0 w0 a1 a2 b0 t (cells + 1) (slots + 6) 1028) : ps_Hd p l e s m args below meth c Q dC dI cI cZ cL A sb h0 q1 q2 q3 b o0 w0 a1 a2 b0 t cells slots 116 := by
  obtain ⟨hlt, hx, hb, hml, hown, hT, hN, hE, hZ, hK3, hA, hX, hbl, hbA, hL⟩ := C
  have hK : va_K (dC, dI) vwCl (ps_ty cI cZ) s := hK3.sub [0, 1] rfl
  intro n1 n2 g1 g2 lf le lh cx cy cz pl pw ov th mn kn co ln wr lt f ls H locs hJ hl hP hD hS
  rcases ps_Jadd hJ (xs (6 * t + 1)) (xs (6 * t + 2)) (xs (6 * t + 3)) (xs (6 * t + 4)) (xs (6 * t + 5)) with ⟨h1, h2, h3, h4, h5, h6, h7, h8, he, hJ⟩ | ⟨h1, h2, h3⟩ | ⟨h1, h2, h3, h4, h5, h6, h7, h8⟩
  · skip
    refine lv_aload_n hx hb dL_law_116 rfl (lv_at hl 1 rfl) ?_
    refine lv_aload_n hx hb dL_law_117 rfl (lv_at hl 0 rfl) ?_
    refine lv_iload hx hb dL_law_118 (lv_at hl 4 rfl) ?_
    refine lv_iconst (v := 1) hx hb dL_law_120 (by decide) ?_
    refine lv_iadd hx hb dL_law_121 ?_
    refine ps_sld (j := 6 * t) hx hb hX hbl hbA hS 1 (by decide) (by omega) hL dL_law_122 ?_
    refine lv_aload_n hx hb dL_law_123 rfl (lv_at hl 0 rfl) ?_
    refine lv_iload hx hb dL_law_124 (lv_at hl 4 rfl) ?_
    refine lv_iconst (v := 2) hx hb dL_law_126 (by decide) ?_
    refine lv_iadd hx hb dL_law_127 ?_
    refine ps_sld (j := 6 * t) hx hb hX hbl hbA hS 2 (by decide) (by omega) hL dL_law_128 ?_
    refine lv_aload_n hx hb dL_law_129 rfl (lv_at hl 0 rfl) ?_
    refine lv_iload hx hb dL_law_130 (lv_at hl 4 rfl) ?_
    refine lv_iconst (v := 3) hx hb dL_law_132 (by decide) ?_
    refine lv_iadd hx hb dL_law_133 ?_
    refine ps_sld (j := 6 * t) hx hb hX hbl hbA hS 3 (by decide) (by omega) hL dL_law_134 ?_
    refine lv_aload_n hx hb dL_law_135 rfl (lv_at hl 0 rfl) ?_
    refine lv_iload hx hb dL_law_136 (lv_at hl 4 rfl) ?_
    refine lv_iconst (v := 4) hx hb dL_law_138 (by decide) ?_
    refine lv_iadd hx hb dL_law_139 ?_
    refine ps_sld (j := 6 * t) hx hb hX hbl hbA hS 4 (by decide) (by omega) hL dL_law_140 ?_
    refine lv_aload_n hx hb dL_law_141 rfl (lv_at hl 0 rfl) ?_
    refine lv_iload hx hb dL_law_142 (lv_at hl 4 rfl) ?_
    refine lv_iconst (v := 5) hx hb dL_law_144 (by decide) ?_
    refine lv_iadd hx hb dL_law_145 ?_
    refine ps_sld (j := 6 * t) hx hb hX hbl hbA hS 5 (by decide) (by omega) hL dL_law_146 ?_
    refine lv_aload_n hx hb dL_law_147 rfl (lv_at hl 3 rfl) ?_
    refine ps_cqi (wc := ps_shW h0 q1 q2 q3 cx cy cz pl pw ++ ps_trW cI cZ q1 a1 n1 g1 ++ ps_trW cI cZ q2 a2 n2 g2 ++ ps_lsW cI q3 b lf le lh ++ [(o0, .inl (cL, 1, .inr (.inl ov)))]) (wr := ps_mdW cI cZ w0 b0 th mn kn co ln wr lt f) (w1 := ps_shW h0 q1 q2 q3 cx cy cz pl pw ++ ps_trW cI cZ q1 a1 ((n1 + 1)) ((ps_ig g1 n1 (xs (6 * t + 1)) (xs (6 * t + 2)) (xs (6 * t + 3)) (xs (6 * t + 4)) (xs (6 * t + 5)))) ++ ps_trW cI cZ q2 a2 n2 g2 ++ ps_lsW cI q3 b lf le lh ++ [(o0, .inl (cL, 1, .inr (.inl (vp_updL ov 0 (ps_ig g1 n1 (xs (6 * t + 1)) (xs (6 * t + 2)) (xs (6 * t + 3)) (xs (6 * t + 4)) (xs (6 * t + 5)) 5 (ps_cn (ps_ab g1 (ps_rk (xs (6 * t + 1)))) n1)).toInt64))))]) (ws2 := ps_shW h0 q1 q2 q3 cx cy cz pl pw ++ ps_trW cI cZ q1 a1 ((n1 + 1)) ((ps_ig g1 n1 (xs (6 * t + 1)) (xs (6 * t + 2)) (xs (6 * t + 3)) (xs (6 * t + 4)) (xs (6 * t + 5)))) ++ ps_trW cI cZ q2 a2 n2 g2 ++ ps_lsW cI q3 b lf le lh ++ [(o0, .inl (cL, 1, .inr (.inl (vp_updL ov 0 (ps_ig g1 n1 (xs (6 * t + 1)) (xs (6 * t + 2)) (xs (6 * t + 3)) (xs (6 * t + 4)) (xs (6 * t + 5)) 5 (ps_cn (ps_ab g1 (ps_rk (xs (6 * t + 1)))) n1)).toInt64))))] ++ ps_mdW cI cZ w0 b0 th mn kn co ln wr lt f) (vx_runSW (As := [.ref h0, .int (xs (6 * t + 1)), .int (xs (6 * t + 2)), .int (xs (6 * t + 3)), .int (xs (6 * t + 4)), .int (xs (6 * t + 5)), .ref o0]) (rest := []) ⟨hx, hb, hml, hown, hT⟩ (mL_add_n l hlt dC dI cI cZ h0 q1 q2 q3 b a1 a2 n1 n2 g1 g2 lf le lh cx cy cz pl pw cL o0 ov h1 (xs (6 * t + 1)) (xs (6 * t + 2)) (xs (6 * t + 3)) (xs (6 * t + 4)) (xs (6 * t + 5)) h2 h3 h4 h5 _) (vx_cwSW 7 hT (ps_gSW tw_ml_L_65 tw_st_L_add tw_in_L tw_cw_L_add) rfl rfl rfl ⟨by decide, by decide, by decide +kernel⟩ ⟨Nat.le_of_ble_eq_true rfl, Nat.le_of_ble_eq_true rfl⟩) (ps_xreS (wc := ps_shW h0 q1 q2 q3 cx cy cz pl pw ++ ps_trW cI cZ q1 a1 n1 g1 ++ ps_trW cI cZ q2 a2 n2 g2 ++ ps_lsW cI q3 b lf le lh ++ [(o0, .inl (cL, 1, .inr (.inl ov)))]) [0, 1, 2, 3, 4, 5, 6, 7, 8, 9, 10, 11, 12, 13, 14, 15, 16, 17, 18, 19, 20, 21] hN hE hZ hS hA hP hK3 hD rfl rfl rfl) rfl rfl hl.1 rfl (lv_room (Nat.le_of_ble_eq_true rfl)) dL_law_148 ⟨hc1, hs1⟩) hS hA hP hD [0, 1, 2, 3, 4, 5, 6, 7, 8, 9, 10, 11, 12, 13, 14, 15, 16, 17, 18, 19, 20, 21] [22, 23, 24, 25, 26, 27, 28, 29, 30, 31, 32] [11, 12, 13, 14, 15, 16, 17, 18, 19, 20, 21, 22, 23, 24, 25, 26, 27, 28, 29, 30, 31, 32, 0, 1, 2, 3, 4, 5, 6, 7, 8, 9, 10] rfl rfl rfl (by decide) rfl rfl rfl (fun H locs hP hD hS => ?_)
    have hP : va_P (dC, dI) vwCl (ps_shW h0 q1 q2 q3 cx cy cz pl pw ++ ps_trW cI cZ q1 a1 ((n1 + 1)) ((ps_ig g1 n1 (xs (6 * t + 1)) (xs (6 * t + 2)) (xs (6 * t + 3)) (xs (6 * t + 4)) (xs (6 * t + 5)))) ++ ps_trW cI cZ q2 a2 n2 g2 ++ ps_lsW cI q3 b lf le lh ++ [(o0, .inl (cL, 1, .inr (.inl (vp_updL ov 0 (ps_ig g1 n1 (xs (6 * t + 1)) (xs (6 * t + 2)) (xs (6 * t + 3)) (xs (6 * t + 4)) (xs (6 * t + 5)) 5 (ps_cn (ps_ab g1 (ps_rk (xs (6 * t + 1)))) n1)).toInt64))))] ++ ps_mdW cI cZ w0 b0 th mn kn co ln wr lt f) H := hP
    have hD : va_D A (ps_shW h0 q1 q2 q3 cx cy cz pl pw ++ ps_trW cI cZ q1 a1 ((n1 + 1)) ((ps_ig g1 n1 (xs (6 * t + 1)) (xs (6 * t + 2)) (xs (6 * t + 3)) (xs (6 * t + 4)) (xs (6 * t + 5)))) ++ ps_trW cI cZ q2 a2 n2 g2 ++ ps_lsW cI q3 b lf le lh ++ [(o0, .inl (cL, 1, .inr (.inl (vp_updL ov 0 (ps_ig g1 n1 (xs (6 * t + 1)) (xs (6 * t + 2)) (xs (6 * t + 3)) (xs (6 * t + 4)) (xs (6 * t + 5)) 5 (ps_cn (ps_ab g1 (ps_rk (xs (6 * t + 1)))) n1)).toInt64))))] ++ ps_mdW cI cZ w0 b0 th mn kn co ln wr lt f) := hD
    refine lv_istore (lv' := [(5, .int 0), (0, .ref sb), (1, .ref h0), (2, .ref w0), (3, .ref o0), (4, .int (nI (6 * t)))]) hx hb dL_law_151 hl (by decide) rfl (fun ls hl => ?_)
    refine lv_aload_n hx hb dL_law_153 rfl (lv_at hl 3 rfl) ?_
    refine lv_aload_n hx hb dL_law_154 rfl (lv_at hl 1 rfl) ?_
    refine lv_iload hx hb dL_law_155 (lv_at hl 5 rfl) ?_
    refine lv_iconst (v := 1) hx hb dL_law_157 (by decide) ?_
    refine lv_iadd hx hb dL_law_158 ?_
    refine ps_sld (j := 6 * t) hx hb hX hbl hbA hS 1 (by decide) (by omega) hL dL_law_159 ?_
    refine lv_aload_n hx hb dL_law_160 rfl (lv_at hl 1 rfl) ?_
    refine lv_iload hx hb dL_law_161 (lv_at hl 5 rfl) ?_
    refine lv_iconst (v := 2) hx hb dL_law_163 (by decide) ?_
    refine lv_iadd hx hb dL_law_164 ?_
    refine ps_sld (j := 6 * t) hx hb hX hbl hbA hS 2 (by decide) (by omega) hL dL_law_165 ?_
    refine lv_aload_n hx hb dL_law_166 rfl (lv_at hl 1 rfl) ?_
    refine lv_iload hx hb dL_law_167 (lv_at hl 5 rfl) ?_
    refine lv_iconst (v := 3) hx hb dL_law_169 (by decide) ?_
    refine lv_iadd hx hb dL_law_170 ?_
    refine ps_sld (j := 6 * t) hx hb hX hbl hbA hS 3 (by decide) (by omega) hL dL_law_171 ?_
    refine lv_aload_n hx hb dL_law_172 rfl (lv_at hl 1 rfl) ?_
    refine lv_iload hx hb dL_law_173 (lv_at hl 5 rfl) ?_
    refine lv_iconst (v := 4) hx hb dL_law_175 (by decide) ?_
    refine lv_iadd hx hb dL_law_176 ?_
    refine ps_sld (j := 6 * t) hx hb hX hbl hbA hS 4 (by decide) (by omega) hL dL_law_177 ?_
    refine lv_aload_n hx hb dL_law_178 rfl (lv_at hl 1 rfl) ?_
    refine lv_iload hx hb dL_law_179 (lv_at hl 5 rfl) ?_
    refine lv_iconst (v := 5) hx hb dL_law_181 (by decide) ?_
    refine lv_iadd hx hb dL_law_182 ?_
    refine ps_sld (j := 6 * t) hx hb hX hbl hbA hS 5 (by decide) (by omega) hL dL_law_183 ?_
    refine ps_cqi (wc := ps_mdW cI cZ w0 b0 th mn kn co ln wr lt f) (wr := ps_shW h0 q1 q2 q3 cx cy cz pl pw ++ ps_trW cI cZ q1 a1 ((n1 + 1)) ((ps_ig g1 n1 (xs (6 * t + 1)) (xs (6 * t + 2)) (xs (6 * t + 3)) (xs (6 * t + 4)) (xs (6 * t + 5)))) ++ ps_trW cI cZ q2 a2 n2 g2 ++ ps_lsW cI q3 b lf le lh ++ [(o0, .inl (cL, 1, .inr (.inl (vp_updL ov 0 (ps_ig g1 n1 (xs (6 * t + 1)) (xs (6 * t + 2)) (xs (6 * t + 3)) (xs (6 * t + 4)) (xs (6 * t + 5)) 5 (ps_cn (ps_ab g1 (ps_rk (xs (6 * t + 1)))) n1)).toInt64))))]) (w1 := ps_mdW cI cZ w0 b0 0 ((mn + 1)) kn co ln wr lt ((ps_st (ps_ma f mn (xs (6 * t + 1)) (xs (6 * t + 2)) (xs (6 * t + 3)) (xs (6 * t + 4)) (xs (6 * t + 5))) (mn + 1)))) (ws2 := ps_shW h0 q1 q2 q3 cx cy cz pl pw ++ ps_trW cI cZ q1 a1 ((n1 + 1)) ((ps_ig g1 n1 (xs (6 * t + 1)) (xs (6 * t + 2)) (xs (6 * t + 3)) (xs (6 * t + 4)) (xs (6 * t + 5)))) ++ ps_trW cI cZ q2 a2 n2 g2 ++ ps_lsW cI q3 b lf le lh ++ [(o0, .inl (cL, 1, .inr (.inl (vp_updL ov 0 (ps_ig g1 n1 (xs (6 * t + 1)) (xs (6 * t + 2)) (xs (6 * t + 3)) (xs (6 * t + 4)) (xs (6 * t + 5)) 5 (ps_cn (ps_ab g1 (ps_rk (xs (6 * t + 1)))) n1)).toInt64))))] ++ ps_mdW cI cZ w0 b0 0 ((mn + 1)) kn co ln wr lt ((ps_st (ps_ma f mn (xs (6 * t + 1)) (xs (6 * t + 2)) (xs (6 * t + 3)) (xs (6 * t + 4)) (xs (6 * t + 5))) (mn + 1)))) (va_runV (C := RX3) (As := [.int (xs (6 * t + 1)), .int (xs (6 * t + 2)), .int (xs (6 * t + 3)), .int (xs (6 * t + 4)), .int (xs (6 * t + 5))]) (rest := []) ⟨hx, hb, hml, hown, hT⟩ (mX3_add_n l dC dI cI cZ w0 b0 th mn kn co ln wr lt f h6 (xs (6 * t + 1)) (xs (6 * t + 2)) (xs (6 * t + 3)) (xs (6 * t + 4)) (xs (6 * t + 5)) h7 h8 _) (cwV 5 hT (ps_gV tw_ml_L_70 tw_im_X3_add tw_se_X3_add tw_in_X3 tw_co_X3_add) rfl rfl rfl ⟨rfl, by decide, by decide, by decide +kernel⟩ ⟨Nat.le_of_ble_eq_true rfl, Nat.le_of_ble_eq_true rfl⟩) (ps_qreV (wc := ps_mdW cI cZ w0 b0 th mn kn co ln wr lt f) (ci := 3) [22, 23, 24, 25, 26, 27, 28, 29, 30, 31, 32] hN hP hK hD rfl rfl rfl rfl rfl) rfl rfl hl.1 rfl (lv_room (Nat.le_of_ble_eq_true rfl)) dL_law_184 ⟨hc1, hs1⟩) hS hA hP hD [22, 23, 24, 25, 26, 27, 28, 29, 30, 31, 32] [0, 1, 2, 3, 4, 5, 6, 7, 8, 9, 10, 11, 12, 13, 14, 15, 16, 17, 18, 19, 20, 21] [0, 1, 2, 3, 4, 5, 6, 7, 8, 9, 10, 11, 12, 13, 14, 15, 16, 17, 18, 19, 20, 21, 22, 23, 24, 25, 26, 27, 28, 29, 30, 31, 32] rfl rfl rfl (by decide) rfl rfl rfl (fun H locs hP hD hS => ?_)
    have hP : va_P (dC, dI) vwCl (ps_shW h0 q1 q2 q3 cx cy cz pl pw ++ ps_trW cI cZ q1 a1 ((n1 + 1)) ((ps_ig g1 n1 (xs (6 * t + 1)) (xs (6 * t + 2)) (xs (6 * t + 3)) (xs (6 * t + 4)) (xs (6 * t + 5)))) ++ ps_trW cI cZ q2 a2 n2 g2 ++ ps_lsW cI q3 b lf le lh ++ [(o0, .inl (cL, 1, .inr (.inl (vp_updL ov 0 (ps_ig g1 n1 (xs (6 * t + 1)) (xs (6 * t + 2)) (xs (6 * t + 3)) (xs (6 * t + 4)) (xs (6 * t + 5)) 5 (ps_cn (ps_ab g1 (ps_rk (xs (6 * t + 1)))) n1)).toInt64))))] ++ ps_mdW cI cZ w0 b0 0 ((mn + 1)) kn co ln wr lt ((ps_st (ps_ma f mn (xs (6 * t + 1)) (xs (6 * t + 2)) (xs (6 * t + 3)) (xs (6 * t + 4)) (xs (6 * t + 5))) (mn + 1)))) H := hP
    have hD : va_D A (ps_shW h0 q1 q2 q3 cx cy cz pl pw ++ ps_trW cI cZ q1 a1 ((n1 + 1)) ((ps_ig g1 n1 (xs (6 * t + 1)) (xs (6 * t + 2)) (xs (6 * t + 3)) (xs (6 * t + 4)) (xs (6 * t + 5)))) ++ ps_trW cI cZ q2 a2 n2 g2 ++ ps_lsW cI q3 b lf le lh ++ [(o0, .inl (cL, 1, .inr (.inl (vp_updL ov 0 (ps_ig g1 n1 (xs (6 * t + 1)) (xs (6 * t + 2)) (xs (6 * t + 3)) (xs (6 * t + 4)) (xs (6 * t + 5)) 5 (ps_cn (ps_ab g1 (ps_rk (xs (6 * t + 1)))) n1)).toInt64))))] ++ ps_mdW cI cZ w0 b0 0 ((mn + 1)) kn co ln wr lt ((ps_st (ps_ma f mn (xs (6 * t + 1)) (xs (6 * t + 2)) (xs (6 * t + 3)) (xs (6 * t + 4)) (xs (6 * t + 5))) (mn + 1)))) := hD
    refine lv_istore (lv' := [(6, .int (ps_st (ps_ma f mn (xs (6 * t + 1)) (xs (6 * t + 2)) (xs (6 * t + 3)) (xs (6 * t + 4)) (xs (6 * t + 5))) (mn + 1) 3 mn)), (5, .int 0), (0, .ref sb), (1, .ref h0), (2, .ref w0), (3, .ref o0), (4, .int (nI (6 * t)))]) hx hb dL_law_187 hl (by decide) rfl (fun ls hl => ?_)
    refine lv_aload_n hx hb dL_law_189 rfl (lv_at hl 4 rfl) ?_
    refine vp_callSi (va_Run.run (va_runV (C := RX3) (As := []) (rest := []) ⟨hx, hb, hml, hown, hT⟩ (mX3_thrown l dC dI cI cZ w0 b0 0 ((mn + 1)) kn co ln wr lt ((ps_st (ps_ma f mn (xs (6 * t + 1)) (xs (6 * t + 2)) (xs (6 * t + 3)) (xs (6 * t + 4)) (xs (6 * t + 5))) (mn + 1)))) (cwV 0 hT (ps_gV tw_ml_L_71 tw_im_X3_thrown tw_se_X3_thrown tw_in_X3 tw_co_X3_thrown) rfl rfl rfl ⟨rfl, by decide, by decide, by decide +kernel⟩ ⟨Nat.le_of_ble_eq_true rfl, Nat.le_of_ble_eq_true rfl⟩) (ps_preV (ci := 3) (q0 := 0) hN (hP.sub (ws' := ps_mdW cI cZ w0 b0 0 ((mn + 1)) kn co ln wr lt ((ps_st (ps_ma f mn (xs (6 * t + 1)) (xs (6 * t + 2)) (xs (6 * t + 3)) (xs (6 * t + 4)) (xs (6 * t + 5))) (mn + 1)))) [22, 23, 24, 25, 26, 27, 28, 29, 30, 31, 32] rfl) hK rfl rfl) rfl rfl hl.1 rfl (lv_room (Nat.le_of_ble_eq_true rfl)) dL_law_190 ⟨hc1, hs1⟩)) (fun r hr9 => ?_)
    obtain rfl : r = 0 := hr9
    refine lv_iload hx hb dL_law_193 (lv_at hl 1 rfl) ?_
    refine lv_icmp_eq (tgt := 200) hx hb dL_law_195 rfl (fun h195 => ?_) (fun h195 => ?_)
    · skip
      refine lv_iload hx hb dL_law_200 (lv_at hl 1 rfl) ?_
      refine lv_if_ne (tgt := 217) hx hb dL_law_202 rfl (fun h202 => ?_) (fun h202 => ?_)
      · skip
        exact absurd rfl h202
      · skip
        refine lv_aload_n hx hb dL_law_205 rfl (lv_at hl 5 rfl) ?_
        refine lv_iconst (v := 0) hx hb dL_law_206 (by decide) ?_
        refine va_lald hx hb hK3 hP 21 2 rfl rfl (by unfold vp_in; decide) dL_law_207 ?_
        refine lv_iload hx hb dL_law_208 (lv_at hl 0 rfl) ?_
        refine lv_i2l (v := (ps_st (ps_ma f mn (xs (6 * t + 1)) (xs (6 * t + 2)) (xs (6 * t + 3)) (xs (6 * t + 4)) (xs (6 * t + 5))) (mn + 1) 3 mn).toInt64) hx hb dL_law_210 rfl ?_
        refine W.lcmp hx hb dL_law_211 ?_
        refine lv_if_eq (tgt := 217) hx hb dL_law_212 rfl (fun h212 => ?_) (fun h212 => ?_)
        · skip
          refine lv_goto (tgt := 1028) hx hb dL_law_217 rfl ?_
          refine W.widen (k := cells + 1) (n := slots + 6) (Nat.le_refl _) (Nat.le_refl _) ?_
          exact kk _ _ _ _ _ _ _ _ _ _ _ _ _ _ _ _ _ _ _ _ _ _ _ _ hJ (lv_sub hl [2, 3, 4, 5, 6] rfl) hP hD hS
        · skip
          exact absurd (ps_lz he) h212
    · skip
      exact absurd rfl h195
  · skip
    refine lv_aload_n hx hb dL_law_116 rfl (lv_at hl 1 rfl) ?_
    refine lv_aload_n hx hb dL_law_117 rfl (lv_at hl 0 rfl) ?_
    refine lv_iload hx hb dL_law_118 (lv_at hl 4 rfl) ?_
    refine lv_iconst (v := 1) hx hb dL_law_120 (by decide) ?_
    refine lv_iadd hx hb dL_law_121 ?_
    refine ps_sld (j := 6 * t) hx hb hX hbl hbA hS 1 (by decide) (by omega) hL dL_law_122 ?_
    refine lv_aload_n hx hb dL_law_123 rfl (lv_at hl 0 rfl) ?_
    refine lv_iload hx hb dL_law_124 (lv_at hl 4 rfl) ?_
    refine lv_iconst (v := 2) hx hb dL_law_126 (by decide) ?_
    refine lv_iadd hx hb dL_law_127 ?_
    refine ps_sld (j := 6 * t) hx hb hX hbl hbA hS 2 (by decide) (by omega) hL dL_law_128 ?_
    refine lv_aload_n hx hb dL_law_129 rfl (lv_at hl 0 rfl) ?_
    refine lv_iload hx hb dL_law_130 (lv_at hl 4 rfl) ?_
    refine lv_iconst (v := 3) hx hb dL_law_132 (by decide) ?_
    refine lv_iadd hx hb dL_law_133 ?_
    refine ps_sld (j := 6 * t) hx hb hX hbl hbA hS 3 (by decide) (by omega) hL dL_law_134 ?_
    refine lv_aload_n hx hb dL_law_135 rfl (lv_at hl 0 rfl) ?_
    refine lv_iload hx hb dL_law_136 (lv_at hl 4 rfl) ?_
    refine lv_iconst (v := 4) hx hb dL_law_138 (by decide) ?_
    refine lv_iadd hx hb dL_law_139 ?_
    refine ps_sld (j := 6 * t) hx hb hX hbl hbA hS 4 (by decide) (by omega) hL dL_law_140 ?_
    refine lv_aload_n hx hb dL_law_141 rfl (lv_at hl 0 rfl) ?_
    refine lv_iload hx hb dL_law_142 (lv_at hl 4 rfl) ?_
    refine lv_iconst (v := 5) hx hb dL_law_144 (by decide) ?_
    refine lv_iadd hx hb dL_law_145 ?_
    refine ps_sld (j := 6 * t) hx hb hX hbl hbA hS 5 (by decide) (by omega) hL dL_law_146 ?_
    refine lv_aload_n hx hb dL_law_147 rfl (lv_at hl 3 rfl) ?_
    refine ps_cqi (wc := ps_shW h0 q1 q2 q3 cx cy cz pl pw ++ ps_trW cI cZ q1 a1 n1 g1 ++ ps_trW cI cZ q2 a2 n2 g2 ++ ps_lsW cI q3 b lf le lh ++ [(o0, .inl (cL, 1, .inr (.inl ov)))]) (wr := ps_mdW cI cZ w0 b0 th mn kn co ln wr lt f) (w1 := ps_shW h0 q1 q2 q3 cx cy cz pl pw ++ ps_trW cI cZ q1 a1 n1 g1 ++ ps_trW cI cZ q2 a2 n2 g2 ++ ps_lsW cI q3 b lf le lh ++ [(o0, .inl (cL, 1, .inr (.inl ov)))]) (ws2 := ps_shW h0 q1 q2 q3 cx cy cz pl pw ++ ps_trW cI cZ q1 a1 n1 g1 ++ ps_trW cI cZ q2 a2 n2 g2 ++ ps_lsW cI q3 b lf le lh ++ [(o0, .inl (cL, 1, .inr (.inl ov)))] ++ ps_mdW cI cZ w0 b0 th mn kn co ln wr lt f) (vx_runSW (As := [.ref h0, .int (xs (6 * t + 1)), .int (xs (6 * t + 2)), .int (xs (6 * t + 3)), .int (xs (6 * t + 4)), .int (xs (6 * t + 5)), .ref o0]) (rest := []) ⟨hx, hb, hml, hown, hT⟩ (mL_add_x1 l hlt dC dI cI cZ h0 q1 q2 q3 b a1 a2 n1 n2 g1 g2 lf le lh cx cy cz pl pw cL o0 ov (xs (6 * t + 1)) (xs (6 * t + 2)) (xs (6 * t + 3)) (xs (6 * t + 4)) (xs (6 * t + 5)) h1 _) (vx_cwSW 7 hT (ps_gSW tw_ml_L_65 tw_st_L_add tw_in_L tw_cw_L_add) rfl rfl rfl ⟨by decide, by decide, by decide +kernel⟩ ⟨Nat.le_of_ble_eq_true rfl, Nat.le_of_ble_eq_true rfl⟩) (ps_xreS (wc := ps_shW h0 q1 q2 q3 cx cy cz pl pw ++ ps_trW cI cZ q1 a1 n1 g1 ++ ps_trW cI cZ q2 a2 n2 g2 ++ ps_lsW cI q3 b lf le lh ++ [(o0, .inl (cL, 1, .inr (.inl ov)))]) [0, 1, 2, 3, 4, 5, 6, 7, 8, 9, 10, 11, 12, 13, 14, 15, 16, 17, 18, 19, 20, 21] hN hE hZ hS hA hP hK3 hD rfl rfl rfl) rfl rfl hl.1 rfl (lv_room (Nat.le_of_ble_eq_true rfl)) dL_law_148 ⟨hc1, hs1⟩) hS hA hP hD [0, 1, 2, 3, 4, 5, 6, 7, 8, 9, 10, 11, 12, 13, 14, 15, 16, 17, 18, 19, 20, 21] [22, 23, 24, 25, 26, 27, 28, 29, 30, 31, 32] [11, 12, 13, 14, 15, 16, 17, 18, 19, 20, 21, 22, 23, 24, 25, 26, 27, 28, 29, 30, 31, 32, 0, 1, 2, 3, 4, 5, 6, 7, 8, 9, 10] rfl rfl rfl (by decide) rfl rfl rfl (fun H locs hP hD hS => ?_)
    have hP : va_P (dC, dI) vwCl (ps_shW h0 q1 q2 q3 cx cy cz pl pw ++ ps_trW cI cZ q1 a1 n1 g1 ++ ps_trW cI cZ q2 a2 n2 g2 ++ ps_lsW cI q3 b lf le lh ++ [(o0, .inl (cL, 1, .inr (.inl ov)))] ++ ps_mdW cI cZ w0 b0 th mn kn co ln wr lt f) H := hP
    have hD : va_D A (ps_shW h0 q1 q2 q3 cx cy cz pl pw ++ ps_trW cI cZ q1 a1 n1 g1 ++ ps_trW cI cZ q2 a2 n2 g2 ++ ps_lsW cI q3 b lf le lh ++ [(o0, .inl (cL, 1, .inr (.inl ov)))] ++ ps_mdW cI cZ w0 b0 th mn kn co ln wr lt f) := hD
    refine lv_istore (lv' := [(5, .int 1), (0, .ref sb), (1, .ref h0), (2, .ref w0), (3, .ref o0), (4, .int (nI (6 * t)))]) hx hb dL_law_151 hl (by decide) rfl (fun ls hl => ?_)
    refine lv_aload_n hx hb dL_law_153 rfl (lv_at hl 3 rfl) ?_
    refine lv_aload_n hx hb dL_law_154 rfl (lv_at hl 1 rfl) ?_
    refine lv_iload hx hb dL_law_155 (lv_at hl 5 rfl) ?_
    refine lv_iconst (v := 1) hx hb dL_law_157 (by decide) ?_
    refine lv_iadd hx hb dL_law_158 ?_
    refine ps_sld (j := 6 * t) hx hb hX hbl hbA hS 1 (by decide) (by omega) hL dL_law_159 ?_
    refine lv_aload_n hx hb dL_law_160 rfl (lv_at hl 1 rfl) ?_
    refine lv_iload hx hb dL_law_161 (lv_at hl 5 rfl) ?_
    refine lv_iconst (v := 2) hx hb dL_law_163 (by decide) ?_
    refine lv_iadd hx hb dL_law_164 ?_
    refine ps_sld (j := 6 * t) hx hb hX hbl hbA hS 2 (by decide) (by omega) hL dL_law_165 ?_
    refine lv_aload_n hx hb dL_law_166 rfl (lv_at hl 1 rfl) ?_
    refine lv_iload hx hb dL_law_167 (lv_at hl 5 rfl) ?_
    refine lv_iconst (v := 3) hx hb dL_law_169 (by decide) ?_
    refine lv_iadd hx hb dL_law_170 ?_
    refine ps_sld (j := 6 * t) hx hb hX hbl hbA hS 3 (by decide) (by omega) hL dL_law_171 ?_
    refine lv_aload_n hx hb dL_law_172 rfl (lv_at hl 1 rfl) ?_
    refine lv_iload hx hb dL_law_173 (lv_at hl 5 rfl) ?_
    refine lv_iconst (v := 4) hx hb dL_law_175 (by decide) ?_
    refine lv_iadd hx hb dL_law_176 ?_
    refine ps_sld (j := 6 * t) hx hb hX hbl hbA hS 4 (by decide) (by omega) hL dL_law_177 ?_
    refine lv_aload_n hx hb dL_law_178 rfl (lv_at hl 1 rfl) ?_
    refine lv_iload hx hb dL_law_179 (lv_at hl 5 rfl) ?_
    refine lv_iconst (v := 5) hx hb dL_law_181 (by decide) ?_
    refine lv_iadd hx hb dL_law_182 ?_
    refine ps_sld (j := 6 * t) hx hb hX hbl hbA hS 5 (by decide) (by omega) hL dL_law_183 ?_
    refine ps_cqi (wc := ps_mdW cI cZ w0 b0 th mn kn co ln wr lt f) (wr := ps_shW h0 q1 q2 q3 cx cy cz pl pw ++ ps_trW cI cZ q1 a1 n1 g1 ++ ps_trW cI cZ q2 a2 n2 g2 ++ ps_lsW cI q3 b lf le lh ++ [(o0, .inl (cL, 1, .inr (.inl ov)))]) (w1 := ps_mdW cI cZ w0 b0 1 mn kn co ln wr lt f) (ws2 := ps_shW h0 q1 q2 q3 cx cy cz pl pw ++ ps_trW cI cZ q1 a1 n1 g1 ++ ps_trW cI cZ q2 a2 n2 g2 ++ ps_lsW cI q3 b lf le lh ++ [(o0, .inl (cL, 1, .inr (.inl ov)))] ++ ps_mdW cI cZ w0 b0 1 mn kn co ln wr lt f) (va_runV (C := RX3) (As := [.int (xs (6 * t + 1)), .int (xs (6 * t + 2)), .int (xs (6 * t + 3)), .int (xs (6 * t + 4)), .int (xs (6 * t + 5))]) (rest := []) ⟨hx, hb, hml, hown, hT⟩ (mX3_add_1 l dC dI cI cZ w0 b0 th mn kn co ln wr lt f h2 (xs (6 * t + 1)) (xs (6 * t + 2)) (xs (6 * t + 3)) (xs (6 * t + 4)) (xs (6 * t + 5)) h3 _) (cwV 5 hT (ps_gV tw_ml_L_70 tw_im_X3_add tw_se_X3_add tw_in_X3 tw_co_X3_add) rfl rfl rfl ⟨rfl, by decide, by decide, by decide +kernel⟩ ⟨Nat.le_of_ble_eq_true rfl, Nat.le_of_ble_eq_true rfl⟩) (ps_qreV (wc := ps_mdW cI cZ w0 b0 th mn kn co ln wr lt f) (ci := 3) [22, 23, 24, 25, 26, 27, 28, 29, 30, 31, 32] hN hP hK hD rfl rfl rfl rfl rfl) rfl rfl hl.1 rfl (lv_room (Nat.le_of_ble_eq_true rfl)) dL_law_184 ⟨hc1, hs1⟩) hS hA hP hD [22, 23, 24, 25, 26, 27, 28, 29, 30, 31, 32] [0, 1, 2, 3, 4, 5, 6, 7, 8, 9, 10, 11, 12, 13, 14, 15, 16, 17, 18, 19, 20, 21] [0, 1, 2, 3, 4, 5, 6, 7, 8, 9, 10, 11, 12, 13, 14, 15, 16, 17, 18, 19, 20, 21, 22, 23, 24, 25, 26, 27, 28, 29, 30, 31, 32] rfl rfl rfl (by decide) rfl rfl rfl (fun H locs hP hD hS => ?_)
    have hP : va_P (dC, dI) vwCl (ps_shW h0 q1 q2 q3 cx cy cz pl pw ++ ps_trW cI cZ q1 a1 n1 g1 ++ ps_trW cI cZ q2 a2 n2 g2 ++ ps_lsW cI q3 b lf le lh ++ [(o0, .inl (cL, 1, .inr (.inl ov)))] ++ ps_mdW cI cZ w0 b0 1 mn kn co ln wr lt f) H := hP
    have hD : va_D A (ps_shW h0 q1 q2 q3 cx cy cz pl pw ++ ps_trW cI cZ q1 a1 n1 g1 ++ ps_trW cI cZ q2 a2 n2 g2 ++ ps_lsW cI q3 b lf le lh ++ [(o0, .inl (cL, 1, .inr (.inl ov)))] ++ ps_mdW cI cZ w0 b0 1 mn kn co ln wr lt f) := hD
    refine lv_istore (lv' := [(6, .int 0), (5, .int 1), (0, .ref sb), (1, .ref h0), (2, .ref w0), (3, .ref o0), (4, .int (nI (6 * t)))]) hx hb dL_law_187 hl (by decide) rfl (fun ls hl => ?_)
    refine lv_aload_n hx hb dL_law_189 rfl (lv_at hl 4 rfl) ?_
    refine vp_callSi (va_Run.run (va_runV (C := RX3) (As := []) (rest := []) ⟨hx, hb, hml, hown, hT⟩ (mX3_thrown l dC dI cI cZ w0 b0 1 mn kn co ln wr lt f) (cwV 0 hT (ps_gV tw_ml_L_71 tw_im_X3_thrown tw_se_X3_thrown tw_in_X3 tw_co_X3_thrown) rfl rfl rfl ⟨rfl, by decide, by decide, by decide +kernel⟩ ⟨Nat.le_of_ble_eq_true rfl, Nat.le_of_ble_eq_true rfl⟩) (ps_preV (ci := 3) (q0 := 0) hN (hP.sub (ws' := ps_mdW cI cZ w0 b0 1 mn kn co ln wr lt f) [22, 23, 24, 25, 26, 27, 28, 29, 30, 31, 32] rfl) hK rfl rfl) rfl rfl hl.1 rfl (lv_room (Nat.le_of_ble_eq_true rfl)) dL_law_190 ⟨hc1, hs1⟩)) (fun r hr9 => ?_)
    obtain rfl : r = 1 := hr9
    refine lv_iload hx hb dL_law_193 (lv_at hl 1 rfl) ?_
    refine lv_icmp_eq (tgt := 200) hx hb dL_law_195 rfl (fun h195 => ?_) (fun h195 => ?_)
    · skip
      refine lv_iload hx hb dL_law_200 (lv_at hl 1 rfl) ?_
      refine lv_if_ne (tgt := 217) hx hb dL_law_202 rfl (fun h202 => ?_) (fun h202 => ?_)
      · skip
        refine lv_goto (tgt := 1028) hx hb dL_law_217 rfl ?_
        refine W.widen (k := cells + 1) (n := slots + 6) (Nat.le_refl _) (Nat.le_refl _) ?_
        exact kk _ _ _ _ _ _ _ _ _ _ _ _ _ _ _ _ _ _ _ _ _ _ _ _ hJ (lv_sub hl [2, 3, 4, 5, 6] rfl) hP hD hS
      · skip
        exact absurd h202 (by decide)
    · skip
      exact absurd rfl h195
  · skip
    refine lv_aload_n hx hb dL_law_116 rfl (lv_at hl 1 rfl) ?_
    refine lv_aload_n hx hb dL_law_117 rfl (lv_at hl 0 rfl) ?_
    refine lv_iload hx hb dL_law_118 (lv_at hl 4 rfl) ?_
    refine lv_iconst (v := 1) hx hb dL_law_120 (by decide) ?_
    refine lv_iadd hx hb dL_law_121 ?_
    refine ps_sld (j := 6 * t) hx hb hX hbl hbA hS 1 (by decide) (by omega) hL dL_law_122 ?_
    refine lv_aload_n hx hb dL_law_123 rfl (lv_at hl 0 rfl) ?_
    refine lv_iload hx hb dL_law_124 (lv_at hl 4 rfl) ?_
    refine lv_iconst (v := 2) hx hb dL_law_126 (by decide) ?_
    refine lv_iadd hx hb dL_law_127 ?_
    refine ps_sld (j := 6 * t) hx hb hX hbl hbA hS 2 (by decide) (by omega) hL dL_law_128 ?_
    refine lv_aload_n hx hb dL_law_129 rfl (lv_at hl 0 rfl) ?_
    refine lv_iload hx hb dL_law_130 (lv_at hl 4 rfl) ?_
    refine lv_iconst (v := 3) hx hb dL_law_132 (by decide) ?_
    refine lv_iadd hx hb dL_law_133 ?_
    refine ps_sld (j := 6 * t) hx hb hX hbl hbA hS 3 (by decide) (by omega) hL dL_law_134 ?_
    refine lv_aload_n hx hb dL_law_135 rfl (lv_at hl 0 rfl) ?_
    refine lv_iload hx hb dL_law_136 (lv_at hl 4 rfl) ?_
    refine lv_iconst (v := 4) hx hb dL_law_138 (by decide) ?_
    refine lv_iadd hx hb dL_law_139 ?_
    refine ps_sld (j := 6 * t) hx hb hX hbl hbA hS 4 (by decide) (by omega) hL dL_law_140 ?_
    refine lv_aload_n hx hb dL_law_141 rfl (lv_at hl 0 rfl) ?_
    refine lv_iload hx hb dL_law_142 (lv_at hl 4 rfl) ?_
    refine lv_iconst (v := 5) hx hb dL_law_144 (by decide) ?_
    refine lv_iadd hx hb dL_law_145 ?_
    refine ps_sld (j := 6 * t) hx hb hX hbl hbA hS 5 (by decide) (by omega) hL dL_law_146 ?_
    refine lv_aload_n hx hb dL_law_147 rfl (lv_at hl 3 rfl) ?_
    refine ps_cqi (wc := ps_shW h0 q1 q2 q3 cx cy cz pl pw ++ ps_trW cI cZ q1 a1 n1 g1 ++ ps_trW cI cZ q2 a2 n2 g2 ++ ps_lsW cI q3 b lf le lh ++ [(o0, .inl (cL, 1, .inr (.inl ov)))]) (wr := ps_mdW cI cZ w0 b0 th mn kn co ln wr lt f) (w1 := ps_shW h0 q1 q2 q3 cx cy cz pl pw ++ ps_trW cI cZ q1 a1 n1 g1 ++ ps_trW cI cZ q2 a2 n2 g2 ++ ps_lsW cI q3 b lf le lh ++ [(o0, .inl (cL, 1, .inr (.inl ov)))]) (ws2 := ps_shW h0 q1 q2 q3 cx cy cz pl pw ++ ps_trW cI cZ q1 a1 n1 g1 ++ ps_trW cI cZ q2 a2 n2 g2 ++ ps_lsW cI q3 b lf le lh ++ [(o0, .inl (cL, 1, .inr (.inl ov)))] ++ ps_mdW cI cZ w0 b0 th mn kn co ln wr lt f) (vx_runSW (As := [.ref h0, .int (xs (6 * t + 1)), .int (xs (6 * t + 2)), .int (xs (6 * t + 3)), .int (xs (6 * t + 4)), .int (xs (6 * t + 5)), .ref o0]) (rest := []) ⟨hx, hb, hml, hown, hT⟩ (mL_add_x2 l hlt dC dI cI cZ h0 q1 q2 q3 b a1 a2 n1 n2 g1 g2 lf le lh cx cy cz pl pw cL o0 ov h1 (xs (6 * t + 1)) (xs (6 * t + 2)) (xs (6 * t + 3)) (xs (6 * t + 4)) (xs (6 * t + 5)) h2 h3 h4 h5 _) (vx_cwSW 7 hT (ps_gSW tw_ml_L_65 tw_st_L_add tw_in_L tw_cw_L_add) rfl rfl rfl ⟨by decide, by decide, by decide +kernel⟩ ⟨Nat.le_of_ble_eq_true rfl, Nat.le_of_ble_eq_true rfl⟩) (ps_xreS (wc := ps_shW h0 q1 q2 q3 cx cy cz pl pw ++ ps_trW cI cZ q1 a1 n1 g1 ++ ps_trW cI cZ q2 a2 n2 g2 ++ ps_lsW cI q3 b lf le lh ++ [(o0, .inl (cL, 1, .inr (.inl ov)))]) [0, 1, 2, 3, 4, 5, 6, 7, 8, 9, 10, 11, 12, 13, 14, 15, 16, 17, 18, 19, 20, 21] hN hE hZ hS hA hP hK3 hD rfl rfl rfl) rfl rfl hl.1 rfl (lv_room (Nat.le_of_ble_eq_true rfl)) dL_law_148 ⟨hc1, hs1⟩) hS hA hP hD [0, 1, 2, 3, 4, 5, 6, 7, 8, 9, 10, 11, 12, 13, 14, 15, 16, 17, 18, 19, 20, 21] [22, 23, 24, 25, 26, 27, 28, 29, 30, 31, 32] [11, 12, 13, 14, 15, 16, 17, 18, 19, 20, 21, 22, 23, 24, 25, 26, 27, 28, 29, 30, 31, 32, 0, 1, 2, 3, 4, 5, 6, 7, 8, 9, 10] rfl rfl rfl (by decide) rfl rfl rfl (fun H locs hP hD hS => ?_)
    have hP : va_P (dC, dI) vwCl (ps_shW h0 q1 q2 q3 cx cy cz pl pw ++ ps_trW cI cZ q1 a1 n1 g1 ++ ps_trW cI cZ q2 a2 n2 g2 ++ ps_lsW cI q3 b lf le lh ++ [(o0, .inl (cL, 1, .inr (.inl ov)))] ++ ps_mdW cI cZ w0 b0 th mn kn co ln wr lt f) H := hP
    have hD : va_D A (ps_shW h0 q1 q2 q3 cx cy cz pl pw ++ ps_trW cI cZ q1 a1 n1 g1 ++ ps_trW cI cZ q2 a2 n2 g2 ++ ps_lsW cI q3 b lf le lh ++ [(o0, .inl (cL, 1, .inr (.inl ov)))] ++ ps_mdW cI cZ w0 b0 th mn kn co ln wr lt f) := hD
    refine lv_istore (lv' := [(5, .int 2), (0, .ref sb), (1, .ref h0), (2, .ref w0), (3, .ref o0), (4, .int (nI (6 * t)))]) hx hb dL_law_151 hl (by decide) rfl (fun ls hl => ?_)
    refine lv_aload_n hx hb dL_law_153 rfl (lv_at hl 3 rfl) ?_
    refine lv_aload_n hx hb dL_law_154 rfl (lv_at hl 1 rfl) ?_
    refine lv_iload hx hb dL_law_155 (lv_at hl 5 rfl) ?_
    refine lv_iconst (v := 1) hx hb dL_law_157 (by decide) ?_
    refine lv_iadd hx hb dL_law_158 ?_
    refine ps_sld (j := 6 * t) hx hb hX hbl hbA hS 1 (by decide) (by omega) hL dL_law_159 ?_
    refine lv_aload_n hx hb dL_law_160 rfl (lv_at hl 1 rfl) ?_
    refine lv_iload hx hb dL_law_161 (lv_at hl 5 rfl) ?_
    refine lv_iconst (v := 2) hx hb dL_law_163 (by decide) ?_
    refine lv_iadd hx hb dL_law_164 ?_
    refine ps_sld (j := 6 * t) hx hb hX hbl hbA hS 2 (by decide) (by omega) hL dL_law_165 ?_
    refine lv_aload_n hx hb dL_law_166 rfl (lv_at hl 1 rfl) ?_
    refine lv_iload hx hb dL_law_167 (lv_at hl 5 rfl) ?_
    refine lv_iconst (v := 3) hx hb dL_law_169 (by decide) ?_
    refine lv_iadd hx hb dL_law_170 ?_
    refine ps_sld (j := 6 * t) hx hb hX hbl hbA hS 3 (by decide) (by omega) hL dL_law_171 ?_
    refine lv_aload_n hx hb dL_law_172 rfl (lv_at hl 1 rfl) ?_
    refine lv_iload hx hb dL_law_173 (lv_at hl 5 rfl) ?_
    refine lv_iconst (v := 4) hx hb dL_law_175 (by decide) ?_
    refine lv_iadd hx hb dL_law_176 ?_
    refine ps_sld (j := 6 * t) hx hb hX hbl hbA hS 4 (by decide) (by omega) hL dL_law_177 ?_
    refine lv_aload_n hx hb dL_law_178 rfl (lv_at hl 1 rfl) ?_
    refine lv_iload hx hb dL_law_179 (lv_at hl 5 rfl) ?_
    refine lv_iconst (v := 5) hx hb dL_law_181 (by decide) ?_
    refine lv_iadd hx hb dL_law_182 ?_
    refine ps_sld (j := 6 * t) hx hb hX hbl hbA hS 5 (by decide) (by omega) hL dL_law_183 ?_
    refine ps_cqi (wc := ps_mdW cI cZ w0 b0 th mn kn co ln wr lt f) (wr := ps_shW h0 q1 q2 q3 cx cy cz pl pw ++ ps_trW cI cZ q1 a1 n1 g1 ++ ps_trW cI cZ q2 a2 n2 g2 ++ ps_lsW cI q3 b lf le lh ++ [(o0, .inl (cL, 1, .inr (.inl ov)))]) (w1 := ps_mdW cI cZ w0 b0 2 mn kn co ln wr lt f) (ws2 := ps_shW h0 q1 q2 q3 cx cy cz pl pw ++ ps_trW cI cZ q1 a1 n1 g1 ++ ps_trW cI cZ q2 a2 n2 g2 ++ ps_lsW cI q3 b lf le lh ++ [(o0, .inl (cL, 1, .inr (.inl ov)))] ++ ps_mdW cI cZ w0 b0 2 mn kn co ln wr lt f) (va_runV (C := RX3) (As := [.int (xs (6 * t + 1)), .int (xs (6 * t + 2)), .int (xs (6 * t + 3)), .int (xs (6 * t + 4)), .int (xs (6 * t + 5))]) (rest := []) ⟨hx, hb, hml, hown, hT⟩ (mX3_add_2 l dC dI cI cZ w0 b0 th mn kn co ln wr lt f h6 (xs (6 * t + 1)) (xs (6 * t + 2)) (xs (6 * t + 3)) (xs (6 * t + 4)) (xs (6 * t + 5)) h7 h8 _) (cwV 5 hT (ps_gV tw_ml_L_70 tw_im_X3_add tw_se_X3_add tw_in_X3 tw_co_X3_add) rfl rfl rfl ⟨rfl, by decide, by decide, by decide +kernel⟩ ⟨Nat.le_of_ble_eq_true rfl, Nat.le_of_ble_eq_true rfl⟩) (ps_qreV (wc := ps_mdW cI cZ w0 b0 th mn kn co ln wr lt f) (ci := 3) [22, 23, 24, 25, 26, 27, 28, 29, 30, 31, 32] hN hP hK hD rfl rfl rfl rfl rfl) rfl rfl hl.1 rfl (lv_room (Nat.le_of_ble_eq_true rfl)) dL_law_184 ⟨hc1, hs1⟩) hS hA hP hD [22, 23, 24, 25, 26, 27, 28, 29, 30, 31, 32] [0, 1, 2, 3, 4, 5, 6, 7, 8, 9, 10, 11, 12, 13, 14, 15, 16, 17, 18, 19, 20, 21] [0, 1, 2, 3, 4, 5, 6, 7, 8, 9, 10, 11, 12, 13, 14, 15, 16, 17, 18, 19, 20, 21, 22, 23, 24, 25, 26, 27, 28, 29, 30, 31, 32] rfl rfl rfl (by decide) rfl rfl rfl (fun H locs hP hD hS => ?_)
    have hP : va_P (dC, dI) vwCl (ps_shW h0 q1 q2 q3 cx cy cz pl pw ++ ps_trW cI cZ q1 a1 n1 g1 ++ ps_trW cI cZ q2 a2 n2 g2 ++ ps_lsW cI q3 b lf le lh ++ [(o0, .inl (cL, 1, .inr (.inl ov)))] ++ ps_mdW cI cZ w0 b0 2 mn kn co ln wr lt f) H := hP
    have hD : va_D A (ps_shW h0 q1 q2 q3 cx cy cz pl pw ++ ps_trW cI cZ q1 a1 n1 g1 ++ ps_trW cI cZ q2 a2 n2 g2 ++ ps_lsW cI q3 b lf le lh ++ [(o0, .inl (cL, 1, .inr (.inl ov)))] ++ ps_mdW cI cZ w0 b0 2 mn kn co ln wr lt f) := hD
    refine lv_istore (lv' := [(6, .int 0), (5, .int 2), (0, .ref sb), (1, .ref h0), (2, .ref w0), (3, .ref o0), (4, .int (nI (6 * t)))]) hx hb dL_law_187 hl (by decide) rfl (fun ls hl => ?_)
    refine lv_aload_n hx hb dL_law_189 rfl (lv_at hl 4 rfl) ?_
    refine vp_callSi (va_Run.run (va_runV (C := RX3) (As := []) (rest := []) ⟨hx, hb, hml, hown, hT⟩ (mX3_thrown l dC dI cI cZ w0 b0 2 mn kn co ln wr lt f) (cwV 0 hT (ps_gV tw_ml_L_71 tw_im_X3_thrown tw_se_X3_thrown tw_in_X3 tw_co_X3_thrown) rfl rfl rfl ⟨rfl, by decide, by decide, by decide +kernel⟩ ⟨Nat.le_of_ble_eq_true rfl, Nat.le_of_ble_eq_true rfl⟩) (ps_preV (ci := 3) (q0 := 0) hN (hP.sub (ws' := ps_mdW cI cZ w0 b0 2 mn kn co ln wr lt f) [22, 23, 24, 25, 26, 27, 28, 29, 30, 31, 32] rfl) hK rfl rfl) rfl rfl hl.1 rfl (lv_room (Nat.le_of_ble_eq_true rfl)) dL_law_190 ⟨hc1, hs1⟩)) (fun r hr9 => ?_)
    obtain rfl : r = 2 := hr9
    refine lv_iload hx hb dL_law_193 (lv_at hl 1 rfl) ?_
    refine lv_icmp_eq (tgt := 200) hx hb dL_law_195 rfl (fun h195 => ?_) (fun h195 => ?_)
    · skip
      refine lv_iload hx hb dL_law_200 (lv_at hl 1 rfl) ?_
      refine lv_if_ne (tgt := 217) hx hb dL_law_202 rfl (fun h202 => ?_) (fun h202 => ?_)
      · skip
        refine lv_goto (tgt := 1028) hx hb dL_law_217 rfl ?_
        refine W.widen (k := cells + 1) (n := slots + 6) (Nat.le_refl _) (Nat.le_refl _) ?_
        exact kk _ _ _ _ _ _ _ _ _ _ _ _ _ _ _ _ _ _ _ _ _ _ _ _ hJ (lv_sub hl [2, 3, 4, 5, 6] rfl) hP hD hS
      · skip
        exact absurd h202 (by decide)
    · skip
      exact absurd rfl h195
set_option maxHeartbeats 4000000 in
set_option maxRecDepth 100000 in
theorem cs_remove {p : Program} {l : Launch} {e : Env} {s : State} {m : MethodId} {args : Array Value} {below : List Frame} {meth : Method} {c : Code} {Q : State → Prop} {dC : Nat → ClassId} {dI : Nat → Nat → Nat} {cI cZ cL : ClassId} {A : Nat → Prop} {sb L : Nat} {xs : Nat → Int32} {h0 q1 q2 q3 b o0 w0 : Nat} {a1 a2 b0 : Nat → Nat} {t cells slots : Nat} (C : ps_Cx p l s m args c dC dI cI cZ cL A sb L xs) (ht : 6 * t + 6 ≤ L) (hc1 : cells + 1 ≤ room_1.cells) (hs1 : slots + 6 ≤ room_1.slots) (kk : ps_Hd p l e s m args below meth c Q dC dI cI cZ cL A sb h0 q1 q2 q3 b o0 w0 a1 a2 b0 t (cells + 1) (slots + 6) 1028) : ps_Hd p l e s m args below meth c Q dC dI cI cZ cL A sb h0 q1 q2 q3 b o0 w0 a1 a2 b0 t cells slots 220 := by
  obtain ⟨hlt, hx, hb, hml, hown, hT, hN, hE, hZ, hK3, hA, hX, hbl, hbA, hL⟩ := C
  have hK : va_K (dC, dI) vwCl (ps_ty cI cZ) s := hK3.sub [0, 1] rfl
  intro n1 n2 g1 g2 lf le lh cx cy cz pl pw ov th mn kn co ln wr lt f ls H locs hJ hl hP hD hS
  rcases ps_Jremove hJ (xs (6 * t + 1)) with ⟨k, q, h1, h2, h3, h4, he, hJ⟩ | ⟨h1, h2, h3, h4⟩
  · skip
    refine lv_aload_n hx hb dL_law_220 rfl (lv_at hl 1 rfl) ?_
    refine lv_aload_n hx hb dL_law_221 rfl (lv_at hl 0 rfl) ?_
    refine lv_iload hx hb dL_law_222 (lv_at hl 4 rfl) ?_
    refine lv_iconst (v := 1) hx hb dL_law_224 (by decide) ?_
    refine lv_iadd hx hb dL_law_225 ?_
    refine ps_sld (j := 6 * t) hx hb hX hbl hbA hS 1 (by decide) (by omega) hL dL_law_226 ?_
    refine lv_aload_n hx hb dL_law_227 rfl (lv_at hl 3 rfl) ?_
    refine ps_cqi (wc := ps_shW h0 q1 q2 q3 cx cy cz pl pw ++ ps_trW cI cZ q1 a1 n1 g1 ++ ps_trW cI cZ q2 a2 n2 g2 ++ ps_lsW cI q3 b lf le lh ++ [(o0, .inl (cL, 1, .inr (.inl ov)))]) (wr := ps_mdW cI cZ w0 b0 th mn kn co ln wr lt f) (w1 := ps_shW h0 q1 q2 q3 cx cy cz pl pw ++ ps_trW cI cZ q1 a1 ((n1 - 1)) ((ps_dg g1 n1 k)) ++ ps_trW cI cZ q2 a2 n2 g2 ++ ps_lsW cI q3 b lf le lh ++ [(o0, .inl (cL, 1, .inr (.inl (vp_updL ov 0 (g1 5 k).toInt64))))]) (ws2 := ps_shW h0 q1 q2 q3 cx cy cz pl pw ++ ps_trW cI cZ q1 a1 ((n1 - 1)) ((ps_dg g1 n1 k)) ++ ps_trW cI cZ q2 a2 n2 g2 ++ ps_lsW cI q3 b lf le lh ++ [(o0, .inl (cL, 1, .inr (.inl (vp_updL ov 0 (g1 5 k).toInt64))))] ++ ps_mdW cI cZ w0 b0 th mn kn co ln wr lt f) (vx_runSW (As := [.ref h0, .int (xs (6 * t + 1)), .ref o0]) (rest := []) ⟨hx, hb, hml, hown, hT⟩ (mL_remove_n l hlt dC dI cI cZ h0 q1 q2 q3 b a1 a2 n1 n2 g1 g2 lf le lh cx cy cz pl pw cL o0 ov h1 (xs (6 * t + 1)) k h2 _) (vx_cwSW 3 hT (ps_gSW tw_ml_L_74 tw_st_L_remove tw_in_L tw_cw_L_remove) rfl rfl rfl ⟨by decide, by decide, by decide +kernel⟩ ⟨Nat.le_of_ble_eq_true rfl, Nat.le_of_ble_eq_true rfl⟩) (ps_xreS (wc := ps_shW h0 q1 q2 q3 cx cy cz pl pw ++ ps_trW cI cZ q1 a1 n1 g1 ++ ps_trW cI cZ q2 a2 n2 g2 ++ ps_lsW cI q3 b lf le lh ++ [(o0, .inl (cL, 1, .inr (.inl ov)))]) [0, 1, 2, 3, 4, 5, 6, 7, 8, 9, 10, 11, 12, 13, 14, 15, 16, 17, 18, 19, 20, 21] hN hE hZ hS hA hP hK3 hD rfl rfl rfl) rfl rfl hl.1 rfl (lv_room (Nat.le_of_ble_eq_true rfl)) dL_law_228 ⟨hc1, hs1⟩) hS hA hP hD [0, 1, 2, 3, 4, 5, 6, 7, 8, 9, 10, 11, 12, 13, 14, 15, 16, 17, 18, 19, 20, 21] [22, 23, 24, 25, 26, 27, 28, 29, 30, 31, 32] [11, 12, 13, 14, 15, 16, 17, 18, 19, 20, 21, 22, 23, 24, 25, 26, 27, 28, 29, 30, 31, 32, 0, 1, 2, 3, 4, 5, 6, 7, 8, 9, 10] rfl rfl rfl (by decide) rfl rfl rfl (fun H locs hP hD hS => ?_)
    have hP : va_P (dC, dI) vwCl (ps_shW h0 q1 q2 q3 cx cy cz pl pw ++ ps_trW cI cZ q1 a1 ((n1 - 1)) ((ps_dg g1 n1 k)) ++ ps_trW cI cZ q2 a2 n2 g2 ++ ps_lsW cI q3 b lf le lh ++ [(o0, .inl (cL, 1, .inr (.inl (vp_updL ov 0 (g1 5 k).toInt64))))] ++ ps_mdW cI cZ w0 b0 th mn kn co ln wr lt f) H := hP
    have hD : va_D A (ps_shW h0 q1 q2 q3 cx cy cz pl pw ++ ps_trW cI cZ q1 a1 ((n1 - 1)) ((ps_dg g1 n1 k)) ++ ps_trW cI cZ q2 a2 n2 g2 ++ ps_lsW cI q3 b lf le lh ++ [(o0, .inl (cL, 1, .inr (.inl (vp_updL ov 0 (g1 5 k).toInt64))))] ++ ps_mdW cI cZ w0 b0 th mn kn co ln wr lt f) := hD
    refine lv_istore (lv' := [(5, .int 0), (0, .ref sb), (1, .ref h0), (2, .ref w0), (3, .ref o0), (4, .int (nI (6 * t)))]) hx hb dL_law_231 hl (by decide) rfl (fun ls hl => ?_)
    refine lv_aload_n hx hb dL_law_233 rfl (lv_at hl 3 rfl) ?_
    refine lv_aload_n hx hb dL_law_234 rfl (lv_at hl 1 rfl) ?_
    refine lv_iload hx hb dL_law_235 (lv_at hl 5 rfl) ?_
    refine lv_iconst (v := 1) hx hb dL_law_237 (by decide) ?_
    refine lv_iadd hx hb dL_law_238 ?_
    refine ps_sld (j := 6 * t) hx hb hX hbl hbA hS 1 (by decide) (by omega) hL dL_law_239 ?_
    refine ps_cqi (wc := ps_mdW cI cZ w0 b0 th mn kn co ln wr lt f) (wr := ps_shW h0 q1 q2 q3 cx cy cz pl pw ++ ps_trW cI cZ q1 a1 ((n1 - 1)) ((ps_dg g1 n1 k)) ++ ps_trW cI cZ q2 a2 n2 g2 ++ ps_lsW cI q3 b lf le lh ++ [(o0, .inl (cL, 1, .inr (.inl (vp_updL ov 0 (g1 5 k).toInt64))))]) (w1 := ps_mdW cI cZ w0 b0 0 ((mn - 1)) kn co ln wr lt ((ps_st (ps_mr f mn q) (mn - 1)))) (ws2 := ps_shW h0 q1 q2 q3 cx cy cz pl pw ++ ps_trW cI cZ q1 a1 ((n1 - 1)) ((ps_dg g1 n1 k)) ++ ps_trW cI cZ q2 a2 n2 g2 ++ ps_lsW cI q3 b lf le lh ++ [(o0, .inl (cL, 1, .inr (.inl (vp_updL ov 0 (g1 5 k).toInt64))))] ++ ps_mdW cI cZ w0 b0 0 ((mn - 1)) kn co ln wr lt ((ps_st (ps_mr f mn q) (mn - 1)))) (va_runV (C := RX3) (As := [.int (xs (6 * t + 1))]) (rest := []) ⟨hx, hb, hml, hown, hT⟩ (mX3_remove_n l dC dI cI cZ w0 b0 th mn kn co ln wr lt f h3 (xs (6 * t + 1)) q h4 _) (cwV 1 hT (ps_gV tw_ml_L_77 tw_im_X3_remove tw_se_X3_remove tw_in_X3 tw_co_X3_remove) rfl rfl rfl ⟨rfl, by decide, by decide, by decide +kernel⟩ ⟨Nat.le_of_ble_eq_true rfl, Nat.le_of_ble_eq_true rfl⟩) (ps_qreV (wc := ps_mdW cI cZ w0 b0 th mn kn co ln wr lt f) (ci := 3) [22, 23, 24, 25, 26, 27, 28, 29, 30, 31, 32] hN hP hK hD rfl rfl rfl rfl rfl) rfl rfl hl.1 rfl (lv_room (Nat.le_of_ble_eq_true rfl)) dL_law_240 ⟨hc1, hs1⟩) hS hA hP hD [22, 23, 24, 25, 26, 27, 28, 29, 30, 31, 32] [0, 1, 2, 3, 4, 5, 6, 7, 8, 9, 10, 11, 12, 13, 14, 15, 16, 17, 18, 19, 20, 21] [0, 1, 2, 3, 4, 5, 6, 7, 8, 9, 10, 11, 12, 13, 14, 15, 16, 17, 18, 19, 20, 21, 22, 23, 24, 25, 26, 27, 28, 29, 30, 31, 32] rfl rfl rfl (by decide) rfl rfl rfl (fun H locs hP hD hS => ?_)
    have hP : va_P (dC, dI) vwCl (ps_shW h0 q1 q2 q3 cx cy cz pl pw ++ ps_trW cI cZ q1 a1 ((n1 - 1)) ((ps_dg g1 n1 k)) ++ ps_trW cI cZ q2 a2 n2 g2 ++ ps_lsW cI q3 b lf le lh ++ [(o0, .inl (cL, 1, .inr (.inl (vp_updL ov 0 (g1 5 k).toInt64))))] ++ ps_mdW cI cZ w0 b0 0 ((mn - 1)) kn co ln wr lt ((ps_st (ps_mr f mn q) (mn - 1)))) H := hP
    have hD : va_D A (ps_shW h0 q1 q2 q3 cx cy cz pl pw ++ ps_trW cI cZ q1 a1 ((n1 - 1)) ((ps_dg g1 n1 k)) ++ ps_trW cI cZ q2 a2 n2 g2 ++ ps_lsW cI q3 b lf le lh ++ [(o0, .inl (cL, 1, .inr (.inl (vp_updL ov 0 (g1 5 k).toInt64))))] ++ ps_mdW cI cZ w0 b0 0 ((mn - 1)) kn co ln wr lt ((ps_st (ps_mr f mn q) (mn - 1)))) := hD
    refine lv_istore (lv' := [(6, .int (f 3 q)), (5, .int 0), (0, .ref sb), (1, .ref h0), (2, .ref w0), (3, .ref o0), (4, .int (nI (6 * t)))]) hx hb dL_law_243 hl (by decide) rfl (fun ls hl => ?_)
    refine lv_aload_n hx hb dL_law_245 rfl (lv_at hl 4 rfl) ?_
    refine vp_callSi (va_Run.run (va_runV (C := RX3) (As := []) (rest := []) ⟨hx, hb, hml, hown, hT⟩ (mX3_thrown l dC dI cI cZ w0 b0 0 ((mn - 1)) kn co ln wr lt ((ps_st (ps_mr f mn q) (mn - 1)))) (cwV 0 hT (ps_gV tw_ml_L_71 tw_im_X3_thrown tw_se_X3_thrown tw_in_X3 tw_co_X3_thrown) rfl rfl rfl ⟨rfl, by decide, by decide, by decide +kernel⟩ ⟨Nat.le_of_ble_eq_true rfl, Nat.le_of_ble_eq_true rfl⟩) (ps_preV (ci := 3) (q0 := 0) hN (hP.sub (ws' := ps_mdW cI cZ w0 b0 0 ((mn - 1)) kn co ln wr lt ((ps_st (ps_mr f mn q) (mn - 1)))) [22, 23, 24, 25, 26, 27, 28, 29, 30, 31, 32] rfl) hK rfl rfl) rfl rfl hl.1 rfl (lv_room (Nat.le_of_ble_eq_true rfl)) dL_law_246 ⟨hc1, hs1⟩)) (fun r hr9 => ?_)
    obtain rfl : r = 0 := hr9
    refine lv_iload hx hb dL_law_249 (lv_at hl 1 rfl) ?_
    refine lv_icmp_eq (tgt := 256) hx hb dL_law_251 rfl (fun h251 => ?_) (fun h251 => ?_)
    · skip
      refine lv_iload hx hb dL_law_256 (lv_at hl 1 rfl) ?_
      refine lv_if_ne (tgt := 273) hx hb dL_law_258 rfl (fun h258 => ?_) (fun h258 => ?_)
      · skip
        exact absurd rfl h258
      · skip
        refine lv_aload_n hx hb dL_law_261 rfl (lv_at hl 5 rfl) ?_
        refine lv_iconst (v := 0) hx hb dL_law_262 (by decide) ?_
        refine va_lald hx hb hK3 hP 21 2 rfl rfl (by unfold vp_in; decide) dL_law_263 ?_
        refine lv_iload hx hb dL_law_264 (lv_at hl 0 rfl) ?_
        refine lv_i2l (v := (f 3 q).toInt64) hx hb dL_law_266 rfl ?_
        refine W.lcmp hx hb dL_law_267 ?_
        refine lv_if_eq (tgt := 273) hx hb dL_law_268 rfl (fun h268 => ?_) (fun h268 => ?_)
        · skip
          refine lv_goto (tgt := 1028) hx hb dL_law_273 rfl ?_
          refine W.widen (k := cells + 1) (n := slots + 6) (Nat.le_refl _) (Nat.le_refl _) ?_
          exact kk _ _ _ _ _ _ _ _ _ _ _ _ _ _ _ _ _ _ _ _ _ _ _ _ hJ (lv_sub hl [2, 3, 4, 5, 6] rfl) hP hD hS
        · skip
          exact absurd (ps_lz he) h268
    · skip
      exact absurd rfl h251
  · skip
    refine lv_aload_n hx hb dL_law_220 rfl (lv_at hl 1 rfl) ?_
    refine lv_aload_n hx hb dL_law_221 rfl (lv_at hl 0 rfl) ?_
    refine lv_iload hx hb dL_law_222 (lv_at hl 4 rfl) ?_
    refine lv_iconst (v := 1) hx hb dL_law_224 (by decide) ?_
    refine lv_iadd hx hb dL_law_225 ?_
    refine ps_sld (j := 6 * t) hx hb hX hbl hbA hS 1 (by decide) (by omega) hL dL_law_226 ?_
    refine lv_aload_n hx hb dL_law_227 rfl (lv_at hl 3 rfl) ?_
    refine ps_cqi (wc := ps_shW h0 q1 q2 q3 cx cy cz pl pw ++ ps_trW cI cZ q1 a1 n1 g1 ++ ps_trW cI cZ q2 a2 n2 g2 ++ ps_lsW cI q3 b lf le lh ++ [(o0, .inl (cL, 1, .inr (.inl ov)))]) (wr := ps_mdW cI cZ w0 b0 th mn kn co ln wr lt f) (w1 := ps_shW h0 q1 q2 q3 cx cy cz pl pw ++ ps_trW cI cZ q1 a1 n1 g1 ++ ps_trW cI cZ q2 a2 n2 g2 ++ ps_lsW cI q3 b lf le lh ++ [(o0, .inl (cL, 1, .inr (.inl ov)))]) (ws2 := ps_shW h0 q1 q2 q3 cx cy cz pl pw ++ ps_trW cI cZ q1 a1 n1 g1 ++ ps_trW cI cZ q2 a2 n2 g2 ++ ps_lsW cI q3 b lf le lh ++ [(o0, .inl (cL, 1, .inr (.inl ov)))] ++ ps_mdW cI cZ w0 b0 th mn kn co ln wr lt f) (vx_runSW (As := [.ref h0, .int (xs (6 * t + 1)), .ref o0]) (rest := []) ⟨hx, hb, hml, hown, hT⟩ (mL_remove_x l hlt dC dI cI cZ h0 q1 q2 q3 b a1 a2 n1 n2 g1 g2 lf le lh cx cy cz pl pw cL o0 ov h1 (xs (6 * t + 1)) h2 _) (vx_cwSW 3 hT (ps_gSW tw_ml_L_74 tw_st_L_remove tw_in_L tw_cw_L_remove) rfl rfl rfl ⟨by decide, by decide, by decide +kernel⟩ ⟨Nat.le_of_ble_eq_true rfl, Nat.le_of_ble_eq_true rfl⟩) (ps_xreS (wc := ps_shW h0 q1 q2 q3 cx cy cz pl pw ++ ps_trW cI cZ q1 a1 n1 g1 ++ ps_trW cI cZ q2 a2 n2 g2 ++ ps_lsW cI q3 b lf le lh ++ [(o0, .inl (cL, 1, .inr (.inl ov)))]) [0, 1, 2, 3, 4, 5, 6, 7, 8, 9, 10, 11, 12, 13, 14, 15, 16, 17, 18, 19, 20, 21] hN hE hZ hS hA hP hK3 hD rfl rfl rfl) rfl rfl hl.1 rfl (lv_room (Nat.le_of_ble_eq_true rfl)) dL_law_228 ⟨hc1, hs1⟩) hS hA hP hD [0, 1, 2, 3, 4, 5, 6, 7, 8, 9, 10, 11, 12, 13, 14, 15, 16, 17, 18, 19, 20, 21] [22, 23, 24, 25, 26, 27, 28, 29, 30, 31, 32] [11, 12, 13, 14, 15, 16, 17, 18, 19, 20, 21, 22, 23, 24, 25, 26, 27, 28, 29, 30, 31, 32, 0, 1, 2, 3, 4, 5, 6, 7, 8, 9, 10] rfl rfl rfl (by decide) rfl rfl rfl (fun H locs hP hD hS => ?_)
    have hP : va_P (dC, dI) vwCl (ps_shW h0 q1 q2 q3 cx cy cz pl pw ++ ps_trW cI cZ q1 a1 n1 g1 ++ ps_trW cI cZ q2 a2 n2 g2 ++ ps_lsW cI q3 b lf le lh ++ [(o0, .inl (cL, 1, .inr (.inl ov)))] ++ ps_mdW cI cZ w0 b0 th mn kn co ln wr lt f) H := hP
    have hD : va_D A (ps_shW h0 q1 q2 q3 cx cy cz pl pw ++ ps_trW cI cZ q1 a1 n1 g1 ++ ps_trW cI cZ q2 a2 n2 g2 ++ ps_lsW cI q3 b lf le lh ++ [(o0, .inl (cL, 1, .inr (.inl ov)))] ++ ps_mdW cI cZ w0 b0 th mn kn co ln wr lt f) := hD
    refine lv_istore (lv' := [(5, .int 1), (0, .ref sb), (1, .ref h0), (2, .ref w0), (3, .ref o0), (4, .int (nI (6 * t)))]) hx hb dL_law_231 hl (by decide) rfl (fun ls hl => ?_)
    refine lv_aload_n hx hb dL_law_233 rfl (lv_at hl 3 rfl) ?_
    refine lv_aload_n hx hb dL_law_234 rfl (lv_at hl 1 rfl) ?_
    refine lv_iload hx hb dL_law_235 (lv_at hl 5 rfl) ?_
    refine lv_iconst (v := 1) hx hb dL_law_237 (by decide) ?_
    refine lv_iadd hx hb dL_law_238 ?_
    refine ps_sld (j := 6 * t) hx hb hX hbl hbA hS 1 (by decide) (by omega) hL dL_law_239 ?_
    refine ps_cqi (wc := ps_mdW cI cZ w0 b0 th mn kn co ln wr lt f) (wr := ps_shW h0 q1 q2 q3 cx cy cz pl pw ++ ps_trW cI cZ q1 a1 n1 g1 ++ ps_trW cI cZ q2 a2 n2 g2 ++ ps_lsW cI q3 b lf le lh ++ [(o0, .inl (cL, 1, .inr (.inl ov)))]) (w1 := ps_mdW cI cZ w0 b0 1 mn kn co ln wr lt f) (ws2 := ps_shW h0 q1 q2 q3 cx cy cz pl pw ++ ps_trW cI cZ q1 a1 n1 g1 ++ ps_trW cI cZ q2 a2 n2 g2 ++ ps_lsW cI q3 b lf le lh ++ [(o0, .inl (cL, 1, .inr (.inl ov)))] ++ ps_mdW cI cZ w0 b0 1 mn kn co ln wr lt f) (va_runV (C := RX3) (As := [.int (xs (6 * t + 1))]) (rest := []) ⟨hx, hb, hml, hown, hT⟩ (mX3_remove_1 l dC dI cI cZ w0 b0 th mn kn co ln wr lt f h3 (xs (6 * t + 1)) h4 _) (cwV 1 hT (ps_gV tw_ml_L_77 tw_im_X3_remove tw_se_X3_remove tw_in_X3 tw_co_X3_remove) rfl rfl rfl ⟨rfl, by decide, by decide, by decide +kernel⟩ ⟨Nat.le_of_ble_eq_true rfl, Nat.le_of_ble_eq_true rfl⟩) (ps_qreV (wc := ps_mdW cI cZ w0 b0 th mn kn co ln wr lt f) (ci := 3) [22, 23, 24, 25, 26, 27, 28, 29, 30, 31, 32] hN hP hK hD rfl rfl rfl rfl rfl) rfl rfl hl.1 rfl (lv_room (Nat.le_of_ble_eq_true rfl)) dL_law_240 ⟨hc1, hs1⟩) hS hA hP hD [22, 23, 24, 25, 26, 27, 28, 29, 30, 31, 32] [0, 1, 2, 3, 4, 5, 6, 7, 8, 9, 10, 11, 12, 13, 14, 15, 16, 17, 18, 19, 20, 21] [0, 1, 2, 3, 4, 5, 6, 7, 8, 9, 10, 11, 12, 13, 14, 15, 16, 17, 18, 19, 20, 21, 22, 23, 24, 25, 26, 27, 28, 29, 30, 31, 32] rfl rfl rfl (by decide) rfl rfl rfl (fun H locs hP hD hS => ?_)
    have hP : va_P (dC, dI) vwCl (ps_shW h0 q1 q2 q3 cx cy cz pl pw ++ ps_trW cI cZ q1 a1 n1 g1 ++ ps_trW cI cZ q2 a2 n2 g2 ++ ps_lsW cI q3 b lf le lh ++ [(o0, .inl (cL, 1, .inr (.inl ov)))] ++ ps_mdW cI cZ w0 b0 1 mn kn co ln wr lt f) H := hP
    have hD : va_D A (ps_shW h0 q1 q2 q3 cx cy cz pl pw ++ ps_trW cI cZ q1 a1 n1 g1 ++ ps_trW cI cZ q2 a2 n2 g2 ++ ps_lsW cI q3 b lf le lh ++ [(o0, .inl (cL, 1, .inr (.inl ov)))] ++ ps_mdW cI cZ w0 b0 1 mn kn co ln wr lt f) := hD
    refine lv_istore (lv' := [(6, .int 0), (5, .int 1), (0, .ref sb), (1, .ref h0), (2, .ref w0), (3, .ref o0), (4, .int (nI (6 * t)))]) hx hb dL_law_243 hl (by decide) rfl (fun ls hl => ?_)
    refine lv_aload_n hx hb dL_law_245 rfl (lv_at hl 4 rfl) ?_
    refine vp_callSi (va_Run.run (va_runV (C := RX3) (As := []) (rest := []) ⟨hx, hb, hml, hown, hT⟩ (mX3_thrown l dC dI cI cZ w0 b0 1 mn kn co ln wr lt f) (cwV 0 hT (ps_gV tw_ml_L_71 tw_im_X3_thrown tw_se_X3_thrown tw_in_X3 tw_co_X3_thrown) rfl rfl rfl ⟨rfl, by decide, by decide, by decide +kernel⟩ ⟨Nat.le_of_ble_eq_true rfl, Nat.le_of_ble_eq_true rfl⟩) (ps_preV (ci := 3) (q0 := 0) hN (hP.sub (ws' := ps_mdW cI cZ w0 b0 1 mn kn co ln wr lt f) [22, 23, 24, 25, 26, 27, 28, 29, 30, 31, 32] rfl) hK rfl rfl) rfl rfl hl.1 rfl (lv_room (Nat.le_of_ble_eq_true rfl)) dL_law_246 ⟨hc1, hs1⟩)) (fun r hr9 => ?_)
    obtain rfl : r = 1 := hr9
    refine lv_iload hx hb dL_law_249 (lv_at hl 1 rfl) ?_
    refine lv_icmp_eq (tgt := 256) hx hb dL_law_251 rfl (fun h251 => ?_) (fun h251 => ?_)
    · skip
      refine lv_iload hx hb dL_law_256 (lv_at hl 1 rfl) ?_
      refine lv_if_ne (tgt := 273) hx hb dL_law_258 rfl (fun h258 => ?_) (fun h258 => ?_)
      · skip
        refine lv_goto (tgt := 1028) hx hb dL_law_273 rfl ?_
        refine W.widen (k := cells + 1) (n := slots + 6) (Nat.le_refl _) (Nat.le_refl _) ?_
        exact kk _ _ _ _ _ _ _ _ _ _ _ _ _ _ _ _ _ _ _ _ _ _ _ _ hJ (lv_sub hl [2, 3, 4, 5, 6] rfl) hP hD hS
      · skip
        exact absurd h258 (by decide)
    · skip
      exact absurd rfl h251
set_option maxHeartbeats 4000000 in
set_option maxRecDepth 100000 in
theorem cs_recolour {p : Program} {l : Launch} {e : Env} {s : State} {m : MethodId} {args : Array Value} {below : List Frame} {meth : Method} {c : Code} {Q : State → Prop} {dC : Nat → ClassId} {dI : Nat → Nat → Nat} {cI cZ cL : ClassId} {A : Nat → Prop} {sb L : Nat} {xs : Nat → Int32} {h0 q1 q2 q3 b o0 w0 : Nat} {a1 a2 b0 : Nat → Nat} {t cells slots : Nat} (C : ps_Cx p l s m args c dC dI cI cZ cL A sb L xs) (ht : 6 * t + 6 ≤ L) (hc1 : cells + 1 ≤ room_1.cells) (hs1 : slots + 6 ≤ room_1.slots) (kk : ps_Hd p l e s m args below meth c Q dC dI cI cZ cL A sb h0 q1 q2 q3 b o0 w0 a1 a2 b0 t (cells + 1) (slots + 6) 1028) : ps_Hd p l e s m args below meth c Q dC dI cI cZ cL A sb h0 q1 q2 q3 b o0 w0 a1 a2 b0 t cells slots 276 := by
  obtain ⟨hlt, hx, hb, hml, hown, hT, hN, hE, hZ, hK3, hA, hX, hbl, hbA, hL⟩ := C
  have hK : va_K (dC, dI) vwCl (ps_ty cI cZ) s := hK3.sub [0, 1] rfl
  intro n1 n2 g1 g2 lf le lh cx cy cz pl pw ov th mn kn co ln wr lt f ls H locs hJ hl hP hD hS
  rcases ps_Jrecolour hJ (xs (6 * t + 1)) (xs (6 * t + 2)) with ⟨k, q, h1, h2, h3, h4, he, hJ⟩ | ⟨h1, h2, h3, h4⟩
  · skip
    refine lv_aload_n hx hb dL_law_276 rfl (lv_at hl 1 rfl) ?_
    refine lv_aload_n hx hb dL_law_277 rfl (lv_at hl 0 rfl) ?_
    refine lv_iload hx hb dL_law_278 (lv_at hl 4 rfl) ?_
    refine lv_iconst (v := 1) hx hb dL_law_280 (by decide) ?_
    refine lv_iadd hx hb dL_law_281 ?_
    refine ps_sld (j := 6 * t) hx hb hX hbl hbA hS 1 (by decide) (by omega) hL dL_law_282 ?_
    refine lv_aload_n hx hb dL_law_283 rfl (lv_at hl 0 rfl) ?_
    refine lv_iload hx hb dL_law_284 (lv_at hl 4 rfl) ?_
    refine lv_iconst (v := 2) hx hb dL_law_286 (by decide) ?_
    refine lv_iadd hx hb dL_law_287 ?_
    refine ps_sld (j := 6 * t) hx hb hX hbl hbA hS 2 (by decide) (by omega) hL dL_law_288 ?_
    refine lv_aload_n hx hb dL_law_289 rfl (lv_at hl 3 rfl) ?_
    refine ps_cqi (wc := ps_shW h0 q1 q2 q3 cx cy cz pl pw ++ ps_trW cI cZ q1 a1 n1 g1 ++ ps_trW cI cZ q2 a2 n2 g2 ++ ps_lsW cI q3 b lf le lh ++ [(o0, .inl (cL, 1, .inr (.inl ov)))]) (wr := ps_mdW cI cZ w0 b0 th mn kn co ln wr lt f) (w1 := ps_shW h0 q1 q2 q3 cx cy cz pl pw ++ ps_trW cI cZ q1 a1 n1 (va_up g1 4 (upd (g1 4) k (xs (6 * t + 2)))) ++ ps_trW cI cZ q2 a2 n2 g2 ++ ps_lsW cI q3 b lf le lh ++ [(o0, .inl (cL, 1, .inr (.inl (vp_updL ov 0 (g1 4 k).toInt64))))]) (ws2 := ps_shW h0 q1 q2 q3 cx cy cz pl pw ++ ps_trW cI cZ q1 a1 n1 (va_up g1 4 (upd (g1 4) k (xs (6 * t + 2)))) ++ ps_trW cI cZ q2 a2 n2 g2 ++ ps_lsW cI q3 b lf le lh ++ [(o0, .inl (cL, 1, .inr (.inl (vp_updL ov 0 (g1 4 k).toInt64))))] ++ ps_mdW cI cZ w0 b0 th mn kn co ln wr lt f) (vx_runSW (As := [.ref h0, .int (xs (6 * t + 1)), .int (xs (6 * t + 2)), .ref o0]) (rest := []) ⟨hx, hb, hml, hown, hT⟩ (mL_recolour_n l hlt dC dI cI cZ h0 q1 q2 q3 b a1 a2 n1 n2 g1 g2 lf le lh cx cy cz pl pw cL o0 ov h1 (xs (6 * t + 1)) (xs (6 * t + 2)) k h2 _) (vx_cwSW 4 hT (ps_gSW tw_ml_L_78 tw_st_L_recolour tw_in_L tw_cw_L_recolour) rfl rfl rfl ⟨by decide, by decide, by decide +kernel⟩ ⟨Nat.le_of_ble_eq_true rfl, Nat.le_of_ble_eq_true rfl⟩) (ps_xreS (wc := ps_shW h0 q1 q2 q3 cx cy cz pl pw ++ ps_trW cI cZ q1 a1 n1 g1 ++ ps_trW cI cZ q2 a2 n2 g2 ++ ps_lsW cI q3 b lf le lh ++ [(o0, .inl (cL, 1, .inr (.inl ov)))]) [0, 1, 2, 3, 4, 5, 6, 7, 8, 9, 10, 11, 12, 13, 14, 15, 16, 17, 18, 19, 20, 21] hN hE hZ hS hA hP hK3 hD rfl rfl rfl) rfl rfl hl.1 rfl (lv_room (Nat.le_of_ble_eq_true rfl)) dL_law_290 ⟨hc1, hs1⟩) hS hA hP hD [0, 1, 2, 3, 4, 5, 6, 7, 8, 9, 10, 11, 12, 13, 14, 15, 16, 17, 18, 19, 20, 21] [22, 23, 24, 25, 26, 27, 28, 29, 30, 31, 32] [11, 12, 13, 14, 15, 16, 17, 18, 19, 20, 21, 22, 23, 24, 25, 26, 27, 28, 29, 30, 31, 32, 0, 1, 2, 3, 4, 5, 6, 7, 8, 9, 10] rfl rfl rfl (by decide) rfl rfl rfl (fun H locs hP hD hS => ?_)
    have hP : va_P (dC, dI) vwCl (ps_shW h0 q1 q2 q3 cx cy cz pl pw ++ ps_trW cI cZ q1 a1 n1 (va_up g1 4 (upd (g1 4) k (xs (6 * t + 2)))) ++ ps_trW cI cZ q2 a2 n2 g2 ++ ps_lsW cI q3 b lf le lh ++ [(o0, .inl (cL, 1, .inr (.inl (vp_updL ov 0 (g1 4 k).toInt64))))] ++ ps_mdW cI cZ w0 b0 th mn kn co ln wr lt f) H := hP
    have hD : va_D A (ps_shW h0 q1 q2 q3 cx cy cz pl pw ++ ps_trW cI cZ q1 a1 n1 (va_up g1 4 (upd (g1 4) k (xs (6 * t + 2)))) ++ ps_trW cI cZ q2 a2 n2 g2 ++ ps_lsW cI q3 b lf le lh ++ [(o0, .inl (cL, 1, .inr (.inl (vp_updL ov 0 (g1 4 k).toInt64))))] ++ ps_mdW cI cZ w0 b0 th mn kn co ln wr lt f) := hD
    refine lv_istore (lv' := [(5, .int 0), (0, .ref sb), (1, .ref h0), (2, .ref w0), (3, .ref o0), (4, .int (nI (6 * t)))]) hx hb dL_law_293 hl (by decide) rfl (fun ls hl => ?_)
    refine lv_aload_n hx hb dL_law_295 rfl (lv_at hl 3 rfl) ?_
    refine lv_aload_n hx hb dL_law_296 rfl (lv_at hl 1 rfl) ?_
    refine lv_iload hx hb dL_law_297 (lv_at hl 5 rfl) ?_
    refine lv_iconst (v := 1) hx hb dL_law_299 (by decide) ?_
    refine lv_iadd hx hb dL_law_300 ?_
    refine ps_sld (j := 6 * t) hx hb hX hbl hbA hS 1 (by decide) (by omega) hL dL_law_301 ?_
    refine lv_aload_n hx hb dL_law_302 rfl (lv_at hl 1 rfl) ?_
    refine lv_iload hx hb dL_law_303 (lv_at hl 5 rfl) ?_
    refine lv_iconst (v := 2) hx hb dL_law_305 (by decide) ?_
    refine lv_iadd hx hb dL_law_306 ?_
    refine ps_sld (j := 6 * t) hx hb hX hbl hbA hS 2 (by decide) (by omega) hL dL_law_307 ?_
    refine ps_cqi (wc := ps_mdW cI cZ w0 b0 th mn kn co ln wr lt f) (wr := ps_shW h0 q1 q2 q3 cx cy cz pl pw ++ ps_trW cI cZ q1 a1 n1 (va_up g1 4 (upd (g1 4) k (xs (6 * t + 2)))) ++ ps_trW cI cZ q2 a2 n2 g2 ++ ps_lsW cI q3 b lf le lh ++ [(o0, .inl (cL, 1, .inr (.inl (vp_updL ov 0 (g1 4 k).toInt64))))]) (w1 := ps_mdW cI cZ w0 b0 0 mn kn co ln wr lt (va_up f 2 (upd (f 2) q (xs (6 * t + 2))))) (ws2 := ps_shW h0 q1 q2 q3 cx cy cz pl pw ++ ps_trW cI cZ q1 a1 n1 (va_up g1 4 (upd (g1 4) k (xs (6 * t + 2)))) ++ ps_trW cI cZ q2 a2 n2 g2 ++ ps_lsW cI q3 b lf le lh ++ [(o0, .inl (cL, 1, .inr (.inl (vp_updL ov 0 (g1 4 k).toInt64))))] ++ ps_mdW cI cZ w0 b0 0 mn kn co ln wr lt (va_up f 2 (upd (f 2) q (xs (6 * t + 2))))) (va_runV (C := RX3) (As := [.int (xs (6 * t + 1)), .int (xs (6 * t + 2))]) (rest := []) ⟨hx, hb, hml, hown, hT⟩ (mX3_recolour_n l dC dI cI cZ w0 b0 th mn kn co ln wr lt f h3 (xs (6 * t + 1)) q h4 (xs (6 * t + 2)) _) (cwV 2 hT (ps_gV tw_ml_L_81 tw_im_X3_recolour tw_se_X3_recolour tw_in_X3 tw_co_X3_recolour) rfl rfl rfl ⟨rfl, by decide, by decide, by decide +kernel⟩ ⟨Nat.le_of_ble_eq_true rfl, Nat.le_of_ble_eq_true rfl⟩) (ps_qreV (wc := ps_mdW cI cZ w0 b0 th mn kn co ln wr lt f) (ci := 3) [22, 23, 24, 25, 26, 27, 28, 29, 30, 31, 32] hN hP hK hD rfl rfl rfl rfl rfl) rfl rfl hl.1 rfl (lv_room (Nat.le_of_ble_eq_true rfl)) dL_law_308 ⟨hc1, hs1⟩) hS hA hP hD [22, 23, 24, 25, 26, 27, 28, 29, 30, 31, 32] [0, 1, 2, 3, 4, 5, 6, 7, 8, 9, 10, 11, 12, 13, 14, 15, 16, 17, 18, 19, 20, 21] [0, 1, 2, 3, 4, 5, 6, 7, 8, 9, 10, 11, 12, 13, 14, 15, 16, 17, 18, 19, 20, 21, 22, 23, 24, 25, 26, 27, 28, 29, 30, 31, 32] rfl rfl rfl (by decide) rfl rfl rfl (fun H locs hP hD hS => ?_)
    have hP : va_P (dC, dI) vwCl (ps_shW h0 q1 q2 q3 cx cy cz pl pw ++ ps_trW cI cZ q1 a1 n1 (va_up g1 4 (upd (g1 4) k (xs (6 * t + 2)))) ++ ps_trW cI cZ q2 a2 n2 g2 ++ ps_lsW cI q3 b lf le lh ++ [(o0, .inl (cL, 1, .inr (.inl (vp_updL ov 0 (g1 4 k).toInt64))))] ++ ps_mdW cI cZ w0 b0 0 mn kn co ln wr lt (va_up f 2 (upd (f 2) q (xs (6 * t + 2))))) H := hP
    have hD : va_D A (ps_shW h0 q1 q2 q3 cx cy cz pl pw ++ ps_trW cI cZ q1 a1 n1 (va_up g1 4 (upd (g1 4) k (xs (6 * t + 2)))) ++ ps_trW cI cZ q2 a2 n2 g2 ++ ps_lsW cI q3 b lf le lh ++ [(o0, .inl (cL, 1, .inr (.inl (vp_updL ov 0 (g1 4 k).toInt64))))] ++ ps_mdW cI cZ w0 b0 0 mn kn co ln wr lt (va_up f 2 (upd (f 2) q (xs (6 * t + 2))))) := hD
    refine lv_istore (lv' := [(6, .int (f 2 q)), (5, .int 0), (0, .ref sb), (1, .ref h0), (2, .ref w0), (3, .ref o0), (4, .int (nI (6 * t)))]) hx hb dL_law_311 hl (by decide) rfl (fun ls hl => ?_)
    refine lv_aload_n hx hb dL_law_313 rfl (lv_at hl 4 rfl) ?_
    refine vp_callSi (va_Run.run (va_runV (C := RX3) (As := []) (rest := []) ⟨hx, hb, hml, hown, hT⟩ (mX3_thrown l dC dI cI cZ w0 b0 0 mn kn co ln wr lt (va_up f 2 (upd (f 2) q (xs (6 * t + 2))))) (cwV 0 hT (ps_gV tw_ml_L_71 tw_im_X3_thrown tw_se_X3_thrown tw_in_X3 tw_co_X3_thrown) rfl rfl rfl ⟨rfl, by decide, by decide, by decide +kernel⟩ ⟨Nat.le_of_ble_eq_true rfl, Nat.le_of_ble_eq_true rfl⟩) (ps_preV (ci := 3) (q0 := 0) hN (hP.sub (ws' := ps_mdW cI cZ w0 b0 0 mn kn co ln wr lt (va_up f 2 (upd (f 2) q (xs (6 * t + 2))))) [22, 23, 24, 25, 26, 27, 28, 29, 30, 31, 32] rfl) hK rfl rfl) rfl rfl hl.1 rfl (lv_room (Nat.le_of_ble_eq_true rfl)) dL_law_314 ⟨hc1, hs1⟩)) (fun r hr9 => ?_)
    obtain rfl : r = 0 := hr9
    refine lv_iload hx hb dL_law_317 (lv_at hl 1 rfl) ?_
    refine lv_icmp_eq (tgt := 324) hx hb dL_law_319 rfl (fun h319 => ?_) (fun h319 => ?_)
    · skip
      refine lv_iload hx hb dL_law_324 (lv_at hl 1 rfl) ?_
      refine lv_if_ne (tgt := 341) hx hb dL_law_326 rfl (fun h326 => ?_) (fun h326 => ?_)
      · skip
        exact absurd rfl h326
      · skip
        refine lv_aload_n hx hb dL_law_329 rfl (lv_at hl 5 rfl) ?_
        refine lv_iconst (v := 0) hx hb dL_law_330 (by decide) ?_
        refine va_lald hx hb hK3 hP 21 2 rfl rfl (by unfold vp_in; decide) dL_law_331 ?_
        refine lv_iload hx hb dL_law_332 (lv_at hl 0 rfl) ?_
        refine lv_i2l (v := (f 2 q).toInt64) hx hb dL_law_334 rfl ?_
        refine W.lcmp hx hb dL_law_335 ?_
        refine lv_if_eq (tgt := 341) hx hb dL_law_336 rfl (fun h336 => ?_) (fun h336 => ?_)
        · skip
          refine lv_goto (tgt := 1028) hx hb dL_law_341 rfl ?_
          refine W.widen (k := cells + 1) (n := slots + 6) (Nat.le_refl _) (Nat.le_refl _) ?_
          exact kk _ _ _ _ _ _ _ _ _ _ _ _ _ _ _ _ _ _ _ _ _ _ _ _ hJ (lv_sub hl [2, 3, 4, 5, 6] rfl) hP hD hS
        · skip
          exact absurd (ps_lz he) h336
    · skip
      exact absurd rfl h319
  · skip
    refine lv_aload_n hx hb dL_law_276 rfl (lv_at hl 1 rfl) ?_
    refine lv_aload_n hx hb dL_law_277 rfl (lv_at hl 0 rfl) ?_
    refine lv_iload hx hb dL_law_278 (lv_at hl 4 rfl) ?_
    refine lv_iconst (v := 1) hx hb dL_law_280 (by decide) ?_
    refine lv_iadd hx hb dL_law_281 ?_
    refine ps_sld (j := 6 * t) hx hb hX hbl hbA hS 1 (by decide) (by omega) hL dL_law_282 ?_
    refine lv_aload_n hx hb dL_law_283 rfl (lv_at hl 0 rfl) ?_
    refine lv_iload hx hb dL_law_284 (lv_at hl 4 rfl) ?_
    refine lv_iconst (v := 2) hx hb dL_law_286 (by decide) ?_
    refine lv_iadd hx hb dL_law_287 ?_
    refine ps_sld (j := 6 * t) hx hb hX hbl hbA hS 2 (by decide) (by omega) hL dL_law_288 ?_
    refine lv_aload_n hx hb dL_law_289 rfl (lv_at hl 3 rfl) ?_
    refine ps_cqi (wc := ps_shW h0 q1 q2 q3 cx cy cz pl pw ++ ps_trW cI cZ q1 a1 n1 g1 ++ ps_trW cI cZ q2 a2 n2 g2 ++ ps_lsW cI q3 b lf le lh ++ [(o0, .inl (cL, 1, .inr (.inl ov)))]) (wr := ps_mdW cI cZ w0 b0 th mn kn co ln wr lt f) (w1 := ps_shW h0 q1 q2 q3 cx cy cz pl pw ++ ps_trW cI cZ q1 a1 n1 g1 ++ ps_trW cI cZ q2 a2 n2 g2 ++ ps_lsW cI q3 b lf le lh ++ [(o0, .inl (cL, 1, .inr (.inl ov)))]) (ws2 := ps_shW h0 q1 q2 q3 cx cy cz pl pw ++ ps_trW cI cZ q1 a1 n1 g1 ++ ps_trW cI cZ q2 a2 n2 g2 ++ ps_lsW cI q3 b lf le lh ++ [(o0, .inl (cL, 1, .inr (.inl ov)))] ++ ps_mdW cI cZ w0 b0 th mn kn co ln wr lt f) (vx_runSW (As := [.ref h0, .int (xs (6 * t + 1)), .int (xs (6 * t + 2)), .ref o0]) (rest := []) ⟨hx, hb, hml, hown, hT⟩ (mL_recolour_x l hlt dC dI cI cZ h0 q1 q2 q3 b a1 a2 n1 n2 g1 g2 lf le lh cx cy cz pl pw cL o0 ov h1 (xs (6 * t + 1)) h2 (xs (6 * t + 2)) _) (vx_cwSW 4 hT (ps_gSW tw_ml_L_78 tw_st_L_recolour tw_in_L tw_cw_L_recolour) rfl rfl rfl ⟨by decide, by decide, by decide +kernel⟩ ⟨Nat.le_of_ble_eq_true rfl, Nat.le_of_ble_eq_true rfl⟩) (ps_xreS (wc := ps_shW h0 q1 q2 q3 cx cy cz pl pw ++ ps_trW cI cZ q1 a1 n1 g1 ++ ps_trW cI cZ q2 a2 n2 g2 ++ ps_lsW cI q3 b lf le lh ++ [(o0, .inl (cL, 1, .inr (.inl ov)))]) [0, 1, 2, 3, 4, 5, 6, 7, 8, 9, 10, 11, 12, 13, 14, 15, 16, 17, 18, 19, 20, 21] hN hE hZ hS hA hP hK3 hD rfl rfl rfl) rfl rfl hl.1 rfl (lv_room (Nat.le_of_ble_eq_true rfl)) dL_law_290 ⟨hc1, hs1⟩) hS hA hP hD [0, 1, 2, 3, 4, 5, 6, 7, 8, 9, 10, 11, 12, 13, 14, 15, 16, 17, 18, 19, 20, 21] [22, 23, 24, 25, 26, 27, 28, 29, 30, 31, 32] [11, 12, 13, 14, 15, 16, 17, 18, 19, 20, 21, 22, 23, 24, 25, 26, 27, 28, 29, 30, 31, 32, 0, 1, 2, 3, 4, 5, 6, 7, 8, 9, 10] rfl rfl rfl (by decide) rfl rfl rfl (fun H locs hP hD hS => ?_)
    have hP : va_P (dC, dI) vwCl (ps_shW h0 q1 q2 q3 cx cy cz pl pw ++ ps_trW cI cZ q1 a1 n1 g1 ++ ps_trW cI cZ q2 a2 n2 g2 ++ ps_lsW cI q3 b lf le lh ++ [(o0, .inl (cL, 1, .inr (.inl ov)))] ++ ps_mdW cI cZ w0 b0 th mn kn co ln wr lt f) H := hP
    have hD : va_D A (ps_shW h0 q1 q2 q3 cx cy cz pl pw ++ ps_trW cI cZ q1 a1 n1 g1 ++ ps_trW cI cZ q2 a2 n2 g2 ++ ps_lsW cI q3 b lf le lh ++ [(o0, .inl (cL, 1, .inr (.inl ov)))] ++ ps_mdW cI cZ w0 b0 th mn kn co ln wr lt f) := hD
    refine lv_istore (lv' := [(5, .int 1), (0, .ref sb), (1, .ref h0), (2, .ref w0), (3, .ref o0), (4, .int (nI (6 * t)))]) hx hb dL_law_293 hl (by decide) rfl (fun ls hl => ?_)
    refine lv_aload_n hx hb dL_law_295 rfl (lv_at hl 3 rfl) ?_
    refine lv_aload_n hx hb dL_law_296 rfl (lv_at hl 1 rfl) ?_
    refine lv_iload hx hb dL_law_297 (lv_at hl 5 rfl) ?_
    refine lv_iconst (v := 1) hx hb dL_law_299 (by decide) ?_
    refine lv_iadd hx hb dL_law_300 ?_
    refine ps_sld (j := 6 * t) hx hb hX hbl hbA hS 1 (by decide) (by omega) hL dL_law_301 ?_
    refine lv_aload_n hx hb dL_law_302 rfl (lv_at hl 1 rfl) ?_
    refine lv_iload hx hb dL_law_303 (lv_at hl 5 rfl) ?_
    refine lv_iconst (v := 2) hx hb dL_law_305 (by decide) ?_
    refine lv_iadd hx hb dL_law_306 ?_
    refine ps_sld (j := 6 * t) hx hb hX hbl hbA hS 2 (by decide) (by omega) hL dL_law_307 ?_
    refine ps_cqi (wc := ps_mdW cI cZ w0 b0 th mn kn co ln wr lt f) (wr := ps_shW h0 q1 q2 q3 cx cy cz pl pw ++ ps_trW cI cZ q1 a1 n1 g1 ++ ps_trW cI cZ q2 a2 n2 g2 ++ ps_lsW cI q3 b lf le lh ++ [(o0, .inl (cL, 1, .inr (.inl ov)))]) (w1 := ps_mdW cI cZ w0 b0 1 mn kn co ln wr lt f) (ws2 := ps_shW h0 q1 q2 q3 cx cy cz pl pw ++ ps_trW cI cZ q1 a1 n1 g1 ++ ps_trW cI cZ q2 a2 n2 g2 ++ ps_lsW cI q3 b lf le lh ++ [(o0, .inl (cL, 1, .inr (.inl ov)))] ++ ps_mdW cI cZ w0 b0 1 mn kn co ln wr lt f) (va_runV (C := RX3) (As := [.int (xs (6 * t + 1)), .int (xs (6 * t + 2))]) (rest := []) ⟨hx, hb, hml, hown, hT⟩ (mX3_recolour_1 l dC dI cI cZ w0 b0 th mn kn co ln wr lt f h3 (xs (6 * t + 1)) h4 (xs (6 * t + 2)) _) (cwV 2 hT (ps_gV tw_ml_L_81 tw_im_X3_recolour tw_se_X3_recolour tw_in_X3 tw_co_X3_recolour) rfl rfl rfl ⟨rfl, by decide, by decide, by decide +kernel⟩ ⟨Nat.le_of_ble_eq_true rfl, Nat.le_of_ble_eq_true rfl⟩) (ps_qreV (wc := ps_mdW cI cZ w0 b0 th mn kn co ln wr lt f) (ci := 3) [22, 23, 24, 25, 26, 27, 28, 29, 30, 31, 32] hN hP hK hD rfl rfl rfl rfl rfl) rfl rfl hl.1 rfl (lv_room (Nat.le_of_ble_eq_true rfl)) dL_law_308 ⟨hc1, hs1⟩) hS hA hP hD [22, 23, 24, 25, 26, 27, 28, 29, 30, 31, 32] [0, 1, 2, 3, 4, 5, 6, 7, 8, 9, 10, 11, 12, 13, 14, 15, 16, 17, 18, 19, 20, 21] [0, 1, 2, 3, 4, 5, 6, 7, 8, 9, 10, 11, 12, 13, 14, 15, 16, 17, 18, 19, 20, 21, 22, 23, 24, 25, 26, 27, 28, 29, 30, 31, 32] rfl rfl rfl (by decide) rfl rfl rfl (fun H locs hP hD hS => ?_)
    have hP : va_P (dC, dI) vwCl (ps_shW h0 q1 q2 q3 cx cy cz pl pw ++ ps_trW cI cZ q1 a1 n1 g1 ++ ps_trW cI cZ q2 a2 n2 g2 ++ ps_lsW cI q3 b lf le lh ++ [(o0, .inl (cL, 1, .inr (.inl ov)))] ++ ps_mdW cI cZ w0 b0 1 mn kn co ln wr lt f) H := hP
    have hD : va_D A (ps_shW h0 q1 q2 q3 cx cy cz pl pw ++ ps_trW cI cZ q1 a1 n1 g1 ++ ps_trW cI cZ q2 a2 n2 g2 ++ ps_lsW cI q3 b lf le lh ++ [(o0, .inl (cL, 1, .inr (.inl ov)))] ++ ps_mdW cI cZ w0 b0 1 mn kn co ln wr lt f) := hD
    refine lv_istore (lv' := [(6, .int 0), (5, .int 1), (0, .ref sb), (1, .ref h0), (2, .ref w0), (3, .ref o0), (4, .int (nI (6 * t)))]) hx hb dL_law_311 hl (by decide) rfl (fun ls hl => ?_)
    refine lv_aload_n hx hb dL_law_313 rfl (lv_at hl 4 rfl) ?_
    refine vp_callSi (va_Run.run (va_runV (C := RX3) (As := []) (rest := []) ⟨hx, hb, hml, hown, hT⟩ (mX3_thrown l dC dI cI cZ w0 b0 1 mn kn co ln wr lt f) (cwV 0 hT (ps_gV tw_ml_L_71 tw_im_X3_thrown tw_se_X3_thrown tw_in_X3 tw_co_X3_thrown) rfl rfl rfl ⟨rfl, by decide, by decide, by decide +kernel⟩ ⟨Nat.le_of_ble_eq_true rfl, Nat.le_of_ble_eq_true rfl⟩) (ps_preV (ci := 3) (q0 := 0) hN (hP.sub (ws' := ps_mdW cI cZ w0 b0 1 mn kn co ln wr lt f) [22, 23, 24, 25, 26, 27, 28, 29, 30, 31, 32] rfl) hK rfl rfl) rfl rfl hl.1 rfl (lv_room (Nat.le_of_ble_eq_true rfl)) dL_law_314 ⟨hc1, hs1⟩)) (fun r hr9 => ?_)
    obtain rfl : r = 1 := hr9
    refine lv_iload hx hb dL_law_317 (lv_at hl 1 rfl) ?_
    refine lv_icmp_eq (tgt := 324) hx hb dL_law_319 rfl (fun h319 => ?_) (fun h319 => ?_)
    · skip
      refine lv_iload hx hb dL_law_324 (lv_at hl 1 rfl) ?_
      refine lv_if_ne (tgt := 341) hx hb dL_law_326 rfl (fun h326 => ?_) (fun h326 => ?_)
      · skip
        refine lv_goto (tgt := 1028) hx hb dL_law_341 rfl ?_
        refine W.widen (k := cells + 1) (n := slots + 6) (Nat.le_refl _) (Nat.le_refl _) ?_
        exact kk _ _ _ _ _ _ _ _ _ _ _ _ _ _ _ _ _ _ _ _ _ _ _ _ hJ (lv_sub hl [2, 3, 4, 5, 6] rfl) hP hD hS
      · skip
        exact absurd h326 (by decide)
    · skip
      exact absurd rfl h319
set_option maxHeartbeats 4000000 in
set_option maxRecDepth 100000 in
theorem cs_field {p : Program} {l : Launch} {e : Env} {s : State} {m : MethodId} {args : Array Value} {below : List Frame} {meth : Method} {c : Code} {Q : State → Prop} {dC : Nat → ClassId} {dI : Nat → Nat → Nat} {cI cZ cL : ClassId} {A : Nat → Prop} {sb L : Nat} {xs : Nat → Int32} {h0 q1 q2 q3 b o0 w0 : Nat} {a1 a2 b0 : Nat → Nat} {t cells slots : Nat} (C : ps_Cx p l s m args c dC dI cI cZ cL A sb L xs) (ht : 6 * t + 6 ≤ L) (hc1 : cells + 1 ≤ room_1.cells) (hs1 : slots + 6 ≤ room_1.slots) (kk : ps_Hd p l e s m args below meth c Q dC dI cI cZ cL A sb h0 q1 q2 q3 b o0 w0 a1 a2 b0 t (cells + 1) (slots + 6) 1028) : ps_Hd p l e s m args below meth c Q dC dI cI cZ cL A sb h0 q1 q2 q3 b o0 w0 a1 a2 b0 t cells slots 344 := by
  obtain ⟨hlt, hx, hb, hml, hown, hT, hN, hE, hZ, hK3, hA, hX, hbl, hbA, hL⟩ := C
  have hK : va_K (dC, dI) vwCl (ps_ty cI cZ) s := hK3.sub [0, 1] rfl
  intro n1 n2 g1 g2 lf le lh cx cy cz pl pw ov th mn kn co ln wr lt f ls H locs hJ hl hP hD hS
  rcases ps_Jfield hJ (xs (6 * t + 1)) (xs (6 * t + 2)) with ⟨k, q, h1, h2, h3, h4, h5, h6, h7, he⟩ | ⟨h1, h2⟩ | ⟨h1, h2, h3, h4, h5, h6, h7⟩
  · skip
    refine lv_aload_n hx hb dL_law_344 rfl (lv_at hl 1 rfl) ?_
    refine lv_aload_n hx hb dL_law_345 rfl (lv_at hl 0 rfl) ?_
    refine lv_iload hx hb dL_law_346 (lv_at hl 4 rfl) ?_
    refine lv_iconst (v := 1) hx hb dL_law_348 (by decide) ?_
    refine lv_iadd hx hb dL_law_349 ?_
    refine ps_sld (j := 6 * t) hx hb hX hbl hbA hS 1 (by decide) (by omega) hL dL_law_350 ?_
    refine lv_aload_n hx hb dL_law_351 rfl (lv_at hl 0 rfl) ?_
    refine lv_iload hx hb dL_law_352 (lv_at hl 4 rfl) ?_
    refine lv_iconst (v := 2) hx hb dL_law_354 (by decide) ?_
    refine lv_iadd hx hb dL_law_355 ?_
    refine ps_sld (j := 6 * t) hx hb hX hbl hbA hS 2 (by decide) (by omega) hL dL_law_356 ?_
    refine lv_aload_n hx hb dL_law_357 rfl (lv_at hl 3 rfl) ?_
    refine ps_cqi (wc := ps_shW h0 q1 q2 q3 cx cy cz pl pw ++ ps_trW cI cZ q1 a1 n1 g1 ++ ps_trW cI cZ q2 a2 n2 g2 ++ ps_lsW cI q3 b lf le lh ++ [(o0, .inl (cL, 1, .inr (.inl ov)))]) (wr := ps_mdW cI cZ w0 b0 th mn kn co ln wr lt f) (w1 := ps_shW h0 q1 q2 q3 cx cy cz pl pw ++ ps_trW cI cZ q1 a1 n1 g1 ++ ps_trW cI cZ q2 a2 n2 g2 ++ ps_lsW cI q3 b lf le lh ++ [(o0, .inl (cL, 1, .inr (.inl (vp_updL ov 0 (ps_fv g1 k (xs (6 * t + 2))).toInt64))))]) (ws2 := ps_shW h0 q1 q2 q3 cx cy cz pl pw ++ ps_trW cI cZ q1 a1 n1 g1 ++ ps_trW cI cZ q2 a2 n2 g2 ++ ps_lsW cI q3 b lf le lh ++ [(o0, .inl (cL, 1, .inr (.inl (vp_updL ov 0 (ps_fv g1 k (xs (6 * t + 2))).toInt64))))] ++ ps_mdW cI cZ w0 b0 th mn kn co ln wr lt f) (vx_runSW (As := [.ref h0, .int (xs (6 * t + 1)), .int (xs (6 * t + 2)), .ref o0]) (rest := []) ⟨hx, hb, hml, hown, hT⟩ (mL_field_n l hlt dC dI cI cZ h0 q1 q2 q3 b a1 a2 n1 n2 g1 g2 lf le lh cx cy cz pl pw cL o0 ov h1 (xs (6 * t + 1)) (xs (6 * t + 2)) h2 h3 k h4 _) (vx_cwSW 4 hT (ps_gSW tw_ml_L_82 tw_st_L_field tw_in_L tw_cw_L_field) rfl rfl rfl ⟨by decide, by decide, by decide +kernel⟩ ⟨Nat.le_of_ble_eq_true rfl, Nat.le_of_ble_eq_true rfl⟩) (ps_xreS (wc := ps_shW h0 q1 q2 q3 cx cy cz pl pw ++ ps_trW cI cZ q1 a1 n1 g1 ++ ps_trW cI cZ q2 a2 n2 g2 ++ ps_lsW cI q3 b lf le lh ++ [(o0, .inl (cL, 1, .inr (.inl ov)))]) [0, 1, 2, 3, 4, 5, 6, 7, 8, 9, 10, 11, 12, 13, 14, 15, 16, 17, 18, 19, 20, 21] hN hE hZ hS hA hP hK3 hD rfl rfl rfl) rfl rfl hl.1 rfl (lv_room (Nat.le_of_ble_eq_true rfl)) dL_law_358 ⟨hc1, hs1⟩) hS hA hP hD [0, 1, 2, 3, 4, 5, 6, 7, 8, 9, 10, 11, 12, 13, 14, 15, 16, 17, 18, 19, 20, 21] [22, 23, 24, 25, 26, 27, 28, 29, 30, 31, 32] [11, 12, 13, 14, 15, 16, 17, 18, 19, 20, 21, 22, 23, 24, 25, 26, 27, 28, 29, 30, 31, 32, 0, 1, 2, 3, 4, 5, 6, 7, 8, 9, 10] rfl rfl rfl (by decide) rfl rfl rfl (fun H locs hP hD hS => ?_)
    have hP : va_P (dC, dI) vwCl (ps_shW h0 q1 q2 q3 cx cy cz pl pw ++ ps_trW cI cZ q1 a1 n1 g1 ++ ps_trW cI cZ q2 a2 n2 g2 ++ ps_lsW cI q3 b lf le lh ++ [(o0, .inl (cL, 1, .inr (.inl (vp_updL ov 0 (ps_fv g1 k (xs (6 * t + 2))).toInt64))))] ++ ps_mdW cI cZ w0 b0 th mn kn co ln wr lt f) H := hP
    have hD : va_D A (ps_shW h0 q1 q2 q3 cx cy cz pl pw ++ ps_trW cI cZ q1 a1 n1 g1 ++ ps_trW cI cZ q2 a2 n2 g2 ++ ps_lsW cI q3 b lf le lh ++ [(o0, .inl (cL, 1, .inr (.inl (vp_updL ov 0 (ps_fv g1 k (xs (6 * t + 2))).toInt64))))] ++ ps_mdW cI cZ w0 b0 th mn kn co ln wr lt f) := hD
    refine lv_istore (lv' := [(5, .int 0), (0, .ref sb), (1, .ref h0), (2, .ref w0), (3, .ref o0), (4, .int (nI (6 * t)))]) hx hb dL_law_361 hl (by decide) rfl (fun ls hl => ?_)
    refine lv_aload_n hx hb dL_law_363 rfl (lv_at hl 3 rfl) ?_
    refine lv_aload_n hx hb dL_law_364 rfl (lv_at hl 1 rfl) ?_
    refine lv_iload hx hb dL_law_365 (lv_at hl 5 rfl) ?_
    refine lv_iconst (v := 1) hx hb dL_law_367 (by decide) ?_
    refine lv_iadd hx hb dL_law_368 ?_
    refine ps_sld (j := 6 * t) hx hb hX hbl hbA hS 1 (by decide) (by omega) hL dL_law_369 ?_
    refine lv_aload_n hx hb dL_law_370 rfl (lv_at hl 1 rfl) ?_
    refine lv_iload hx hb dL_law_371 (lv_at hl 5 rfl) ?_
    refine lv_iconst (v := 2) hx hb dL_law_373 (by decide) ?_
    refine lv_iadd hx hb dL_law_374 ?_
    refine ps_sld (j := 6 * t) hx hb hX hbl hbA hS 2 (by decide) (by omega) hL dL_law_375 ?_
    refine ps_cqi (wc := ps_mdW cI cZ w0 b0 th mn kn co ln wr lt f) (wr := ps_shW h0 q1 q2 q3 cx cy cz pl pw ++ ps_trW cI cZ q1 a1 n1 g1 ++ ps_trW cI cZ q2 a2 n2 g2 ++ ps_lsW cI q3 b lf le lh ++ [(o0, .inl (cL, 1, .inr (.inl (vp_updL ov 0 (ps_fv g1 k (xs (6 * t + 2))).toInt64))))]) (w1 := ps_mdW cI cZ w0 b0 0 mn kn co ln wr lt f) (ws2 := ps_shW h0 q1 q2 q3 cx cy cz pl pw ++ ps_trW cI cZ q1 a1 n1 g1 ++ ps_trW cI cZ q2 a2 n2 g2 ++ ps_lsW cI q3 b lf le lh ++ [(o0, .inl (cL, 1, .inr (.inl (vp_updL ov 0 (ps_fv g1 k (xs (6 * t + 2))).toInt64))))] ++ ps_mdW cI cZ w0 b0 0 mn kn co ln wr lt f) (va_runV (C := RX3) (As := [.int (xs (6 * t + 1)), .int (xs (6 * t + 2))]) (rest := []) ⟨hx, hb, hml, hown, hT⟩ (mX3_field_n l dC dI cI cZ w0 b0 th mn kn co ln wr lt f h5 (xs (6 * t + 1)) q h6 (xs (6 * t + 2)) h7 _) (cwV 2 hT (ps_gV tw_ml_L_84 tw_im_X3_field tw_se_X3_field tw_in_X3 tw_co_X3_field) rfl rfl rfl ⟨rfl, by decide, by decide, by decide +kernel⟩ ⟨Nat.le_of_ble_eq_true rfl, Nat.le_of_ble_eq_true rfl⟩) (ps_qreV (wc := ps_mdW cI cZ w0 b0 th mn kn co ln wr lt f) (ci := 3) [22, 23, 24, 25, 26, 27, 28, 29, 30, 31, 32] hN hP hK hD rfl rfl rfl rfl rfl) rfl rfl hl.1 rfl (lv_room (Nat.le_of_ble_eq_true rfl)) dL_law_376 ⟨hc1, hs1⟩) hS hA hP hD [22, 23, 24, 25, 26, 27, 28, 29, 30, 31, 32] [0, 1, 2, 3, 4, 5, 6, 7, 8, 9, 10, 11, 12, 13, 14, 15, 16, 17, 18, 19, 20, 21] [0, 1, 2, 3, 4, 5, 6, 7, 8, 9, 10, 11, 12, 13, 14, 15, 16, 17, 18, 19, 20, 21, 22, 23, 24, 25, 26, 27, 28, 29, 30, 31, 32] rfl rfl rfl (by decide) rfl rfl rfl (fun H locs hP hD hS => ?_)
    have hP : va_P (dC, dI) vwCl (ps_shW h0 q1 q2 q3 cx cy cz pl pw ++ ps_trW cI cZ q1 a1 n1 g1 ++ ps_trW cI cZ q2 a2 n2 g2 ++ ps_lsW cI q3 b lf le lh ++ [(o0, .inl (cL, 1, .inr (.inl (vp_updL ov 0 (ps_fv g1 k (xs (6 * t + 2))).toInt64))))] ++ ps_mdW cI cZ w0 b0 0 mn kn co ln wr lt f) H := hP
    have hD : va_D A (ps_shW h0 q1 q2 q3 cx cy cz pl pw ++ ps_trW cI cZ q1 a1 n1 g1 ++ ps_trW cI cZ q2 a2 n2 g2 ++ ps_lsW cI q3 b lf le lh ++ [(o0, .inl (cL, 1, .inr (.inl (vp_updL ov 0 (ps_fv g1 k (xs (6 * t + 2))).toInt64))))] ++ ps_mdW cI cZ w0 b0 0 mn kn co ln wr lt f) := hD
    refine lv_istore (lv' := [(6, .int (ps_mf f q (xs (6 * t + 2)))), (5, .int 0), (0, .ref sb), (1, .ref h0), (2, .ref w0), (3, .ref o0), (4, .int (nI (6 * t)))]) hx hb dL_law_379 hl (by decide) rfl (fun ls hl => ?_)
    refine lv_aload_n hx hb dL_law_381 rfl (lv_at hl 4 rfl) ?_
    refine vp_callSi (va_Run.run (va_runV (C := RX3) (As := []) (rest := []) ⟨hx, hb, hml, hown, hT⟩ (mX3_thrown l dC dI cI cZ w0 b0 0 mn kn co ln wr lt f) (cwV 0 hT (ps_gV tw_ml_L_71 tw_im_X3_thrown tw_se_X3_thrown tw_in_X3 tw_co_X3_thrown) rfl rfl rfl ⟨rfl, by decide, by decide, by decide +kernel⟩ ⟨Nat.le_of_ble_eq_true rfl, Nat.le_of_ble_eq_true rfl⟩) (ps_preV (ci := 3) (q0 := 0) hN (hP.sub (ws' := ps_mdW cI cZ w0 b0 0 mn kn co ln wr lt f) [22, 23, 24, 25, 26, 27, 28, 29, 30, 31, 32] rfl) hK rfl rfl) rfl rfl hl.1 rfl (lv_room (Nat.le_of_ble_eq_true rfl)) dL_law_382 ⟨hc1, hs1⟩)) (fun r hr9 => ?_)
    obtain rfl : r = 0 := hr9
    refine lv_iload hx hb dL_law_385 (lv_at hl 1 rfl) ?_
    refine lv_icmp_eq (tgt := 392) hx hb dL_law_387 rfl (fun h387 => ?_) (fun h387 => ?_)
    · skip
      refine lv_iload hx hb dL_law_392 (lv_at hl 1 rfl) ?_
      refine lv_if_ne (tgt := 409) hx hb dL_law_394 rfl (fun h394 => ?_) (fun h394 => ?_)
      · skip
        exact absurd rfl h394
      · skip
        refine lv_aload_n hx hb dL_law_397 rfl (lv_at hl 5 rfl) ?_
        refine lv_iconst (v := 0) hx hb dL_law_398 (by decide) ?_
        refine va_lald hx hb hK3 hP 21 2 rfl rfl (by unfold vp_in; decide) dL_law_399 ?_
        refine lv_iload hx hb dL_law_400 (lv_at hl 0 rfl) ?_
        refine lv_i2l (v := (ps_mf f q (xs (6 * t + 2))).toInt64) hx hb dL_law_402 rfl ?_
        refine W.lcmp hx hb dL_law_403 ?_
        refine lv_if_eq (tgt := 409) hx hb dL_law_404 rfl (fun h404 => ?_) (fun h404 => ?_)
        · skip
          refine lv_goto (tgt := 1028) hx hb dL_law_409 rfl ?_
          refine W.widen (k := cells + 1) (n := slots + 6) (Nat.le_refl _) (Nat.le_refl _) ?_
          exact kk _ _ _ _ _ _ _ _ _ _ _ _ _ _ _ _ _ _ _ _ _ _ _ _ hJ (lv_sub hl [2, 3, 4, 5, 6] rfl) hP hD hS
        · skip
          exact absurd (ps_lz he) h404
    · skip
      exact absurd rfl h387
  · skip
    refine lv_aload_n hx hb dL_law_344 rfl (lv_at hl 1 rfl) ?_
    refine lv_aload_n hx hb dL_law_345 rfl (lv_at hl 0 rfl) ?_
    refine lv_iload hx hb dL_law_346 (lv_at hl 4 rfl) ?_
    refine lv_iconst (v := 1) hx hb dL_law_348 (by decide) ?_
    refine lv_iadd hx hb dL_law_349 ?_
    refine ps_sld (j := 6 * t) hx hb hX hbl hbA hS 1 (by decide) (by omega) hL dL_law_350 ?_
    refine lv_aload_n hx hb dL_law_351 rfl (lv_at hl 0 rfl) ?_
    refine lv_iload hx hb dL_law_352 (lv_at hl 4 rfl) ?_
    refine lv_iconst (v := 2) hx hb dL_law_354 (by decide) ?_
    refine lv_iadd hx hb dL_law_355 ?_
    refine ps_sld (j := 6 * t) hx hb hX hbl hbA hS 2 (by decide) (by omega) hL dL_law_356 ?_
    refine lv_aload_n hx hb dL_law_357 rfl (lv_at hl 3 rfl) ?_
    refine ps_cqi (wc := ps_shW h0 q1 q2 q3 cx cy cz pl pw ++ ps_trW cI cZ q1 a1 n1 g1 ++ ps_trW cI cZ q2 a2 n2 g2 ++ ps_lsW cI q3 b lf le lh ++ [(o0, .inl (cL, 1, .inr (.inl ov)))]) (wr := ps_mdW cI cZ w0 b0 th mn kn co ln wr lt f) (w1 := ps_shW h0 q1 q2 q3 cx cy cz pl pw ++ ps_trW cI cZ q1 a1 n1 g1 ++ ps_trW cI cZ q2 a2 n2 g2 ++ ps_lsW cI q3 b lf le lh ++ [(o0, .inl (cL, 1, .inr (.inl ov)))]) (ws2 := ps_shW h0 q1 q2 q3 cx cy cz pl pw ++ ps_trW cI cZ q1 a1 n1 g1 ++ ps_trW cI cZ q2 a2 n2 g2 ++ ps_lsW cI q3 b lf le lh ++ [(o0, .inl (cL, 1, .inr (.inl ov)))] ++ ps_mdW cI cZ w0 b0 th mn kn co ln wr lt f) (vx_runSW (As := [.ref h0, .int (xs (6 * t + 1)), .int (xs (6 * t + 2)), .ref o0]) (rest := []) ⟨hx, hb, hml, hown, hT⟩ (mL_field_x1 l hlt dC dI cI cZ h0 q1 q2 q3 b a1 a2 n1 n2 g1 g2 lf le lh cx cy cz pl pw cL o0 ov (xs (6 * t + 1)) (xs (6 * t + 2)) h1 _) (vx_cwSW 4 hT (ps_gSW tw_ml_L_82 tw_st_L_field tw_in_L tw_cw_L_field) rfl rfl rfl ⟨by decide, by decide, by decide +kernel⟩ ⟨Nat.le_of_ble_eq_true rfl, Nat.le_of_ble_eq_true rfl⟩) (ps_xreS (wc := ps_shW h0 q1 q2 q3 cx cy cz pl pw ++ ps_trW cI cZ q1 a1 n1 g1 ++ ps_trW cI cZ q2 a2 n2 g2 ++ ps_lsW cI q3 b lf le lh ++ [(o0, .inl (cL, 1, .inr (.inl ov)))]) [0, 1, 2, 3, 4, 5, 6, 7, 8, 9, 10, 11, 12, 13, 14, 15, 16, 17, 18, 19, 20, 21] hN hE hZ hS hA hP hK3 hD rfl rfl rfl) rfl rfl hl.1 rfl (lv_room (Nat.le_of_ble_eq_true rfl)) dL_law_358 ⟨hc1, hs1⟩) hS hA hP hD [0, 1, 2, 3, 4, 5, 6, 7, 8, 9, 10, 11, 12, 13, 14, 15, 16, 17, 18, 19, 20, 21] [22, 23, 24, 25, 26, 27, 28, 29, 30, 31, 32] [11, 12, 13, 14, 15, 16, 17, 18, 19, 20, 21, 22, 23, 24, 25, 26, 27, 28, 29, 30, 31, 32, 0, 1, 2, 3, 4, 5, 6, 7, 8, 9, 10] rfl rfl rfl (by decide) rfl rfl rfl (fun H locs hP hD hS => ?_)
    have hP : va_P (dC, dI) vwCl (ps_shW h0 q1 q2 q3 cx cy cz pl pw ++ ps_trW cI cZ q1 a1 n1 g1 ++ ps_trW cI cZ q2 a2 n2 g2 ++ ps_lsW cI q3 b lf le lh ++ [(o0, .inl (cL, 1, .inr (.inl ov)))] ++ ps_mdW cI cZ w0 b0 th mn kn co ln wr lt f) H := hP
    have hD : va_D A (ps_shW h0 q1 q2 q3 cx cy cz pl pw ++ ps_trW cI cZ q1 a1 n1 g1 ++ ps_trW cI cZ q2 a2 n2 g2 ++ ps_lsW cI q3 b lf le lh ++ [(o0, .inl (cL, 1, .inr (.inl ov)))] ++ ps_mdW cI cZ w0 b0 th mn kn co ln wr lt f) := hD
    refine lv_istore (lv' := [(5, .int 1), (0, .ref sb), (1, .ref h0), (2, .ref w0), (3, .ref o0), (4, .int (nI (6 * t)))]) hx hb dL_law_361 hl (by decide) rfl (fun ls hl => ?_)
    refine lv_aload_n hx hb dL_law_363 rfl (lv_at hl 3 rfl) ?_
    refine lv_aload_n hx hb dL_law_364 rfl (lv_at hl 1 rfl) ?_
    refine lv_iload hx hb dL_law_365 (lv_at hl 5 rfl) ?_
    refine lv_iconst (v := 1) hx hb dL_law_367 (by decide) ?_
    refine lv_iadd hx hb dL_law_368 ?_
    refine ps_sld (j := 6 * t) hx hb hX hbl hbA hS 1 (by decide) (by omega) hL dL_law_369 ?_
    refine lv_aload_n hx hb dL_law_370 rfl (lv_at hl 1 rfl) ?_
    refine lv_iload hx hb dL_law_371 (lv_at hl 5 rfl) ?_
    refine lv_iconst (v := 2) hx hb dL_law_373 (by decide) ?_
    refine lv_iadd hx hb dL_law_374 ?_
    refine ps_sld (j := 6 * t) hx hb hX hbl hbA hS 2 (by decide) (by omega) hL dL_law_375 ?_
    refine ps_cqi (wc := ps_mdW cI cZ w0 b0 th mn kn co ln wr lt f) (wr := ps_shW h0 q1 q2 q3 cx cy cz pl pw ++ ps_trW cI cZ q1 a1 n1 g1 ++ ps_trW cI cZ q2 a2 n2 g2 ++ ps_lsW cI q3 b lf le lh ++ [(o0, .inl (cL, 1, .inr (.inl ov)))]) (w1 := ps_mdW cI cZ w0 b0 1 mn kn co ln wr lt f) (ws2 := ps_shW h0 q1 q2 q3 cx cy cz pl pw ++ ps_trW cI cZ q1 a1 n1 g1 ++ ps_trW cI cZ q2 a2 n2 g2 ++ ps_lsW cI q3 b lf le lh ++ [(o0, .inl (cL, 1, .inr (.inl ov)))] ++ ps_mdW cI cZ w0 b0 1 mn kn co ln wr lt f) (va_runV (C := RX3) (As := [.int (xs (6 * t + 1)), .int (xs (6 * t + 2))]) (rest := []) ⟨hx, hb, hml, hown, hT⟩ (mX3_field_1 l dC dI cI cZ w0 b0 th mn kn co ln wr lt f (xs (6 * t + 1)) (xs (6 * t + 2)) h2 _) (cwV 2 hT (ps_gV tw_ml_L_84 tw_im_X3_field tw_se_X3_field tw_in_X3 tw_co_X3_field) rfl rfl rfl ⟨rfl, by decide, by decide, by decide +kernel⟩ ⟨Nat.le_of_ble_eq_true rfl, Nat.le_of_ble_eq_true rfl⟩) (ps_qreV (wc := ps_mdW cI cZ w0 b0 th mn kn co ln wr lt f) (ci := 3) [22, 23, 24, 25, 26, 27, 28, 29, 30, 31, 32] hN hP hK hD rfl rfl rfl rfl rfl) rfl rfl hl.1 rfl (lv_room (Nat.le_of_ble_eq_true rfl)) dL_law_376 ⟨hc1, hs1⟩) hS hA hP hD [22, 23, 24, 25, 26, 27, 28, 29, 30, 31, 32] [0, 1, 2, 3, 4, 5, 6, 7, 8, 9, 10, 11, 12, 13, 14, 15, 16, 17, 18, 19, 20, 21] [0, 1, 2, 3, 4, 5, 6, 7, 8, 9, 10, 11, 12, 13, 14, 15, 16, 17, 18, 19, 20, 21, 22, 23, 24, 25, 26, 27, 28, 29, 30, 31, 32] rfl rfl rfl (by decide) rfl rfl rfl (fun H locs hP hD hS => ?_)
    have hP : va_P (dC, dI) vwCl (ps_shW h0 q1 q2 q3 cx cy cz pl pw ++ ps_trW cI cZ q1 a1 n1 g1 ++ ps_trW cI cZ q2 a2 n2 g2 ++ ps_lsW cI q3 b lf le lh ++ [(o0, .inl (cL, 1, .inr (.inl ov)))] ++ ps_mdW cI cZ w0 b0 1 mn kn co ln wr lt f) H := hP
    have hD : va_D A (ps_shW h0 q1 q2 q3 cx cy cz pl pw ++ ps_trW cI cZ q1 a1 n1 g1 ++ ps_trW cI cZ q2 a2 n2 g2 ++ ps_lsW cI q3 b lf le lh ++ [(o0, .inl (cL, 1, .inr (.inl ov)))] ++ ps_mdW cI cZ w0 b0 1 mn kn co ln wr lt f) := hD
    refine lv_istore (lv' := [(6, .int 0), (5, .int 1), (0, .ref sb), (1, .ref h0), (2, .ref w0), (3, .ref o0), (4, .int (nI (6 * t)))]) hx hb dL_law_379 hl (by decide) rfl (fun ls hl => ?_)
    refine lv_aload_n hx hb dL_law_381 rfl (lv_at hl 4 rfl) ?_
    refine vp_callSi (va_Run.run (va_runV (C := RX3) (As := []) (rest := []) ⟨hx, hb, hml, hown, hT⟩ (mX3_thrown l dC dI cI cZ w0 b0 1 mn kn co ln wr lt f) (cwV 0 hT (ps_gV tw_ml_L_71 tw_im_X3_thrown tw_se_X3_thrown tw_in_X3 tw_co_X3_thrown) rfl rfl rfl ⟨rfl, by decide, by decide, by decide +kernel⟩ ⟨Nat.le_of_ble_eq_true rfl, Nat.le_of_ble_eq_true rfl⟩) (ps_preV (ci := 3) (q0 := 0) hN (hP.sub (ws' := ps_mdW cI cZ w0 b0 1 mn kn co ln wr lt f) [22, 23, 24, 25, 26, 27, 28, 29, 30, 31, 32] rfl) hK rfl rfl) rfl rfl hl.1 rfl (lv_room (Nat.le_of_ble_eq_true rfl)) dL_law_382 ⟨hc1, hs1⟩)) (fun r hr9 => ?_)
    obtain rfl : r = 1 := hr9
    refine lv_iload hx hb dL_law_385 (lv_at hl 1 rfl) ?_
    refine lv_icmp_eq (tgt := 392) hx hb dL_law_387 rfl (fun h387 => ?_) (fun h387 => ?_)
    · skip
      refine lv_iload hx hb dL_law_392 (lv_at hl 1 rfl) ?_
      refine lv_if_ne (tgt := 409) hx hb dL_law_394 rfl (fun h394 => ?_) (fun h394 => ?_)
      · skip
        refine lv_goto (tgt := 1028) hx hb dL_law_409 rfl ?_
        refine W.widen (k := cells + 1) (n := slots + 6) (Nat.le_refl _) (Nat.le_refl _) ?_
        exact kk _ _ _ _ _ _ _ _ _ _ _ _ _ _ _ _ _ _ _ _ _ _ _ _ hJ (lv_sub hl [2, 3, 4, 5, 6] rfl) hP hD hS
      · skip
        exact absurd h394 (by decide)
    · skip
      exact absurd rfl h387
  · skip
    refine lv_aload_n hx hb dL_law_344 rfl (lv_at hl 1 rfl) ?_
    refine lv_aload_n hx hb dL_law_345 rfl (lv_at hl 0 rfl) ?_
    refine lv_iload hx hb dL_law_346 (lv_at hl 4 rfl) ?_
    refine lv_iconst (v := 1) hx hb dL_law_348 (by decide) ?_
    refine lv_iadd hx hb dL_law_349 ?_
    refine ps_sld (j := 6 * t) hx hb hX hbl hbA hS 1 (by decide) (by omega) hL dL_law_350 ?_
    refine lv_aload_n hx hb dL_law_351 rfl (lv_at hl 0 rfl) ?_
    refine lv_iload hx hb dL_law_352 (lv_at hl 4 rfl) ?_
    refine lv_iconst (v := 2) hx hb dL_law_354 (by decide) ?_
    refine lv_iadd hx hb dL_law_355 ?_
    refine ps_sld (j := 6 * t) hx hb hX hbl hbA hS 2 (by decide) (by omega) hL dL_law_356 ?_
    refine lv_aload_n hx hb dL_law_357 rfl (lv_at hl 3 rfl) ?_
    refine ps_cqi (wc := ps_shW h0 q1 q2 q3 cx cy cz pl pw ++ ps_trW cI cZ q1 a1 n1 g1 ++ ps_trW cI cZ q2 a2 n2 g2 ++ ps_lsW cI q3 b lf le lh ++ [(o0, .inl (cL, 1, .inr (.inl ov)))]) (wr := ps_mdW cI cZ w0 b0 th mn kn co ln wr lt f) (w1 := ps_shW h0 q1 q2 q3 cx cy cz pl pw ++ ps_trW cI cZ q1 a1 n1 g1 ++ ps_trW cI cZ q2 a2 n2 g2 ++ ps_lsW cI q3 b lf le lh ++ [(o0, .inl (cL, 1, .inr (.inl ov)))]) (ws2 := ps_shW h0 q1 q2 q3 cx cy cz pl pw ++ ps_trW cI cZ q1 a1 n1 g1 ++ ps_trW cI cZ q2 a2 n2 g2 ++ ps_lsW cI q3 b lf le lh ++ [(o0, .inl (cL, 1, .inr (.inl ov)))] ++ ps_mdW cI cZ w0 b0 th mn kn co ln wr lt f) (vx_runSW (As := [.ref h0, .int (xs (6 * t + 1)), .int (xs (6 * t + 2)), .ref o0]) (rest := []) ⟨hx, hb, hml, hown, hT⟩ (mL_field_x2 l hlt dC dI cI cZ h0 q1 q2 q3 b a1 a2 n1 n2 g1 g2 lf le lh cx cy cz pl pw cL o0 ov h1 (xs (6 * t + 1)) h2 (xs (6 * t + 2)) h3 h4 _) (vx_cwSW 4 hT (ps_gSW tw_ml_L_82 tw_st_L_field tw_in_L tw_cw_L_field) rfl rfl rfl ⟨by decide, by decide, by decide +kernel⟩ ⟨Nat.le_of_ble_eq_true rfl, Nat.le_of_ble_eq_true rfl⟩) (ps_xreS (wc := ps_shW h0 q1 q2 q3 cx cy cz pl pw ++ ps_trW cI cZ q1 a1 n1 g1 ++ ps_trW cI cZ q2 a2 n2 g2 ++ ps_lsW cI q3 b lf le lh ++ [(o0, .inl (cL, 1, .inr (.inl ov)))]) [0, 1, 2, 3, 4, 5, 6, 7, 8, 9, 10, 11, 12, 13, 14, 15, 16, 17, 18, 19, 20, 21] hN hE hZ hS hA hP hK3 hD rfl rfl rfl) rfl rfl hl.1 rfl (lv_room (Nat.le_of_ble_eq_true rfl)) dL_law_358 ⟨hc1, hs1⟩) hS hA hP hD [0, 1, 2, 3, 4, 5, 6, 7, 8, 9, 10, 11, 12, 13, 14, 15, 16, 17, 18, 19, 20, 21] [22, 23, 24, 25, 26, 27, 28, 29, 30, 31, 32] [11, 12, 13, 14, 15, 16, 17, 18, 19, 20, 21, 22, 23, 24, 25, 26, 27, 28, 29, 30, 31, 32, 0, 1, 2, 3, 4, 5, 6, 7, 8, 9, 10] rfl rfl rfl (by decide) rfl rfl rfl (fun H locs hP hD hS => ?_)
    have hP : va_P (dC, dI) vwCl (ps_shW h0 q1 q2 q3 cx cy cz pl pw ++ ps_trW cI cZ q1 a1 n1 g1 ++ ps_trW cI cZ q2 a2 n2 g2 ++ ps_lsW cI q3 b lf le lh ++ [(o0, .inl (cL, 1, .inr (.inl ov)))] ++ ps_mdW cI cZ w0 b0 th mn kn co ln wr lt f) H := hP
    have hD : va_D A (ps_shW h0 q1 q2 q3 cx cy cz pl pw ++ ps_trW cI cZ q1 a1 n1 g1 ++ ps_trW cI cZ q2 a2 n2 g2 ++ ps_lsW cI q3 b lf le lh ++ [(o0, .inl (cL, 1, .inr (.inl ov)))] ++ ps_mdW cI cZ w0 b0 th mn kn co ln wr lt f) := hD
    refine lv_istore (lv' := [(5, .int 2), (0, .ref sb), (1, .ref h0), (2, .ref w0), (3, .ref o0), (4, .int (nI (6 * t)))]) hx hb dL_law_361 hl (by decide) rfl (fun ls hl => ?_)
    refine lv_aload_n hx hb dL_law_363 rfl (lv_at hl 3 rfl) ?_
    refine lv_aload_n hx hb dL_law_364 rfl (lv_at hl 1 rfl) ?_
    refine lv_iload hx hb dL_law_365 (lv_at hl 5 rfl) ?_
    refine lv_iconst (v := 1) hx hb dL_law_367 (by decide) ?_
    refine lv_iadd hx hb dL_law_368 ?_
    refine ps_sld (j := 6 * t) hx hb hX hbl hbA hS 1 (by decide) (by omega) hL dL_law_369 ?_
    refine lv_aload_n hx hb dL_law_370 rfl (lv_at hl 1 rfl) ?_
    refine lv_iload hx hb dL_law_371 (lv_at hl 5 rfl) ?_
    refine lv_iconst (v := 2) hx hb dL_law_373 (by decide) ?_
    refine lv_iadd hx hb dL_law_374 ?_
    refine ps_sld (j := 6 * t) hx hb hX hbl hbA hS 2 (by decide) (by omega) hL dL_law_375 ?_
    refine ps_cqi (wc := ps_mdW cI cZ w0 b0 th mn kn co ln wr lt f) (wr := ps_shW h0 q1 q2 q3 cx cy cz pl pw ++ ps_trW cI cZ q1 a1 n1 g1 ++ ps_trW cI cZ q2 a2 n2 g2 ++ ps_lsW cI q3 b lf le lh ++ [(o0, .inl (cL, 1, .inr (.inl ov)))]) (w1 := ps_mdW cI cZ w0 b0 2 mn kn co ln wr lt f) (ws2 := ps_shW h0 q1 q2 q3 cx cy cz pl pw ++ ps_trW cI cZ q1 a1 n1 g1 ++ ps_trW cI cZ q2 a2 n2 g2 ++ ps_lsW cI q3 b lf le lh ++ [(o0, .inl (cL, 1, .inr (.inl ov)))] ++ ps_mdW cI cZ w0 b0 2 mn kn co ln wr lt f) (va_runV (C := RX3) (As := [.int (xs (6 * t + 1)), .int (xs (6 * t + 2))]) (rest := []) ⟨hx, hb, hml, hown, hT⟩ (mX3_field_2 l dC dI cI cZ w0 b0 th mn kn co ln wr lt f h5 (xs (6 * t + 1)) h6 (xs (6 * t + 2)) h7 _) (cwV 2 hT (ps_gV tw_ml_L_84 tw_im_X3_field tw_se_X3_field tw_in_X3 tw_co_X3_field) rfl rfl rfl ⟨rfl, by decide, by decide, by decide +kernel⟩ ⟨Nat.le_of_ble_eq_true rfl, Nat.le_of_ble_eq_true rfl⟩) (ps_qreV (wc := ps_mdW cI cZ w0 b0 th mn kn co ln wr lt f) (ci := 3) [22, 23, 24, 25, 26, 27, 28, 29, 30, 31, 32] hN hP hK hD rfl rfl rfl rfl rfl) rfl rfl hl.1 rfl (lv_room (Nat.le_of_ble_eq_true rfl)) dL_law_376 ⟨hc1, hs1⟩) hS hA hP hD [22, 23, 24, 25, 26, 27, 28, 29, 30, 31, 32] [0, 1, 2, 3, 4, 5, 6, 7, 8, 9, 10, 11, 12, 13, 14, 15, 16, 17, 18, 19, 20, 21] [0, 1, 2, 3, 4, 5, 6, 7, 8, 9, 10, 11, 12, 13, 14, 15, 16, 17, 18, 19, 20, 21, 22, 23, 24, 25, 26, 27, 28, 29, 30, 31, 32] rfl rfl rfl (by decide) rfl rfl rfl (fun H locs hP hD hS => ?_)
    have hP : va_P (dC, dI) vwCl (ps_shW h0 q1 q2 q3 cx cy cz pl pw ++ ps_trW cI cZ q1 a1 n1 g1 ++ ps_trW cI cZ q2 a2 n2 g2 ++ ps_lsW cI q3 b lf le lh ++ [(o0, .inl (cL, 1, .inr (.inl ov)))] ++ ps_mdW cI cZ w0 b0 2 mn kn co ln wr lt f) H := hP
    have hD : va_D A (ps_shW h0 q1 q2 q3 cx cy cz pl pw ++ ps_trW cI cZ q1 a1 n1 g1 ++ ps_trW cI cZ q2 a2 n2 g2 ++ ps_lsW cI q3 b lf le lh ++ [(o0, .inl (cL, 1, .inr (.inl ov)))] ++ ps_mdW cI cZ w0 b0 2 mn kn co ln wr lt f) := hD
    refine lv_istore (lv' := [(6, .int 0), (5, .int 2), (0, .ref sb), (1, .ref h0), (2, .ref w0), (3, .ref o0), (4, .int (nI (6 * t)))]) hx hb dL_law_379 hl (by decide) rfl (fun ls hl => ?_)
    refine lv_aload_n hx hb dL_law_381 rfl (lv_at hl 4 rfl) ?_
    refine vp_callSi (va_Run.run (va_runV (C := RX3) (As := []) (rest := []) ⟨hx, hb, hml, hown, hT⟩ (mX3_thrown l dC dI cI cZ w0 b0 2 mn kn co ln wr lt f) (cwV 0 hT (ps_gV tw_ml_L_71 tw_im_X3_thrown tw_se_X3_thrown tw_in_X3 tw_co_X3_thrown) rfl rfl rfl ⟨rfl, by decide, by decide, by decide +kernel⟩ ⟨Nat.le_of_ble_eq_true rfl, Nat.le_of_ble_eq_true rfl⟩) (ps_preV (ci := 3) (q0 := 0) hN (hP.sub (ws' := ps_mdW cI cZ w0 b0 2 mn kn co ln wr lt f) [22, 23, 24, 25, 26, 27, 28, 29, 30, 31, 32] rfl) hK rfl rfl) rfl rfl hl.1 rfl (lv_room (Nat.le_of_ble_eq_true rfl)) dL_law_382 ⟨hc1, hs1⟩)) (fun r hr9 => ?_)
    obtain rfl : r = 2 := hr9
    refine lv_iload hx hb dL_law_385 (lv_at hl 1 rfl) ?_
    refine lv_icmp_eq (tgt := 392) hx hb dL_law_387 rfl (fun h387 => ?_) (fun h387 => ?_)
    · skip
      refine lv_iload hx hb dL_law_392 (lv_at hl 1 rfl) ?_
      refine lv_if_ne (tgt := 409) hx hb dL_law_394 rfl (fun h394 => ?_) (fun h394 => ?_)
      · skip
        refine lv_goto (tgt := 1028) hx hb dL_law_409 rfl ?_
        refine W.widen (k := cells + 1) (n := slots + 6) (Nat.le_refl _) (Nat.le_refl _) ?_
        exact kk _ _ _ _ _ _ _ _ _ _ _ _ _ _ _ _ _ _ _ _ _ _ _ _ hJ (lv_sub hl [2, 3, 4, 5, 6] rfl) hP hD hS
      · skip
        exact absurd h394 (by decide)
    · skip
      exact absurd rfl h387
