/-! contracts: the reference's writers. By wip/model2.py. -/
def ps_ma (f : ps_G) (mn : Nat) (v x y z c : Int32) : ps_G := va_up (va_up (va_up f 0 (upd (f 0) mn v)) 1 (upd (f 1) mn (ps_pk x y z))) 2 (upd (f 2) mn c)
def ps_mr (f : ps_G) (mn k : Nat) : ps_G := va_up (va_up (va_up f 0 (upd (f 0) k (f 0 (mn - 1)))) 1 (upd (f 1) k (f 1 (mn - 1)))) 2 (upd (f 2) k (f 2 (mn - 1)))
def ps_mf (f : ps_G) (k : Nat) (fd : Int32) : Int32 := if fd < 3 then ps_ax (f 1 k) fd else if fd = 3 then f 2 k else f 3 k
section PSN
variable {p : Program} {l : Launch} {e : Env} {R : Room} {s : State} {m : MethodId} {args : Array Value} {below : List Frame} {meth : Method} {c : Code} {H : Heap} {locs : List Loc} {cells slots : Nat} {Q : State → Prop}
variable {cc : ByteArray} {pc : Nat} {ls : Array Slot} {rest : List Value}
theorem ps_icmp_ne (hexec : p.tables.exec = Jvm.exec) (hb : c.code = cc) {a b : Nat} {off : Int} {tgt : Nat} (hdg : decode cc pc = .ok (.if_icmp .ne off, 3)) (ht : (pc : Int) + off = (tgt : Int)) (h1 : a < 2 ^ 31) (h2 : b < 2 ^ 31)
    (kt : a ≠ b → W p l e R s m args below meth c H locs cells slots Q (F0 m tgt ls rest)) (kf : a = b → W p l e R s m args below meth c H locs cells slots Q (F0 m (pc + 3) ls rest)) : W p l e R s m args below meth c H locs cells slots Q (F0 m pc ls (.int (nI b) :: .int (nI a) :: rest)) :=
  lv_icmp_ne hexec hb hdg ht (fun h => kt (fun e => h ((nI_eq h1 h2).mpr e))) (fun h => kf ((nI_eq h1 h2).mp h))
theorem ps_icmp_eq (hexec : p.tables.exec = Jvm.exec) (hb : c.code = cc) {a b : Nat} {off : Int} {tgt : Nat} (hdg : decode cc pc = .ok (.if_icmp .eq off, 3)) (ht : (pc : Int) + off = (tgt : Int)) (h1 : a < 2 ^ 31) (h2 : b < 2 ^ 31)
    (kt : a = b → W p l e R s m args below meth c H locs cells slots Q (F0 m tgt ls rest)) (kf : a ≠ b → W p l e R s m args below meth c H locs cells slots Q (F0 m (pc + 3) ls rest)) : W p l e R s m args below meth c H locs cells slots Q (F0 m pc ls (.int (nI b) :: .int (nI a) :: rest)) :=
  lv_icmp_eq hexec hb hdg ht (fun h => kt ((nI_eq h1 h2).mp h)) (fun h => kf (fun e => h ((nI_eq h1 h2).mpr e)))
end PSN
set_option maxHeartbeats 4000000 in
set_option maxRecDepth 100000 in
theorem mX3_fails (l : Launch) (dC : Nat → ClassId) (dI : Nat → Nat → Nat) (cI cZ : ClassId) (w0 : Nat) (b0 : Nat → Nat) (th : Int32) (mn kn : Nat) (co : Int32) (ln : Nat) (wr lt : Int32) (f : ps_G) (c9 : Int32) (sz : Nat) : Met l yX3_fails (.code yX3_fails cX3_fails 2 (some .int) :: ps_T) ({ frames := 0, cells := 0, slots := 0, locals := 0 }) (ps_qc (dC, dI) (ps_ty cI cZ) (ps_mdW cI cZ w0 b0 th mn kn co ln wr lt f) sz [.ref w0, .int c9]) (va_Qi (fun (r : Int32) (_ : Unit) => r = 0) (ps_qB (dC, dI) (ps_ty cI cZ) (va_A (ps_mdW cI cZ w0 b0 th mn kn co ln wr lt f) sz) (ps_mdW cI cZ w0 b0 c9 mn kn co ln wr lt f)) (va_A (ps_mdW cI cZ w0 b0 th mn kn co ln wr lt f) sz)) 0 0 (va_A (ps_mdW cI cZ w0 b0 th mn kn co ln wr lt f) sz) := by
  refine Met.ofW (cc := cX3_fails) (maxL := 2) (ret := (some .int)) (by decide) rfl ?_
  intro p e s m args below meth c s₁ B hml hv
  obtain ⟨rfl, hsz, hN, hP, hK, hD0⟩ := hv
  have hx := B.exec
  have hb := B.bytes
  have hr := B.returns
  have hlocks := B.notSynchronized
  have hT : ∀ w ∈ ps_T, w.before ([.ref w0, .int c9] : List Value).toArray s = true := fun w h => atoms_spec (ws := (.code yX3_fails cX3_fails 2 (some .int) :: ps_T)) B.pre w (List.mem_cons_of_mem _ h)
  have hown : s.vm.findClass RX3 = some m.cls := findClass_of_methodNamed B.named
  subst hsz
  have hD := hD0.self (sz := s.heap.size)
  generalize hAe : va_A (ps_mdW cI cZ w0 b0 th mn kn co ln wr lt f) s.heap.size = A at hD ⊢
  have hA : ∀ q : Nat, s.heap.size ≤ q → A q := fun q h => by rw [← hAe]; exact Or.inr h
  have hS : va_S A s.heap s.heap [] := va_S.rf
  have hl := lv_entry ([.ref w0, .int c9]) (n := 2) (Nat.le_of_ble_eq_true rfl)
  rw [lg_entry_eq]
  generalize (lg_sl ([.ref w0, .int c9]) ++ List.replicate (2 - (lg_sl ([.ref w0, .int c9])).length) Slot.unset).toArray = ls at hl ⊢
  have hl : lv_has ls 2 [(0, .ref w0), (1, .int c9)] := hl
  refine lv_aload_n hx hb dX3_fails_0 rfl (lv_at hl 0 rfl) ?_
  refine lv_iload_n hx hb dX3_fails_1 rfl (lv_at hl 1 rfl) ?_
  refine va_put (D := (dC, dI)) (ci := 3) (v := .int c9) (ty := .int) (C := RX3) (T := TX3) (N := 17) hx hb hT inX3 tyX3 tyX3_ok nmX3 hown hK hP hD hS 0 rfl rfl 0 (by decide) (hT _ tw_fl_X3_45) (fun _ h9 => h9) rfl (by decide +kernel) rfl rfl (Nat.le_of_ble_eq_true rfl) dX3_fails_2 (fun H locs hP hD hS => ?_)
  have hP : va_P (dC, dI) vwCl (ps_mdW cI cZ w0 b0 c9 mn kn co ln wr lt f) H := hP
  have hD : va_D A (ps_mdW cI cZ w0 b0 c9 mn kn co ln wr lt f) := hD
  refine lv_iconst (v := 0) hx hb dX3_fails_5 (by decide) ?_
  exact W.iret (v := 0) hx hb hr (fun t ht hW => ⟨⟨0, (), rfl, rfl, by rw [ht]; exact hP, va_K.moved hW.alike hK, hD⟩, hS.F ht⟩) hS.2.2 dX3_fails_6
set_option maxHeartbeats 4000000 in
set_option maxRecDepth 100000 in
theorem mX3_rank (l : Launch) (dC : Nat → ClassId) (dI : Nat → Nat → Nat) (cI cZ : ClassId) (w0 : Nat) (b0 : Nat → Nat) (th : Int32) (mn kn : Nat) (co : Int32) (ln : Nat) (wr lt : Int32) (f : ps_G) (v : Int32) (sz : Nat) : Met l yX3_rank (.code yX3_rank cX3_rank 2 (some .long) :: ps_T) ({ frames := 1, cells := 0, slots := 0, locals := 22 }) (ps_qc (dC, dI) (ps_ty cI cZ) (ps_mdW cI cZ w0 b0 th mn kn co ln wr lt f) sz [.ref w0, .int v]) (va_Ql (fun (r : Int64) (_ : Unit) => r = lN (ps_rk v)) (ps_qB (dC, dI) (ps_ty cI cZ) (va_A (ps_mdW cI cZ w0 b0 th mn kn co ln wr lt f) sz) (ps_mdW cI cZ w0 b0 0 mn kn co ln wr lt f)) (va_A (ps_mdW cI cZ w0 b0 th mn kn co ln wr lt f) sz)) 0 0 (va_A (ps_mdW cI cZ w0 b0 th mn kn co ln wr lt f) sz) := by
  refine Met.ofW (cc := cX3_rank) (maxL := 2) (ret := (some .long)) (by decide) rfl ?_
  intro p e s m args below meth c s₁ B hml hv
  obtain ⟨rfl, hsz, hN, hP, hK, hD0⟩ := hv
  have hx := B.exec
  have hb := B.bytes
  have hr := B.returns
  have hlocks := B.notSynchronized
  have hT : ∀ w ∈ ps_T, w.before ([.ref w0, .int v] : List Value).toArray s = true := fun w h => atoms_spec (ws := (.code yX3_rank cX3_rank 2 (some .long) :: ps_T)) B.pre w (List.mem_cons_of_mem _ h)
  have hown : s.vm.findClass RX3 = some m.cls := findClass_of_methodNamed B.named
  subst hsz
  have hD := hD0.self (sz := s.heap.size)
  generalize hAe : va_A (ps_mdW cI cZ w0 b0 th mn kn co ln wr lt f) s.heap.size = A at hD ⊢
  have hA : ∀ q : Nat, s.heap.size ≤ q → A q := fun q h => by rw [← hAe]; exact Or.inr h
  have hS : va_S A s.heap s.heap [] := va_S.rf
  have hl := lv_entry ([.ref w0, .int v]) (n := 2) (Nat.le_of_ble_eq_true rfl)
  rw [lg_entry_eq]
  generalize (lg_sl ([.ref w0, .int v]) ++ List.replicate (2 - (lg_sl ([.ref w0, .int v])).length) Slot.unset).toArray = ls at hl ⊢
  have hl : lv_has ls 2 [(0, .ref w0), (1, .int v)] := hl
  refine lv_aload_n hx hb dX3_rank_0 rfl (lv_at hl 0 rfl) ?_
  refine lv_iconst (v := 0) hx hb dX3_rank_1 (by decide) ?_
  refine va_put (D := (dC, dI)) (ci := 3) (v := .int 0) (ty := .int) (C := RX3) (T := TX3) (N := 17) hx hb hT inX3 tyX3 tyX3_ok nmX3 hown hK hP hD hS 0 rfl rfl 0 (by decide) (hT _ tw_fl_X3_45) (fun _ h9 => h9) rfl (by decide +kernel) rfl rfl (Nat.le_of_ble_eq_true rfl) dX3_rank_2 (fun H locs hP hD hS => ?_)
  have hP : va_P (dC, dI) vwCl (ps_mdW cI cZ w0 b0 0 mn kn co ln wr lt f) H := hP
  have hD : va_D A (ps_mdW cI cZ w0 b0 0 mn kn co ln wr lt f) := hD
  refine lv_iload_n hx hb dX3_rank_5 rfl (lv_at hl 1 rfl) ?_
  refine vp_callSl (va_Run.run (va_runS (As := [.int v]) (rest := []) ⟨hx, hb, hml, hown, hT⟩ (mX3_rankOf l v) (va_cwS 1 hT (ps_gS tw_ml_X3_55 tw_st_X3_rankOf tw_in_X3 tw_co_X3_rankOf) rfl rfl rfl ⟨by decide, by decide, by decide +kernel⟩ ⟨Nat.le_of_ble_eq_true rfl, Nat.le_of_ble_eq_true rfl⟩) preEq rfl rfl hl.1 rfl (lv_room (Nat.le_of_ble_eq_true rfl)) dX3_rank_6 ⟨Nat.le_of_ble_eq_true rfl, Nat.le_of_ble_eq_true rfl⟩)) (fun r hr => ?_)
  obtain rfl : r = lN (ps_rk v) := hr
  exact W.lret (v := lN (ps_rk v)) hx hb hr (fun t ht hW => ⟨⟨lN (ps_rk v), (), rfl, rfl, by rw [ht]; exact hP, va_K.moved hW.alike hK, hD⟩, hS.F ht⟩) hS.2.2 dX3_rank_9
set_option maxHeartbeats 4000000 in
set_option maxRecDepth 100000 in
theorem mX3_settle (l : Launch) (dC : Nat → ClassId) (dI : Nat → Nat → Nat) (cI cZ : ClassId) (w0 : Nat) (b0 : Nat → Nat) (th : Int32) (mn kn : Nat) (co : Int32) (ln : Nat) (wr lt : Int32) (f : ps_G) (hmn : mn ≤ 48) (sz : Nat) : Met l yX3_settle (.code yX3_settle cX3_settle 4 none :: ps_T) ({ frames := 3, cells := 0, slots := 0, locals := 68 }) (ps_qc (dC, dI) (ps_ty cI cZ) (ps_mdW cI cZ w0 b0 th mn kn co ln wr lt f) sz [.ref w0]) (va_Qv (fun _ : Unit => True) (ps_qB (dC, dI) (ps_ty cI cZ) (va_A (ps_mdW cI cZ w0 b0 th mn kn co ln wr lt f) sz) (ps_mdW cI cZ w0 b0 th mn kn co ln wr lt ((ps_st f mn)))) (va_A (ps_mdW cI cZ w0 b0 th mn kn co ln wr lt f) sz)) 0 0 (va_A (ps_mdW cI cZ w0 b0 th mn kn co ln wr lt f) sz) := by
  refine Met.ofW (cc := cX3_settle) (maxL := 4) (ret := none) (by decide) rfl ?_
  intro p e s m args below meth c s₁ B hml hv
  obtain ⟨rfl, hsz, hN, hP, hK, hD0⟩ := hv
  have hx := B.exec
  have hb := B.bytes
  have hr := B.returns
  have hlocks := B.notSynchronized
  have hT : ∀ w ∈ ps_T, w.before ([.ref w0] : List Value).toArray s = true := fun w h => atoms_spec (ws := (.code yX3_settle cX3_settle 4 none :: ps_T)) B.pre w (List.mem_cons_of_mem _ h)
  have hown : s.vm.findClass RX3 = some m.cls := findClass_of_methodNamed B.named
  subst hsz
  have hD := hD0.self (sz := s.heap.size)
  generalize hAe : va_A (ps_mdW cI cZ w0 b0 th mn kn co ln wr lt f) s.heap.size = A at hD ⊢
  have hA : ∀ q : Nat, s.heap.size ≤ q → A q := fun q h => by rw [← hAe]; exact Or.inr h
  have hS : va_S A s.heap s.heap [] := va_S.rf
  have hl := lv_entry ([.ref w0]) (n := 4) (Nat.le_of_ble_eq_true rfl)
  rw [lg_entry_eq]
  generalize (lg_sl ([.ref w0]) ++ List.replicate (4 - (lg_sl ([.ref w0])).length) Slot.unset).toArray = ls at hl ⊢
  have hl : lv_has ls 4 [(0, .ref w0)] := hl
  refine lv_iconst (v := 0) hx hb dX3_settle_0 (by decide) ?_
  refine lv_istore_n (lv' := [(1, .int 0), (0, .ref w0)]) hx hb dX3_settle_1 rfl hl (by decide) rfl (fun ls hl => ?_)
  rw [ps_d0_0 f] at hP hD
  have hl : lv_has ls 4 [(1, .int (nI 0)), (0, .ref w0)] := hl
  refine ps_loopQ (α := Nat) (fun k => mn - k) (fun k ls H locs => (k ≤ mn) ∧ lv_has ls 4 [(0, .ref w0), (1, .int (nI k))] ∧ va_P (dC, dI) vwCl (ps_mdW cI cZ w0 b0 th mn kn co ln wr lt (va_up f 8 (ps_d0 f k))) H ∧ va_D A (ps_mdW cI cZ w0 b0 th mn kn co ln wr lt (va_up f 8 (ps_d0 f k))) ∧ va_S A s.heap H locs) ?_ 0 ls _ _ ⟨by omega, lv_sub hl [1, 0] rfl, hP, hD, hS⟩
  intro k ls H locs ih2 hI
  obtain ⟨hk, hl, hP, hD, hS⟩ := hI
  refine lv_iload_n hx hb dX3_settle_2 rfl (lv_at hl 1 rfl) ?_
  refine lv_aload_n hx hb dX3_settle_3 rfl (lv_at hl 0 rfl) ?_
  refine va_get (D := (dC, dI)) (ci := 3) (v := .int (nI mn)) (C := RX3) (T := TX3) (N := 17) hx hb hT inX3 hown hK hP 0 rfl rfl 1 (by decide) (hT _ tw_fl_X3_59) (fun _ h9 => h9) rfl dX3_settle_4 ?_
  refine ps_icmp_ge (tgt := 23) (a := k) (b := mn) hx hb dX3_settle_7 rfl (by omega) (by omega) (fun h7 => ?_) (fun h7 => ?_)
  · skip
    have ek : k = mn := by omega
    rw [ek] at hP hD
    refine lv_iconst (v := 0) hx hb dX3_settle_23 (by decide) ?_
    refine lv_istore_n (lv' := [(1, .int 0), (0, .ref w0)]) hx hb dX3_settle_24 rfl hl (by decide) rfl (fun ls hl => ?_)
    have hl : lv_has ls 4 [(1, .int (nI 0)), (0, .ref w0)] := hl
    refine ps_loopQ (α := Nat) (fun r9 => mn - r9) (fun r9 ls H locs => (r9 ≤ mn) ∧ lv_has ls 4 [(0, .ref w0), (1, .int (nI r9))] ∧ va_P (dC, dI) vwCl (ps_mdW cI cZ w0 b0 th mn kn co ln wr lt ((ps_tN (va_up f 8 (ps_d0 f mn)) mn r9))) H ∧ va_D A (ps_mdW cI cZ w0 b0 th mn kn co ln wr lt ((ps_tN (va_up f 8 (ps_d0 f mn)) mn r9))) ∧ va_S A s.heap H locs) ?_ 0 ls _ _ ⟨by omega, lv_sub hl [1, 0] rfl, hP, hD, hS⟩
    intro r9 ls H locs ih25 hI
    obtain ⟨hr9, hl, hP, hD, hS⟩ := hI
    refine lv_iload_n hx hb dX3_settle_25 rfl (lv_at hl 1 rfl) ?_
    refine lv_aload_n hx hb dX3_settle_26 rfl (lv_at hl 0 rfl) ?_
    refine va_get (D := (dC, dI)) (ci := 3) (v := .int (nI mn)) (C := RX3) (T := TX3) (N := 17) hx hb hT inX3 hown hK hP 0 rfl rfl 1 (by decide) (hT _ tw_fl_X3_59) (fun _ h9 => h9) rfl dX3_settle_27 ?_
    refine ps_icmp_ge (tgt := 86) (a := r9) (b := mn) hx hb dX3_settle_30 rfl (by omega) (by omega) (fun h30 => ?_) (fun h30 => ?_)
    · skip
      have er : r9 = mn := by omega
      rw [er] at hP hD
      exact W.vret hx hb hr (fun t ht hW => ⟨⟨(), rfl, trivial, by rw [ht]; exact hP, va_K.moved hW.alike hK, hD⟩, hS.F ht⟩) hS.2.2 dX3_settle_86
    · skip
      obtain ⟨k9, hg⟩ := ps_tN_some (va_up f 8 (ps_d0 f mn)) mn (ps_d0_8 f mn) h30
      have hk9 := ps_gr_lt hg
      refine lv_aload_n hx hb dX3_settle_33 rfl (lv_at hl 0 rfl) ?_
      refine vp_callSi (va_Run.run (va_runV (C := RX3) (As := []) (rest := []) ⟨hx, hb, hml, hown, hT⟩ (mX3_greatest l dC dI cI cZ w0 b0 th mn kn co ln wr lt ((ps_tN (va_up f 8 (ps_d0 f mn)) mn r9)) (hmn)) (cwV 0 hT (ps_gV tw_ml_X3_69 tw_im_X3_greatest tw_se_X3_greatest tw_in_X3 tw_co_X3_greatest) rfl rfl rfl ⟨rfl, by decide, by decide, by decide +kernel⟩ ⟨Nat.le_of_ble_eq_true rfl, Nat.le_of_ble_eq_true rfl⟩) (ps_preV (ci := 3) (q0 := 0) hN hP hK rfl rfl) rfl rfl hl.1 rfl (lv_room (Nat.le_of_ble_eq_true rfl)) dX3_settle_34 ⟨Nat.le_of_ble_eq_true rfl, Nat.le_of_ble_eq_true rfl⟩)) (fun r hr => ?_)
      obtain rfl : r = ps_fr (ps_gr ((ps_tN (va_up f 8 (ps_d0 f mn)) mn r9)) mn) := hr
      refine lv_topi (fun y9 hy9 => ?_)
      obtain rfl : y9 = nI k9 := hy9.trans (by rw [hg]; rfl)
      refine lv_istore_n (lv' := [(2, .int (nI k9)), (0, .ref w0), (1, .int (nI r9))]) hx hb dX3_settle_37 rfl hl (by decide) rfl (fun ls hl => ?_)
      refine lv_iconst (v := 0) hx hb dX3_settle_38 (by decide) ?_
      refine lv_istore_n (lv' := [(3, .int 0), (2, .int (nI k9)), (0, .ref w0), (1, .int (nI r9))]) hx hb dX3_settle_39 rfl hl (by decide) rfl (fun ls hl => ?_)
      have hl : lv_has ls 4 [(3, .int (nI 0)), (2, .int (nI k9)), (0, .ref w0), (1, .int (nI r9))] := hl
      refine ps_loopS (α := Nat) (fun d => 4 - d) (fun d ls => (d ≤ 4) ∧ (∀ j, j < d → 3 ≤ ps_cn (ps_kp (ps_tN (va_up f 8 (ps_d0 f mn)) mn r9) ((ps_tN (va_up f 8 (ps_d0 f mn)) mn r9) 1 k9) (nI j)) mn) ∧ lv_has ls 4 [(0, .ref w0), (1, .int (nI r9)), (2, .int (nI k9)), (3, .int (nI d))]) ?_ 0 ls ⟨by omega, fun j hj => absurd hj (Nat.not_lt_zero j), lv_sub hl [2, 3, 1, 0] rfl⟩
      intro d ls ih40 hI
      obtain ⟨hd, hj, hl⟩ := hI
      refine lv_iload_n hx hb dX3_settle_40 rfl (lv_at hl 3 rfl) ?_
      refine lv_iconst (v := 4) hx hb dX3_settle_41 (by decide) ?_
      refine ps_icmp_ge (tgt := 66) (a := d) (b := 4) hx hb dX3_settle_42 rfl (by omega) (by omega) (fun h42 => ?_) (fun h42 => ?_)
      · skip
        have e : ps_sd (ps_tN (va_up f 8 (ps_d0 f mn)) mn r9) mn k9 = d := ps_dn_eq hd hj (Or.inl h42)
        refine lv_aload_n hx hb dX3_settle_66 rfl (lv_at hl 0 rfl) ?_
        refine va_get (D := (dC, dI)) (ci := 3) (v := .ref (b0 3)) (C := RX3) (T := TX3) (N := 17) hx hb hT inX3 hown hK hP 0 rfl rfl 5 (by decide) (hT _ tw_fl_X3_19) (fun _ h9 => h9) rfl dX3_settle_67 ?_
        refine lv_iload_n hx hb dX3_settle_70 rfl (lv_at hl 2 rfl) ?_
        refine lv_iload_n hx hb dX3_settle_71 rfl (lv_at hl 3 rfl) ?_
        refine ps_iast (k := k9) hx hb hK hP hD hS 4 0 rfl rfl (by omega) (by decide) dX3_settle_72 (fun H locs hP hD hS => ?_)
        have hP : va_P (dC, dI) vwCl (ps_mdW cI cZ w0 b0 th mn kn co ln wr lt (va_up ((ps_tN (va_up f 8 (ps_d0 f mn)) mn r9)) 3 (upd ((ps_tN (va_up f 8 (ps_d0 f mn)) mn r9) 3) k9 (nI d)))) H := hP
        have hD : va_D A (ps_mdW cI cZ w0 b0 th mn kn co ln wr lt (va_up ((ps_tN (va_up f 8 (ps_d0 f mn)) mn r9)) 3 (upd ((ps_tN (va_up f 8 (ps_d0 f mn)) mn r9) 3) k9 (nI d)))) := hD
        refine lv_aload_n hx hb dX3_settle_73 rfl (lv_at hl 0 rfl) ?_
        refine va_get (D := (dC, dI)) (ci := 3) (v := .ref (b0 8)) (C := RX3) (T := TX3) (N := 17) hx hb hT inX3 hown hK hP 0 rfl rfl 11 (by decide) (hT _ tw_fl_X3_34) (fun _ h9 => h9) rfl dX3_settle_74 ?_
        refine lv_iload_n hx hb dX3_settle_77 rfl (lv_at hl 2 rfl) ?_
        refine lv_iconst (v := 1) hx hb dX3_settle_78 (by decide) ?_
        refine ps_zast (k := k9) hx hb hK hP hD hS 9 1 rfl rfl (by omega) (by decide) rfl dX3_settle_79 (fun H locs hP hD hS => ?_)
        have hP : va_P (dC, dI) vwCl (ps_mdW cI cZ w0 b0 th mn kn co ln wr lt (va_up (va_up ((ps_tN (va_up f 8 (ps_d0 f mn)) mn r9)) 3 (upd ((ps_tN (va_up f 8 (ps_d0 f mn)) mn r9) 3) k9 (nI d))) 8 (upd ((ps_tN (va_up f 8 (ps_d0 f mn)) mn r9) 8) k9 1))) H := hP
        have hD : va_D A (ps_mdW cI cZ w0 b0 th mn kn co ln wr lt (va_up (va_up ((ps_tN (va_up f 8 (ps_d0 f mn)) mn r9)) 3 (upd ((ps_tN (va_up f 8 (ps_d0 f mn)) mn r9) 3) k9 (nI d))) 8 (upd ((ps_tN (va_up f 8 (ps_d0 f mn)) mn r9) 8) k9 1))) := hD
        rw [← ps_t1_some hg e] at hP hD
        refine lv_iinc (k := 1) (v := nI (r9 + 1)) (lv' := [(1, .int (nI (r9 + 1))), (0, .ref w0), (2, .int (nI k9)), (3, .int (nI d))]) hx hb dX3_settle_80 hl rfl (ps_inc _) (by decide) rfl (fun ls hl => ?_)
        refine lv_goto (tgt := 25) hx hb dX3_settle_83 rfl ?_
        exact ih25 ((r9 + 1)) ls _ _ (by omega) ⟨by omega, lv_sub hl [1, 0] rfl, hP, hD, hS⟩
      · skip
        refine lv_aload_n hx hb dX3_settle_45 rfl (lv_at hl 0 rfl) ?_
        refine lv_aload_n hx hb dX3_settle_46 rfl (lv_at hl 0 rfl) ?_
        refine va_get (D := (dC, dI)) (ci := 3) (v := .ref (b0 1)) (C := RX3) (T := TX3) (N := 17) hx hb hT inX3 hown hK hP 0 rfl rfl 3 (by decide) (hT _ tw_fl_X3_13) (fun _ h9 => h9) rfl dX3_settle_47 ?_
        refine lv_iload_n hx hb dX3_settle_50 rfl (lv_at hl 2 rfl) ?_
        refine ps_iald (k := k9) (f := (ps_tN (va_up f 8 (ps_d0 f mn)) mn r9) 1) hx hb hK hP 2 0 rfl rfl (by omega) (by decide) dX3_settle_51 ?_
        refine lv_iload_n hx hb dX3_settle_52 rfl (lv_at hl 3 rfl) ?_
        refine vp_callSi (va_Run.run (va_runV (C := RX3) (As := [.int (((ps_tN (va_up f 8 (ps_d0 f mn)) mn r9) 1) k9), .int (nI d)]) (rest := []) ⟨hx, hb, hml, hown, hT⟩ (mX3_keeps l dC dI cI cZ w0 b0 th mn kn co ln wr lt ((ps_tN (va_up f 8 (ps_d0 f mn)) mn r9)) (hmn) (((ps_tN (va_up f 8 (ps_d0 f mn)) mn r9) 1) k9) (nI d)) (cwV 2 hT (ps_gV tw_ml_X3_73 tw_im_X3_keeps tw_se_X3_keeps tw_in_X3 tw_co_X3_keeps) rfl rfl rfl ⟨rfl, by decide, by decide, by decide +kernel⟩ ⟨Nat.le_of_ble_eq_true rfl, Nat.le_of_ble_eq_true rfl⟩) (ps_preV (ci := 3) (q0 := 0) hN hP hK rfl rfl) rfl rfl hl.1 rfl (lv_room (Nat.le_of_ble_eq_true rfl)) dX3_settle_53 ⟨Nat.le_of_ble_eq_true rfl, Nat.le_of_ble_eq_true rfl⟩)) (fun r hr => ?_)
        obtain rfl : r = nI (ps_cn (ps_kp ((ps_tN (va_up f 8 (ps_d0 f mn)) mn r9)) (((ps_tN (va_up f 8 (ps_d0 f mn)) mn r9) 1) k9) (nI d)) mn) := hr
        refine lv_iconst (v := 3) hx hb dX3_settle_56 (by decide) ?_
        have hle := ps_cn_le (ps_kp (ps_tN (va_up f 8 (ps_d0 f mn)) mn r9) ((ps_tN (va_up f 8 (ps_d0 f mn)) mn r9) 1 k9) (nI d)) mn
        refine ps_icmp_lt (tgt := 66) (a := ps_cn (ps_kp ((ps_tN (va_up f 8 (ps_d0 f mn)) mn r9)) (((ps_tN (va_up f 8 (ps_d0 f mn)) mn r9) 1) k9) (nI d)) mn) (b := 3) hx hb dX3_settle_57 rfl (by omega) (by omega) (fun h57 => ?_) (fun h57 => ?_)
        · skip
          have e : ps_sd (ps_tN (va_up f 8 (ps_d0 f mn)) mn r9) mn k9 = d := ps_dn_eq hd hj (Or.inr h57)
          refine lv_aload_n hx hb dX3_settle_66 rfl (lv_at hl 0 rfl) ?_
          refine va_get (D := (dC, dI)) (ci := 3) (v := .ref (b0 3)) (C := RX3) (T := TX3) (N := 17) hx hb hT inX3 hown hK hP 0 rfl rfl 5 (by decide) (hT _ tw_fl_X3_19) (fun _ h9 => h9) rfl dX3_settle_67 ?_
          refine lv_iload_n hx hb dX3_settle_70 rfl (lv_at hl 2 rfl) ?_
          refine lv_iload_n hx hb dX3_settle_71 rfl (lv_at hl 3 rfl) ?_
          refine ps_iast (k := k9) hx hb hK hP hD hS 4 0 rfl rfl (by omega) (by decide) dX3_settle_72 (fun H locs hP hD hS => ?_)
          have hP : va_P (dC, dI) vwCl (ps_mdW cI cZ w0 b0 th mn kn co ln wr lt (va_up ((ps_tN (va_up f 8 (ps_d0 f mn)) mn r9)) 3 (upd ((ps_tN (va_up f 8 (ps_d0 f mn)) mn r9) 3) k9 (nI d)))) H := hP
          have hD : va_D A (ps_mdW cI cZ w0 b0 th mn kn co ln wr lt (va_up ((ps_tN (va_up f 8 (ps_d0 f mn)) mn r9)) 3 (upd ((ps_tN (va_up f 8 (ps_d0 f mn)) mn r9) 3) k9 (nI d)))) := hD
          refine lv_aload_n hx hb dX3_settle_73 rfl (lv_at hl 0 rfl) ?_
          refine va_get (D := (dC, dI)) (ci := 3) (v := .ref (b0 8)) (C := RX3) (T := TX3) (N := 17) hx hb hT inX3 hown hK hP 0 rfl rfl 11 (by decide) (hT _ tw_fl_X3_34) (fun _ h9 => h9) rfl dX3_settle_74 ?_
          refine lv_iload_n hx hb dX3_settle_77 rfl (lv_at hl 2 rfl) ?_
          refine lv_iconst (v := 1) hx hb dX3_settle_78 (by decide) ?_
          refine ps_zast (k := k9) hx hb hK hP hD hS 9 1 rfl rfl (by omega) (by decide) rfl dX3_settle_79 (fun H locs hP hD hS => ?_)
          have hP : va_P (dC, dI) vwCl (ps_mdW cI cZ w0 b0 th mn kn co ln wr lt (va_up (va_up ((ps_tN (va_up f 8 (ps_d0 f mn)) mn r9)) 3 (upd ((ps_tN (va_up f 8 (ps_d0 f mn)) mn r9) 3) k9 (nI d))) 8 (upd ((ps_tN (va_up f 8 (ps_d0 f mn)) mn r9) 8) k9 1))) H := hP
          have hD : va_D A (ps_mdW cI cZ w0 b0 th mn kn co ln wr lt (va_up (va_up ((ps_tN (va_up f 8 (ps_d0 f mn)) mn r9)) 3 (upd ((ps_tN (va_up f 8 (ps_d0 f mn)) mn r9) 3) k9 (nI d))) 8 (upd ((ps_tN (va_up f 8 (ps_d0 f mn)) mn r9) 8) k9 1))) := hD
          rw [← ps_t1_some hg e] at hP hD
          refine lv_iinc (k := 1) (v := nI (r9 + 1)) (lv' := [(1, .int (nI (r9 + 1))), (0, .ref w0), (2, .int (nI k9)), (3, .int (nI d))]) hx hb dX3_settle_80 hl rfl (ps_inc _) (by decide) rfl (fun ls hl => ?_)
          refine lv_goto (tgt := 25) hx hb dX3_settle_83 rfl ?_
          exact ih25 ((r9 + 1)) ls _ _ (by omega) ⟨by omega, lv_sub hl [1, 0] rfl, hP, hD, hS⟩
        · skip
          refine lv_iinc (k := 3) (v := nI (d + 1)) (lv' := [(3, .int (nI (d + 1))), (0, .ref w0), (1, .int (nI r9)), (2, .int (nI k9))]) hx hb dX3_settle_60 hl rfl (ps_inc _) (by decide) rfl (fun ls hl => ?_)
          refine lv_goto (tgt := 40) hx hb dX3_settle_63 rfl ?_
          exact ih40 ((d + 1)) ls (by omega) ⟨by omega, lt_s hj h57, lv_sub hl [1, 2, 3, 0] rfl⟩
  · skip
    refine lv_aload_n hx hb dX3_settle_10 rfl (lv_at hl 0 rfl) ?_
    refine va_get (D := (dC, dI)) (ci := 3) (v := .ref (b0 8)) (C := RX3) (T := TX3) (N := 17) hx hb hT inX3 hown hK hP 0 rfl rfl 11 (by decide) (hT _ tw_fl_X3_34) (fun _ h9 => h9) rfl dX3_settle_11 ?_
    refine lv_iload_n hx hb dX3_settle_14 rfl (lv_at hl 1 rfl) ?_
    refine lv_iconst (v := 0) hx hb dX3_settle_15 (by decide) ?_
    refine ps_zast (k := k) hx hb hK hP hD hS 9 1 rfl rfl (by omega) (by decide) rfl dX3_settle_16 (fun H locs hP hD hS => ?_)
    have hP : va_P (dC, dI) vwCl (ps_mdW cI cZ w0 b0 th mn kn co ln wr lt (va_up f 8 (upd (ps_d0 f k) k 0))) H := hP
    have hD : va_D A (ps_mdW cI cZ w0 b0 th mn kn co ln wr lt (va_up f 8 (upd (ps_d0 f k) k 0))) := hD
    rw [ps_d0_S] at hP hD
    refine lv_iinc (k := 1) (v := nI (k + 1)) (lv' := [(1, .int (nI (k + 1))), (0, .ref w0)]) hx hb dX3_settle_17 hl rfl (ps_inc _) (by decide) rfl (fun ls hl => ?_)
    refine lv_goto (tgt := 2) hx hb dX3_settle_20 rfl ?_
    exact ih2 ((k + 1)) ls _ _ (by omega) ⟨by omega, lv_sub hl [1, 0] rfl, hP, hD, hS⟩
set_option maxHeartbeats 4000000 in
set_option maxRecDepth 100000 in
theorem mX3_add_n (l : Launch) (dC : Nat → ClassId) (dI : Nat → Nat → Nat) (cI cZ : ClassId) (w0 : Nat) (b0 : Nat → Nat) (th : Int32) (mn kn : Nat) (co : Int32) (ln : Nat) (wr lt : Int32) (f : ps_G) (hmn : mn < 48) (v x y z c9 : Int32) (hip : ps_ip x y z = true) (hf : ps_fl (f 0) v mn = none) (sz : Nat) : Met l yX3_add (.code yX3_add cX3_add 6 (some .int) :: ps_T) ({ frames := 4, cells := 0, slots := 0, locals := 91 }) (ps_qc (dC, dI) (ps_ty cI cZ) (ps_mdW cI cZ w0 b0 th mn kn co ln wr lt f) sz [.ref w0, .int v, .int x, .int y, .int z, .int c9]) (va_Qi (fun (r : Int32) (_ : Unit) => r = ps_st (ps_ma f mn v x y z c9) (mn + 1) 3 mn) (ps_qB (dC, dI) (ps_ty cI cZ) (va_A (ps_mdW cI cZ w0 b0 th mn kn co ln wr lt f) sz) (ps_mdW cI cZ w0 b0 0 ((mn + 1)) kn co ln wr lt ((ps_st (ps_ma f mn v x y z c9) (mn + 1))))) (va_A (ps_mdW cI cZ w0 b0 th mn kn co ln wr lt f) sz)) 0 0 (va_A (ps_mdW cI cZ w0 b0 th mn kn co ln wr lt f) sz) := by
  refine Met.ofW (cc := cX3_add) (maxL := 6) (ret := (some .int)) (by decide) rfl ?_
  intro p e s m args below meth c s₁ B hml hv
  obtain ⟨rfl, hsz, hN, hP, hK, hD0⟩ := hv
  have hx := B.exec
  have hb := B.bytes
  have hr := B.returns
  have hlocks := B.notSynchronized
  have hT : ∀ w ∈ ps_T, w.before ([.ref w0, .int v, .int x, .int y, .int z, .int c9] : List Value).toArray s = true := fun w h => atoms_spec (ws := (.code yX3_add cX3_add 6 (some .int) :: ps_T)) B.pre w (List.mem_cons_of_mem _ h)
  have hown : s.vm.findClass RX3 = some m.cls := findClass_of_methodNamed B.named
  subst hsz
  have hD := hD0.self (sz := s.heap.size)
  generalize hAe : va_A (ps_mdW cI cZ w0 b0 th mn kn co ln wr lt f) s.heap.size = A at hD ⊢
  have hA : ∀ q : Nat, s.heap.size ≤ q → A q := fun q h => by rw [← hAe]; exact Or.inr h
  have hS : va_S A s.heap s.heap [] := va_S.rf
  have hl := lv_entry ([.ref w0, .int v, .int x, .int y, .int z, .int c9]) (n := 6) (Nat.le_of_ble_eq_true rfl)
  rw [lg_entry_eq]
  generalize (lg_sl ([.ref w0, .int v, .int x, .int y, .int z, .int c9]) ++ List.replicate (6 - (lg_sl ([.ref w0, .int v, .int x, .int y, .int z, .int c9])).length) Slot.unset).toArray = ls at hl ⊢
  have hl : lv_has ls 6 [(0, .ref w0), (1, .int v), (2, .int x), (3, .int y), (4, .int z), (5, .int c9)] := hl
  refine lv_aload_n hx hb dX3_add_0 rfl (lv_at hl 0 rfl) ?_
  refine lv_iconst (v := 0) hx hb dX3_add_1 (by decide) ?_
  refine va_put (D := (dC, dI)) (ci := 3) (v := .int 0) (ty := .int) (C := RX3) (T := TX3) (N := 17) hx hb hT inX3 tyX3 tyX3_ok nmX3 hown hK hP hD hS 0 rfl rfl 0 (by decide) (hT _ tw_fl_X3_45) (fun _ h9 => h9) rfl (by decide +kernel) rfl rfl (Nat.le_of_ble_eq_true rfl) dX3_add_2 (fun H locs hP hD hS => ?_)
  have hP : va_P (dC, dI) vwCl (ps_mdW cI cZ w0 b0 0 mn kn co ln wr lt f) H := hP
  have hD : va_D A (ps_mdW cI cZ w0 b0 0 mn kn co ln wr lt f) := hD
  refine lv_iload_n hx hb dX3_add_5 rfl (lv_at hl 2 rfl) ?_
  refine lv_iload_n hx hb dX3_add_6 rfl (lv_at hl 3 rfl) ?_
  refine lv_iload hx hb dX3_add_7 (lv_at hl 4 rfl) ?_
  refine vp_callSi (va_Run.run (va_runS (As := [.int x, .int y, .int z]) (rest := []) ⟨hx, hb, hml, hown, hT⟩ (mX3_isPlace l x y z) (va_cwS 3 hT (ps_gS tw_ml_X3_76 tw_st_X3_isPlace tw_in_X3 tw_co_X3_isPlace) rfl rfl rfl ⟨by decide, by decide, by decide +kernel⟩ ⟨Nat.le_of_ble_eq_true rfl, Nat.le_of_ble_eq_true rfl⟩) preEq rfl rfl hl.1 rfl (lv_room (Nat.le_of_ble_eq_true rfl)) dX3_add_9 ⟨Nat.le_of_ble_eq_true rfl, Nat.le_of_ble_eq_true rfl⟩)) (fun r hr => ?_)
  obtain rfl : r = ps_bi (ps_ip x y z) := hr
  refine ps_ifb_ne (tgt := 21) hx hb dX3_add_12 rfl (fun h12 => ?_) (fun h12 => ?_)
  · skip
    refine lv_aload_n hx hb dX3_add_21 rfl (lv_at hl 0 rfl) ?_
    refine lv_iload_n hx hb dX3_add_22 rfl (lv_at hl 1 rfl) ?_
    refine vp_callSi (va_Run.run (va_runV (C := RX3) (As := [.int v]) (rest := []) ⟨hx, hb, hml, hown, hT⟩ (mX3_find l dC dI cI cZ w0 b0 0 mn kn co ln wr lt f (by omega) v) (cwV 1 hT (ps_gV tw_ml_X3_83 tw_im_X3_find tw_se_X3_find tw_in_X3 tw_co_X3_find) rfl rfl rfl ⟨rfl, by decide, by decide, by decide +kernel⟩ ⟨Nat.le_of_ble_eq_true rfl, Nat.le_of_ble_eq_true rfl⟩) (ps_preV (ci := 3) (q0 := 0) hN hP hK rfl rfl) rfl rfl hl.1 rfl (lv_room (Nat.le_of_ble_eq_true rfl)) dX3_add_23 ⟨Nat.le_of_ble_eq_true rfl, Nat.le_of_ble_eq_true rfl⟩)) (fun r hr => ?_)
    obtain rfl : r = ps_fr (ps_fl (f 0) v mn) := hr
    refine lv_topi (fun y9 hy9 => ?_)
    obtain rfl : y9 = (-1) := hy9.trans (by rw [hf]; rfl)
    refine lv_if_ge (tgt := 38) hx hb dX3_add_26 rfl (fun h26 => ?_) (fun h26 => ?_)
    · skip
      exact absurd h26 (by decide)
    · skip
      refine lv_aload_n hx hb dX3_add_29 rfl (lv_at hl 0 rfl) ?_
      refine va_get (D := (dC, dI)) (ci := 3) (v := .int (nI mn)) (C := RX3) (T := TX3) (N := 17) hx hb hT inX3 hown hK hP 0 rfl rfl 1 (by decide) (hT _ tw_fl_X3_59) (fun _ h9 => h9) rfl dX3_add_30 ?_
      refine lv_bipush (v := 48) hx hb dX3_add_33 (by decide) ?_
      refine ps_icmp_ne (tgt := 44) (a := mn) (b := 48) hx hb dX3_add_35 rfl (by omega) (by omega) (fun h35 => ?_) (fun h35 => ?_)
      · skip
        refine lv_aload_n hx hb dX3_add_44 rfl (lv_at hl 0 rfl) ?_
        refine va_get (D := (dC, dI)) (ci := 3) (v := .ref (b0 0)) (C := RX3) (T := TX3) (N := 17) hx hb hT inX3 hown hK hP 0 rfl rfl 2 (by decide) (hT _ tw_fl_X3_7) (fun _ h9 => h9) rfl dX3_add_45 ?_
        refine lv_aload_n hx hb dX3_add_48 rfl (lv_at hl 0 rfl) ?_
        refine va_get (D := (dC, dI)) (ci := 3) (v := .int (nI mn)) (C := RX3) (T := TX3) (N := 17) hx hb hT inX3 hown hK hP 0 rfl rfl 1 (by decide) (hT _ tw_fl_X3_59) (fun _ h9 => h9) rfl dX3_add_49 ?_
        refine lv_iload_n hx hb dX3_add_52 rfl (lv_at hl 1 rfl) ?_
        refine ps_iast (k := mn) hx hb hK hP hD hS 1 0 rfl rfl (by omega) (by decide) dX3_add_53 (fun H locs hP hD hS => ?_)
        have hP : va_P (dC, dI) vwCl (ps_mdW cI cZ w0 b0 0 mn kn co ln wr lt (va_up f 0 (upd (f 0) mn v))) H := hP
        have hD : va_D A (ps_mdW cI cZ w0 b0 0 mn kn co ln wr lt (va_up f 0 (upd (f 0) mn v))) := hD
        refine lv_aload_n hx hb dX3_add_54 rfl (lv_at hl 0 rfl) ?_
        refine va_get (D := (dC, dI)) (ci := 3) (v := .ref (b0 1)) (C := RX3) (T := TX3) (N := 17) hx hb hT inX3 hown hK hP 0 rfl rfl 3 (by decide) (hT _ tw_fl_X3_13) (fun _ h9 => h9) rfl dX3_add_55 ?_
        refine lv_aload_n hx hb dX3_add_58 rfl (lv_at hl 0 rfl) ?_
        refine va_get (D := (dC, dI)) (ci := 3) (v := .int (nI mn)) (C := RX3) (T := TX3) (N := 17) hx hb hT inX3 hown hK hP 0 rfl rfl 1 (by decide) (hT _ tw_fl_X3_59) (fun _ h9 => h9) rfl dX3_add_59 ?_
        refine lv_iload_n hx hb dX3_add_62 rfl (lv_at hl 2 rfl) ?_
        refine lv_iload_n hx hb dX3_add_63 rfl (lv_at hl 3 rfl) ?_
        refine lv_iload hx hb dX3_add_64 (lv_at hl 4 rfl) ?_
        refine vp_callSi (va_Run.run (va_runS (As := [.int x, .int y, .int z]) (rest := [.int (nI mn), .ref (b0 1)]) ⟨hx, hb, hml, hown, hT⟩ (mX3_packed l x y z) (va_cwS 3 hT (ps_gS tw_ml_X3_86 tw_st_X3_packed tw_in_X3 tw_co_X3_packed) rfl rfl rfl ⟨by decide, by decide, by decide +kernel⟩ ⟨Nat.le_of_ble_eq_true rfl, Nat.le_of_ble_eq_true rfl⟩) preEq rfl rfl hl.1 rfl (lv_room (Nat.le_of_ble_eq_true rfl)) dX3_add_66 ⟨Nat.le_of_ble_eq_true rfl, Nat.le_of_ble_eq_true rfl⟩)) (fun r hr => ?_)
        obtain rfl : r = ps_pk x y z := hr
        refine ps_iast (k := mn) hx hb hK hP hD hS 2 0 rfl rfl (by omega) (by decide) dX3_add_69 (fun H locs hP hD hS => ?_)
        have hP : va_P (dC, dI) vwCl (ps_mdW cI cZ w0 b0 0 mn kn co ln wr lt (va_up (va_up f 0 (upd (f 0) mn v)) 1 (upd (f 1) mn (ps_pk x y z)))) H := hP
        have hD : va_D A (ps_mdW cI cZ w0 b0 0 mn kn co ln wr lt (va_up (va_up f 0 (upd (f 0) mn v)) 1 (upd (f 1) mn (ps_pk x y z)))) := hD
        refine lv_aload_n hx hb dX3_add_70 rfl (lv_at hl 0 rfl) ?_
        refine va_get (D := (dC, dI)) (ci := 3) (v := .ref (b0 2)) (C := RX3) (T := TX3) (N := 17) hx hb hT inX3 hown hK hP 0 rfl rfl 4 (by decide) (hT _ tw_fl_X3_16) (fun _ h9 => h9) rfl dX3_add_71 ?_
        refine lv_aload_n hx hb dX3_add_74 rfl (lv_at hl 0 rfl) ?_
        refine va_get (D := (dC, dI)) (ci := 3) (v := .int (nI mn)) (C := RX3) (T := TX3) (N := 17) hx hb hT inX3 hown hK hP 0 rfl rfl 1 (by decide) (hT _ tw_fl_X3_59) (fun _ h9 => h9) rfl dX3_add_75 ?_
        refine lv_iload hx hb dX3_add_78 (lv_at hl 5 rfl) ?_
        refine ps_iast (k := mn) hx hb hK hP hD hS 3 0 rfl rfl (by omega) (by decide) dX3_add_80 (fun H locs hP hD hS => ?_)
        have hP : va_P (dC, dI) vwCl (ps_mdW cI cZ w0 b0 0 mn kn co ln wr lt (va_up (va_up (va_up f 0 (upd (f 0) mn v)) 1 (upd (f 1) mn (ps_pk x y z))) 2 (upd (f 2) mn c9))) H := hP
        have hD : va_D A (ps_mdW cI cZ w0 b0 0 mn kn co ln wr lt (va_up (va_up (va_up f 0 (upd (f 0) mn v)) 1 (upd (f 1) mn (ps_pk x y z))) 2 (upd (f 2) mn c9))) := hD
        refine lv_aload_n hx hb dX3_add_81 rfl (lv_at hl 0 rfl) ?_
        refine lv_dup hx hb dX3_add_82 rfl ?_
        refine va_get (D := (dC, dI)) (ci := 3) (v := .int (nI mn)) (C := RX3) (T := TX3) (N := 17) hx hb hT inX3 hown hK hP 0 rfl rfl 1 (by decide) (hT _ tw_fl_X3_59) (fun _ h9 => h9) rfl dX3_add_83 ?_
        refine lv_iconst (v := 1) hx hb dX3_add_86 (by decide) ?_
        refine lv_iadd hx hb dX3_add_87 ?_
        rw [nI_1]
        refine va_put (D := (dC, dI)) (ci := 3) (v := .int (nI (mn + 1))) (ty := .int) (C := RX3) (T := TX3) (N := 17) hx hb hT inX3 tyX3 tyX3_ok nmX3 hown hK hP hD hS 0 rfl rfl 1 (by decide) (hT _ tw_fl_X3_59) (fun _ h9 => h9) rfl (by decide +kernel) rfl rfl (Nat.le_of_ble_eq_true rfl) dX3_add_88 (fun H locs hP hD hS => ?_)
        have hP : va_P (dC, dI) vwCl (ps_mdW cI cZ w0 b0 0 (mn + 1) kn co ln wr lt (va_up (va_up (va_up f 0 (upd (f 0) mn v)) 1 (upd (f 1) mn (ps_pk x y z))) 2 (upd (f 2) mn c9))) H := hP
        have hD : va_D A (ps_mdW cI cZ w0 b0 0 (mn + 1) kn co ln wr lt (va_up (va_up (va_up f 0 (upd (f 0) mn v)) 1 (upd (f 1) mn (ps_pk x y z))) 2 (upd (f 2) mn c9))) := hD
        refine lv_aload_n hx hb dX3_add_91 rfl (lv_at hl 0 rfl) ?_
        refine ps_cqv (wc := ps_mdW cI cZ w0 b0 0 (mn + 1) kn co ln wr lt (va_up (va_up (va_up f 0 (upd (f 0) mn v)) 1 (upd (f 1) mn (ps_pk x y z))) 2 (upd (f 2) mn c9))) (wr := []) (w1 := ps_mdW cI cZ w0 b0 0 (mn + 1) kn co ln wr lt ((ps_st (va_up (va_up (va_up f 0 (upd (f 0) mn v)) 1 (upd (f 1) mn (ps_pk x y z))) 2 (upd (f 2) mn c9)) (mn + 1)))) (ws2 := ps_mdW cI cZ w0 b0 0 (mn + 1) kn co ln wr lt ((ps_st (va_up (va_up (va_up f 0 (upd (f 0) mn v)) 1 (upd (f 1) mn (ps_pk x y z))) 2 (upd (f 2) mn c9)) (mn + 1)))) (va_runV (C := RX3) (As := []) (rest := []) ⟨hx, hb, hml, hown, hT⟩ (mX3_settle l dC dI cI cZ w0 b0 0 (mn + 1) kn co ln wr lt (va_up (va_up (va_up f 0 (upd (f 0) mn v)) 1 (upd (f 1) mn (ps_pk x y z))) 2 (upd (f 2) mn c9)) (by omega) _) (cwV 0 hT (ps_gV tw_ml_X3_90 tw_im_X3_settle tw_se_X3_settle tw_in_X3 tw_co_X3_settle) rfl rfl rfl ⟨rfl, by decide, by decide, by decide +kernel⟩ ⟨Nat.le_of_ble_eq_true rfl, Nat.le_of_ble_eq_true rfl⟩) (ps_qreV (wc := ps_mdW cI cZ w0 b0 0 (mn + 1) kn co ln wr lt (va_up (va_up (va_up f 0 (upd (f 0) mn v)) 1 (upd (f 1) mn (ps_pk x y z))) 2 (upd (f 2) mn c9))) (ci := 3) [0, 1, 2, 3, 4, 5, 6, 7, 8, 9, 10] hN hP hK hD rfl rfl rfl rfl rfl) rfl rfl hl.1 rfl (lv_room (Nat.le_of_ble_eq_true rfl)) dX3_add_92 ⟨Nat.le_of_ble_eq_true rfl, Nat.le_of_ble_eq_true rfl⟩) hS hA hP hD [0, 1, 2, 3, 4, 5, 6, 7, 8, 9, 10] [] [0, 1, 2, 3, 4, 5, 6, 7, 8, 9, 10] rfl rfl rfl (by decide) rfl rfl rfl (fun H locs hP hD hS => ?_)
        refine lv_aload_n hx hb dX3_add_95 rfl (lv_at hl 0 rfl) ?_
        refine va_get (D := (dC, dI)) (ci := 3) (v := .ref (b0 3)) (C := RX3) (T := TX3) (N := 17) hx hb hT inX3 hown hK hP 0 rfl rfl 5 (by decide) (hT _ tw_fl_X3_19) (fun _ h9 => h9) rfl dX3_add_96 ?_
        refine lv_aload_n hx hb dX3_add_99 rfl (lv_at hl 0 rfl) ?_
        refine va_get (D := (dC, dI)) (ci := 3) (v := .int (nI (mn + 1))) (C := RX3) (T := TX3) (N := 17) hx hb hT inX3 hown hK hP 0 rfl rfl 1 (by decide) (hT _ tw_fl_X3_59) (fun _ h9 => h9) rfl dX3_add_100 ?_
        refine lv_iconst (v := 1) hx hb dX3_add_103 (by decide) ?_
        refine lv_isub hx hb dX3_add_104 ?_
        refine lv_topi (fun y9 hy9 => ?_)
        obtain rfl : y9 = nI mn := hy9.trans (ps_dec (n := mn + 1) (by omega))
        refine ps_iald (k := mn) (f := (ps_st (va_up (va_up (va_up f 0 (upd (f 0) mn v)) 1 (upd (f 1) mn (ps_pk x y z))) 2 (upd (f 2) mn c9)) (mn + 1)) 3) hx hb hK hP 4 0 rfl rfl (by omega) (by decide) dX3_add_105 ?_
        exact W.iret (v := ((ps_st (va_up (va_up (va_up f 0 (upd (f 0) mn v)) 1 (upd (f 1) mn (ps_pk x y z))) 2 (upd (f 2) mn c9)) (mn + 1)) 3) mn) hx hb hr (fun t ht hW => ⟨⟨((ps_st (va_up (va_up (va_up f 0 (upd (f 0) mn v)) 1 (upd (f 1) mn (ps_pk x y z))) 2 (upd (f 2) mn c9)) (mn + 1)) 3) mn, (), rfl, rfl, by rw [ht]; exact hP, va_K.moved hW.alike hK, hD⟩, hS.F ht⟩) hS.2.2 dX3_add_106
      · skip
        exact absurd h35 (by omega)
  · skip
    exact Bool.noConfusion (hip.symm.trans h12)
set_option maxHeartbeats 4000000 in
set_option maxRecDepth 100000 in
theorem mX3_add_1 (l : Launch) (dC : Nat → ClassId) (dI : Nat → Nat → Nat) (cI cZ : ClassId) (w0 : Nat) (b0 : Nat → Nat) (th : Int32) (mn kn : Nat) (co : Int32) (ln : Nat) (wr lt : Int32) (f : ps_G) (hmn : mn ≤ 48) (v x y z c9 : Int32) (hip : ps_ip x y z = false) (sz : Nat) : Met l yX3_add (.code yX3_add cX3_add 6 (some .int) :: ps_T) ({ frames := 2, cells := 0, slots := 0, locals := 44 }) (ps_qc (dC, dI) (ps_ty cI cZ) (ps_mdW cI cZ w0 b0 th mn kn co ln wr lt f) sz [.ref w0, .int v, .int x, .int y, .int z, .int c9]) (va_Qi (fun (r : Int32) (_ : Unit) => r = 0) (ps_qB (dC, dI) (ps_ty cI cZ) (va_A (ps_mdW cI cZ w0 b0 th mn kn co ln wr lt f) sz) (ps_mdW cI cZ w0 b0 1 mn kn co ln wr lt f)) (va_A (ps_mdW cI cZ w0 b0 th mn kn co ln wr lt f) sz)) 0 0 (va_A (ps_mdW cI cZ w0 b0 th mn kn co ln wr lt f) sz) := by
  refine Met.ofW (cc := cX3_add) (maxL := 6) (ret := (some .int)) (by decide) rfl ?_
  intro p e s m args below meth c s₁ B hml hv
  obtain ⟨rfl, hsz, hN, hP, hK, hD0⟩ := hv
  have hx := B.exec
  have hb := B.bytes
  have hr := B.returns
  have hlocks := B.notSynchronized
  have hT : ∀ w ∈ ps_T, w.before ([.ref w0, .int v, .int x, .int y, .int z, .int c9] : List Value).toArray s = true := fun w h => atoms_spec (ws := (.code yX3_add cX3_add 6 (some .int) :: ps_T)) B.pre w (List.mem_cons_of_mem _ h)
  have hown : s.vm.findClass RX3 = some m.cls := findClass_of_methodNamed B.named
  subst hsz
  have hD := hD0.self (sz := s.heap.size)
  generalize hAe : va_A (ps_mdW cI cZ w0 b0 th mn kn co ln wr lt f) s.heap.size = A at hD ⊢
  have hA : ∀ q : Nat, s.heap.size ≤ q → A q := fun q h => by rw [← hAe]; exact Or.inr h
  have hS : va_S A s.heap s.heap [] := va_S.rf
  have hl := lv_entry ([.ref w0, .int v, .int x, .int y, .int z, .int c9]) (n := 6) (Nat.le_of_ble_eq_true rfl)
  rw [lg_entry_eq]
  generalize (lg_sl ([.ref w0, .int v, .int x, .int y, .int z, .int c9]) ++ List.replicate (6 - (lg_sl ([.ref w0, .int v, .int x, .int y, .int z, .int c9])).length) Slot.unset).toArray = ls at hl ⊢
  have hl : lv_has ls 6 [(0, .ref w0), (1, .int v), (2, .int x), (3, .int y), (4, .int z), (5, .int c9)] := hl
  refine lv_aload_n hx hb dX3_add_0 rfl (lv_at hl 0 rfl) ?_
  refine lv_iconst (v := 0) hx hb dX3_add_1 (by decide) ?_
  refine va_put (D := (dC, dI)) (ci := 3) (v := .int 0) (ty := .int) (C := RX3) (T := TX3) (N := 17) hx hb hT inX3 tyX3 tyX3_ok nmX3 hown hK hP hD hS 0 rfl rfl 0 (by decide) (hT _ tw_fl_X3_45) (fun _ h9 => h9) rfl (by decide +kernel) rfl rfl (Nat.le_of_ble_eq_true rfl) dX3_add_2 (fun H locs hP hD hS => ?_)
  have hP : va_P (dC, dI) vwCl (ps_mdW cI cZ w0 b0 0 mn kn co ln wr lt f) H := hP
  have hD : va_D A (ps_mdW cI cZ w0 b0 0 mn kn co ln wr lt f) := hD
  refine lv_iload_n hx hb dX3_add_5 rfl (lv_at hl 2 rfl) ?_
  refine lv_iload_n hx hb dX3_add_6 rfl (lv_at hl 3 rfl) ?_
  refine lv_iload hx hb dX3_add_7 (lv_at hl 4 rfl) ?_
  refine vp_callSi (va_Run.run (va_runS (As := [.int x, .int y, .int z]) (rest := []) ⟨hx, hb, hml, hown, hT⟩ (mX3_isPlace l x y z) (va_cwS 3 hT (ps_gS tw_ml_X3_76 tw_st_X3_isPlace tw_in_X3 tw_co_X3_isPlace) rfl rfl rfl ⟨by decide, by decide, by decide +kernel⟩ ⟨Nat.le_of_ble_eq_true rfl, Nat.le_of_ble_eq_true rfl⟩) preEq rfl rfl hl.1 rfl (lv_room (Nat.le_of_ble_eq_true rfl)) dX3_add_9 ⟨Nat.le_of_ble_eq_true rfl, Nat.le_of_ble_eq_true rfl⟩)) (fun r hr => ?_)
  obtain rfl : r = ps_bi (ps_ip x y z) := hr
  refine ps_ifb_ne (tgt := 21) hx hb dX3_add_12 rfl (fun h12 => ?_) (fun h12 => ?_)
  · skip
    exact Bool.noConfusion (hip.symm.trans h12)
  · skip
    refine lv_aload_n hx hb dX3_add_15 rfl (lv_at hl 0 rfl) ?_
    refine lv_iconst (v := 1) hx hb dX3_add_16 (by decide) ?_
    refine ps_cqi (wc := ps_mdW cI cZ w0 b0 0 mn kn co ln wr lt f) (wr := []) (w1 := ps_mdW cI cZ w0 b0 1 mn kn co ln wr lt f) (ws2 := ps_mdW cI cZ w0 b0 1 mn kn co ln wr lt f) (va_runV (C := RX3) (As := [.int 1]) (rest := []) ⟨hx, hb, hml, hown, hT⟩ (mX3_fails l dC dI cI cZ w0 b0 0 mn kn co ln wr lt f 1 _) (cwV 1 hT (ps_gV tw_ml_X3_79 tw_im_X3_fails tw_se_X3_fails tw_in_X3 tw_co_X3_fails) rfl rfl rfl ⟨rfl, by decide, by decide, by decide +kernel⟩ ⟨Nat.le_of_ble_eq_true rfl, Nat.le_of_ble_eq_true rfl⟩) (ps_qreV (wc := ps_mdW cI cZ w0 b0 0 mn kn co ln wr lt f) (ci := 3) [0, 1, 2, 3, 4, 5, 6, 7, 8, 9, 10] hN hP hK hD rfl rfl rfl rfl rfl) rfl rfl hl.1 rfl (lv_room (Nat.le_of_ble_eq_true rfl)) dX3_add_17 ⟨Nat.le_of_ble_eq_true rfl, Nat.le_of_ble_eq_true rfl⟩) hS hA hP hD [0, 1, 2, 3, 4, 5, 6, 7, 8, 9, 10] [] [0, 1, 2, 3, 4, 5, 6, 7, 8, 9, 10] rfl rfl rfl (by decide) rfl rfl rfl (fun H locs hP hD hS => ?_)
    exact W.iret (v := 0) hx hb hr (fun t ht hW => ⟨⟨0, (), rfl, rfl, by rw [ht]; exact hP, va_K.moved hW.alike hK, hD⟩, hS.F ht⟩) hS.2.2 dX3_add_20
set_option maxHeartbeats 4000000 in
set_option maxRecDepth 100000 in
theorem mX3_add_2 (l : Launch) (dC : Nat → ClassId) (dI : Nat → Nat → Nat) (cI cZ : ClassId) (w0 : Nat) (b0 : Nat → Nat) (th : Int32) (mn kn : Nat) (co : Int32) (ln : Nat) (wr lt : Int32) (f : ps_G) (hmn : mn ≤ 48) (v x y z c9 : Int32) (hip : ps_ip x y z = true) (hbad : ps_fl (f 0) v mn = none → mn = 48) (sz : Nat) : Met l yX3_add (.code yX3_add cX3_add 6 (some .int) :: ps_T) ({ frames := 2, cells := 0, slots := 0, locals := 44 }) (ps_qc (dC, dI) (ps_ty cI cZ) (ps_mdW cI cZ w0 b0 th mn kn co ln wr lt f) sz [.ref w0, .int v, .int x, .int y, .int z, .int c9]) (va_Qi (fun (r : Int32) (_ : Unit) => r = 0) (ps_qB (dC, dI) (ps_ty cI cZ) (va_A (ps_mdW cI cZ w0 b0 th mn kn co ln wr lt f) sz) (ps_mdW cI cZ w0 b0 2 mn kn co ln wr lt f)) (va_A (ps_mdW cI cZ w0 b0 th mn kn co ln wr lt f) sz)) 0 0 (va_A (ps_mdW cI cZ w0 b0 th mn kn co ln wr lt f) sz) := by
  refine Met.ofW (cc := cX3_add) (maxL := 6) (ret := (some .int)) (by decide) rfl ?_
  intro p e s m args below meth c s₁ B hml hv
  obtain ⟨rfl, hsz, hN, hP, hK, hD0⟩ := hv
  have hx := B.exec
  have hb := B.bytes
  have hr := B.returns
  have hlocks := B.notSynchronized
  have hT : ∀ w ∈ ps_T, w.before ([.ref w0, .int v, .int x, .int y, .int z, .int c9] : List Value).toArray s = true := fun w h => atoms_spec (ws := (.code yX3_add cX3_add 6 (some .int) :: ps_T)) B.pre w (List.mem_cons_of_mem _ h)
  have hown : s.vm.findClass RX3 = some m.cls := findClass_of_methodNamed B.named
  subst hsz
  have hD := hD0.self (sz := s.heap.size)
  generalize hAe : va_A (ps_mdW cI cZ w0 b0 th mn kn co ln wr lt f) s.heap.size = A at hD ⊢
  have hA : ∀ q : Nat, s.heap.size ≤ q → A q := fun q h => by rw [← hAe]; exact Or.inr h
  have hS : va_S A s.heap s.heap [] := va_S.rf
  have hl := lv_entry ([.ref w0, .int v, .int x, .int y, .int z, .int c9]) (n := 6) (Nat.le_of_ble_eq_true rfl)
  rw [lg_entry_eq]
  generalize (lg_sl ([.ref w0, .int v, .int x, .int y, .int z, .int c9]) ++ List.replicate (6 - (lg_sl ([.ref w0, .int v, .int x, .int y, .int z, .int c9])).length) Slot.unset).toArray = ls at hl ⊢
  have hl : lv_has ls 6 [(0, .ref w0), (1, .int v), (2, .int x), (3, .int y), (4, .int z), (5, .int c9)] := hl
  refine lv_aload_n hx hb dX3_add_0 rfl (lv_at hl 0 rfl) ?_
  refine lv_iconst (v := 0) hx hb dX3_add_1 (by decide) ?_
  refine va_put (D := (dC, dI)) (ci := 3) (v := .int 0) (ty := .int) (C := RX3) (T := TX3) (N := 17) hx hb hT inX3 tyX3 tyX3_ok nmX3 hown hK hP hD hS 0 rfl rfl 0 (by decide) (hT _ tw_fl_X3_45) (fun _ h9 => h9) rfl (by decide +kernel) rfl rfl (Nat.le_of_ble_eq_true rfl) dX3_add_2 (fun H locs hP hD hS => ?_)
  have hP : va_P (dC, dI) vwCl (ps_mdW cI cZ w0 b0 0 mn kn co ln wr lt f) H := hP
  have hD : va_D A (ps_mdW cI cZ w0 b0 0 mn kn co ln wr lt f) := hD
  refine lv_iload_n hx hb dX3_add_5 rfl (lv_at hl 2 rfl) ?_
  refine lv_iload_n hx hb dX3_add_6 rfl (lv_at hl 3 rfl) ?_
  refine lv_iload hx hb dX3_add_7 (lv_at hl 4 rfl) ?_
  refine vp_callSi (va_Run.run (va_runS (As := [.int x, .int y, .int z]) (rest := []) ⟨hx, hb, hml, hown, hT⟩ (mX3_isPlace l x y z) (va_cwS 3 hT (ps_gS tw_ml_X3_76 tw_st_X3_isPlace tw_in_X3 tw_co_X3_isPlace) rfl rfl rfl ⟨by decide, by decide, by decide +kernel⟩ ⟨Nat.le_of_ble_eq_true rfl, Nat.le_of_ble_eq_true rfl⟩) preEq rfl rfl hl.1 rfl (lv_room (Nat.le_of_ble_eq_true rfl)) dX3_add_9 ⟨Nat.le_of_ble_eq_true rfl, Nat.le_of_ble_eq_true rfl⟩)) (fun r hr => ?_)
  obtain rfl : r = ps_bi (ps_ip x y z) := hr
  refine ps_ifb_ne (tgt := 21) hx hb dX3_add_12 rfl (fun h12 => ?_) (fun h12 => ?_)
  · skip
    refine lv_aload_n hx hb dX3_add_21 rfl (lv_at hl 0 rfl) ?_
    refine lv_iload_n hx hb dX3_add_22 rfl (lv_at hl 1 rfl) ?_
    refine vp_callSi (va_Run.run (va_runV (C := RX3) (As := [.int v]) (rest := []) ⟨hx, hb, hml, hown, hT⟩ (mX3_find l dC dI cI cZ w0 b0 0 mn kn co ln wr lt f (hmn) v) (cwV 1 hT (ps_gV tw_ml_X3_83 tw_im_X3_find tw_se_X3_find tw_in_X3 tw_co_X3_find) rfl rfl rfl ⟨rfl, by decide, by decide, by decide +kernel⟩ ⟨Nat.le_of_ble_eq_true rfl, Nat.le_of_ble_eq_true rfl⟩) (ps_preV (ci := 3) (q0 := 0) hN hP hK rfl rfl) rfl rfl hl.1 rfl (lv_room (Nat.le_of_ble_eq_true rfl)) dX3_add_23 ⟨Nat.le_of_ble_eq_true rfl, Nat.le_of_ble_eq_true rfl⟩)) (fun r hr => ?_)
    obtain rfl : r = ps_fr (ps_fl (f 0) v mn) := hr
    rcases hf : ps_fl (f 0) v mn with _ | w9
    · skip
      show W _ _ _ _ _ _ _ _ _ _ _ _ _ _ _ (F0 _ _ _ (.int (-1) :: []))
      refine lv_if_ge (tgt := 38) hx hb dX3_add_26 rfl (fun h26 => ?_) (fun h26 => ?_)
      · skip
        exact absurd h26 (by decide)
      · skip
        refine lv_aload_n hx hb dX3_add_29 rfl (lv_at hl 0 rfl) ?_
        refine va_get (D := (dC, dI)) (ci := 3) (v := .int (nI mn)) (C := RX3) (T := TX3) (N := 17) hx hb hT inX3 hown hK hP 0 rfl rfl 1 (by decide) (hT _ tw_fl_X3_59) (fun _ h9 => h9) rfl dX3_add_30 ?_
        refine lv_bipush (v := 48) hx hb dX3_add_33 (by decide) ?_
        refine ps_icmp_ne (tgt := 44) (a := mn) (b := 48) hx hb dX3_add_35 rfl (by omega) (by omega) (fun h35 => ?_) (fun h35 => ?_)
        · skip
          have h48 := hbad hf
          exact absurd h35 (by omega)
        · skip
          refine lv_aload_n hx hb dX3_add_38 rfl (lv_at hl 0 rfl) ?_
          refine lv_iconst (v := 2) hx hb dX3_add_39 (by decide) ?_
          refine ps_cqi (wc := ps_mdW cI cZ w0 b0 0 mn kn co ln wr lt f) (wr := []) (w1 := ps_mdW cI cZ w0 b0 2 mn kn co ln wr lt f) (ws2 := ps_mdW cI cZ w0 b0 2 mn kn co ln wr lt f) (va_runV (C := RX3) (As := [.int 2]) (rest := []) ⟨hx, hb, hml, hown, hT⟩ (mX3_fails l dC dI cI cZ w0 b0 0 mn kn co ln wr lt f 2 _) (cwV 1 hT (ps_gV tw_ml_X3_79 tw_im_X3_fails tw_se_X3_fails tw_in_X3 tw_co_X3_fails) rfl rfl rfl ⟨rfl, by decide, by decide, by decide +kernel⟩ ⟨Nat.le_of_ble_eq_true rfl, Nat.le_of_ble_eq_true rfl⟩) (ps_qreV (wc := ps_mdW cI cZ w0 b0 0 mn kn co ln wr lt f) (ci := 3) [0, 1, 2, 3, 4, 5, 6, 7, 8, 9, 10] hN hP hK hD rfl rfl rfl rfl rfl) rfl rfl hl.1 rfl (lv_room (Nat.le_of_ble_eq_true rfl)) dX3_add_40 ⟨Nat.le_of_ble_eq_true rfl, Nat.le_of_ble_eq_true rfl⟩) hS hA hP hD [0, 1, 2, 3, 4, 5, 6, 7, 8, 9, 10] [] [0, 1, 2, 3, 4, 5, 6, 7, 8, 9, 10] rfl rfl rfl (by decide) rfl rfl rfl (fun H locs hP hD hS => ?_)
          exact W.iret (v := 0) hx hb hr (fun t ht hW => ⟨⟨0, (), rfl, rfl, by rw [ht]; exact hP, va_K.moved hW.alike hK, hD⟩, hS.F ht⟩) hS.2.2 dX3_add_43
    · skip
      show W _ _ _ _ _ _ _ _ _ _ _ _ _ _ _ (F0 _ _ _ (.int (nI w9) :: []))
      have hw9 := (ps_fl_spec hf).1
      refine lv_if_ge (tgt := 38) hx hb dX3_add_26 rfl (fun h26 => ?_) (fun h26 => ?_)
      · skip
        refine lv_aload_n hx hb dX3_add_38 rfl (lv_at hl 0 rfl) ?_
        refine lv_iconst (v := 2) hx hb dX3_add_39 (by decide) ?_
        refine ps_cqi (wc := ps_mdW cI cZ w0 b0 0 mn kn co ln wr lt f) (wr := []) (w1 := ps_mdW cI cZ w0 b0 2 mn kn co ln wr lt f) (ws2 := ps_mdW cI cZ w0 b0 2 mn kn co ln wr lt f) (va_runV (C := RX3) (As := [.int 2]) (rest := []) ⟨hx, hb, hml, hown, hT⟩ (mX3_fails l dC dI cI cZ w0 b0 0 mn kn co ln wr lt f 2 _) (cwV 1 hT (ps_gV tw_ml_X3_79 tw_im_X3_fails tw_se_X3_fails tw_in_X3 tw_co_X3_fails) rfl rfl rfl ⟨rfl, by decide, by decide, by decide +kernel⟩ ⟨Nat.le_of_ble_eq_true rfl, Nat.le_of_ble_eq_true rfl⟩) (ps_qreV (wc := ps_mdW cI cZ w0 b0 0 mn kn co ln wr lt f) (ci := 3) [0, 1, 2, 3, 4, 5, 6, 7, 8, 9, 10] hN hP hK hD rfl rfl rfl rfl rfl) rfl rfl hl.1 rfl (lv_room (Nat.le_of_ble_eq_true rfl)) dX3_add_40 ⟨Nat.le_of_ble_eq_true rfl, Nat.le_of_ble_eq_true rfl⟩) hS hA hP hD [0, 1, 2, 3, 4, 5, 6, 7, 8, 9, 10] [] [0, 1, 2, 3, 4, 5, 6, 7, 8, 9, 10] rfl rfl rfl (by decide) rfl rfl rfl (fun H locs hP hD hS => ?_)
        exact W.iret (v := 0) hx hb hr (fun t ht hW => ⟨⟨0, (), rfl, rfl, by rw [ht]; exact hP, va_K.moved hW.alike hK, hD⟩, hS.F ht⟩) hS.2.2 dX3_add_43
      · skip
        exact absurd (nI_pos' (by omega)) h26
  · skip
    exact Bool.noConfusion (hip.symm.trans h12)
set_option maxHeartbeats 4000000 in
set_option maxRecDepth 100000 in
theorem mX3_remove_n (l : Launch) (dC : Nat → ClassId) (dI : Nat → Nat → Nat) (cI cZ : ClassId) (w0 : Nat) (b0 : Nat → Nat) (th : Int32) (mn kn : Nat) (co : Int32) (ln : Nat) (wr lt : Int32) (f : ps_G) (hmn : mn ≤ 48) (v : Int32) (k : Nat) (hf : ps_fl (f 0) v mn = some k) (sz : Nat) : Met l yX3_remove (.code yX3_remove cX3_remove 4 (some .int) :: ps_T) ({ frames := 4, cells := 0, slots := 0, locals := 91 }) (ps_qc (dC, dI) (ps_ty cI cZ) (ps_mdW cI cZ w0 b0 th mn kn co ln wr lt f) sz [.ref w0, .int v]) (va_Qi (fun (r : Int32) (_ : Unit) => r = f 3 k) (ps_qB (dC, dI) (ps_ty cI cZ) (va_A (ps_mdW cI cZ w0 b0 th mn kn co ln wr lt f) sz) (ps_mdW cI cZ w0 b0 0 ((mn - 1)) kn co ln wr lt ((ps_st (ps_mr f mn k) (mn - 1))))) (va_A (ps_mdW cI cZ w0 b0 th mn kn co ln wr lt f) sz)) 0 0 (va_A (ps_mdW cI cZ w0 b0 th mn kn co ln wr lt f) sz) := by
  refine Met.ofW (cc := cX3_remove) (maxL := 4) (ret := (some .int)) (by decide) rfl ?_
  intro p e s m args below meth c s₁ B hml hv
  obtain ⟨rfl, hsz, hN, hP, hK, hD0⟩ := hv
  have hx := B.exec
  have hb := B.bytes
  have hr := B.returns
  have hlocks := B.notSynchronized
  have hT : ∀ w ∈ ps_T, w.before ([.ref w0, .int v] : List Value).toArray s = true := fun w h => atoms_spec (ws := (.code yX3_remove cX3_remove 4 (some .int) :: ps_T)) B.pre w (List.mem_cons_of_mem _ h)
  have hown : s.vm.findClass RX3 = some m.cls := findClass_of_methodNamed B.named
  subst hsz
  have hD := hD0.self (sz := s.heap.size)
  generalize hAe : va_A (ps_mdW cI cZ w0 b0 th mn kn co ln wr lt f) s.heap.size = A at hD ⊢
  have hA : ∀ q : Nat, s.heap.size ≤ q → A q := fun q h => by rw [← hAe]; exact Or.inr h
  have hS : va_S A s.heap s.heap [] := va_S.rf
  have hl := lv_entry ([.ref w0, .int v]) (n := 4) (Nat.le_of_ble_eq_true rfl)
  rw [lg_entry_eq]
  generalize (lg_sl ([.ref w0, .int v]) ++ List.replicate (4 - (lg_sl ([.ref w0, .int v])).length) Slot.unset).toArray = ls at hl ⊢
  have hl : lv_has ls 4 [(0, .ref w0), (1, .int v)] := hl
  have hk := (ps_fl_spec hf).1
  refine lv_aload_n hx hb dX3_remove_0 rfl (lv_at hl 0 rfl) ?_
  refine lv_iconst (v := 0) hx hb dX3_remove_1 (by decide) ?_
  refine va_put (D := (dC, dI)) (ci := 3) (v := .int 0) (ty := .int) (C := RX3) (T := TX3) (N := 17) hx hb hT inX3 tyX3 tyX3_ok nmX3 hown hK hP hD hS 0 rfl rfl 0 (by decide) (hT _ tw_fl_X3_45) (fun _ h9 => h9) rfl (by decide +kernel) rfl rfl (Nat.le_of_ble_eq_true rfl) dX3_remove_2 (fun H locs hP hD hS => ?_)
  have hP : va_P (dC, dI) vwCl (ps_mdW cI cZ w0 b0 0 mn kn co ln wr lt f) H := hP
  have hD : va_D A (ps_mdW cI cZ w0 b0 0 mn kn co ln wr lt f) := hD
  refine lv_aload_n hx hb dX3_remove_5 rfl (lv_at hl 0 rfl) ?_
  refine lv_iload_n hx hb dX3_remove_6 rfl (lv_at hl 1 rfl) ?_
  refine vp_callSi (va_Run.run (va_runV (C := RX3) (As := [.int v]) (rest := []) ⟨hx, hb, hml, hown, hT⟩ (mX3_find l dC dI cI cZ w0 b0 0 mn kn co ln wr lt f (hmn) v) (cwV 1 hT (ps_gV tw_ml_X3_83 tw_im_X3_find tw_se_X3_find tw_in_X3 tw_co_X3_find) rfl rfl rfl ⟨rfl, by decide, by decide, by decide +kernel⟩ ⟨Nat.le_of_ble_eq_true rfl, Nat.le_of_ble_eq_true rfl⟩) (ps_preV (ci := 3) (q0 := 0) hN hP hK rfl rfl) rfl rfl hl.1 rfl (lv_room (Nat.le_of_ble_eq_true rfl)) dX3_remove_7 ⟨Nat.le_of_ble_eq_true rfl, Nat.le_of_ble_eq_true rfl⟩)) (fun r hr => ?_)
  obtain rfl : r = ps_fr (ps_fl (f 0) v mn) := hr
  refine lv_topi (fun y9 hy9 => ?_)
  obtain rfl : y9 = nI k := hy9.trans (by rw [hf]; rfl)
  refine lv_istore_n (lv' := [(2, .int (nI k)), (0, .ref w0), (1, .int v)]) hx hb dX3_remove_10 rfl hl (by decide) rfl (fun ls hl => ?_)
  refine lv_iload_n hx hb dX3_remove_11 rfl (lv_at hl 0 rfl) ?_
  refine lv_if_ge (tgt := 21) hx hb dX3_remove_12 rfl (fun h12 => ?_) (fun h12 => ?_)
  · skip
    refine lv_aload_n hx hb dX3_remove_21 rfl (lv_at hl 1 rfl) ?_
    refine va_get (D := (dC, dI)) (ci := 3) (v := .ref (b0 3)) (C := RX3) (T := TX3) (N := 17) hx hb hT inX3 hown hK hP 0 rfl rfl 5 (by decide) (hT _ tw_fl_X3_19) (fun _ h9 => h9) rfl dX3_remove_22 ?_
    refine lv_iload_n hx hb dX3_remove_25 rfl (lv_at hl 0 rfl) ?_
    refine ps_iald (k := k) (f := f 3) hx hb hK hP 4 0 rfl rfl (by omega) (by decide) dX3_remove_26 ?_
    refine lv_istore_n (lv' := [(3, .int (f 3 k)), (2, .int (nI k)), (0, .ref w0), (1, .int v)]) hx hb dX3_remove_27 rfl hl (by decide) rfl (fun ls hl => ?_)
    refine lv_aload_n hx hb dX3_remove_28 rfl (lv_at hl 2 rfl) ?_
    refine lv_dup hx hb dX3_remove_29 rfl ?_
    refine va_get (D := (dC, dI)) (ci := 3) (v := .int (nI mn)) (C := RX3) (T := TX3) (N := 17) hx hb hT inX3 hown hK hP 0 rfl rfl 1 (by decide) (hT _ tw_fl_X3_59) (fun _ h9 => h9) rfl dX3_remove_30 ?_
    refine lv_iconst (v := 1) hx hb dX3_remove_33 (by decide) ?_
    refine lv_isub hx hb dX3_remove_34 ?_
    refine lv_topi (fun y9 hy9 => ?_)
    obtain rfl : y9 = nI (mn - 1) := hy9.trans (ps_dec (by omega))
    refine va_put (D := (dC, dI)) (ci := 3) (v := .int (nI (mn - 1))) (ty := .int) (C := RX3) (T := TX3) (N := 17) hx hb hT inX3 tyX3 tyX3_ok nmX3 hown hK hP hD hS 0 rfl rfl 1 (by decide) (hT _ tw_fl_X3_59) (fun _ h9 => h9) rfl (by decide +kernel) rfl rfl (Nat.le_of_ble_eq_true rfl) dX3_remove_35 (fun H locs hP hD hS => ?_)
    have hP : va_P (dC, dI) vwCl (ps_mdW cI cZ w0 b0 0 (mn - 1) kn co ln wr lt f) H := hP
    have hD : va_D A (ps_mdW cI cZ w0 b0 0 (mn - 1) kn co ln wr lt f) := hD
    refine lv_aload_n hx hb dX3_remove_38 rfl (lv_at hl 2 rfl) ?_
    refine va_get (D := (dC, dI)) (ci := 3) (v := .ref (b0 0)) (C := RX3) (T := TX3) (N := 17) hx hb hT inX3 hown hK hP 0 rfl rfl 2 (by decide) (hT _ tw_fl_X3_7) (fun _ h9 => h9) rfl dX3_remove_39 ?_
    refine lv_iload_n hx hb dX3_remove_42 rfl (lv_at hl 1 rfl) ?_
    refine lv_aload_n hx hb dX3_remove_43 rfl (lv_at hl 2 rfl) ?_
    refine va_get (D := (dC, dI)) (ci := 3) (v := .ref (b0 0)) (C := RX3) (T := TX3) (N := 17) hx hb hT inX3 hown hK hP 0 rfl rfl 2 (by decide) (hT _ tw_fl_X3_7) (fun _ h9 => h9) rfl dX3_remove_44 ?_
    refine lv_aload_n hx hb dX3_remove_47 rfl (lv_at hl 2 rfl) ?_
    refine va_get (D := (dC, dI)) (ci := 3) (v := .int (nI (mn - 1))) (C := RX3) (T := TX3) (N := 17) hx hb hT inX3 hown hK hP 0 rfl rfl 1 (by decide) (hT _ tw_fl_X3_59) (fun _ h9 => h9) rfl dX3_remove_48 ?_
    refine ps_iald (k := mn - 1) (f := f 0) hx hb hK hP 1 0 rfl rfl (by omega) (by decide) dX3_remove_51 ?_
    refine ps_iast (k := k) hx hb hK hP hD hS 1 0 rfl rfl (by omega) (by decide) dX3_remove_52 (fun H locs hP hD hS => ?_)
    have hP : va_P (dC, dI) vwCl (ps_mdW cI cZ w0 b0 0 (mn - 1) kn co ln wr lt (va_up f 0 (upd (f 0) k (f 0 (mn - 1))))) H := hP
    have hD : va_D A (ps_mdW cI cZ w0 b0 0 (mn - 1) kn co ln wr lt (va_up f 0 (upd (f 0) k (f 0 (mn - 1))))) := hD
    refine lv_aload_n hx hb dX3_remove_53 rfl (lv_at hl 2 rfl) ?_
    refine va_get (D := (dC, dI)) (ci := 3) (v := .ref (b0 1)) (C := RX3) (T := TX3) (N := 17) hx hb hT inX3 hown hK hP 0 rfl rfl 3 (by decide) (hT _ tw_fl_X3_13) (fun _ h9 => h9) rfl dX3_remove_54 ?_
    refine lv_iload_n hx hb dX3_remove_57 rfl (lv_at hl 1 rfl) ?_
    refine lv_aload_n hx hb dX3_remove_58 rfl (lv_at hl 2 rfl) ?_
    refine va_get (D := (dC, dI)) (ci := 3) (v := .ref (b0 1)) (C := RX3) (T := TX3) (N := 17) hx hb hT inX3 hown hK hP 0 rfl rfl 3 (by decide) (hT _ tw_fl_X3_13) (fun _ h9 => h9) rfl dX3_remove_59 ?_
    refine lv_aload_n hx hb dX3_remove_62 rfl (lv_at hl 2 rfl) ?_
    refine va_get (D := (dC, dI)) (ci := 3) (v := .int (nI (mn - 1))) (C := RX3) (T := TX3) (N := 17) hx hb hT inX3 hown hK hP 0 rfl rfl 1 (by decide) (hT _ tw_fl_X3_59) (fun _ h9 => h9) rfl dX3_remove_63 ?_
    refine ps_iald (k := mn - 1) (f := f 1) hx hb hK hP 2 0 rfl rfl (by omega) (by decide) dX3_remove_66 ?_
    refine ps_iast (k := k) hx hb hK hP hD hS 2 0 rfl rfl (by omega) (by decide) dX3_remove_67 (fun H locs hP hD hS => ?_)
    have hP : va_P (dC, dI) vwCl (ps_mdW cI cZ w0 b0 0 (mn - 1) kn co ln wr lt (va_up (va_up f 0 (upd (f 0) k (f 0 (mn - 1)))) 1 (upd (f 1) k (f 1 (mn - 1))))) H := hP
    have hD : va_D A (ps_mdW cI cZ w0 b0 0 (mn - 1) kn co ln wr lt (va_up (va_up f 0 (upd (f 0) k (f 0 (mn - 1)))) 1 (upd (f 1) k (f 1 (mn - 1))))) := hD
    refine lv_aload_n hx hb dX3_remove_68 rfl (lv_at hl 2 rfl) ?_
    refine va_get (D := (dC, dI)) (ci := 3) (v := .ref (b0 2)) (C := RX3) (T := TX3) (N := 17) hx hb hT inX3 hown hK hP 0 rfl rfl 4 (by decide) (hT _ tw_fl_X3_16) (fun _ h9 => h9) rfl dX3_remove_69 ?_
    refine lv_iload_n hx hb dX3_remove_72 rfl (lv_at hl 1 rfl) ?_
    refine lv_aload_n hx hb dX3_remove_73 rfl (lv_at hl 2 rfl) ?_
    refine va_get (D := (dC, dI)) (ci := 3) (v := .ref (b0 2)) (C := RX3) (T := TX3) (N := 17) hx hb hT inX3 hown hK hP 0 rfl rfl 4 (by decide) (hT _ tw_fl_X3_16) (fun _ h9 => h9) rfl dX3_remove_74 ?_
    refine lv_aload_n hx hb dX3_remove_77 rfl (lv_at hl 2 rfl) ?_
    refine va_get (D := (dC, dI)) (ci := 3) (v := .int (nI (mn - 1))) (C := RX3) (T := TX3) (N := 17) hx hb hT inX3 hown hK hP 0 rfl rfl 1 (by decide) (hT _ tw_fl_X3_59) (fun _ h9 => h9) rfl dX3_remove_78 ?_
    refine ps_iald (k := mn - 1) (f := f 2) hx hb hK hP 3 0 rfl rfl (by omega) (by decide) dX3_remove_81 ?_
    refine ps_iast (k := k) hx hb hK hP hD hS 3 0 rfl rfl (by omega) (by decide) dX3_remove_82 (fun H locs hP hD hS => ?_)
    have hP : va_P (dC, dI) vwCl (ps_mdW cI cZ w0 b0 0 (mn - 1) kn co ln wr lt (va_up (va_up (va_up f 0 (upd (f 0) k (f 0 (mn - 1)))) 1 (upd (f 1) k (f 1 (mn - 1)))) 2 (upd (f 2) k (f 2 (mn - 1))))) H := hP
    have hD : va_D A (ps_mdW cI cZ w0 b0 0 (mn - 1) kn co ln wr lt (va_up (va_up (va_up f 0 (upd (f 0) k (f 0 (mn - 1)))) 1 (upd (f 1) k (f 1 (mn - 1)))) 2 (upd (f 2) k (f 2 (mn - 1))))) := hD
    refine lv_aload_n hx hb dX3_remove_83 rfl (lv_at hl 2 rfl) ?_
    refine ps_cqv (wc := ps_mdW cI cZ w0 b0 0 (mn - 1) kn co ln wr lt (va_up (va_up (va_up f 0 (upd (f 0) k (f 0 (mn - 1)))) 1 (upd (f 1) k (f 1 (mn - 1)))) 2 (upd (f 2) k (f 2 (mn - 1))))) (wr := []) (w1 := ps_mdW cI cZ w0 b0 0 (mn - 1) kn co ln wr lt ((ps_st (va_up (va_up (va_up f 0 (upd (f 0) k (f 0 (mn - 1)))) 1 (upd (f 1) k (f 1 (mn - 1)))) 2 (upd (f 2) k (f 2 (mn - 1)))) (mn - 1)))) (ws2 := ps_mdW cI cZ w0 b0 0 (mn - 1) kn co ln wr lt ((ps_st (va_up (va_up (va_up f 0 (upd (f 0) k (f 0 (mn - 1)))) 1 (upd (f 1) k (f 1 (mn - 1)))) 2 (upd (f 2) k (f 2 (mn - 1)))) (mn - 1)))) (va_runV (C := RX3) (As := []) (rest := []) ⟨hx, hb, hml, hown, hT⟩ (mX3_settle l dC dI cI cZ w0 b0 0 (mn - 1) kn co ln wr lt (va_up (va_up (va_up f 0 (upd (f 0) k (f 0 (mn - 1)))) 1 (upd (f 1) k (f 1 (mn - 1)))) 2 (upd (f 2) k (f 2 (mn - 1)))) (by omega) _) (cwV 0 hT (ps_gV tw_ml_X3_90 tw_im_X3_settle tw_se_X3_settle tw_in_X3 tw_co_X3_settle) rfl rfl rfl ⟨rfl, by decide, by decide, by decide +kernel⟩ ⟨Nat.le_of_ble_eq_true rfl, Nat.le_of_ble_eq_true rfl⟩) (ps_qreV (wc := ps_mdW cI cZ w0 b0 0 (mn - 1) kn co ln wr lt (va_up (va_up (va_up f 0 (upd (f 0) k (f 0 (mn - 1)))) 1 (upd (f 1) k (f 1 (mn - 1)))) 2 (upd (f 2) k (f 2 (mn - 1))))) (ci := 3) [0, 1, 2, 3, 4, 5, 6, 7, 8, 9, 10] hN hP hK hD rfl rfl rfl rfl rfl) rfl rfl hl.1 rfl (lv_room (Nat.le_of_ble_eq_true rfl)) dX3_remove_84 ⟨Nat.le_of_ble_eq_true rfl, Nat.le_of_ble_eq_true rfl⟩) hS hA hP hD [0, 1, 2, 3, 4, 5, 6, 7, 8, 9, 10] [] [0, 1, 2, 3, 4, 5, 6, 7, 8, 9, 10] rfl rfl rfl (by decide) rfl rfl rfl (fun H locs hP hD hS => ?_)
    refine lv_iload_n hx hb dX3_remove_87 rfl (lv_at hl 0 rfl) ?_
    exact W.iret (v := f 3 k) hx hb hr (fun t ht hW => ⟨⟨f 3 k, (), rfl, rfl, by rw [ht]; exact hP, va_K.moved hW.alike hK, hD⟩, hS.F ht⟩) hS.2.2 dX3_remove_88
  · skip
    exact absurd (nI_pos' (by omega)) h12
set_option maxHeartbeats 4000000 in
set_option maxRecDepth 100000 in
theorem mX3_remove_1 (l : Launch) (dC : Nat → ClassId) (dI : Nat → Nat → Nat) (cI cZ : ClassId) (w0 : Nat) (b0 : Nat → Nat) (th : Int32) (mn kn : Nat) (co : Int32) (ln : Nat) (wr lt : Int32) (f : ps_G) (hmn : mn ≤ 48) (v : Int32) (hf : ps_fl (f 0) v mn = none) (sz : Nat) : Met l yX3_remove (.code yX3_remove cX3_remove 4 (some .int) :: ps_T) ({ frames := 1, cells := 0, slots := 0, locals := 23 }) (ps_qc (dC, dI) (ps_ty cI cZ) (ps_mdW cI cZ w0 b0 th mn kn co ln wr lt f) sz [.ref w0, .int v]) (va_Qi (fun (r : Int32) (_ : Unit) => r = 0) (ps_qB (dC, dI) (ps_ty cI cZ) (va_A (ps_mdW cI cZ w0 b0 th mn kn co ln wr lt f) sz) (ps_mdW cI cZ w0 b0 1 mn kn co ln wr lt f)) (va_A (ps_mdW cI cZ w0 b0 th mn kn co ln wr lt f) sz)) 0 0 (va_A (ps_mdW cI cZ w0 b0 th mn kn co ln wr lt f) sz) := by
  refine Met.ofW (cc := cX3_remove) (maxL := 4) (ret := (some .int)) (by decide) rfl ?_
  intro p e s m args below meth c s₁ B hml hv
  obtain ⟨rfl, hsz, hN, hP, hK, hD0⟩ := hv
  have hx := B.exec
  have hb := B.bytes
  have hr := B.returns
  have hlocks := B.notSynchronized
  have hT : ∀ w ∈ ps_T, w.before ([.ref w0, .int v] : List Value).toArray s = true := fun w h => atoms_spec (ws := (.code yX3_remove cX3_remove 4 (some .int) :: ps_T)) B.pre w (List.mem_cons_of_mem _ h)
  have hown : s.vm.findClass RX3 = some m.cls := findClass_of_methodNamed B.named
  subst hsz
  have hD := hD0.self (sz := s.heap.size)
  generalize hAe : va_A (ps_mdW cI cZ w0 b0 th mn kn co ln wr lt f) s.heap.size = A at hD ⊢
  have hA : ∀ q : Nat, s.heap.size ≤ q → A q := fun q h => by rw [← hAe]; exact Or.inr h
  have hS : va_S A s.heap s.heap [] := va_S.rf
  have hl := lv_entry ([.ref w0, .int v]) (n := 4) (Nat.le_of_ble_eq_true rfl)
  rw [lg_entry_eq]
  generalize (lg_sl ([.ref w0, .int v]) ++ List.replicate (4 - (lg_sl ([.ref w0, .int v])).length) Slot.unset).toArray = ls at hl ⊢
  have hl : lv_has ls 4 [(0, .ref w0), (1, .int v)] := hl
  refine lv_aload_n hx hb dX3_remove_0 rfl (lv_at hl 0 rfl) ?_
  refine lv_iconst (v := 0) hx hb dX3_remove_1 (by decide) ?_
  refine va_put (D := (dC, dI)) (ci := 3) (v := .int 0) (ty := .int) (C := RX3) (T := TX3) (N := 17) hx hb hT inX3 tyX3 tyX3_ok nmX3 hown hK hP hD hS 0 rfl rfl 0 (by decide) (hT _ tw_fl_X3_45) (fun _ h9 => h9) rfl (by decide +kernel) rfl rfl (Nat.le_of_ble_eq_true rfl) dX3_remove_2 (fun H locs hP hD hS => ?_)
  have hP : va_P (dC, dI) vwCl (ps_mdW cI cZ w0 b0 0 mn kn co ln wr lt f) H := hP
  have hD : va_D A (ps_mdW cI cZ w0 b0 0 mn kn co ln wr lt f) := hD
  refine lv_aload_n hx hb dX3_remove_5 rfl (lv_at hl 0 rfl) ?_
  refine lv_iload_n hx hb dX3_remove_6 rfl (lv_at hl 1 rfl) ?_
  refine vp_callSi (va_Run.run (va_runV (C := RX3) (As := [.int v]) (rest := []) ⟨hx, hb, hml, hown, hT⟩ (mX3_find l dC dI cI cZ w0 b0 0 mn kn co ln wr lt f (hmn) v) (cwV 1 hT (ps_gV tw_ml_X3_83 tw_im_X3_find tw_se_X3_find tw_in_X3 tw_co_X3_find) rfl rfl rfl ⟨rfl, by decide, by decide, by decide +kernel⟩ ⟨Nat.le_of_ble_eq_true rfl, Nat.le_of_ble_eq_true rfl⟩) (ps_preV (ci := 3) (q0 := 0) hN hP hK rfl rfl) rfl rfl hl.1 rfl (lv_room (Nat.le_of_ble_eq_true rfl)) dX3_remove_7 ⟨Nat.le_of_ble_eq_true rfl, Nat.le_of_ble_eq_true rfl⟩)) (fun r hr => ?_)
  obtain rfl : r = ps_fr (ps_fl (f 0) v mn) := hr
  refine lv_topi (fun y9 hy9 => ?_)
  obtain rfl : y9 = (-1) := hy9.trans (by rw [hf]; rfl)
  refine lv_istore_n (lv' := [(2, .int ((-1))), (0, .ref w0), (1, .int v)]) hx hb dX3_remove_10 rfl hl (by decide) rfl (fun ls hl => ?_)
  refine lv_iload_n hx hb dX3_remove_11 rfl (lv_at hl 0 rfl) ?_
  refine lv_if_ge (tgt := 21) hx hb dX3_remove_12 rfl (fun h12 => ?_) (fun h12 => ?_)
  · skip
    exact absurd h12 (by decide)
  · skip
    refine lv_aload_n hx hb dX3_remove_15 rfl (lv_at hl 1 rfl) ?_
    refine lv_iconst (v := 1) hx hb dX3_remove_16 (by decide) ?_
    refine ps_cqi (wc := ps_mdW cI cZ w0 b0 0 mn kn co ln wr lt f) (wr := []) (w1 := ps_mdW cI cZ w0 b0 1 mn kn co ln wr lt f) (ws2 := ps_mdW cI cZ w0 b0 1 mn kn co ln wr lt f) (va_runV (C := RX3) (As := [.int 1]) (rest := []) ⟨hx, hb, hml, hown, hT⟩ (mX3_fails l dC dI cI cZ w0 b0 0 mn kn co ln wr lt f 1 _) (cwV 1 hT (ps_gV tw_ml_X3_79 tw_im_X3_fails tw_se_X3_fails tw_in_X3 tw_co_X3_fails) rfl rfl rfl ⟨rfl, by decide, by decide, by decide +kernel⟩ ⟨Nat.le_of_ble_eq_true rfl, Nat.le_of_ble_eq_true rfl⟩) (ps_qreV (wc := ps_mdW cI cZ w0 b0 0 mn kn co ln wr lt f) (ci := 3) [0, 1, 2, 3, 4, 5, 6, 7, 8, 9, 10] hN hP hK hD rfl rfl rfl rfl rfl) rfl rfl hl.1 rfl (lv_room (Nat.le_of_ble_eq_true rfl)) dX3_remove_17 ⟨Nat.le_of_ble_eq_true rfl, Nat.le_of_ble_eq_true rfl⟩) hS hA hP hD [0, 1, 2, 3, 4, 5, 6, 7, 8, 9, 10] [] [0, 1, 2, 3, 4, 5, 6, 7, 8, 9, 10] rfl rfl rfl (by decide) rfl rfl rfl (fun H locs hP hD hS => ?_)
    exact W.iret (v := 0) hx hb hr (fun t ht hW => ⟨⟨0, (), rfl, rfl, by rw [ht]; exact hP, va_K.moved hW.alike hK, hD⟩, hS.F ht⟩) hS.2.2 dX3_remove_20
set_option maxHeartbeats 4000000 in
set_option maxRecDepth 100000 in
theorem mX3_recolour_n (l : Launch) (dC : Nat → ClassId) (dI : Nat → Nat → Nat) (cI cZ : ClassId) (w0 : Nat) (b0 : Nat → Nat) (th : Int32) (mn kn : Nat) (co : Int32) (ln : Nat) (wr lt : Int32) (f : ps_G) (hmn : mn ≤ 48) (v : Int32) (k : Nat) (hf : ps_fl (f 0) v mn = some k) (c9 : Int32) (sz : Nat) : Met l yX3_recolour (.code yX3_recolour cX3_recolour 5 (some .int) :: ps_T) ({ frames := 1, cells := 0, slots := 0, locals := 23 }) (ps_qc (dC, dI) (ps_ty cI cZ) (ps_mdW cI cZ w0 b0 th mn kn co ln wr lt f) sz [.ref w0, .int v, .int c9]) (va_Qi (fun (r : Int32) (_ : Unit) => r = f 2 k) (ps_qB (dC, dI) (ps_ty cI cZ) (va_A (ps_mdW cI cZ w0 b0 th mn kn co ln wr lt f) sz) (ps_mdW cI cZ w0 b0 0 mn kn co ln wr lt (va_up f 2 (upd (f 2) k c9)))) (va_A (ps_mdW cI cZ w0 b0 th mn kn co ln wr lt f) sz)) 0 0 (va_A (ps_mdW cI cZ w0 b0 th mn kn co ln wr lt f) sz) := by
  refine Met.ofW (cc := cX3_recolour) (maxL := 5) (ret := (some .int)) (by decide) rfl ?_
  intro p e s m args below meth c s₁ B hml hv
  obtain ⟨rfl, hsz, hN, hP, hK, hD0⟩ := hv
  have hx := B.exec
  have hb := B.bytes
  have hr := B.returns
  have hlocks := B.notSynchronized
  have hT : ∀ w ∈ ps_T, w.before ([.ref w0, .int v, .int c9] : List Value).toArray s = true := fun w h => atoms_spec (ws := (.code yX3_recolour cX3_recolour 5 (some .int) :: ps_T)) B.pre w (List.mem_cons_of_mem _ h)
  have hown : s.vm.findClass RX3 = some m.cls := findClass_of_methodNamed B.named
  subst hsz
  have hD := hD0.self (sz := s.heap.size)
  generalize hAe : va_A (ps_mdW cI cZ w0 b0 th mn kn co ln wr lt f) s.heap.size = A at hD ⊢
  have hA : ∀ q : Nat, s.heap.size ≤ q → A q := fun q h => by rw [← hAe]; exact Or.inr h
  have hS : va_S A s.heap s.heap [] := va_S.rf
  have hl := lv_entry ([.ref w0, .int v, .int c9]) (n := 5) (Nat.le_of_ble_eq_true rfl)
  rw [lg_entry_eq]
  generalize (lg_sl ([.ref w0, .int v, .int c9]) ++ List.replicate (5 - (lg_sl ([.ref w0, .int v, .int c9])).length) Slot.unset).toArray = ls at hl ⊢
  have hl : lv_has ls 5 [(0, .ref w0), (1, .int v), (2, .int c9)] := hl
  have hk := (ps_fl_spec hf).1
  refine lv_aload_n hx hb dX3_recolour_0 rfl (lv_at hl 0 rfl) ?_
  refine lv_iconst (v := 0) hx hb dX3_recolour_1 (by decide) ?_
  refine va_put (D := (dC, dI)) (ci := 3) (v := .int 0) (ty := .int) (C := RX3) (T := TX3) (N := 17) hx hb hT inX3 tyX3 tyX3_ok nmX3 hown hK hP hD hS 0 rfl rfl 0 (by decide) (hT _ tw_fl_X3_45) (fun _ h9 => h9) rfl (by decide +kernel) rfl rfl (Nat.le_of_ble_eq_true rfl) dX3_recolour_2 (fun H locs hP hD hS => ?_)
  have hP : va_P (dC, dI) vwCl (ps_mdW cI cZ w0 b0 0 mn kn co ln wr lt f) H := hP
  have hD : va_D A (ps_mdW cI cZ w0 b0 0 mn kn co ln wr lt f) := hD
  refine lv_aload_n hx hb dX3_recolour_5 rfl (lv_at hl 0 rfl) ?_
  refine lv_iload_n hx hb dX3_recolour_6 rfl (lv_at hl 1 rfl) ?_
  refine vp_callSi (va_Run.run (va_runV (C := RX3) (As := [.int v]) (rest := []) ⟨hx, hb, hml, hown, hT⟩ (mX3_find l dC dI cI cZ w0 b0 0 mn kn co ln wr lt f (hmn) v) (cwV 1 hT (ps_gV tw_ml_X3_83 tw_im_X3_find tw_se_X3_find tw_in_X3 tw_co_X3_find) rfl rfl rfl ⟨rfl, by decide, by decide, by decide +kernel⟩ ⟨Nat.le_of_ble_eq_true rfl, Nat.le_of_ble_eq_true rfl⟩) (ps_preV (ci := 3) (q0 := 0) hN hP hK rfl rfl) rfl rfl hl.1 rfl (lv_room (Nat.le_of_ble_eq_true rfl)) dX3_recolour_7 ⟨Nat.le_of_ble_eq_true rfl, Nat.le_of_ble_eq_true rfl⟩)) (fun r hr => ?_)
  obtain rfl : r = ps_fr (ps_fl (f 0) v mn) := hr
  refine lv_topi (fun y9 hy9 => ?_)
  obtain rfl : y9 = nI k := hy9.trans (by rw [hf]; rfl)
  refine lv_istore_n (lv' := [(3, .int (nI k)), (0, .ref w0), (1, .int v), (2, .int c9)]) hx hb dX3_recolour_10 rfl hl (by decide) rfl (fun ls hl => ?_)
  refine lv_iload_n hx hb dX3_recolour_11 rfl (lv_at hl 0 rfl) ?_
  refine lv_if_ge (tgt := 21) hx hb dX3_recolour_12 rfl (fun h12 => ?_) (fun h12 => ?_)
  · skip
    refine lv_aload_n hx hb dX3_recolour_21 rfl (lv_at hl 1 rfl) ?_
    refine va_get (D := (dC, dI)) (ci := 3) (v := .ref (b0 2)) (C := RX3) (T := TX3) (N := 17) hx hb hT inX3 hown hK hP 0 rfl rfl 4 (by decide) (hT _ tw_fl_X3_16) (fun _ h9 => h9) rfl dX3_recolour_22 ?_
    refine lv_iload_n hx hb dX3_recolour_25 rfl (lv_at hl 0 rfl) ?_
    refine ps_iald (k := k) (f := f 2) hx hb hK hP 3 0 rfl rfl (by omega) (by decide) dX3_recolour_26 ?_
    refine lv_istore (lv' := [(4, .int (f 2 k)), (3, .int (nI k)), (0, .ref w0), (1, .int v), (2, .int c9)]) hx hb dX3_recolour_27 hl (by decide) rfl (fun ls hl => ?_)
    refine lv_aload_n hx hb dX3_recolour_29 rfl (lv_at hl 2 rfl) ?_
    refine va_get (D := (dC, dI)) (ci := 3) (v := .ref (b0 2)) (C := RX3) (T := TX3) (N := 17) hx hb hT inX3 hown hK hP 0 rfl rfl 4 (by decide) (hT _ tw_fl_X3_16) (fun _ h9 => h9) rfl dX3_recolour_30 ?_
    refine lv_iload_n hx hb dX3_recolour_33 rfl (lv_at hl 1 rfl) ?_
    refine lv_iload_n hx hb dX3_recolour_34 rfl (lv_at hl 4 rfl) ?_
    refine ps_iast (k := k) hx hb hK hP hD hS 3 0 rfl rfl (by omega) (by decide) dX3_recolour_35 (fun H locs hP hD hS => ?_)
    have hP : va_P (dC, dI) vwCl (ps_mdW cI cZ w0 b0 0 mn kn co ln wr lt (va_up f 2 (upd (f 2) k c9))) H := hP
    have hD : va_D A (ps_mdW cI cZ w0 b0 0 mn kn co ln wr lt (va_up f 2 (upd (f 2) k c9))) := hD
    refine lv_iload hx hb dX3_recolour_36 (lv_at hl 0 rfl) ?_
    exact W.iret (v := f 2 k) hx hb hr (fun t ht hW => ⟨⟨f 2 k, (), rfl, rfl, by rw [ht]; exact hP, va_K.moved hW.alike hK, hD⟩, hS.F ht⟩) hS.2.2 dX3_recolour_38
  · skip
    exact absurd (nI_pos' (by omega)) h12
set_option maxHeartbeats 4000000 in
set_option maxRecDepth 100000 in
theorem mX3_recolour_1 (l : Launch) (dC : Nat → ClassId) (dI : Nat → Nat → Nat) (cI cZ : ClassId) (w0 : Nat) (b0 : Nat → Nat) (th : Int32) (mn kn : Nat) (co : Int32) (ln : Nat) (wr lt : Int32) (f : ps_G) (hmn : mn ≤ 48) (v : Int32) (hf : ps_fl (f 0) v mn = none) (c9 : Int32) (sz : Nat) : Met l yX3_recolour (.code yX3_recolour cX3_recolour 5 (some .int) :: ps_T) ({ frames := 1, cells := 0, slots := 0, locals := 23 }) (ps_qc (dC, dI) (ps_ty cI cZ) (ps_mdW cI cZ w0 b0 th mn kn co ln wr lt f) sz [.ref w0, .int v, .int c9]) (va_Qi (fun (r : Int32) (_ : Unit) => r = 0) (ps_qB (dC, dI) (ps_ty cI cZ) (va_A (ps_mdW cI cZ w0 b0 th mn kn co ln wr lt f) sz) (ps_mdW cI cZ w0 b0 1 mn kn co ln wr lt f)) (va_A (ps_mdW cI cZ w0 b0 th mn kn co ln wr lt f) sz)) 0 0 (va_A (ps_mdW cI cZ w0 b0 th mn kn co ln wr lt f) sz) := by
  refine Met.ofW (cc := cX3_recolour) (maxL := 5) (ret := (some .int)) (by decide) rfl ?_
  intro p e s m args below meth c s₁ B hml hv
  obtain ⟨rfl, hsz, hN, hP, hK, hD0⟩ := hv
  have hx := B.exec
  have hb := B.bytes
  have hr := B.returns
  have hlocks := B.notSynchronized
  have hT : ∀ w ∈ ps_T, w.before ([.ref w0, .int v, .int c9] : List Value).toArray s = true := fun w h => atoms_spec (ws := (.code yX3_recolour cX3_recolour 5 (some .int) :: ps_T)) B.pre w (List.mem_cons_of_mem _ h)
  have hown : s.vm.findClass RX3 = some m.cls := findClass_of_methodNamed B.named
  subst hsz
  have hD := hD0.self (sz := s.heap.size)
  generalize hAe : va_A (ps_mdW cI cZ w0 b0 th mn kn co ln wr lt f) s.heap.size = A at hD ⊢
  have hA : ∀ q : Nat, s.heap.size ≤ q → A q := fun q h => by rw [← hAe]; exact Or.inr h
  have hS : va_S A s.heap s.heap [] := va_S.rf
  have hl := lv_entry ([.ref w0, .int v, .int c9]) (n := 5) (Nat.le_of_ble_eq_true rfl)
  rw [lg_entry_eq]
  generalize (lg_sl ([.ref w0, .int v, .int c9]) ++ List.replicate (5 - (lg_sl ([.ref w0, .int v, .int c9])).length) Slot.unset).toArray = ls at hl ⊢
  have hl : lv_has ls 5 [(0, .ref w0), (1, .int v), (2, .int c9)] := hl
  refine lv_aload_n hx hb dX3_recolour_0 rfl (lv_at hl 0 rfl) ?_
  refine lv_iconst (v := 0) hx hb dX3_recolour_1 (by decide) ?_
  refine va_put (D := (dC, dI)) (ci := 3) (v := .int 0) (ty := .int) (C := RX3) (T := TX3) (N := 17) hx hb hT inX3 tyX3 tyX3_ok nmX3 hown hK hP hD hS 0 rfl rfl 0 (by decide) (hT _ tw_fl_X3_45) (fun _ h9 => h9) rfl (by decide +kernel) rfl rfl (Nat.le_of_ble_eq_true rfl) dX3_recolour_2 (fun H locs hP hD hS => ?_)
  have hP : va_P (dC, dI) vwCl (ps_mdW cI cZ w0 b0 0 mn kn co ln wr lt f) H := hP
  have hD : va_D A (ps_mdW cI cZ w0 b0 0 mn kn co ln wr lt f) := hD
  refine lv_aload_n hx hb dX3_recolour_5 rfl (lv_at hl 0 rfl) ?_
  refine lv_iload_n hx hb dX3_recolour_6 rfl (lv_at hl 1 rfl) ?_
  refine vp_callSi (va_Run.run (va_runV (C := RX3) (As := [.int v]) (rest := []) ⟨hx, hb, hml, hown, hT⟩ (mX3_find l dC dI cI cZ w0 b0 0 mn kn co ln wr lt f (hmn) v) (cwV 1 hT (ps_gV tw_ml_X3_83 tw_im_X3_find tw_se_X3_find tw_in_X3 tw_co_X3_find) rfl rfl rfl ⟨rfl, by decide, by decide, by decide +kernel⟩ ⟨Nat.le_of_ble_eq_true rfl, Nat.le_of_ble_eq_true rfl⟩) (ps_preV (ci := 3) (q0 := 0) hN hP hK rfl rfl) rfl rfl hl.1 rfl (lv_room (Nat.le_of_ble_eq_true rfl)) dX3_recolour_7 ⟨Nat.le_of_ble_eq_true rfl, Nat.le_of_ble_eq_true rfl⟩)) (fun r hr => ?_)
  obtain rfl : r = ps_fr (ps_fl (f 0) v mn) := hr
  refine lv_topi (fun y9 hy9 => ?_)
  obtain rfl : y9 = (-1) := hy9.trans (by rw [hf]; rfl)
  refine lv_istore_n (lv' := [(3, .int ((-1))), (0, .ref w0), (1, .int v), (2, .int c9)]) hx hb dX3_recolour_10 rfl hl (by decide) rfl (fun ls hl => ?_)
  refine lv_iload_n hx hb dX3_recolour_11 rfl (lv_at hl 0 rfl) ?_
  refine lv_if_ge (tgt := 21) hx hb dX3_recolour_12 rfl (fun h12 => ?_) (fun h12 => ?_)
  · skip
    exact absurd h12 (by decide)
  · skip
    refine lv_aload_n hx hb dX3_recolour_15 rfl (lv_at hl 1 rfl) ?_
    refine lv_iconst (v := 1) hx hb dX3_recolour_16 (by decide) ?_
    refine ps_cqi (wc := ps_mdW cI cZ w0 b0 0 mn kn co ln wr lt f) (wr := []) (w1 := ps_mdW cI cZ w0 b0 1 mn kn co ln wr lt f) (ws2 := ps_mdW cI cZ w0 b0 1 mn kn co ln wr lt f) (va_runV (C := RX3) (As := [.int 1]) (rest := []) ⟨hx, hb, hml, hown, hT⟩ (mX3_fails l dC dI cI cZ w0 b0 0 mn kn co ln wr lt f 1 _) (cwV 1 hT (ps_gV tw_ml_X3_79 tw_im_X3_fails tw_se_X3_fails tw_in_X3 tw_co_X3_fails) rfl rfl rfl ⟨rfl, by decide, by decide, by decide +kernel⟩ ⟨Nat.le_of_ble_eq_true rfl, Nat.le_of_ble_eq_true rfl⟩) (ps_qreV (wc := ps_mdW cI cZ w0 b0 0 mn kn co ln wr lt f) (ci := 3) [0, 1, 2, 3, 4, 5, 6, 7, 8, 9, 10] hN hP hK hD rfl rfl rfl rfl rfl) rfl rfl hl.1 rfl (lv_room (Nat.le_of_ble_eq_true rfl)) dX3_recolour_17 ⟨Nat.le_of_ble_eq_true rfl, Nat.le_of_ble_eq_true rfl⟩) hS hA hP hD [0, 1, 2, 3, 4, 5, 6, 7, 8, 9, 10] [] [0, 1, 2, 3, 4, 5, 6, 7, 8, 9, 10] rfl rfl rfl (by decide) rfl rfl rfl (fun H locs hP hD hS => ?_)
    exact W.iret (v := 0) hx hb hr (fun t ht hW => ⟨⟨0, (), rfl, rfl, by rw [ht]; exact hP, va_K.moved hW.alike hK, hD⟩, hS.F ht⟩) hS.2.2 dX3_recolour_20
set_option maxHeartbeats 4000000 in
set_option maxRecDepth 100000 in
theorem mX3_field_n (l : Launch) (dC : Nat → ClassId) (dI : Nat → Nat → Nat) (cI cZ : ClassId) (w0 : Nat) (b0 : Nat → Nat) (th : Int32) (mn kn : Nat) (co : Int32) (ln : Nat) (wr lt : Int32) (f : ps_G) (hmn : mn ≤ 48) (v : Int32) (k : Nat) (hf : ps_fl (f 0) v mn = some k) (fd : Int32) (hin : ps_inr fd 0 4 = true) (sz : Nat) : Met l yX3_field (.code yX3_field cX3_field 4 (some .int) :: ps_T) ({ frames := 1, cells := 0, slots := 0, locals := 23 }) (ps_qc (dC, dI) (ps_ty cI cZ) (ps_mdW cI cZ w0 b0 th mn kn co ln wr lt f) sz [.ref w0, .int v, .int fd]) (va_Qi (fun (r : Int32) (_ : Unit) => r = ps_mf f k fd) (ps_qB (dC, dI) (ps_ty cI cZ) (va_A (ps_mdW cI cZ w0 b0 th mn kn co ln wr lt f) sz) (ps_mdW cI cZ w0 b0 0 mn kn co ln wr lt f)) (va_A (ps_mdW cI cZ w0 b0 th mn kn co ln wr lt f) sz)) 0 0 (va_A (ps_mdW cI cZ w0 b0 th mn kn co ln wr lt f) sz) := by
  refine Met.ofW (cc := cX3_field) (maxL := 4) (ret := (some .int)) (by decide) rfl ?_
  intro p e s m args below meth c s₁ B hml hv
  obtain ⟨rfl, hsz, hN, hP, hK, hD0⟩ := hv
  have hx := B.exec
  have hb := B.bytes
  have hr := B.returns
  have hlocks := B.notSynchronized
  have hT : ∀ w ∈ ps_T, w.before ([.ref w0, .int v, .int fd] : List Value).toArray s = true := fun w h => atoms_spec (ws := (.code yX3_field cX3_field 4 (some .int) :: ps_T)) B.pre w (List.mem_cons_of_mem _ h)
  have hown : s.vm.findClass RX3 = some m.cls := findClass_of_methodNamed B.named
  subst hsz
  have hD := hD0.self (sz := s.heap.size)
  generalize hAe : va_A (ps_mdW cI cZ w0 b0 th mn kn co ln wr lt f) s.heap.size = A at hD ⊢
  have hA : ∀ q : Nat, s.heap.size ≤ q → A q := fun q h => by rw [← hAe]; exact Or.inr h
  have hS : va_S A s.heap s.heap [] := va_S.rf
  have hl := lv_entry ([.ref w0, .int v, .int fd]) (n := 4) (Nat.le_of_ble_eq_true rfl)
  rw [lg_entry_eq]
  generalize (lg_sl ([.ref w0, .int v, .int fd]) ++ List.replicate (4 - (lg_sl ([.ref w0, .int v, .int fd])).length) Slot.unset).toArray = ls at hl ⊢
  have hl : lv_has ls 4 [(0, .ref w0), (1, .int v), (2, .int fd)] := hl
  have hk := (ps_fl_spec hf).1
  refine lv_aload_n hx hb dX3_field_0 rfl (lv_at hl 0 rfl) ?_
  refine lv_iconst (v := 0) hx hb dX3_field_1 (by decide) ?_
  refine va_put (D := (dC, dI)) (ci := 3) (v := .int 0) (ty := .int) (C := RX3) (T := TX3) (N := 17) hx hb hT inX3 tyX3 tyX3_ok nmX3 hown hK hP hD hS 0 rfl rfl 0 (by decide) (hT _ tw_fl_X3_45) (fun _ h9 => h9) rfl (by decide +kernel) rfl rfl (Nat.le_of_ble_eq_true rfl) dX3_field_2 (fun H locs hP hD hS => ?_)
  have hP : va_P (dC, dI) vwCl (ps_mdW cI cZ w0 b0 0 mn kn co ln wr lt f) H := hP
  have hD : va_D A (ps_mdW cI cZ w0 b0 0 mn kn co ln wr lt f) := hD
  refine lv_iload_n hx hb dX3_field_5 rfl (lv_at hl 2 rfl) ?_
  refine lv_iconst (v := 0) hx hb dX3_field_6 (by decide) ?_
  refine lv_iconst (v := 4) hx hb dX3_field_7 (by decide) ?_
  refine vp_callSi (va_Run.run (va_runS (As := [.int fd, .int 0, .int 4]) (rest := []) ⟨hx, hb, hml, hown, hT⟩ (mX3_in l fd 0 4) (va_cwS 3 hT (ps_gS tw_ml_X3_48 tw_st_X3_in tw_in_X3 tw_co_X3_in) rfl rfl rfl ⟨by decide, by decide, by decide +kernel⟩ ⟨Nat.le_of_ble_eq_true rfl, Nat.le_of_ble_eq_true rfl⟩) preEq rfl rfl hl.1 rfl (lv_room (Nat.le_of_ble_eq_true rfl)) dX3_field_8 ⟨Nat.le_of_ble_eq_true rfl, Nat.le_of_ble_eq_true rfl⟩)) (fun r hr => ?_)
  obtain rfl : r = ps_bi (ps_inr fd 0 4) := hr
  refine ps_ifb_ne (tgt := 20) hx hb dX3_field_11 rfl (fun h11 => ?_) (fun h11 => ?_)
  · skip
    refine lv_aload_n hx hb dX3_field_20 rfl (lv_at hl 0 rfl) ?_
    refine lv_iload_n hx hb dX3_field_21 rfl (lv_at hl 1 rfl) ?_
    refine vp_callSi (va_Run.run (va_runV (C := RX3) (As := [.int v]) (rest := []) ⟨hx, hb, hml, hown, hT⟩ (mX3_find l dC dI cI cZ w0 b0 0 mn kn co ln wr lt f (hmn) v) (cwV 1 hT (ps_gV tw_ml_X3_83 tw_im_X3_find tw_se_X3_find tw_in_X3 tw_co_X3_find) rfl rfl rfl ⟨rfl, by decide, by decide, by decide +kernel⟩ ⟨Nat.le_of_ble_eq_true rfl, Nat.le_of_ble_eq_true rfl⟩) (ps_preV (ci := 3) (q0 := 0) hN hP hK rfl rfl) rfl rfl hl.1 rfl (lv_room (Nat.le_of_ble_eq_true rfl)) dX3_field_22 ⟨Nat.le_of_ble_eq_true rfl, Nat.le_of_ble_eq_true rfl⟩)) (fun r hr => ?_)
    obtain rfl : r = ps_fr (ps_fl (f 0) v mn) := hr
    refine lv_topi (fun y9 hy9 => ?_)
    obtain rfl : y9 = nI k := hy9.trans (by rw [hf]; rfl)
    refine lv_istore_n (lv' := [(3, .int (nI k)), (0, .ref w0), (1, .int v), (2, .int fd)]) hx hb dX3_field_25 rfl hl (by decide) rfl (fun ls hl => ?_)
    refine lv_iload_n hx hb dX3_field_26 rfl (lv_at hl 0 rfl) ?_
    refine lv_if_ge (tgt := 36) hx hb dX3_field_27 rfl (fun h27 => ?_) (fun h27 => ?_)
    · skip
      refine lv_iload_n hx hb dX3_field_36 rfl (lv_at hl 3 rfl) ?_
      refine lv_iconst (v := 3) hx hb dX3_field_37 (by decide) ?_
      refine lv_icmp_ge (tgt := 54) hx hb dX3_field_38 rfl (fun h38 => ?_) (fun h38 => ?_)
      · skip
        have h38n : ¬ fd < 3 := Int32.not_lt.mpr h38
        refine lv_iload_n hx hb dX3_field_54 rfl (lv_at hl 3 rfl) ?_
        refine lv_iconst (v := 3) hx hb dX3_field_55 (by decide) ?_
        refine lv_icmp_ne (tgt := 68) hx hb dX3_field_56 rfl (fun h56 => ?_) (fun h56 => ?_)
        · skip
          refine lv_aload_n hx hb dX3_field_68 rfl (lv_at hl 1 rfl) ?_
          refine va_get (D := (dC, dI)) (ci := 3) (v := .ref (b0 3)) (C := RX3) (T := TX3) (N := 17) hx hb hT inX3 hown hK hP 0 rfl rfl 5 (by decide) (hT _ tw_fl_X3_19) (fun _ h9 => h9) rfl dX3_field_69 ?_
          refine lv_iload_n hx hb dX3_field_72 rfl (lv_at hl 0 rfl) ?_
          refine ps_iald (k := k) (f := f 3) hx hb hK hP 4 0 rfl rfl (by omega) (by decide) dX3_field_73 ?_
          exact W.iret (v := f 3 k) hx hb hr (fun t ht hW => ⟨⟨f 3 k, (), rfl, by simp [ps_mf, *], by rw [ht]; exact hP, va_K.moved hW.alike hK, hD⟩, hS.F ht⟩) hS.2.2 dX3_field_74
        · skip
          refine lv_aload_n hx hb dX3_field_59 rfl (lv_at hl 1 rfl) ?_
          refine va_get (D := (dC, dI)) (ci := 3) (v := .ref (b0 2)) (C := RX3) (T := TX3) (N := 17) hx hb hT inX3 hown hK hP 0 rfl rfl 4 (by decide) (hT _ tw_fl_X3_16) (fun _ h9 => h9) rfl dX3_field_60 ?_
          refine lv_iload_n hx hb dX3_field_63 rfl (lv_at hl 0 rfl) ?_
          refine ps_iald (k := k) (f := f 2) hx hb hK hP 3 0 rfl rfl (by omega) (by decide) dX3_field_64 ?_
          refine lv_goto (tgt := 74) hx hb dX3_field_65 rfl ?_
          exact W.iret (v := f 2 k) hx hb hr (fun t ht hW => ⟨⟨f 2 k, (), rfl, by simp [ps_mf, *], by rw [ht]; exact hP, va_K.moved hW.alike hK, hD⟩, hS.F ht⟩) hS.2.2 dX3_field_74
      · skip
        have h38n : fd < 3 := Int32.not_le.mp h38
        refine lv_aload_n hx hb dX3_field_41 rfl (lv_at hl 1 rfl) ?_
        refine va_get (D := (dC, dI)) (ci := 3) (v := .ref (b0 1)) (C := RX3) (T := TX3) (N := 17) hx hb hT inX3 hown hK hP 0 rfl rfl 3 (by decide) (hT _ tw_fl_X3_13) (fun _ h9 => h9) rfl dX3_field_42 ?_
        refine lv_iload_n hx hb dX3_field_45 rfl (lv_at hl 0 rfl) ?_
        refine ps_iald (k := k) (f := f 1) hx hb hK hP 2 0 rfl rfl (by omega) (by decide) dX3_field_46 ?_
        refine lv_iload_n hx hb dX3_field_47 rfl (lv_at hl 3 rfl) ?_
        refine vp_callSi (va_Run.run (va_runS (As := [.int (f 1 k), .int fd]) (rest := []) ⟨hx, hb, hml, hown, hT⟩ (mX3_axis l (f 1 k) fd) (va_cwS 2 hT (ps_gS tw_ml_X3_62 tw_st_X3_axis tw_in_X3 tw_co_X3_axis) rfl rfl rfl ⟨by decide, by decide, by decide +kernel⟩ ⟨Nat.le_of_ble_eq_true rfl, Nat.le_of_ble_eq_true rfl⟩) preEq rfl rfl hl.1 rfl (lv_room (Nat.le_of_ble_eq_true rfl)) dX3_field_48 ⟨Nat.le_of_ble_eq_true rfl, Nat.le_of_ble_eq_true rfl⟩)) (fun r hr => ?_)
        obtain rfl : r = ps_ax (f 1 k) fd := hr
        refine lv_goto (tgt := 74) hx hb dX3_field_51 rfl ?_
        exact W.iret (v := ps_ax (f 1 k) fd) hx hb hr (fun t ht hW => ⟨⟨ps_ax (f 1 k) fd, (), rfl, by simp [ps_mf, *], by rw [ht]; exact hP, va_K.moved hW.alike hK, hD⟩, hS.F ht⟩) hS.2.2 dX3_field_74
    · skip
      exact absurd (nI_pos' (by omega)) h27
  · skip
    exact Bool.noConfusion (hin.symm.trans h11)
set_option maxHeartbeats 4000000 in
set_option maxRecDepth 100000 in
theorem mX3_field_1 (l : Launch) (dC : Nat → ClassId) (dI : Nat → Nat → Nat) (cI cZ : ClassId) (w0 : Nat) (b0 : Nat → Nat) (th : Int32) (mn kn : Nat) (co : Int32) (ln : Nat) (wr lt : Int32) (f : ps_G) (v fd : Int32) (hin : ps_inr fd 0 4 = false) (sz : Nat) : Met l yX3_field (.code yX3_field cX3_field 4 (some .int) :: ps_T) ({ frames := 1, cells := 0, slots := 0, locals := 22 }) (ps_qc (dC, dI) (ps_ty cI cZ) (ps_mdW cI cZ w0 b0 th mn kn co ln wr lt f) sz [.ref w0, .int v, .int fd]) (va_Qi (fun (r : Int32) (_ : Unit) => r = 0) (ps_qB (dC, dI) (ps_ty cI cZ) (va_A (ps_mdW cI cZ w0 b0 th mn kn co ln wr lt f) sz) (ps_mdW cI cZ w0 b0 1 mn kn co ln wr lt f)) (va_A (ps_mdW cI cZ w0 b0 th mn kn co ln wr lt f) sz)) 0 0 (va_A (ps_mdW cI cZ w0 b0 th mn kn co ln wr lt f) sz) := by
  refine Met.ofW (cc := cX3_field) (maxL := 4) (ret := (some .int)) (by decide) rfl ?_
  intro p e s m args below meth c s₁ B hml hv
  obtain ⟨rfl, hsz, hN, hP, hK, hD0⟩ := hv
  have hx := B.exec
  have hb := B.bytes
  have hr := B.returns
  have hlocks := B.notSynchronized
  have hT : ∀ w ∈ ps_T, w.before ([.ref w0, .int v, .int fd] : List Value).toArray s = true := fun w h => atoms_spec (ws := (.code yX3_field cX3_field 4 (some .int) :: ps_T)) B.pre w (List.mem_cons_of_mem _ h)
  have hown : s.vm.findClass RX3 = some m.cls := findClass_of_methodNamed B.named
  subst hsz
  have hD := hD0.self (sz := s.heap.size)
  generalize hAe : va_A (ps_mdW cI cZ w0 b0 th mn kn co ln wr lt f) s.heap.size = A at hD ⊢
  have hA : ∀ q : Nat, s.heap.size ≤ q → A q := fun q h => by rw [← hAe]; exact Or.inr h
  have hS : va_S A s.heap s.heap [] := va_S.rf
  have hl := lv_entry ([.ref w0, .int v, .int fd]) (n := 4) (Nat.le_of_ble_eq_true rfl)
  rw [lg_entry_eq]
  generalize (lg_sl ([.ref w0, .int v, .int fd]) ++ List.replicate (4 - (lg_sl ([.ref w0, .int v, .int fd])).length) Slot.unset).toArray = ls at hl ⊢
  have hl : lv_has ls 4 [(0, .ref w0), (1, .int v), (2, .int fd)] := hl
  refine lv_aload_n hx hb dX3_field_0 rfl (lv_at hl 0 rfl) ?_
  refine lv_iconst (v := 0) hx hb dX3_field_1 (by decide) ?_
  refine va_put (D := (dC, dI)) (ci := 3) (v := .int 0) (ty := .int) (C := RX3) (T := TX3) (N := 17) hx hb hT inX3 tyX3 tyX3_ok nmX3 hown hK hP hD hS 0 rfl rfl 0 (by decide) (hT _ tw_fl_X3_45) (fun _ h9 => h9) rfl (by decide +kernel) rfl rfl (Nat.le_of_ble_eq_true rfl) dX3_field_2 (fun H locs hP hD hS => ?_)
  have hP : va_P (dC, dI) vwCl (ps_mdW cI cZ w0 b0 0 mn kn co ln wr lt f) H := hP
  have hD : va_D A (ps_mdW cI cZ w0 b0 0 mn kn co ln wr lt f) := hD
  refine lv_iload_n hx hb dX3_field_5 rfl (lv_at hl 2 rfl) ?_
  refine lv_iconst (v := 0) hx hb dX3_field_6 (by decide) ?_
  refine lv_iconst (v := 4) hx hb dX3_field_7 (by decide) ?_
  refine vp_callSi (va_Run.run (va_runS (As := [.int fd, .int 0, .int 4]) (rest := []) ⟨hx, hb, hml, hown, hT⟩ (mX3_in l fd 0 4) (va_cwS 3 hT (ps_gS tw_ml_X3_48 tw_st_X3_in tw_in_X3 tw_co_X3_in) rfl rfl rfl ⟨by decide, by decide, by decide +kernel⟩ ⟨Nat.le_of_ble_eq_true rfl, Nat.le_of_ble_eq_true rfl⟩) preEq rfl rfl hl.1 rfl (lv_room (Nat.le_of_ble_eq_true rfl)) dX3_field_8 ⟨Nat.le_of_ble_eq_true rfl, Nat.le_of_ble_eq_true rfl⟩)) (fun r hr => ?_)
  obtain rfl : r = ps_bi (ps_inr fd 0 4) := hr
  refine ps_ifb_ne (tgt := 20) hx hb dX3_field_11 rfl (fun h11 => ?_) (fun h11 => ?_)
  · skip
    exact Bool.noConfusion (hin.symm.trans h11)
  · skip
    refine lv_aload_n hx hb dX3_field_14 rfl (lv_at hl 0 rfl) ?_
    refine lv_iconst (v := 1) hx hb dX3_field_15 (by decide) ?_
    refine ps_cqi (wc := ps_mdW cI cZ w0 b0 0 mn kn co ln wr lt f) (wr := []) (w1 := ps_mdW cI cZ w0 b0 1 mn kn co ln wr lt f) (ws2 := ps_mdW cI cZ w0 b0 1 mn kn co ln wr lt f) (va_runV (C := RX3) (As := [.int 1]) (rest := []) ⟨hx, hb, hml, hown, hT⟩ (mX3_fails l dC dI cI cZ w0 b0 0 mn kn co ln wr lt f 1 _) (cwV 1 hT (ps_gV tw_ml_X3_79 tw_im_X3_fails tw_se_X3_fails tw_in_X3 tw_co_X3_fails) rfl rfl rfl ⟨rfl, by decide, by decide, by decide +kernel⟩ ⟨Nat.le_of_ble_eq_true rfl, Nat.le_of_ble_eq_true rfl⟩) (ps_qreV (wc := ps_mdW cI cZ w0 b0 0 mn kn co ln wr lt f) (ci := 3) [0, 1, 2, 3, 4, 5, 6, 7, 8, 9, 10] hN hP hK hD rfl rfl rfl rfl rfl) rfl rfl hl.1 rfl (lv_room (Nat.le_of_ble_eq_true rfl)) dX3_field_16 ⟨Nat.le_of_ble_eq_true rfl, Nat.le_of_ble_eq_true rfl⟩) hS hA hP hD [0, 1, 2, 3, 4, 5, 6, 7, 8, 9, 10] [] [0, 1, 2, 3, 4, 5, 6, 7, 8, 9, 10] rfl rfl rfl (by decide) rfl rfl rfl (fun H locs hP hD hS => ?_)
    exact W.iret (v := 0) hx hb hr (fun t ht hW => ⟨⟨0, (), rfl, rfl, by rw [ht]; exact hP, va_K.moved hW.alike hK, hD⟩, hS.F ht⟩) hS.2.2 dX3_field_19
set_option maxHeartbeats 4000000 in
set_option maxRecDepth 100000 in
theorem mX3_field_2 (l : Launch) (dC : Nat → ClassId) (dI : Nat → Nat → Nat) (cI cZ : ClassId) (w0 : Nat) (b0 : Nat → Nat) (th : Int32) (mn kn : Nat) (co : Int32) (ln : Nat) (wr lt : Int32) (f : ps_G) (hmn : mn ≤ 48) (v : Int32) (hf : ps_fl (f 0) v mn = none) (fd : Int32) (hin : ps_inr fd 0 4 = true) (sz : Nat) : Met l yX3_field (.code yX3_field cX3_field 4 (some .int) :: ps_T) ({ frames := 1, cells := 0, slots := 0, locals := 23 }) (ps_qc (dC, dI) (ps_ty cI cZ) (ps_mdW cI cZ w0 b0 th mn kn co ln wr lt f) sz [.ref w0, .int v, .int fd]) (va_Qi (fun (r : Int32) (_ : Unit) => r = 0) (ps_qB (dC, dI) (ps_ty cI cZ) (va_A (ps_mdW cI cZ w0 b0 th mn kn co ln wr lt f) sz) (ps_mdW cI cZ w0 b0 2 mn kn co ln wr lt f)) (va_A (ps_mdW cI cZ w0 b0 th mn kn co ln wr lt f) sz)) 0 0 (va_A (ps_mdW cI cZ w0 b0 th mn kn co ln wr lt f) sz) := by
  refine Met.ofW (cc := cX3_field) (maxL := 4) (ret := (some .int)) (by decide) rfl ?_
  intro p e s m args below meth c s₁ B hml hv
  obtain ⟨rfl, hsz, hN, hP, hK, hD0⟩ := hv
  have hx := B.exec
  have hb := B.bytes
  have hr := B.returns
  have hlocks := B.notSynchronized
  have hT : ∀ w ∈ ps_T, w.before ([.ref w0, .int v, .int fd] : List Value).toArray s = true := fun w h => atoms_spec (ws := (.code yX3_field cX3_field 4 (some .int) :: ps_T)) B.pre w (List.mem_cons_of_mem _ h)
  have hown : s.vm.findClass RX3 = some m.cls := findClass_of_methodNamed B.named
  subst hsz
  have hD := hD0.self (sz := s.heap.size)
  generalize hAe : va_A (ps_mdW cI cZ w0 b0 th mn kn co ln wr lt f) s.heap.size = A at hD ⊢
  have hA : ∀ q : Nat, s.heap.size ≤ q → A q := fun q h => by rw [← hAe]; exact Or.inr h
  have hS : va_S A s.heap s.heap [] := va_S.rf
  have hl := lv_entry ([.ref w0, .int v, .int fd]) (n := 4) (Nat.le_of_ble_eq_true rfl)
  rw [lg_entry_eq]
  generalize (lg_sl ([.ref w0, .int v, .int fd]) ++ List.replicate (4 - (lg_sl ([.ref w0, .int v, .int fd])).length) Slot.unset).toArray = ls at hl ⊢
  have hl : lv_has ls 4 [(0, .ref w0), (1, .int v), (2, .int fd)] := hl
  refine lv_aload_n hx hb dX3_field_0 rfl (lv_at hl 0 rfl) ?_
  refine lv_iconst (v := 0) hx hb dX3_field_1 (by decide) ?_
  refine va_put (D := (dC, dI)) (ci := 3) (v := .int 0) (ty := .int) (C := RX3) (T := TX3) (N := 17) hx hb hT inX3 tyX3 tyX3_ok nmX3 hown hK hP hD hS 0 rfl rfl 0 (by decide) (hT _ tw_fl_X3_45) (fun _ h9 => h9) rfl (by decide +kernel) rfl rfl (Nat.le_of_ble_eq_true rfl) dX3_field_2 (fun H locs hP hD hS => ?_)
  have hP : va_P (dC, dI) vwCl (ps_mdW cI cZ w0 b0 0 mn kn co ln wr lt f) H := hP
  have hD : va_D A (ps_mdW cI cZ w0 b0 0 mn kn co ln wr lt f) := hD
  refine lv_iload_n hx hb dX3_field_5 rfl (lv_at hl 2 rfl) ?_
  refine lv_iconst (v := 0) hx hb dX3_field_6 (by decide) ?_
  refine lv_iconst (v := 4) hx hb dX3_field_7 (by decide) ?_
  refine vp_callSi (va_Run.run (va_runS (As := [.int fd, .int 0, .int 4]) (rest := []) ⟨hx, hb, hml, hown, hT⟩ (mX3_in l fd 0 4) (va_cwS 3 hT (ps_gS tw_ml_X3_48 tw_st_X3_in tw_in_X3 tw_co_X3_in) rfl rfl rfl ⟨by decide, by decide, by decide +kernel⟩ ⟨Nat.le_of_ble_eq_true rfl, Nat.le_of_ble_eq_true rfl⟩) preEq rfl rfl hl.1 rfl (lv_room (Nat.le_of_ble_eq_true rfl)) dX3_field_8 ⟨Nat.le_of_ble_eq_true rfl, Nat.le_of_ble_eq_true rfl⟩)) (fun r hr => ?_)
  obtain rfl : r = ps_bi (ps_inr fd 0 4) := hr
  refine ps_ifb_ne (tgt := 20) hx hb dX3_field_11 rfl (fun h11 => ?_) (fun h11 => ?_)
  · skip
    refine lv_aload_n hx hb dX3_field_20 rfl (lv_at hl 0 rfl) ?_
    refine lv_iload_n hx hb dX3_field_21 rfl (lv_at hl 1 rfl) ?_
    refine vp_callSi (va_Run.run (va_runV (C := RX3) (As := [.int v]) (rest := []) ⟨hx, hb, hml, hown, hT⟩ (mX3_find l dC dI cI cZ w0 b0 0 mn kn co ln wr lt f (hmn) v) (cwV 1 hT (ps_gV tw_ml_X3_83 tw_im_X3_find tw_se_X3_find tw_in_X3 tw_co_X3_find) rfl rfl rfl ⟨rfl, by decide, by decide, by decide +kernel⟩ ⟨Nat.le_of_ble_eq_true rfl, Nat.le_of_ble_eq_true rfl⟩) (ps_preV (ci := 3) (q0 := 0) hN hP hK rfl rfl) rfl rfl hl.1 rfl (lv_room (Nat.le_of_ble_eq_true rfl)) dX3_field_22 ⟨Nat.le_of_ble_eq_true rfl, Nat.le_of_ble_eq_true rfl⟩)) (fun r hr => ?_)
    obtain rfl : r = ps_fr (ps_fl (f 0) v mn) := hr
    refine lv_topi (fun y9 hy9 => ?_)
    obtain rfl : y9 = (-1) := hy9.trans (by rw [hf]; rfl)
    refine lv_istore_n (lv' := [(3, .int ((-1))), (0, .ref w0), (1, .int v), (2, .int fd)]) hx hb dX3_field_25 rfl hl (by decide) rfl (fun ls hl => ?_)
    refine lv_iload_n hx hb dX3_field_26 rfl (lv_at hl 0 rfl) ?_
    refine lv_if_ge (tgt := 36) hx hb dX3_field_27 rfl (fun h27 => ?_) (fun h27 => ?_)
    · skip
      exact absurd h27 (by decide)
    · skip
      refine lv_aload_n hx hb dX3_field_30 rfl (lv_at hl 1 rfl) ?_
      refine lv_iconst (v := 2) hx hb dX3_field_31 (by decide) ?_
      refine ps_cqi (wc := ps_mdW cI cZ w0 b0 0 mn kn co ln wr lt f) (wr := []) (w1 := ps_mdW cI cZ w0 b0 2 mn kn co ln wr lt f) (ws2 := ps_mdW cI cZ w0 b0 2 mn kn co ln wr lt f) (va_runV (C := RX3) (As := [.int 2]) (rest := []) ⟨hx, hb, hml, hown, hT⟩ (mX3_fails l dC dI cI cZ w0 b0 0 mn kn co ln wr lt f 2 _) (cwV 1 hT (ps_gV tw_ml_X3_79 tw_im_X3_fails tw_se_X3_fails tw_in_X3 tw_co_X3_fails) rfl rfl rfl ⟨rfl, by decide, by decide, by decide +kernel⟩ ⟨Nat.le_of_ble_eq_true rfl, Nat.le_of_ble_eq_true rfl⟩) (ps_qreV (wc := ps_mdW cI cZ w0 b0 0 mn kn co ln wr lt f) (ci := 3) [0, 1, 2, 3, 4, 5, 6, 7, 8, 9, 10] hN hP hK hD rfl rfl rfl rfl rfl) rfl rfl hl.1 rfl (lv_room (Nat.le_of_ble_eq_true rfl)) dX3_field_32 ⟨Nat.le_of_ble_eq_true rfl, Nat.le_of_ble_eq_true rfl⟩) hS hA hP hD [0, 1, 2, 3, 4, 5, 6, 7, 8, 9, 10] [] [0, 1, 2, 3, 4, 5, 6, 7, 8, 9, 10] rfl rfl rfl (by decide) rfl rfl rfl (fun H locs hP hD hS => ?_)
      exact W.iret (v := 0) hx hb hr (fun t ht hW => ⟨⟨0, (), rfl, rfl, by rw [ht]; exact hP, va_K.moved hW.alike hK, hD⟩, hS.F ht⟩) hS.2.2 dX3_field_35
  · skip
    exact Bool.noConfusion (hin.symm.trans h11)
set_option maxHeartbeats 4000000 in
set_option maxRecDepth 100000 in
theorem mX3_corner (l : Launch) (dC : Nat → ClassId) (dI : Nat → Nat → Nat) (cI cZ : ClassId) (w0 : Nat) (b0 : Nat → Nat) (th : Int32) (mn kn : Nat) (co : Int32) (ln : Nat) (wr lt : Int32) (f : ps_G) (x y z : Int32) (sz : Nat) : Met l yX3_corner (.code yX3_corner cX3_corner 4 none :: ps_T) ({ frames := 2, cells := 0, slots := 0, locals := 44 }) (ps_qc (dC, dI) (ps_ty cI cZ) (ps_mdW cI cZ w0 b0 th mn kn co ln wr lt f) sz [.ref w0, .int x, .int y, .int z]) (va_Qv (fun _ : Unit => True) (ps_qB (dC, dI) (ps_ty cI cZ) (va_A (ps_mdW cI cZ w0 b0 th mn kn co ln wr lt f) sz) (ps_mdW cI cZ w0 b0 ((if ps_ip x y z = true then 0 else 1)) mn kn ((if ps_ip x y z = true then ps_pk x y z else co)) ln wr lt f)) (va_A (ps_mdW cI cZ w0 b0 th mn kn co ln wr lt f) sz)) 0 0 (va_A (ps_mdW cI cZ w0 b0 th mn kn co ln wr lt f) sz) := by
  refine Met.ofW (cc := cX3_corner) (maxL := 4) (ret := none) (by decide) rfl ?_
  intro p e s m args below meth c s₁ B hml hv
  obtain ⟨rfl, hsz, hN, hP, hK, hD0⟩ := hv
  have hx := B.exec
  have hb := B.bytes
  have hr := B.returns
  have hlocks := B.notSynchronized
  have hT : ∀ w ∈ ps_T, w.before ([.ref w0, .int x, .int y, .int z] : List Value).toArray s = true := fun w h => atoms_spec (ws := (.code yX3_corner cX3_corner 4 none :: ps_T)) B.pre w (List.mem_cons_of_mem _ h)
  have hown : s.vm.findClass RX3 = some m.cls := findClass_of_methodNamed B.named
  subst hsz
  have hD := hD0.self (sz := s.heap.size)
  generalize hAe : va_A (ps_mdW cI cZ w0 b0 th mn kn co ln wr lt f) s.heap.size = A at hD ⊢
  have hA : ∀ q : Nat, s.heap.size ≤ q → A q := fun q h => by rw [← hAe]; exact Or.inr h
  have hS : va_S A s.heap s.heap [] := va_S.rf
  have hl := lv_entry ([.ref w0, .int x, .int y, .int z]) (n := 4) (Nat.le_of_ble_eq_true rfl)
  rw [lg_entry_eq]
  generalize (lg_sl ([.ref w0, .int x, .int y, .int z]) ++ List.replicate (4 - (lg_sl ([.ref w0, .int x, .int y, .int z])).length) Slot.unset).toArray = ls at hl ⊢
  have hl : lv_has ls 4 [(0, .ref w0), (1, .int x), (2, .int y), (3, .int z)] := hl
  refine lv_aload_n hx hb dX3_corner_0 rfl (lv_at hl 0 rfl) ?_
  refine lv_iload_n hx hb dX3_corner_1 rfl (lv_at hl 1 rfl) ?_
  refine lv_iload_n hx hb dX3_corner_2 rfl (lv_at hl 2 rfl) ?_
  refine lv_iload_n hx hb dX3_corner_3 rfl (lv_at hl 3 rfl) ?_
  refine vp_callSi (va_Run.run (va_runS (As := [.int x, .int y, .int z]) (rest := [.ref w0]) ⟨hx, hb, hml, hown, hT⟩ (mX3_isPlace l x y z) (va_cwS 3 hT (ps_gS tw_ml_X3_76 tw_st_X3_isPlace tw_in_X3 tw_co_X3_isPlace) rfl rfl rfl ⟨by decide, by decide, by decide +kernel⟩ ⟨Nat.le_of_ble_eq_true rfl, Nat.le_of_ble_eq_true rfl⟩) preEq rfl rfl hl.1 rfl (lv_room (Nat.le_of_ble_eq_true rfl)) dX3_corner_4 ⟨Nat.le_of_ble_eq_true rfl, Nat.le_of_ble_eq_true rfl⟩)) (fun r hr => ?_)
  obtain rfl : r = ps_bi (ps_ip x y z) := hr
  rcases hip : ps_ip x y z with _ | _
  · skip
    show W _ _ _ _ _ _ _ _ _ _ _ _ _ _ _ (F0 _ _ _ (.int (ps_bi false) :: _))
    refine ps_ifb_eq (tgt := 14) hx hb dX3_corner_7 rfl (fun h7 => ?_) (fun h7 => ?_)
    · skip
      refine lv_iconst (v := 1) hx hb dX3_corner_14 (by decide) ?_
      refine va_put (D := (dC, dI)) (ci := 3) (v := .int 1) (ty := .int) (C := RX3) (T := TX3) (N := 17) hx hb hT inX3 tyX3 tyX3_ok nmX3 hown hK hP hD hS 0 rfl rfl 0 (by decide) (hT _ tw_fl_X3_45) (fun _ h9 => h9) rfl (by decide +kernel) rfl rfl (Nat.le_of_ble_eq_true rfl) dX3_corner_15 (fun H locs hP hD hS => ?_)
      have hP : va_P (dC, dI) vwCl (ps_mdW cI cZ w0 b0 1 mn kn co ln wr lt f) H := hP
      have hD : va_D A (ps_mdW cI cZ w0 b0 1 mn kn co ln wr lt f) := hD
      refine lv_aload_n hx hb dX3_corner_18 rfl (lv_at hl 0 rfl) ?_
      refine lv_aload_n hx hb dX3_corner_19 rfl (lv_at hl 0 rfl) ?_
      refine va_get (D := (dC, dI)) (ci := 3) (v := .int 1) (C := RX3) (T := TX3) (N := 17) hx hb hT inX3 hown hK hP 0 rfl rfl 0 (by decide) (hT _ tw_fl_X3_45) (fun _ h9 => h9) rfl dX3_corner_20 ?_
      refine lv_if_ne (tgt := 35) hx hb dX3_corner_23 rfl (fun h23 => ?_) (fun h23 => ?_)
      · skip
        refine lv_aload_n hx hb dX3_corner_35 rfl (lv_at hl 0 rfl) ?_
        refine va_get (D := (dC, dI)) (ci := 3) (v := .int co) (C := RX3) (T := TX3) (N := 17) hx hb hT inX3 hown hK hP 0 rfl rfl 12 (by decide) (hT _ tw_fl_X3_93) (fun _ h9 => h9) rfl dX3_corner_36 ?_
        refine va_put (D := (dC, dI)) (ci := 3) (v := .int co) (ty := .int) (C := RX3) (T := TX3) (N := 17) hx hb hT inX3 tyX3 tyX3_ok nmX3 hown hK hP hD hS 0 rfl rfl 12 (by decide) (hT _ tw_fl_X3_93) (fun _ h9 => h9) rfl (by decide +kernel) rfl rfl (Nat.le_of_ble_eq_true rfl) dX3_corner_39 (fun H locs hP hD hS => ?_)
        have hP : va_P (dC, dI) vwCl (ps_mdW cI cZ w0 b0 1 mn kn co ln wr lt f) H := hP
        have hD : va_D A (ps_mdW cI cZ w0 b0 1 mn kn co ln wr lt f) := hD
        exact W.vret hx hb hr (fun t ht hW => ⟨⟨(), rfl, trivial, by rw [ht]; exact hP, va_K.moved hW.alike hK, hD⟩, hS.F ht⟩) hS.2.2 dX3_corner_42
      · skip
        exact absurd h23 (by decide)
    · skip
      exact Bool.noConfusion h7
  · skip
    show W _ _ _ _ _ _ _ _ _ _ _ _ _ _ _ (F0 _ _ _ (.int (ps_bi true) :: _))
    refine ps_ifb_eq (tgt := 14) hx hb dX3_corner_7 rfl (fun h7 => ?_) (fun h7 => ?_)
    · skip
      exact Bool.noConfusion h7
    · skip
      refine lv_iconst (v := 0) hx hb dX3_corner_10 (by decide) ?_
      refine lv_goto (tgt := 15) hx hb dX3_corner_11 rfl ?_
      refine va_put (D := (dC, dI)) (ci := 3) (v := .int 0) (ty := .int) (C := RX3) (T := TX3) (N := 17) hx hb hT inX3 tyX3 tyX3_ok nmX3 hown hK hP hD hS 0 rfl rfl 0 (by decide) (hT _ tw_fl_X3_45) (fun _ h9 => h9) rfl (by decide +kernel) rfl rfl (Nat.le_of_ble_eq_true rfl) dX3_corner_15 (fun H locs hP hD hS => ?_)
      have hP : va_P (dC, dI) vwCl (ps_mdW cI cZ w0 b0 0 mn kn co ln wr lt f) H := hP
      have hD : va_D A (ps_mdW cI cZ w0 b0 0 mn kn co ln wr lt f) := hD
      refine lv_aload_n hx hb dX3_corner_18 rfl (lv_at hl 0 rfl) ?_
      refine lv_aload_n hx hb dX3_corner_19 rfl (lv_at hl 0 rfl) ?_
      refine va_get (D := (dC, dI)) (ci := 3) (v := .int 0) (C := RX3) (T := TX3) (N := 17) hx hb hT inX3 hown hK hP 0 rfl rfl 0 (by decide) (hT _ tw_fl_X3_45) (fun _ h9 => h9) rfl dX3_corner_20 ?_
      refine lv_if_ne (tgt := 35) hx hb dX3_corner_23 rfl (fun h23 => ?_) (fun h23 => ?_)
      · skip
        exact absurd rfl h23
      · skip
        refine lv_iload_n hx hb dX3_corner_26 rfl (lv_at hl 1 rfl) ?_
        refine lv_iload_n hx hb dX3_corner_27 rfl (lv_at hl 2 rfl) ?_
        refine lv_iload_n hx hb dX3_corner_28 rfl (lv_at hl 3 rfl) ?_
        refine vp_callSi (va_Run.run (va_runS (As := [.int x, .int y, .int z]) (rest := [.ref w0]) ⟨hx, hb, hml, hown, hT⟩ (mX3_packed l x y z) (va_cwS 3 hT (ps_gS tw_ml_X3_86 tw_st_X3_packed tw_in_X3 tw_co_X3_packed) rfl rfl rfl ⟨by decide, by decide, by decide +kernel⟩ ⟨Nat.le_of_ble_eq_true rfl, Nat.le_of_ble_eq_true rfl⟩) preEq rfl rfl hl.1 rfl (lv_room (Nat.le_of_ble_eq_true rfl)) dX3_corner_29 ⟨Nat.le_of_ble_eq_true rfl, Nat.le_of_ble_eq_true rfl⟩)) (fun r hr => ?_)
        obtain rfl : r = ps_pk x y z := hr
        refine lv_goto (tgt := 39) hx hb dX3_corner_32 rfl ?_
        refine va_put (D := (dC, dI)) (ci := 3) (v := .int (ps_pk x y z)) (ty := .int) (C := RX3) (T := TX3) (N := 17) hx hb hT inX3 tyX3 tyX3_ok nmX3 hown hK hP hD hS 0 rfl rfl 12 (by decide) (hT _ tw_fl_X3_93) (fun _ h9 => h9) rfl (by decide +kernel) rfl rfl (Nat.le_of_ble_eq_true rfl) dX3_corner_39 (fun H locs hP hD hS => ?_)
        have hP : va_P (dC, dI) vwCl (ps_mdW cI cZ w0 b0 0 mn kn (ps_pk x y z) ln wr lt f) H := hP
        have hD : va_D A (ps_mdW cI cZ w0 b0 0 mn kn (ps_pk x y z) ln wr lt f) := hD
        exact W.vret hx hb hr (fun t ht hW => ⟨⟨(), rfl, trivial, by rw [ht]; exact hP, va_K.moved hW.alike hK, hD⟩, hS.F ht⟩) hS.2.2 dX3_corner_42
set_option maxHeartbeats 4000000 in
set_option maxRecDepth 100000 in
theorem mX3_charge (l : Launch) (dC : Nat → ClassId) (dI : Nat → Nat → Nat) (cI cZ : ClassId) (w0 : Nat) (b0 : Nat → Nat) (th : Int32) (mn kn : Nat) (co : Int32) (ln : Nat) (wr lt : Int32) (f : ps_G) (v : Int32) (sz : Nat) : Met l yX3_charge (.code yX3_charge cX3_charge 2 none :: ps_T) ({ frames := 1, cells := 0, slots := 0, locals := 22 }) (ps_qc (dC, dI) (ps_ty cI cZ) (ps_mdW cI cZ w0 b0 th mn kn co ln wr lt f) sz [.ref w0, .int v]) (va_Qv (fun _ : Unit => True) (ps_qB (dC, dI) (ps_ty cI cZ) (va_A (ps_mdW cI cZ w0 b0 th mn kn co ln wr lt f) sz) (ps_mdW cI cZ w0 b0 ((if ps_inr v 0 99 = true then 0 else 1)) mn kn co ln wr ((if ps_inr v 0 99 = true then v else lt)) f)) (va_A (ps_mdW cI cZ w0 b0 th mn kn co ln wr lt f) sz)) 0 0 (va_A (ps_mdW cI cZ w0 b0 th mn kn co ln wr lt f) sz) := by
  refine Met.ofW (cc := cX3_charge) (maxL := 2) (ret := none) (by decide) rfl ?_
  intro p e s m args below meth c s₁ B hml hv
  obtain ⟨rfl, hsz, hN, hP, hK, hD0⟩ := hv
  have hx := B.exec
  have hb := B.bytes
  have hr := B.returns
  have hlocks := B.notSynchronized
  have hT : ∀ w ∈ ps_T, w.before ([.ref w0, .int v] : List Value).toArray s = true := fun w h => atoms_spec (ws := (.code yX3_charge cX3_charge 2 none :: ps_T)) B.pre w (List.mem_cons_of_mem _ h)
  have hown : s.vm.findClass RX3 = some m.cls := findClass_of_methodNamed B.named
  subst hsz
  have hD := hD0.self (sz := s.heap.size)
  generalize hAe : va_A (ps_mdW cI cZ w0 b0 th mn kn co ln wr lt f) s.heap.size = A at hD ⊢
  have hA : ∀ q : Nat, s.heap.size ≤ q → A q := fun q h => by rw [← hAe]; exact Or.inr h
  have hS : va_S A s.heap s.heap [] := va_S.rf
  have hl := lv_entry ([.ref w0, .int v]) (n := 2) (Nat.le_of_ble_eq_true rfl)
  rw [lg_entry_eq]
  generalize (lg_sl ([.ref w0, .int v]) ++ List.replicate (2 - (lg_sl ([.ref w0, .int v])).length) Slot.unset).toArray = ls at hl ⊢
  have hl : lv_has ls 2 [(0, .ref w0), (1, .int v)] := hl
  refine lv_aload_n hx hb dX3_charge_0 rfl (lv_at hl 0 rfl) ?_
  refine lv_iload_n hx hb dX3_charge_1 rfl (lv_at hl 1 rfl) ?_
  refine lv_iconst (v := 0) hx hb dX3_charge_2 (by decide) ?_
  refine lv_bipush (v := 99) hx hb dX3_charge_3 (by decide) ?_
  refine vp_callSi (va_Run.run (va_runS (As := [.int v, .int 0, .int 99]) (rest := [.ref w0]) ⟨hx, hb, hml, hown, hT⟩ (mX3_in l v 0 99) (va_cwS 3 hT (ps_gS tw_ml_X3_48 tw_st_X3_in tw_in_X3 tw_co_X3_in) rfl rfl rfl ⟨by decide, by decide, by decide +kernel⟩ ⟨Nat.le_of_ble_eq_true rfl, Nat.le_of_ble_eq_true rfl⟩) preEq rfl rfl hl.1 rfl (lv_room (Nat.le_of_ble_eq_true rfl)) dX3_charge_5 ⟨Nat.le_of_ble_eq_true rfl, Nat.le_of_ble_eq_true rfl⟩)) (fun r hr => ?_)
  obtain rfl : r = ps_bi (ps_inr v 0 99) := hr
  rcases hip : ps_inr v 0 99 with _ | _
  · skip
    show W _ _ _ _ _ _ _ _ _ _ _ _ _ _ _ (F0 _ _ _ (.int (ps_bi false) :: _))
    refine ps_ifb_eq (tgt := 15) hx hb dX3_charge_8 rfl (fun h8 => ?_) (fun h8 => ?_)
    · skip
      refine lv_iconst (v := 1) hx hb dX3_charge_15 (by decide) ?_
      refine va_put (D := (dC, dI)) (ci := 3) (v := .int 1) (ty := .int) (C := RX3) (T := TX3) (N := 17) hx hb hT inX3 tyX3 tyX3_ok nmX3 hown hK hP hD hS 0 rfl rfl 0 (by decide) (hT _ tw_fl_X3_45) (fun _ h9 => h9) rfl (by decide +kernel) rfl rfl (Nat.le_of_ble_eq_true rfl) dX3_charge_16 (fun H locs hP hD hS => ?_)
      have hP : va_P (dC, dI) vwCl (ps_mdW cI cZ w0 b0 1 mn kn co ln wr lt f) H := hP
      have hD : va_D A (ps_mdW cI cZ w0 b0 1 mn kn co ln wr lt f) := hD
      refine lv_aload_n hx hb dX3_charge_19 rfl (lv_at hl 0 rfl) ?_
      refine lv_aload_n hx hb dX3_charge_20 rfl (lv_at hl 0 rfl) ?_
      refine va_get (D := (dC, dI)) (ci := 3) (v := .int 1) (C := RX3) (T := TX3) (N := 17) hx hb hT inX3 hown hK hP 0 rfl rfl 0 (by decide) (hT _ tw_fl_X3_45) (fun _ h9 => h9) rfl dX3_charge_21 ?_
      refine lv_if_ne (tgt := 31) hx hb dX3_charge_24 rfl (fun h24 => ?_) (fun h24 => ?_)
      · skip
        refine lv_aload_n hx hb dX3_charge_31 rfl (lv_at hl 0 rfl) ?_
        refine va_get (D := (dC, dI)) (ci := 3) (v := .int lt) (C := RX3) (T := TX3) (N := 17) hx hb hT inX3 hown hK hP 0 rfl rfl 16 (by decide) (hT _ tw_fl_X3_41) (fun _ h9 => h9) rfl dX3_charge_32 ?_
        refine va_put (D := (dC, dI)) (ci := 3) (v := .int lt) (ty := .int) (C := RX3) (T := TX3) (N := 17) hx hb hT inX3 tyX3 tyX3_ok nmX3 hown hK hP hD hS 0 rfl rfl 16 (by decide) (hT _ tw_fl_X3_41) (fun _ h9 => h9) rfl (by decide +kernel) rfl rfl (Nat.le_of_ble_eq_true rfl) dX3_charge_35 (fun H locs hP hD hS => ?_)
        have hP : va_P (dC, dI) vwCl (ps_mdW cI cZ w0 b0 1 mn kn co ln wr lt f) H := hP
        have hD : va_D A (ps_mdW cI cZ w0 b0 1 mn kn co ln wr lt f) := hD
        exact W.vret hx hb hr (fun t ht hW => ⟨⟨(), rfl, trivial, by rw [ht]; exact hP, va_K.moved hW.alike hK, hD⟩, hS.F ht⟩) hS.2.2 dX3_charge_38
      · skip
        exact absurd h24 (by decide)
    · skip
      exact Bool.noConfusion h8
  · skip
    show W _ _ _ _ _ _ _ _ _ _ _ _ _ _ _ (F0 _ _ _ (.int (ps_bi true) :: _))
    refine ps_ifb_eq (tgt := 15) hx hb dX3_charge_8 rfl (fun h8 => ?_) (fun h8 => ?_)
    · skip
      exact Bool.noConfusion h8
    · skip
      refine lv_iconst (v := 0) hx hb dX3_charge_11 (by decide) ?_
      refine lv_goto (tgt := 16) hx hb dX3_charge_12 rfl ?_
      refine va_put (D := (dC, dI)) (ci := 3) (v := .int 0) (ty := .int) (C := RX3) (T := TX3) (N := 17) hx hb hT inX3 tyX3 tyX3_ok nmX3 hown hK hP hD hS 0 rfl rfl 0 (by decide) (hT _ tw_fl_X3_45) (fun _ h9 => h9) rfl (by decide +kernel) rfl rfl (Nat.le_of_ble_eq_true rfl) dX3_charge_16 (fun H locs hP hD hS => ?_)
      have hP : va_P (dC, dI) vwCl (ps_mdW cI cZ w0 b0 0 mn kn co ln wr lt f) H := hP
      have hD : va_D A (ps_mdW cI cZ w0 b0 0 mn kn co ln wr lt f) := hD
      refine lv_aload_n hx hb dX3_charge_19 rfl (lv_at hl 0 rfl) ?_
      refine lv_aload_n hx hb dX3_charge_20 rfl (lv_at hl 0 rfl) ?_
      refine va_get (D := (dC, dI)) (ci := 3) (v := .int 0) (C := RX3) (T := TX3) (N := 17) hx hb hT inX3 hown hK hP 0 rfl rfl 0 (by decide) (hT _ tw_fl_X3_45) (fun _ h9 => h9) rfl dX3_charge_21 ?_
      refine lv_if_ne (tgt := 31) hx hb dX3_charge_24 rfl (fun h24 => ?_) (fun h24 => ?_)
      · skip
        exact absurd rfl h24
      · skip
        refine lv_iload_n hx hb dX3_charge_27 rfl (lv_at hl 1 rfl) ?_
        refine lv_goto (tgt := 35) hx hb dX3_charge_28 rfl ?_
        refine va_put (D := (dC, dI)) (ci := 3) (v := .int v) (ty := .int) (C := RX3) (T := TX3) (N := 17) hx hb hT inX3 tyX3 tyX3_ok nmX3 hown hK hP hD hS 0 rfl rfl 16 (by decide) (hT _ tw_fl_X3_41) (fun _ h9 => h9) rfl (by decide +kernel) rfl rfl (Nat.le_of_ble_eq_true rfl) dX3_charge_35 (fun H locs hP hD hS => ?_)
        have hP : va_P (dC, dI) vwCl (ps_mdW cI cZ w0 b0 0 mn kn co ln wr v f) H := hP
        have hD : va_D A (ps_mdW cI cZ w0 b0 0 mn kn co ln wr v f) := hD
        exact W.vret hx hb hr (fun t ht hW => ⟨⟨(), rfl, trivial, by rw [ht]; exact hP, va_K.moved hW.alike hK, hD⟩, hS.F ht⟩) hS.2.2 dX3_charge_38
