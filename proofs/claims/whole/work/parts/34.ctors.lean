/-! contracts: the constructors. By wip/ctors.py. -/
def ps_ad (qs : List Nat) : Nat → Nat := fun i => qs.getD i 0
section PSO
variable {p : Program} {l : Launch} {e : Env} {R : Room} {s : State} {m : MethodId} {args : Array Value} {below : List Frame} {meth : Method} {c : Code} {H : Heap} {locs : List Loc} {cells slots : Nat} {Q : State → Prop}
variable {cc : ByteArray} {pc : Nat} {ls : Array Slot} {rest : List Value} {D : va_G} {A : Nat → Prop} {tys : List (ClassId × FieldType)} {ws : va_W} {H0 : Heap}
theorem ps_one_cls {cA cB : ClassId} {ty : FieldType} (h1 : s.vm.findClass ("[" ++ ty.toString) = some cA) (h2 : s.vm.findClass ("[" ++ ty.toString) = some cB) : cA = cB := Option.some.inj (h1.symm.trans h2)
theorem ps_newI (hexec : p.tables.exec = Jvm.exec) (hb : c.code = cc) (hT : ∀ w ∈ ps_T, w.before args s = true) (hK : va_K D vwCl tys s) (hP : va_P D vwCl ws H) (hD : va_D A ws) (hS : va_S A H0 H locs) (hA : ∀ q, H0.size ≤ q → A q) {cI : ClassId} {t0 : Nat} (ht : tys[t0]? = some (cI, .int)) (hcells : cells + 1 ≤ R.cells) (hslots : slots + 48 ≤ R.slots) (hdg : decode cc pc = .ok (.newarray .int, 2))
    (kk : ∀ (q : Nat) (H1 : Heap), va_P D vwCl (ws ++ [(q, .inl (cI, 48, .inl (fun _ => 0)))]) H1 → va_D A (ws ++ [(q, .inl (cI, 48, .inl (fun _ => 0)))]) → va_S A H0 H1 locs → W p l e R s m args below meth c H1 locs (cells + 1) (slots + 48) Q (F0 m (pc + 2) ls (.ref q :: rest))) : W p l e R s m args below meth c H locs cells slots Q (F0 m pc ls (.int 48 :: rest)) := by
  refine va_newa (atype := .int) (ty := .int) (a0 := (48, .inl (fun _ => 0))) hexec hb (hT _ tw_ac_int) rfl hK hP hD hS hA (fun cA => rfl) (by decide) (by decide) (by decide) hcells hslots hdg (fun q cA H1 hK1 hP1 hD1 hS1 => ?_)
  have e1 : s.vm.findClass ("[" ++ (FieldType.int).toString) = some cA := (hK1.2 tys.length (cA, .int) (by simp)).2
  have e2 : s.vm.findClass ("[" ++ (FieldType.int).toString) = some cI := (hK.2 t0 _ ht).2
  cases ps_one_cls e1 e2
  exact kk q H1 hP1 hD1 hS1
theorem ps_newZ (hexec : p.tables.exec = Jvm.exec) (hb : c.code = cc) (hT : ∀ w ∈ ps_T, w.before args s = true) (hK : va_K D vwCl tys s) (hP : va_P D vwCl ws H) (hD : va_D A ws) (hS : va_S A H0 H locs) (hA : ∀ q, H0.size ≤ q → A q) {cZ : ClassId} {t0 : Nat} (ht : tys[t0]? = some (cZ, .boolean)) (hcells : cells + 1 ≤ R.cells) (hslots : slots + 48 ≤ R.slots) (hdg : decode cc pc = .ok (.newarray .boolean, 2))
    (kk : ∀ (q : Nat) (H1 : Heap), va_P D vwCl (ws ++ [(q, .inl (cZ, 48, .inl (fun _ => 0)))]) H1 → va_D A (ws ++ [(q, .inl (cZ, 48, .inl (fun _ => 0)))]) → va_S A H0 H1 locs → W p l e R s m args below meth c H1 locs (cells + 1) (slots + 48) Q (F0 m (pc + 2) ls (.ref q :: rest))) : W p l e R s m args below meth c H locs cells slots Q (F0 m pc ls (.int 48 :: rest)) := by
  refine va_newa (atype := .boolean) (ty := .boolean) (a0 := (48, .inl (fun _ => 0))) hexec hb (hT _ tw_ac_boolean) rfl hK hP hD hS hA (fun cA => rfl) (by decide) (by decide) (by decide) hcells hslots hdg (fun q cA H1 hK1 hP1 hD1 hS1 => ?_)
  have e1 : s.vm.findClass ("[" ++ (FieldType.boolean).toString) = some cA := (hK1.2 tys.length (cA, .boolean) (by simp)).2
  have e2 : s.vm.findClass ("[" ++ (FieldType.boolean).toString) = some cZ := (hK.2 t0 _ ht).2
  cases ps_one_cls e1 e2
  exact kk q H1 hP1 hD1 hS1
end PSO
set_option maxHeartbeats 4000000 in
set_option maxRecDepth 100000 in
theorem mX1_init (l : Launch) (dC : Nat → ClassId) (dI : Nat → Nat → Nat) (cI cZ : ClassId) (q : Nat) (sz : Nat) : Met l yX1_init (.code yX1_init cX1_init 1 none :: ps_T) ({ frames := 1, cells := 8, slots := 384, locals := 20 }) (ps_qc (dC, dI) (ps_ty cI cZ) ([(q, .inr (1, [.null, .null, .null, .null, .null, .null, .null, .null, .int 0]))]) sz [.ref q]) (va_Qv (fun _ : Nat → Nat => True) (fun a t => va_P (dC, dI) vwCl (ps_trW cI cZ q a 0 (fun _ _ => 0)) t.heap ∧ va_K (dC, dI) vwCl (ps_ty cI cZ) t ∧ va_D (va_A ([(q, .inr (1, [.null, .null, .null, .null, .null, .null, .null, .null, .int 0]))]) sz) (ps_trW cI cZ q a 0 (fun _ _ => 0))) (va_A ([(q, .inr (1, [.null, .null, .null, .null, .null, .null, .null, .null, .int 0]))]) sz)) 8 384 (va_A ([(q, .inr (1, [.null, .null, .null, .null, .null, .null, .null, .null, .int 0]))]) sz) := by
  refine Met.ofW (cc := cX1_init) (maxL := 1) (ret := none) (by decide) rfl ?_
  intro p e s m args below meth c s₁ B hml hv
  obtain ⟨rfl, hsz, hN, hP, hK, hD0⟩ := hv
  have hx := B.exec
  have hb := B.bytes
  have hr := B.returns
  have hlocks := B.notSynchronized
  have hT : ∀ w ∈ ps_T, w.before ([.ref q] : List Value).toArray s = true := fun w h => atoms_spec (ws := (.code yX1_init cX1_init 1 none :: ps_T)) B.pre w (List.mem_cons_of_mem _ h)
  have hown : s.vm.findClass RX1 = some m.cls := findClass_of_methodNamed B.named
  have hin : meth.name = "<init>" := (name_of_methodNamed B.named B.method).1
  subst hsz
  have hD := hD0.self (sz := s.heap.size)
  generalize hAe : va_A ([(q, .inr (1, [.null, .null, .null, .null, .null, .null, .null, .null, .int 0]))]) s.heap.size = A at hD ⊢
  have hA : ∀ q : Nat, s.heap.size ≤ q → A q := fun q h => by rw [← hAe]; exact Or.inr h
  have hS : va_S A s.heap s.heap [] := va_S.rf
  have hl := lv_entry ([.ref q]) (n := 1) (Nat.le_of_ble_eq_true rfl)
  rw [lg_entry_eq]
  generalize (lg_sl ([.ref q]) ++ List.replicate (1 - (lg_sl ([.ref q])).length) Slot.unset).toArray = ls at hl ⊢
  have hl : lv_has ls 1 [(0, .ref q)] := hl
  refine lv_aload_n hx hb dX1_init_0 rfl (lv_at hl 0 rfl) ?_
  refine W.objInit hx hb hown (hT _ tw_ml_X1_3) (hT _ tw_im_Object_init) (hT _ tw_co_Object_init) rfl (by rw [hml]; exact hl.1) rfl dX1_init_1 (Nat.le_of_ble_eq_true rfl) (Nat.le_of_ble_eq_true rfl) ?_
  refine W.eq (g2 := F0 m 4 ls []) rfl ?_
  refine lv_aload_n hx hb dX1_init_4 rfl (lv_at hl 0 rfl) ?_
  refine lv_bipush (v := 48) hx hb dX1_init_5 (by decide) ?_
  refine ps_newI (t0 := 0) hx hb hT hK hP hD hS hA rfl (Nat.le_of_ble_eq_true rfl) (Nat.le_of_ble_eq_true rfl) dX1_init_7 (fun r0 H hP hD hS => ?_)
  have hP : va_P (dC, dI) vwCl ([(q, .inr (1, [.null, .null, .null, .null, .null, .null, .null, .null, .int 0])), (r0, .inl (cI, 48, .inl (fun _ => 0)))]) H := hP
  have hD : va_D A ([(q, .inr (1, [.null, .null, .null, .null, .null, .null, .null, .null, .int 0])), (r0, .inl (cI, 48, .inl (fun _ => 0)))]) := hD
  refine va_putF (D := (dC, dI)) (ci := 1) (v := .ref r0) (ty := .array .int) (C := RX1) (T := TX1) (N := 9) hx hb hT inX1 tyX1 tyX1_ok nmX1 hown hK hP hD hS 0 rfl rfl 0 (by decide) (hT _ tw_fl_X1_9) (fun _ h9 => h9) rfl hin rfl (by decide +kernel) rfl rfl (Nat.le_of_ble_eq_true rfl) dX1_init_9 (fun H locs hP hD hS => ?_)
  have hP : va_P (dC, dI) vwCl ([(q, .inr (1, [.ref r0, .null, .null, .null, .null, .null, .null, .null, .int 0])), (r0, .inl (cI, 48, .inl (fun _ => 0)))]) H := hP
  have hD : va_D A ([(q, .inr (1, [.ref r0, .null, .null, .null, .null, .null, .null, .null, .int 0])), (r0, .inl (cI, 48, .inl (fun _ => 0)))]) := hD
  refine lv_aload_n hx hb dX1_init_12 rfl (lv_at hl 0 rfl) ?_
  refine lv_bipush (v := 48) hx hb dX1_init_13 (by decide) ?_
  refine ps_newI (t0 := 0) hx hb hT hK hP hD hS hA rfl (Nat.le_of_ble_eq_true rfl) (Nat.le_of_ble_eq_true rfl) dX1_init_15 (fun r1 H hP hD hS => ?_)
  have hP : va_P (dC, dI) vwCl ([(q, .inr (1, [.ref r0, .null, .null, .null, .null, .null, .null, .null, .int 0])), (r0, .inl (cI, 48, .inl (fun _ => 0))), (r1, .inl (cI, 48, .inl (fun _ => 0)))]) H := hP
  have hD : va_D A ([(q, .inr (1, [.ref r0, .null, .null, .null, .null, .null, .null, .null, .int 0])), (r0, .inl (cI, 48, .inl (fun _ => 0))), (r1, .inl (cI, 48, .inl (fun _ => 0)))]) := hD
  refine va_putF (D := (dC, dI)) (ci := 1) (v := .ref r1) (ty := .array .int) (C := RX1) (T := TX1) (N := 9) hx hb hT inX1 tyX1 tyX1_ok nmX1 hown hK hP hD hS 0 rfl rfl 1 (by decide) (hT _ tw_fl_X1_15) (fun _ h9 => h9) rfl hin rfl (by decide +kernel) rfl rfl (Nat.le_of_ble_eq_true rfl) dX1_init_17 (fun H locs hP hD hS => ?_)
  have hP : va_P (dC, dI) vwCl ([(q, .inr (1, [.ref r0, .ref r1, .null, .null, .null, .null, .null, .null, .int 0])), (r0, .inl (cI, 48, .inl (fun _ => 0))), (r1, .inl (cI, 48, .inl (fun _ => 0)))]) H := hP
  have hD : va_D A ([(q, .inr (1, [.ref r0, .ref r1, .null, .null, .null, .null, .null, .null, .int 0])), (r0, .inl (cI, 48, .inl (fun _ => 0))), (r1, .inl (cI, 48, .inl (fun _ => 0)))]) := hD
  refine lv_aload_n hx hb dX1_init_20 rfl (lv_at hl 0 rfl) ?_
  refine lv_bipush (v := 48) hx hb dX1_init_21 (by decide) ?_
  refine ps_newI (t0 := 0) hx hb hT hK hP hD hS hA rfl (Nat.le_of_ble_eq_true rfl) (Nat.le_of_ble_eq_true rfl) dX1_init_23 (fun r2 H hP hD hS => ?_)
  have hP : va_P (dC, dI) vwCl ([(q, .inr (1, [.ref r0, .ref r1, .null, .null, .null, .null, .null, .null, .int 0])), (r0, .inl (cI, 48, .inl (fun _ => 0))), (r1, .inl (cI, 48, .inl (fun _ => 0))), (r2, .inl (cI, 48, .inl (fun _ => 0)))]) H := hP
  have hD : va_D A ([(q, .inr (1, [.ref r0, .ref r1, .null, .null, .null, .null, .null, .null, .int 0])), (r0, .inl (cI, 48, .inl (fun _ => 0))), (r1, .inl (cI, 48, .inl (fun _ => 0))), (r2, .inl (cI, 48, .inl (fun _ => 0)))]) := hD
  refine va_putF (D := (dC, dI)) (ci := 1) (v := .ref r2) (ty := .array .int) (C := RX1) (T := TX1) (N := 9) hx hb hT inX1 tyX1 tyX1_ok nmX1 hown hK hP hD hS 0 rfl rfl 2 (by decide) (hT _ tw_fl_X1_18) (fun _ h9 => h9) rfl hin rfl (by decide +kernel) rfl rfl (Nat.le_of_ble_eq_true rfl) dX1_init_25 (fun H locs hP hD hS => ?_)
  have hP : va_P (dC, dI) vwCl ([(q, .inr (1, [.ref r0, .ref r1, .ref r2, .null, .null, .null, .null, .null, .int 0])), (r0, .inl (cI, 48, .inl (fun _ => 0))), (r1, .inl (cI, 48, .inl (fun _ => 0))), (r2, .inl (cI, 48, .inl (fun _ => 0)))]) H := hP
  have hD : va_D A ([(q, .inr (1, [.ref r0, .ref r1, .ref r2, .null, .null, .null, .null, .null, .int 0])), (r0, .inl (cI, 48, .inl (fun _ => 0))), (r1, .inl (cI, 48, .inl (fun _ => 0))), (r2, .inl (cI, 48, .inl (fun _ => 0)))]) := hD
  refine lv_aload_n hx hb dX1_init_28 rfl (lv_at hl 0 rfl) ?_
  refine lv_bipush (v := 48) hx hb dX1_init_29 (by decide) ?_
  refine ps_newI (t0 := 0) hx hb hT hK hP hD hS hA rfl (Nat.le_of_ble_eq_true rfl) (Nat.le_of_ble_eq_true rfl) dX1_init_31 (fun r3 H hP hD hS => ?_)
  have hP : va_P (dC, dI) vwCl ([(q, .inr (1, [.ref r0, .ref r1, .ref r2, .null, .null, .null, .null, .null, .int 0])), (r0, .inl (cI, 48, .inl (fun _ => 0))), (r1, .inl (cI, 48, .inl (fun _ => 0))), (r2, .inl (cI, 48, .inl (fun _ => 0))), (r3, .inl (cI, 48, .inl (fun _ => 0)))]) H := hP
  have hD : va_D A ([(q, .inr (1, [.ref r0, .ref r1, .ref r2, .null, .null, .null, .null, .null, .int 0])), (r0, .inl (cI, 48, .inl (fun _ => 0))), (r1, .inl (cI, 48, .inl (fun _ => 0))), (r2, .inl (cI, 48, .inl (fun _ => 0))), (r3, .inl (cI, 48, .inl (fun _ => 0)))]) := hD
  refine va_putF (D := (dC, dI)) (ci := 1) (v := .ref r3) (ty := .array .int) (C := RX1) (T := TX1) (N := 9) hx hb hT inX1 tyX1 tyX1_ok nmX1 hown hK hP hD hS 0 rfl rfl 3 (by decide) (hT _ tw_fl_X1_21) (fun _ h9 => h9) rfl hin rfl (by decide +kernel) rfl rfl (Nat.le_of_ble_eq_true rfl) dX1_init_33 (fun H locs hP hD hS => ?_)
  have hP : va_P (dC, dI) vwCl ([(q, .inr (1, [.ref r0, .ref r1, .ref r2, .ref r3, .null, .null, .null, .null, .int 0])), (r0, .inl (cI, 48, .inl (fun _ => 0))), (r1, .inl (cI, 48, .inl (fun _ => 0))), (r2, .inl (cI, 48, .inl (fun _ => 0))), (r3, .inl (cI, 48, .inl (fun _ => 0)))]) H := hP
  have hD : va_D A ([(q, .inr (1, [.ref r0, .ref r1, .ref r2, .ref r3, .null, .null, .null, .null, .int 0])), (r0, .inl (cI, 48, .inl (fun _ => 0))), (r1, .inl (cI, 48, .inl (fun _ => 0))), (r2, .inl (cI, 48, .inl (fun _ => 0))), (r3, .inl (cI, 48, .inl (fun _ => 0)))]) := hD
  refine lv_aload_n hx hb dX1_init_36 rfl (lv_at hl 0 rfl) ?_
  refine lv_bipush (v := 48) hx hb dX1_init_37 (by decide) ?_
  refine ps_newI (t0 := 0) hx hb hT hK hP hD hS hA rfl (Nat.le_of_ble_eq_true rfl) (Nat.le_of_ble_eq_true rfl) dX1_init_39 (fun r4 H hP hD hS => ?_)
  have hP : va_P (dC, dI) vwCl ([(q, .inr (1, [.ref r0, .ref r1, .ref r2, .ref r3, .null, .null, .null, .null, .int 0])), (r0, .inl (cI, 48, .inl (fun _ => 0))), (r1, .inl (cI, 48, .inl (fun _ => 0))), (r2, .inl (cI, 48, .inl (fun _ => 0))), (r3, .inl (cI, 48, .inl (fun _ => 0))), (r4, .inl (cI, 48, .inl (fun _ => 0)))]) H := hP
  have hD : va_D A ([(q, .inr (1, [.ref r0, .ref r1, .ref r2, .ref r3, .null, .null, .null, .null, .int 0])), (r0, .inl (cI, 48, .inl (fun _ => 0))), (r1, .inl (cI, 48, .inl (fun _ => 0))), (r2, .inl (cI, 48, .inl (fun _ => 0))), (r3, .inl (cI, 48, .inl (fun _ => 0))), (r4, .inl (cI, 48, .inl (fun _ => 0)))]) := hD
  refine va_putF (D := (dC, dI)) (ci := 1) (v := .ref r4) (ty := .array .int) (C := RX1) (T := TX1) (N := 9) hx hb hT inX1 tyX1 tyX1_ok nmX1 hown hK hP hD hS 0 rfl rfl 4 (by decide) (hT _ tw_fl_X1_24) (fun _ h9 => h9) rfl hin rfl (by decide +kernel) rfl rfl (Nat.le_of_ble_eq_true rfl) dX1_init_41 (fun H locs hP hD hS => ?_)
  have hP : va_P (dC, dI) vwCl ([(q, .inr (1, [.ref r0, .ref r1, .ref r2, .ref r3, .ref r4, .null, .null, .null, .int 0])), (r0, .inl (cI, 48, .inl (fun _ => 0))), (r1, .inl (cI, 48, .inl (fun _ => 0))), (r2, .inl (cI, 48, .inl (fun _ => 0))), (r3, .inl (cI, 48, .inl (fun _ => 0))), (r4, .inl (cI, 48, .inl (fun _ => 0)))]) H := hP
  have hD : va_D A ([(q, .inr (1, [.ref r0, .ref r1, .ref r2, .ref r3, .ref r4, .null, .null, .null, .int 0])), (r0, .inl (cI, 48, .inl (fun _ => 0))), (r1, .inl (cI, 48, .inl (fun _ => 0))), (r2, .inl (cI, 48, .inl (fun _ => 0))), (r3, .inl (cI, 48, .inl (fun _ => 0))), (r4, .inl (cI, 48, .inl (fun _ => 0)))]) := hD
  refine lv_aload_n hx hb dX1_init_44 rfl (lv_at hl 0 rfl) ?_
  refine lv_bipush (v := 48) hx hb dX1_init_45 (by decide) ?_
  refine ps_newI (t0 := 0) hx hb hT hK hP hD hS hA rfl (Nat.le_of_ble_eq_true rfl) (Nat.le_of_ble_eq_true rfl) dX1_init_47 (fun r5 H hP hD hS => ?_)
  have hP : va_P (dC, dI) vwCl ([(q, .inr (1, [.ref r0, .ref r1, .ref r2, .ref r3, .ref r4, .null, .null, .null, .int 0])), (r0, .inl (cI, 48, .inl (fun _ => 0))), (r1, .inl (cI, 48, .inl (fun _ => 0))), (r2, .inl (cI, 48, .inl (fun _ => 0))), (r3, .inl (cI, 48, .inl (fun _ => 0))), (r4, .inl (cI, 48, .inl (fun _ => 0))), (r5, .inl (cI, 48, .inl (fun _ => 0)))]) H := hP
  have hD : va_D A ([(q, .inr (1, [.ref r0, .ref r1, .ref r2, .ref r3, .ref r4, .null, .null, .null, .int 0])), (r0, .inl (cI, 48, .inl (fun _ => 0))), (r1, .inl (cI, 48, .inl (fun _ => 0))), (r2, .inl (cI, 48, .inl (fun _ => 0))), (r3, .inl (cI, 48, .inl (fun _ => 0))), (r4, .inl (cI, 48, .inl (fun _ => 0))), (r5, .inl (cI, 48, .inl (fun _ => 0)))]) := hD
  refine va_putF (D := (dC, dI)) (ci := 1) (v := .ref r5) (ty := .array .int) (C := RX1) (T := TX1) (N := 9) hx hb hT inX1 tyX1 tyX1_ok nmX1 hown hK hP hD hS 0 rfl rfl 5 (by decide) (hT _ tw_fl_X1_27) (fun _ h9 => h9) rfl hin rfl (by decide +kernel) rfl rfl (Nat.le_of_ble_eq_true rfl) dX1_init_49 (fun H locs hP hD hS => ?_)
  have hP : va_P (dC, dI) vwCl ([(q, .inr (1, [.ref r0, .ref r1, .ref r2, .ref r3, .ref r4, .ref r5, .null, .null, .int 0])), (r0, .inl (cI, 48, .inl (fun _ => 0))), (r1, .inl (cI, 48, .inl (fun _ => 0))), (r2, .inl (cI, 48, .inl (fun _ => 0))), (r3, .inl (cI, 48, .inl (fun _ => 0))), (r4, .inl (cI, 48, .inl (fun _ => 0))), (r5, .inl (cI, 48, .inl (fun _ => 0)))]) H := hP
  have hD : va_D A ([(q, .inr (1, [.ref r0, .ref r1, .ref r2, .ref r3, .ref r4, .ref r5, .null, .null, .int 0])), (r0, .inl (cI, 48, .inl (fun _ => 0))), (r1, .inl (cI, 48, .inl (fun _ => 0))), (r2, .inl (cI, 48, .inl (fun _ => 0))), (r3, .inl (cI, 48, .inl (fun _ => 0))), (r4, .inl (cI, 48, .inl (fun _ => 0))), (r5, .inl (cI, 48, .inl (fun _ => 0)))]) := hD
  refine lv_aload_n hx hb dX1_init_52 rfl (lv_at hl 0 rfl) ?_
  refine lv_bipush (v := 48) hx hb dX1_init_53 (by decide) ?_
  refine ps_newI (t0 := 0) hx hb hT hK hP hD hS hA rfl (Nat.le_of_ble_eq_true rfl) (Nat.le_of_ble_eq_true rfl) dX1_init_55 (fun r6 H hP hD hS => ?_)
  have hP : va_P (dC, dI) vwCl ([(q, .inr (1, [.ref r0, .ref r1, .ref r2, .ref r3, .ref r4, .ref r5, .null, .null, .int 0])), (r0, .inl (cI, 48, .inl (fun _ => 0))), (r1, .inl (cI, 48, .inl (fun _ => 0))), (r2, .inl (cI, 48, .inl (fun _ => 0))), (r3, .inl (cI, 48, .inl (fun _ => 0))), (r4, .inl (cI, 48, .inl (fun _ => 0))), (r5, .inl (cI, 48, .inl (fun _ => 0))), (r6, .inl (cI, 48, .inl (fun _ => 0)))]) H := hP
  have hD : va_D A ([(q, .inr (1, [.ref r0, .ref r1, .ref r2, .ref r3, .ref r4, .ref r5, .null, .null, .int 0])), (r0, .inl (cI, 48, .inl (fun _ => 0))), (r1, .inl (cI, 48, .inl (fun _ => 0))), (r2, .inl (cI, 48, .inl (fun _ => 0))), (r3, .inl (cI, 48, .inl (fun _ => 0))), (r4, .inl (cI, 48, .inl (fun _ => 0))), (r5, .inl (cI, 48, .inl (fun _ => 0))), (r6, .inl (cI, 48, .inl (fun _ => 0)))]) := hD
  refine va_putF (D := (dC, dI)) (ci := 1) (v := .ref r6) (ty := .array .int) (C := RX1) (T := TX1) (N := 9) hx hb hT inX1 tyX1 tyX1_ok nmX1 hown hK hP hD hS 0 rfl rfl 6 (by decide) (hT _ tw_fl_X1_30) (fun _ h9 => h9) rfl hin rfl (by decide +kernel) rfl rfl (Nat.le_of_ble_eq_true rfl) dX1_init_57 (fun H locs hP hD hS => ?_)
  have hP : va_P (dC, dI) vwCl ([(q, .inr (1, [.ref r0, .ref r1, .ref r2, .ref r3, .ref r4, .ref r5, .ref r6, .null, .int 0])), (r0, .inl (cI, 48, .inl (fun _ => 0))), (r1, .inl (cI, 48, .inl (fun _ => 0))), (r2, .inl (cI, 48, .inl (fun _ => 0))), (r3, .inl (cI, 48, .inl (fun _ => 0))), (r4, .inl (cI, 48, .inl (fun _ => 0))), (r5, .inl (cI, 48, .inl (fun _ => 0))), (r6, .inl (cI, 48, .inl (fun _ => 0)))]) H := hP
  have hD : va_D A ([(q, .inr (1, [.ref r0, .ref r1, .ref r2, .ref r3, .ref r4, .ref r5, .ref r6, .null, .int 0])), (r0, .inl (cI, 48, .inl (fun _ => 0))), (r1, .inl (cI, 48, .inl (fun _ => 0))), (r2, .inl (cI, 48, .inl (fun _ => 0))), (r3, .inl (cI, 48, .inl (fun _ => 0))), (r4, .inl (cI, 48, .inl (fun _ => 0))), (r5, .inl (cI, 48, .inl (fun _ => 0))), (r6, .inl (cI, 48, .inl (fun _ => 0)))]) := hD
  refine lv_aload_n hx hb dX1_init_60 rfl (lv_at hl 0 rfl) ?_
  refine lv_bipush (v := 48) hx hb dX1_init_61 (by decide) ?_
  refine ps_newZ (t0 := 1) hx hb hT hK hP hD hS hA rfl (Nat.le_of_ble_eq_true rfl) (Nat.le_of_ble_eq_true rfl) dX1_init_63 (fun r7 H hP hD hS => ?_)
  have hP : va_P (dC, dI) vwCl ([(q, .inr (1, [.ref r0, .ref r1, .ref r2, .ref r3, .ref r4, .ref r5, .ref r6, .null, .int 0])), (r0, .inl (cI, 48, .inl (fun _ => 0))), (r1, .inl (cI, 48, .inl (fun _ => 0))), (r2, .inl (cI, 48, .inl (fun _ => 0))), (r3, .inl (cI, 48, .inl (fun _ => 0))), (r4, .inl (cI, 48, .inl (fun _ => 0))), (r5, .inl (cI, 48, .inl (fun _ => 0))), (r6, .inl (cI, 48, .inl (fun _ => 0))), (r7, .inl (cZ, 48, .inl (fun _ => 0)))]) H := hP
  have hD : va_D A ([(q, .inr (1, [.ref r0, .ref r1, .ref r2, .ref r3, .ref r4, .ref r5, .ref r6, .null, .int 0])), (r0, .inl (cI, 48, .inl (fun _ => 0))), (r1, .inl (cI, 48, .inl (fun _ => 0))), (r2, .inl (cI, 48, .inl (fun _ => 0))), (r3, .inl (cI, 48, .inl (fun _ => 0))), (r4, .inl (cI, 48, .inl (fun _ => 0))), (r5, .inl (cI, 48, .inl (fun _ => 0))), (r6, .inl (cI, 48, .inl (fun _ => 0))), (r7, .inl (cZ, 48, .inl (fun _ => 0)))]) := hD
  refine va_putF (D := (dC, dI)) (ci := 1) (v := .ref r7) (ty := .array .boolean) (C := RX1) (T := TX1) (N := 9) hx hb hT inX1 tyX1 tyX1_ok nmX1 hown hK hP hD hS 0 rfl rfl 7 (by decide) (hT _ tw_fl_X1_33) (fun _ h9 => h9) rfl hin rfl (by decide +kernel) rfl rfl (Nat.le_of_ble_eq_true rfl) dX1_init_65 (fun H locs hP hD hS => ?_)
  have hP : va_P (dC, dI) vwCl ([(q, .inr (1, [.ref r0, .ref r1, .ref r2, .ref r3, .ref r4, .ref r5, .ref r6, .ref r7, .int 0])), (r0, .inl (cI, 48, .inl (fun _ => 0))), (r1, .inl (cI, 48, .inl (fun _ => 0))), (r2, .inl (cI, 48, .inl (fun _ => 0))), (r3, .inl (cI, 48, .inl (fun _ => 0))), (r4, .inl (cI, 48, .inl (fun _ => 0))), (r5, .inl (cI, 48, .inl (fun _ => 0))), (r6, .inl (cI, 48, .inl (fun _ => 0))), (r7, .inl (cZ, 48, .inl (fun _ => 0)))]) H := hP
  have hD : va_D A ([(q, .inr (1, [.ref r0, .ref r1, .ref r2, .ref r3, .ref r4, .ref r5, .ref r6, .ref r7, .int 0])), (r0, .inl (cI, 48, .inl (fun _ => 0))), (r1, .inl (cI, 48, .inl (fun _ => 0))), (r2, .inl (cI, 48, .inl (fun _ => 0))), (r3, .inl (cI, 48, .inl (fun _ => 0))), (r4, .inl (cI, 48, .inl (fun _ => 0))), (r5, .inl (cI, 48, .inl (fun _ => 0))), (r6, .inl (cI, 48, .inl (fun _ => 0))), (r7, .inl (cZ, 48, .inl (fun _ => 0)))]) := hD
  exact W.vret hx hb hr (fun t ht hW => ⟨⟨ps_ad [r0, r1, r2, r3, r4, r5, r6, r7], rfl, trivial, by rw [ht]; exact hP, va_K.moved hW.alike hK, hD⟩, hS.F ht⟩) hS.2.2 dX1_init_68
set_option maxHeartbeats 4000000 in
set_option maxRecDepth 100000 in
theorem mX0_init (l : Launch) (dC : Nat → ClassId) (dI : Nat → Nat → Nat) (cI cZ : ClassId) (q : Nat) (sz : Nat) : Met l yX0_init (.code yX0_init cX0_init 1 none :: ps_T) ({ frames := 1, cells := 1, slots := 48, locals := 20 }) (ps_qc (dC, dI) (ps_ty cI cZ) ([(q, .inr (0, [.null, .int 0, .int 0]))]) sz [.ref q]) (va_Qv (fun _ : Nat → Nat => True) (fun a t => va_P (dC, dI) vwCl (ps_lsW cI q (a 0) 0 0 (fun _ => 0)) t.heap ∧ va_K (dC, dI) vwCl (ps_ty cI cZ) t ∧ va_D (va_A ([(q, .inr (0, [.null, .int 0, .int 0]))]) sz) (ps_lsW cI q (a 0) 0 0 (fun _ => 0))) (va_A ([(q, .inr (0, [.null, .int 0, .int 0]))]) sz)) 1 48 (va_A ([(q, .inr (0, [.null, .int 0, .int 0]))]) sz) := by
  refine Met.ofW (cc := cX0_init) (maxL := 1) (ret := none) (by decide) rfl ?_
  intro p e s m args below meth c s₁ B hml hv
  obtain ⟨rfl, hsz, hN, hP, hK, hD0⟩ := hv
  have hx := B.exec
  have hb := B.bytes
  have hr := B.returns
  have hlocks := B.notSynchronized
  have hT : ∀ w ∈ ps_T, w.before ([.ref q] : List Value).toArray s = true := fun w h => atoms_spec (ws := (.code yX0_init cX0_init 1 none :: ps_T)) B.pre w (List.mem_cons_of_mem _ h)
  have hown : s.vm.findClass RX0 = some m.cls := findClass_of_methodNamed B.named
  have hin : meth.name = "<init>" := (name_of_methodNamed B.named B.method).1
  subst hsz
  have hD := hD0.self (sz := s.heap.size)
  generalize hAe : va_A ([(q, .inr (0, [.null, .int 0, .int 0]))]) s.heap.size = A at hD ⊢
  have hA : ∀ q : Nat, s.heap.size ≤ q → A q := fun q h => by rw [← hAe]; exact Or.inr h
  have hS : va_S A s.heap s.heap [] := va_S.rf
  have hl := lv_entry ([.ref q]) (n := 1) (Nat.le_of_ble_eq_true rfl)
  rw [lg_entry_eq]
  generalize (lg_sl ([.ref q]) ++ List.replicate (1 - (lg_sl ([.ref q])).length) Slot.unset).toArray = ls at hl ⊢
  have hl : lv_has ls 1 [(0, .ref q)] := hl
  refine lv_aload_n hx hb dX0_init_0 rfl (lv_at hl 0 rfl) ?_
  refine W.objInit hx hb hown (hT _ tw_ml_X0_3) (hT _ tw_im_Object_init) (hT _ tw_co_Object_init) rfl (by rw [hml]; exact hl.1) rfl dX0_init_1 (Nat.le_of_ble_eq_true rfl) (Nat.le_of_ble_eq_true rfl) ?_
  refine W.eq (g2 := F0 m 4 ls []) rfl ?_
  refine lv_aload_n hx hb dX0_init_4 rfl (lv_at hl 0 rfl) ?_
  refine lv_bipush (v := 48) hx hb dX0_init_5 (by decide) ?_
  refine ps_newI (t0 := 0) hx hb hT hK hP hD hS hA rfl (Nat.le_of_ble_eq_true rfl) (Nat.le_of_ble_eq_true rfl) dX0_init_7 (fun r0 H hP hD hS => ?_)
  have hP : va_P (dC, dI) vwCl ([(q, .inr (0, [.null, .int 0, .int 0])), (r0, .inl (cI, 48, .inl (fun _ => 0)))]) H := hP
  have hD : va_D A ([(q, .inr (0, [.null, .int 0, .int 0])), (r0, .inl (cI, 48, .inl (fun _ => 0)))]) := hD
  refine va_putF (D := (dC, dI)) (ci := 0) (v := .ref r0) (ty := .array .int) (C := RX0) (T := TX0) (N := 3) hx hb hT inX0 tyX0 tyX0_ok nmX0 hown hK hP hD hS 0 rfl rfl 0 (by decide) (hT _ tw_fl_X0_9) (fun _ h9 => h9) rfl hin rfl (by decide +kernel) rfl rfl (Nat.le_of_ble_eq_true rfl) dX0_init_9 (fun H locs hP hD hS => ?_)
  have hP : va_P (dC, dI) vwCl ([(q, .inr (0, [.ref r0, .int 0, .int 0])), (r0, .inl (cI, 48, .inl (fun _ => 0)))]) H := hP
  have hD : va_D A ([(q, .inr (0, [.ref r0, .int 0, .int 0])), (r0, .inl (cI, 48, .inl (fun _ => 0)))]) := hD
  exact W.vret hx hb hr (fun t ht hW => ⟨⟨ps_ad [r0], rfl, trivial, by rw [ht]; exact hP, va_K.moved hW.alike hK, hD⟩, hS.F ht⟩) hS.2.2 dX0_init_12
set_option maxHeartbeats 4000000 in
set_option maxRecDepth 100000 in
theorem mX3_init (l : Launch) (dC : Nat → ClassId) (dI : Nat → Nat → Nat) (cI cZ : ClassId) (q : Nat) (sz : Nat) : Met l yX3_init (.code yX3_init cX3_init 1 none :: ps_T) ({ frames := 1, cells := 10, slots := 480, locals := 20 }) (ps_qc (dC, dI) (ps_ty cI cZ) ([(q, .inr (3, [.int 0, .int 0, .null, .null, .null, .null, .int 0, .null, .null, .null, .null, .null, .int 0, .int 0, .null, .int 0, .int 0]))]) sz [.ref q]) (va_Qv (fun _ : Nat → Nat => True) (fun a t => va_P (dC, dI) vwCl (ps_mdW cI cZ q a 0 0 0 0 0 0 (-1) (fun _ _ => 0)) t.heap ∧ va_K (dC, dI) vwCl (ps_ty cI cZ) t ∧ va_D (va_A ([(q, .inr (3, [.int 0, .int 0, .null, .null, .null, .null, .int 0, .null, .null, .null, .null, .null, .int 0, .int 0, .null, .int 0, .int 0]))]) sz) (ps_mdW cI cZ q a 0 0 0 0 0 0 (-1) (fun _ _ => 0))) (va_A ([(q, .inr (3, [.int 0, .int 0, .null, .null, .null, .null, .int 0, .null, .null, .null, .null, .null, .int 0, .int 0, .null, .int 0, .int 0]))]) sz)) 10 480 (va_A ([(q, .inr (3, [.int 0, .int 0, .null, .null, .null, .null, .int 0, .null, .null, .null, .null, .null, .int 0, .int 0, .null, .int 0, .int 0]))]) sz) := by
  refine Met.ofW (cc := cX3_init) (maxL := 1) (ret := none) (by decide) rfl ?_
  intro p e s m args below meth c s₁ B hml hv
  obtain ⟨rfl, hsz, hN, hP, hK, hD0⟩ := hv
  have hx := B.exec
  have hb := B.bytes
  have hr := B.returns
  have hlocks := B.notSynchronized
  have hT : ∀ w ∈ ps_T, w.before ([.ref q] : List Value).toArray s = true := fun w h => atoms_spec (ws := (.code yX3_init cX3_init 1 none :: ps_T)) B.pre w (List.mem_cons_of_mem _ h)
  have hown : s.vm.findClass RX3 = some m.cls := findClass_of_methodNamed B.named
  have hin : meth.name = "<init>" := (name_of_methodNamed B.named B.method).1
  subst hsz
  have hD := hD0.self (sz := s.heap.size)
  generalize hAe : va_A ([(q, .inr (3, [.int 0, .int 0, .null, .null, .null, .null, .int 0, .null, .null, .null, .null, .null, .int 0, .int 0, .null, .int 0, .int 0]))]) s.heap.size = A at hD ⊢
  have hA : ∀ q : Nat, s.heap.size ≤ q → A q := fun q h => by rw [← hAe]; exact Or.inr h
  have hS : va_S A s.heap s.heap [] := va_S.rf
  have hl := lv_entry ([.ref q]) (n := 1) (Nat.le_of_ble_eq_true rfl)
  rw [lg_entry_eq]
  generalize (lg_sl ([.ref q]) ++ List.replicate (1 - (lg_sl ([.ref q])).length) Slot.unset).toArray = ls at hl ⊢
  have hl : lv_has ls 1 [(0, .ref q)] := hl
  refine lv_aload_n hx hb dX3_init_0 rfl (lv_at hl 0 rfl) ?_
  refine W.objInit hx hb hown (hT _ tw_ml_X3_1) (hT _ tw_im_Object_init) (hT _ tw_co_Object_init) rfl (by rw [hml]; exact hl.1) rfl dX3_init_1 (Nat.le_of_ble_eq_true rfl) (Nat.le_of_ble_eq_true rfl) ?_
  refine W.eq (g2 := F0 m 4 ls []) rfl ?_
  refine lv_aload_n hx hb dX3_init_4 rfl (lv_at hl 0 rfl) ?_
  refine lv_bipush (v := 48) hx hb dX3_init_5 (by decide) ?_
  refine ps_newI (t0 := 0) hx hb hT hK hP hD hS hA rfl (Nat.le_of_ble_eq_true rfl) (Nat.le_of_ble_eq_true rfl) dX3_init_7 (fun r0 H hP hD hS => ?_)
  have hP : va_P (dC, dI) vwCl ([(q, .inr (3, [.int 0, .int 0, .null, .null, .null, .null, .int 0, .null, .null, .null, .null, .null, .int 0, .int 0, .null, .int 0, .int 0])), (r0, .inl (cI, 48, .inl (fun _ => 0)))]) H := hP
  have hD : va_D A ([(q, .inr (3, [.int 0, .int 0, .null, .null, .null, .null, .int 0, .null, .null, .null, .null, .null, .int 0, .int 0, .null, .int 0, .int 0])), (r0, .inl (cI, 48, .inl (fun _ => 0)))]) := hD
  refine va_putF (D := (dC, dI)) (ci := 3) (v := .ref r0) (ty := .array .int) (C := RX3) (T := TX3) (N := 17) hx hb hT inX3 tyX3 tyX3_ok nmX3 hown hK hP hD hS 0 rfl rfl 2 (by decide) (hT _ tw_fl_X3_7) (fun _ h9 => h9) rfl hin rfl (by decide +kernel) rfl rfl (Nat.le_of_ble_eq_true rfl) dX3_init_9 (fun H locs hP hD hS => ?_)
  have hP : va_P (dC, dI) vwCl ([(q, .inr (3, [.int 0, .int 0, .ref r0, .null, .null, .null, .int 0, .null, .null, .null, .null, .null, .int 0, .int 0, .null, .int 0, .int 0])), (r0, .inl (cI, 48, .inl (fun _ => 0)))]) H := hP
  have hD : va_D A ([(q, .inr (3, [.int 0, .int 0, .ref r0, .null, .null, .null, .int 0, .null, .null, .null, .null, .null, .int 0, .int 0, .null, .int 0, .int 0])), (r0, .inl (cI, 48, .inl (fun _ => 0)))]) := hD
  refine lv_aload_n hx hb dX3_init_12 rfl (lv_at hl 0 rfl) ?_
  refine lv_bipush (v := 48) hx hb dX3_init_13 (by decide) ?_
  refine ps_newI (t0 := 0) hx hb hT hK hP hD hS hA rfl (Nat.le_of_ble_eq_true rfl) (Nat.le_of_ble_eq_true rfl) dX3_init_15 (fun r1 H hP hD hS => ?_)
  have hP : va_P (dC, dI) vwCl ([(q, .inr (3, [.int 0, .int 0, .ref r0, .null, .null, .null, .int 0, .null, .null, .null, .null, .null, .int 0, .int 0, .null, .int 0, .int 0])), (r0, .inl (cI, 48, .inl (fun _ => 0))), (r1, .inl (cI, 48, .inl (fun _ => 0)))]) H := hP
  have hD : va_D A ([(q, .inr (3, [.int 0, .int 0, .ref r0, .null, .null, .null, .int 0, .null, .null, .null, .null, .null, .int 0, .int 0, .null, .int 0, .int 0])), (r0, .inl (cI, 48, .inl (fun _ => 0))), (r1, .inl (cI, 48, .inl (fun _ => 0)))]) := hD
  refine va_putF (D := (dC, dI)) (ci := 3) (v := .ref r1) (ty := .array .int) (C := RX3) (T := TX3) (N := 17) hx hb hT inX3 tyX3 tyX3_ok nmX3 hown hK hP hD hS 0 rfl rfl 3 (by decide) (hT _ tw_fl_X3_13) (fun _ h9 => h9) rfl hin rfl (by decide +kernel) rfl rfl (Nat.le_of_ble_eq_true rfl) dX3_init_17 (fun H locs hP hD hS => ?_)
  have hP : va_P (dC, dI) vwCl ([(q, .inr (3, [.int 0, .int 0, .ref r0, .ref r1, .null, .null, .int 0, .null, .null, .null, .null, .null, .int 0, .int 0, .null, .int 0, .int 0])), (r0, .inl (cI, 48, .inl (fun _ => 0))), (r1, .inl (cI, 48, .inl (fun _ => 0)))]) H := hP
  have hD : va_D A ([(q, .inr (3, [.int 0, .int 0, .ref r0, .ref r1, .null, .null, .int 0, .null, .null, .null, .null, .null, .int 0, .int 0, .null, .int 0, .int 0])), (r0, .inl (cI, 48, .inl (fun _ => 0))), (r1, .inl (cI, 48, .inl (fun _ => 0)))]) := hD
  refine lv_aload_n hx hb dX3_init_20 rfl (lv_at hl 0 rfl) ?_
  refine lv_bipush (v := 48) hx hb dX3_init_21 (by decide) ?_
  refine ps_newI (t0 := 0) hx hb hT hK hP hD hS hA rfl (Nat.le_of_ble_eq_true rfl) (Nat.le_of_ble_eq_true rfl) dX3_init_23 (fun r2 H hP hD hS => ?_)
  have hP : va_P (dC, dI) vwCl ([(q, .inr (3, [.int 0, .int 0, .ref r0, .ref r1, .null, .null, .int 0, .null, .null, .null, .null, .null, .int 0, .int 0, .null, .int 0, .int 0])), (r0, .inl (cI, 48, .inl (fun _ => 0))), (r1, .inl (cI, 48, .inl (fun _ => 0))), (r2, .inl (cI, 48, .inl (fun _ => 0)))]) H := hP
  have hD : va_D A ([(q, .inr (3, [.int 0, .int 0, .ref r0, .ref r1, .null, .null, .int 0, .null, .null, .null, .null, .null, .int 0, .int 0, .null, .int 0, .int 0])), (r0, .inl (cI, 48, .inl (fun _ => 0))), (r1, .inl (cI, 48, .inl (fun _ => 0))), (r2, .inl (cI, 48, .inl (fun _ => 0)))]) := hD
  refine va_putF (D := (dC, dI)) (ci := 3) (v := .ref r2) (ty := .array .int) (C := RX3) (T := TX3) (N := 17) hx hb hT inX3 tyX3 tyX3_ok nmX3 hown hK hP hD hS 0 rfl rfl 4 (by decide) (hT _ tw_fl_X3_16) (fun _ h9 => h9) rfl hin rfl (by decide +kernel) rfl rfl (Nat.le_of_ble_eq_true rfl) dX3_init_25 (fun H locs hP hD hS => ?_)
  have hP : va_P (dC, dI) vwCl ([(q, .inr (3, [.int 0, .int 0, .ref r0, .ref r1, .ref r2, .null, .int 0, .null, .null, .null, .null, .null, .int 0, .int 0, .null, .int 0, .int 0])), (r0, .inl (cI, 48, .inl (fun _ => 0))), (r1, .inl (cI, 48, .inl (fun _ => 0))), (r2, .inl (cI, 48, .inl (fun _ => 0)))]) H := hP
  have hD : va_D A ([(q, .inr (3, [.int 0, .int 0, .ref r0, .ref r1, .ref r2, .null, .int 0, .null, .null, .null, .null, .null, .int 0, .int 0, .null, .int 0, .int 0])), (r0, .inl (cI, 48, .inl (fun _ => 0))), (r1, .inl (cI, 48, .inl (fun _ => 0))), (r2, .inl (cI, 48, .inl (fun _ => 0)))]) := hD
  refine lv_aload_n hx hb dX3_init_28 rfl (lv_at hl 0 rfl) ?_
  refine lv_bipush (v := 48) hx hb dX3_init_29 (by decide) ?_
  refine ps_newI (t0 := 0) hx hb hT hK hP hD hS hA rfl (Nat.le_of_ble_eq_true rfl) (Nat.le_of_ble_eq_true rfl) dX3_init_31 (fun r3 H hP hD hS => ?_)
  have hP : va_P (dC, dI) vwCl ([(q, .inr (3, [.int 0, .int 0, .ref r0, .ref r1, .ref r2, .null, .int 0, .null, .null, .null, .null, .null, .int 0, .int 0, .null, .int 0, .int 0])), (r0, .inl (cI, 48, .inl (fun _ => 0))), (r1, .inl (cI, 48, .inl (fun _ => 0))), (r2, .inl (cI, 48, .inl (fun _ => 0))), (r3, .inl (cI, 48, .inl (fun _ => 0)))]) H := hP
  have hD : va_D A ([(q, .inr (3, [.int 0, .int 0, .ref r0, .ref r1, .ref r2, .null, .int 0, .null, .null, .null, .null, .null, .int 0, .int 0, .null, .int 0, .int 0])), (r0, .inl (cI, 48, .inl (fun _ => 0))), (r1, .inl (cI, 48, .inl (fun _ => 0))), (r2, .inl (cI, 48, .inl (fun _ => 0))), (r3, .inl (cI, 48, .inl (fun _ => 0)))]) := hD
  refine va_putF (D := (dC, dI)) (ci := 3) (v := .ref r3) (ty := .array .int) (C := RX3) (T := TX3) (N := 17) hx hb hT inX3 tyX3 tyX3_ok nmX3 hown hK hP hD hS 0 rfl rfl 5 (by decide) (hT _ tw_fl_X3_19) (fun _ h9 => h9) rfl hin rfl (by decide +kernel) rfl rfl (Nat.le_of_ble_eq_true rfl) dX3_init_33 (fun H locs hP hD hS => ?_)
  have hP : va_P (dC, dI) vwCl ([(q, .inr (3, [.int 0, .int 0, .ref r0, .ref r1, .ref r2, .ref r3, .int 0, .null, .null, .null, .null, .null, .int 0, .int 0, .null, .int 0, .int 0])), (r0, .inl (cI, 48, .inl (fun _ => 0))), (r1, .inl (cI, 48, .inl (fun _ => 0))), (r2, .inl (cI, 48, .inl (fun _ => 0))), (r3, .inl (cI, 48, .inl (fun _ => 0)))]) H := hP
  have hD : va_D A ([(q, .inr (3, [.int 0, .int 0, .ref r0, .ref r1, .ref r2, .ref r3, .int 0, .null, .null, .null, .null, .null, .int 0, .int 0, .null, .int 0, .int 0])), (r0, .inl (cI, 48, .inl (fun _ => 0))), (r1, .inl (cI, 48, .inl (fun _ => 0))), (r2, .inl (cI, 48, .inl (fun _ => 0))), (r3, .inl (cI, 48, .inl (fun _ => 0)))]) := hD
  refine lv_aload_n hx hb dX3_init_36 rfl (lv_at hl 0 rfl) ?_
  refine lv_bipush (v := 48) hx hb dX3_init_37 (by decide) ?_
  refine ps_newI (t0 := 0) hx hb hT hK hP hD hS hA rfl (Nat.le_of_ble_eq_true rfl) (Nat.le_of_ble_eq_true rfl) dX3_init_39 (fun r4 H hP hD hS => ?_)
  have hP : va_P (dC, dI) vwCl ([(q, .inr (3, [.int 0, .int 0, .ref r0, .ref r1, .ref r2, .ref r3, .int 0, .null, .null, .null, .null, .null, .int 0, .int 0, .null, .int 0, .int 0])), (r0, .inl (cI, 48, .inl (fun _ => 0))), (r1, .inl (cI, 48, .inl (fun _ => 0))), (r2, .inl (cI, 48, .inl (fun _ => 0))), (r3, .inl (cI, 48, .inl (fun _ => 0))), (r4, .inl (cI, 48, .inl (fun _ => 0)))]) H := hP
  have hD : va_D A ([(q, .inr (3, [.int 0, .int 0, .ref r0, .ref r1, .ref r2, .ref r3, .int 0, .null, .null, .null, .null, .null, .int 0, .int 0, .null, .int 0, .int 0])), (r0, .inl (cI, 48, .inl (fun _ => 0))), (r1, .inl (cI, 48, .inl (fun _ => 0))), (r2, .inl (cI, 48, .inl (fun _ => 0))), (r3, .inl (cI, 48, .inl (fun _ => 0))), (r4, .inl (cI, 48, .inl (fun _ => 0)))]) := hD
  refine va_putF (D := (dC, dI)) (ci := 3) (v := .ref r4) (ty := .array .int) (C := RX3) (T := TX3) (N := 17) hx hb hT inX3 tyX3 tyX3_ok nmX3 hown hK hP hD hS 0 rfl rfl 7 (by decide) (hT _ tw_fl_X3_22) (fun _ h9 => h9) rfl hin rfl (by decide +kernel) rfl rfl (Nat.le_of_ble_eq_true rfl) dX3_init_41 (fun H locs hP hD hS => ?_)
  have hP : va_P (dC, dI) vwCl ([(q, .inr (3, [.int 0, .int 0, .ref r0, .ref r1, .ref r2, .ref r3, .int 0, .ref r4, .null, .null, .null, .null, .int 0, .int 0, .null, .int 0, .int 0])), (r0, .inl (cI, 48, .inl (fun _ => 0))), (r1, .inl (cI, 48, .inl (fun _ => 0))), (r2, .inl (cI, 48, .inl (fun _ => 0))), (r3, .inl (cI, 48, .inl (fun _ => 0))), (r4, .inl (cI, 48, .inl (fun _ => 0)))]) H := hP
  have hD : va_D A ([(q, .inr (3, [.int 0, .int 0, .ref r0, .ref r1, .ref r2, .ref r3, .int 0, .ref r4, .null, .null, .null, .null, .int 0, .int 0, .null, .int 0, .int 0])), (r0, .inl (cI, 48, .inl (fun _ => 0))), (r1, .inl (cI, 48, .inl (fun _ => 0))), (r2, .inl (cI, 48, .inl (fun _ => 0))), (r3, .inl (cI, 48, .inl (fun _ => 0))), (r4, .inl (cI, 48, .inl (fun _ => 0)))]) := hD
  refine lv_aload_n hx hb dX3_init_44 rfl (lv_at hl 0 rfl) ?_
  refine lv_bipush (v := 48) hx hb dX3_init_45 (by decide) ?_
  refine ps_newI (t0 := 0) hx hb hT hK hP hD hS hA rfl (Nat.le_of_ble_eq_true rfl) (Nat.le_of_ble_eq_true rfl) dX3_init_47 (fun r5 H hP hD hS => ?_)
  have hP : va_P (dC, dI) vwCl ([(q, .inr (3, [.int 0, .int 0, .ref r0, .ref r1, .ref r2, .ref r3, .int 0, .ref r4, .null, .null, .null, .null, .int 0, .int 0, .null, .int 0, .int 0])), (r0, .inl (cI, 48, .inl (fun _ => 0))), (r1, .inl (cI, 48, .inl (fun _ => 0))), (r2, .inl (cI, 48, .inl (fun _ => 0))), (r3, .inl (cI, 48, .inl (fun _ => 0))), (r4, .inl (cI, 48, .inl (fun _ => 0))), (r5, .inl (cI, 48, .inl (fun _ => 0)))]) H := hP
  have hD : va_D A ([(q, .inr (3, [.int 0, .int 0, .ref r0, .ref r1, .ref r2, .ref r3, .int 0, .ref r4, .null, .null, .null, .null, .int 0, .int 0, .null, .int 0, .int 0])), (r0, .inl (cI, 48, .inl (fun _ => 0))), (r1, .inl (cI, 48, .inl (fun _ => 0))), (r2, .inl (cI, 48, .inl (fun _ => 0))), (r3, .inl (cI, 48, .inl (fun _ => 0))), (r4, .inl (cI, 48, .inl (fun _ => 0))), (r5, .inl (cI, 48, .inl (fun _ => 0)))]) := hD
  refine va_putF (D := (dC, dI)) (ci := 3) (v := .ref r5) (ty := .array .int) (C := RX3) (T := TX3) (N := 17) hx hb hT inX3 tyX3 tyX3_ok nmX3 hown hK hP hD hS 0 rfl rfl 8 (by decide) (hT _ tw_fl_X3_25) (fun _ h9 => h9) rfl hin rfl (by decide +kernel) rfl rfl (Nat.le_of_ble_eq_true rfl) dX3_init_49 (fun H locs hP hD hS => ?_)
  have hP : va_P (dC, dI) vwCl ([(q, .inr (3, [.int 0, .int 0, .ref r0, .ref r1, .ref r2, .ref r3, .int 0, .ref r4, .ref r5, .null, .null, .null, .int 0, .int 0, .null, .int 0, .int 0])), (r0, .inl (cI, 48, .inl (fun _ => 0))), (r1, .inl (cI, 48, .inl (fun _ => 0))), (r2, .inl (cI, 48, .inl (fun _ => 0))), (r3, .inl (cI, 48, .inl (fun _ => 0))), (r4, .inl (cI, 48, .inl (fun _ => 0))), (r5, .inl (cI, 48, .inl (fun _ => 0)))]) H := hP
  have hD : va_D A ([(q, .inr (3, [.int 0, .int 0, .ref r0, .ref r1, .ref r2, .ref r3, .int 0, .ref r4, .ref r5, .null, .null, .null, .int 0, .int 0, .null, .int 0, .int 0])), (r0, .inl (cI, 48, .inl (fun _ => 0))), (r1, .inl (cI, 48, .inl (fun _ => 0))), (r2, .inl (cI, 48, .inl (fun _ => 0))), (r3, .inl (cI, 48, .inl (fun _ => 0))), (r4, .inl (cI, 48, .inl (fun _ => 0))), (r5, .inl (cI, 48, .inl (fun _ => 0)))]) := hD
  refine lv_aload_n hx hb dX3_init_52 rfl (lv_at hl 0 rfl) ?_
  refine lv_bipush (v := 48) hx hb dX3_init_53 (by decide) ?_
  refine ps_newI (t0 := 0) hx hb hT hK hP hD hS hA rfl (Nat.le_of_ble_eq_true rfl) (Nat.le_of_ble_eq_true rfl) dX3_init_55 (fun r6 H hP hD hS => ?_)
  have hP : va_P (dC, dI) vwCl ([(q, .inr (3, [.int 0, .int 0, .ref r0, .ref r1, .ref r2, .ref r3, .int 0, .ref r4, .ref r5, .null, .null, .null, .int 0, .int 0, .null, .int 0, .int 0])), (r0, .inl (cI, 48, .inl (fun _ => 0))), (r1, .inl (cI, 48, .inl (fun _ => 0))), (r2, .inl (cI, 48, .inl (fun _ => 0))), (r3, .inl (cI, 48, .inl (fun _ => 0))), (r4, .inl (cI, 48, .inl (fun _ => 0))), (r5, .inl (cI, 48, .inl (fun _ => 0))), (r6, .inl (cI, 48, .inl (fun _ => 0)))]) H := hP
  have hD : va_D A ([(q, .inr (3, [.int 0, .int 0, .ref r0, .ref r1, .ref r2, .ref r3, .int 0, .ref r4, .ref r5, .null, .null, .null, .int 0, .int 0, .null, .int 0, .int 0])), (r0, .inl (cI, 48, .inl (fun _ => 0))), (r1, .inl (cI, 48, .inl (fun _ => 0))), (r2, .inl (cI, 48, .inl (fun _ => 0))), (r3, .inl (cI, 48, .inl (fun _ => 0))), (r4, .inl (cI, 48, .inl (fun _ => 0))), (r5, .inl (cI, 48, .inl (fun _ => 0))), (r6, .inl (cI, 48, .inl (fun _ => 0)))]) := hD
  refine va_putF (D := (dC, dI)) (ci := 3) (v := .ref r6) (ty := .array .int) (C := RX3) (T := TX3) (N := 17) hx hb hT inX3 tyX3 tyX3_ok nmX3 hown hK hP hD hS 0 rfl rfl 9 (by decide) (hT _ tw_fl_X3_28) (fun _ h9 => h9) rfl hin rfl (by decide +kernel) rfl rfl (Nat.le_of_ble_eq_true rfl) dX3_init_57 (fun H locs hP hD hS => ?_)
  have hP : va_P (dC, dI) vwCl ([(q, .inr (3, [.int 0, .int 0, .ref r0, .ref r1, .ref r2, .ref r3, .int 0, .ref r4, .ref r5, .ref r6, .null, .null, .int 0, .int 0, .null, .int 0, .int 0])), (r0, .inl (cI, 48, .inl (fun _ => 0))), (r1, .inl (cI, 48, .inl (fun _ => 0))), (r2, .inl (cI, 48, .inl (fun _ => 0))), (r3, .inl (cI, 48, .inl (fun _ => 0))), (r4, .inl (cI, 48, .inl (fun _ => 0))), (r5, .inl (cI, 48, .inl (fun _ => 0))), (r6, .inl (cI, 48, .inl (fun _ => 0)))]) H := hP
  have hD : va_D A ([(q, .inr (3, [.int 0, .int 0, .ref r0, .ref r1, .ref r2, .ref r3, .int 0, .ref r4, .ref r5, .ref r6, .null, .null, .int 0, .int 0, .null, .int 0, .int 0])), (r0, .inl (cI, 48, .inl (fun _ => 0))), (r1, .inl (cI, 48, .inl (fun _ => 0))), (r2, .inl (cI, 48, .inl (fun _ => 0))), (r3, .inl (cI, 48, .inl (fun _ => 0))), (r4, .inl (cI, 48, .inl (fun _ => 0))), (r5, .inl (cI, 48, .inl (fun _ => 0))), (r6, .inl (cI, 48, .inl (fun _ => 0)))]) := hD
  refine lv_aload_n hx hb dX3_init_60 rfl (lv_at hl 0 rfl) ?_
  refine lv_bipush (v := 48) hx hb dX3_init_61 (by decide) ?_
  refine ps_newI (t0 := 0) hx hb hT hK hP hD hS hA rfl (Nat.le_of_ble_eq_true rfl) (Nat.le_of_ble_eq_true rfl) dX3_init_63 (fun r7 H hP hD hS => ?_)
  have hP : va_P (dC, dI) vwCl ([(q, .inr (3, [.int 0, .int 0, .ref r0, .ref r1, .ref r2, .ref r3, .int 0, .ref r4, .ref r5, .ref r6, .null, .null, .int 0, .int 0, .null, .int 0, .int 0])), (r0, .inl (cI, 48, .inl (fun _ => 0))), (r1, .inl (cI, 48, .inl (fun _ => 0))), (r2, .inl (cI, 48, .inl (fun _ => 0))), (r3, .inl (cI, 48, .inl (fun _ => 0))), (r4, .inl (cI, 48, .inl (fun _ => 0))), (r5, .inl (cI, 48, .inl (fun _ => 0))), (r6, .inl (cI, 48, .inl (fun _ => 0))), (r7, .inl (cI, 48, .inl (fun _ => 0)))]) H := hP
  have hD : va_D A ([(q, .inr (3, [.int 0, .int 0, .ref r0, .ref r1, .ref r2, .ref r3, .int 0, .ref r4, .ref r5, .ref r6, .null, .null, .int 0, .int 0, .null, .int 0, .int 0])), (r0, .inl (cI, 48, .inl (fun _ => 0))), (r1, .inl (cI, 48, .inl (fun _ => 0))), (r2, .inl (cI, 48, .inl (fun _ => 0))), (r3, .inl (cI, 48, .inl (fun _ => 0))), (r4, .inl (cI, 48, .inl (fun _ => 0))), (r5, .inl (cI, 48, .inl (fun _ => 0))), (r6, .inl (cI, 48, .inl (fun _ => 0))), (r7, .inl (cI, 48, .inl (fun _ => 0)))]) := hD
  refine va_putF (D := (dC, dI)) (ci := 3) (v := .ref r7) (ty := .array .int) (C := RX3) (T := TX3) (N := 17) hx hb hT inX3 tyX3 tyX3_ok nmX3 hown hK hP hD hS 0 rfl rfl 10 (by decide) (hT _ tw_fl_X3_31) (fun _ h9 => h9) rfl hin rfl (by decide +kernel) rfl rfl (Nat.le_of_ble_eq_true rfl) dX3_init_65 (fun H locs hP hD hS => ?_)
  have hP : va_P (dC, dI) vwCl ([(q, .inr (3, [.int 0, .int 0, .ref r0, .ref r1, .ref r2, .ref r3, .int 0, .ref r4, .ref r5, .ref r6, .ref r7, .null, .int 0, .int 0, .null, .int 0, .int 0])), (r0, .inl (cI, 48, .inl (fun _ => 0))), (r1, .inl (cI, 48, .inl (fun _ => 0))), (r2, .inl (cI, 48, .inl (fun _ => 0))), (r3, .inl (cI, 48, .inl (fun _ => 0))), (r4, .inl (cI, 48, .inl (fun _ => 0))), (r5, .inl (cI, 48, .inl (fun _ => 0))), (r6, .inl (cI, 48, .inl (fun _ => 0))), (r7, .inl (cI, 48, .inl (fun _ => 0)))]) H := hP
  have hD : va_D A ([(q, .inr (3, [.int 0, .int 0, .ref r0, .ref r1, .ref r2, .ref r3, .int 0, .ref r4, .ref r5, .ref r6, .ref r7, .null, .int 0, .int 0, .null, .int 0, .int 0])), (r0, .inl (cI, 48, .inl (fun _ => 0))), (r1, .inl (cI, 48, .inl (fun _ => 0))), (r2, .inl (cI, 48, .inl (fun _ => 0))), (r3, .inl (cI, 48, .inl (fun _ => 0))), (r4, .inl (cI, 48, .inl (fun _ => 0))), (r5, .inl (cI, 48, .inl (fun _ => 0))), (r6, .inl (cI, 48, .inl (fun _ => 0))), (r7, .inl (cI, 48, .inl (fun _ => 0)))]) := hD
  refine lv_aload_n hx hb dX3_init_68 rfl (lv_at hl 0 rfl) ?_
  refine lv_bipush (v := 48) hx hb dX3_init_69 (by decide) ?_
  refine ps_newZ (t0 := 1) hx hb hT hK hP hD hS hA rfl (Nat.le_of_ble_eq_true rfl) (Nat.le_of_ble_eq_true rfl) dX3_init_71 (fun r8 H hP hD hS => ?_)
  have hP : va_P (dC, dI) vwCl ([(q, .inr (3, [.int 0, .int 0, .ref r0, .ref r1, .ref r2, .ref r3, .int 0, .ref r4, .ref r5, .ref r6, .ref r7, .null, .int 0, .int 0, .null, .int 0, .int 0])), (r0, .inl (cI, 48, .inl (fun _ => 0))), (r1, .inl (cI, 48, .inl (fun _ => 0))), (r2, .inl (cI, 48, .inl (fun _ => 0))), (r3, .inl (cI, 48, .inl (fun _ => 0))), (r4, .inl (cI, 48, .inl (fun _ => 0))), (r5, .inl (cI, 48, .inl (fun _ => 0))), (r6, .inl (cI, 48, .inl (fun _ => 0))), (r7, .inl (cI, 48, .inl (fun _ => 0))), (r8, .inl (cZ, 48, .inl (fun _ => 0)))]) H := hP
  have hD : va_D A ([(q, .inr (3, [.int 0, .int 0, .ref r0, .ref r1, .ref r2, .ref r3, .int 0, .ref r4, .ref r5, .ref r6, .ref r7, .null, .int 0, .int 0, .null, .int 0, .int 0])), (r0, .inl (cI, 48, .inl (fun _ => 0))), (r1, .inl (cI, 48, .inl (fun _ => 0))), (r2, .inl (cI, 48, .inl (fun _ => 0))), (r3, .inl (cI, 48, .inl (fun _ => 0))), (r4, .inl (cI, 48, .inl (fun _ => 0))), (r5, .inl (cI, 48, .inl (fun _ => 0))), (r6, .inl (cI, 48, .inl (fun _ => 0))), (r7, .inl (cI, 48, .inl (fun _ => 0))), (r8, .inl (cZ, 48, .inl (fun _ => 0)))]) := hD
  refine va_putF (D := (dC, dI)) (ci := 3) (v := .ref r8) (ty := .array .boolean) (C := RX3) (T := TX3) (N := 17) hx hb hT inX3 tyX3 tyX3_ok nmX3 hown hK hP hD hS 0 rfl rfl 11 (by decide) (hT _ tw_fl_X3_34) (fun _ h9 => h9) rfl hin rfl (by decide +kernel) rfl rfl (Nat.le_of_ble_eq_true rfl) dX3_init_73 (fun H locs hP hD hS => ?_)
  have hP : va_P (dC, dI) vwCl ([(q, .inr (3, [.int 0, .int 0, .ref r0, .ref r1, .ref r2, .ref r3, .int 0, .ref r4, .ref r5, .ref r6, .ref r7, .ref r8, .int 0, .int 0, .null, .int 0, .int 0])), (r0, .inl (cI, 48, .inl (fun _ => 0))), (r1, .inl (cI, 48, .inl (fun _ => 0))), (r2, .inl (cI, 48, .inl (fun _ => 0))), (r3, .inl (cI, 48, .inl (fun _ => 0))), (r4, .inl (cI, 48, .inl (fun _ => 0))), (r5, .inl (cI, 48, .inl (fun _ => 0))), (r6, .inl (cI, 48, .inl (fun _ => 0))), (r7, .inl (cI, 48, .inl (fun _ => 0))), (r8, .inl (cZ, 48, .inl (fun _ => 0)))]) H := hP
  have hD : va_D A ([(q, .inr (3, [.int 0, .int 0, .ref r0, .ref r1, .ref r2, .ref r3, .int 0, .ref r4, .ref r5, .ref r6, .ref r7, .ref r8, .int 0, .int 0, .null, .int 0, .int 0])), (r0, .inl (cI, 48, .inl (fun _ => 0))), (r1, .inl (cI, 48, .inl (fun _ => 0))), (r2, .inl (cI, 48, .inl (fun _ => 0))), (r3, .inl (cI, 48, .inl (fun _ => 0))), (r4, .inl (cI, 48, .inl (fun _ => 0))), (r5, .inl (cI, 48, .inl (fun _ => 0))), (r6, .inl (cI, 48, .inl (fun _ => 0))), (r7, .inl (cI, 48, .inl (fun _ => 0))), (r8, .inl (cZ, 48, .inl (fun _ => 0)))]) := hD
  refine lv_aload_n hx hb dX3_init_76 rfl (lv_at hl 0 rfl) ?_
  refine lv_bipush (v := 48) hx hb dX3_init_77 (by decide) ?_
  refine ps_newI (t0 := 0) hx hb hT hK hP hD hS hA rfl (Nat.le_of_ble_eq_true rfl) (Nat.le_of_ble_eq_true rfl) dX3_init_79 (fun r9 H hP hD hS => ?_)
  have hP : va_P (dC, dI) vwCl ([(q, .inr (3, [.int 0, .int 0, .ref r0, .ref r1, .ref r2, .ref r3, .int 0, .ref r4, .ref r5, .ref r6, .ref r7, .ref r8, .int 0, .int 0, .null, .int 0, .int 0])), (r0, .inl (cI, 48, .inl (fun _ => 0))), (r1, .inl (cI, 48, .inl (fun _ => 0))), (r2, .inl (cI, 48, .inl (fun _ => 0))), (r3, .inl (cI, 48, .inl (fun _ => 0))), (r4, .inl (cI, 48, .inl (fun _ => 0))), (r5, .inl (cI, 48, .inl (fun _ => 0))), (r6, .inl (cI, 48, .inl (fun _ => 0))), (r7, .inl (cI, 48, .inl (fun _ => 0))), (r8, .inl (cZ, 48, .inl (fun _ => 0))), (r9, .inl (cI, 48, .inl (fun _ => 0)))]) H := hP
  have hD : va_D A ([(q, .inr (3, [.int 0, .int 0, .ref r0, .ref r1, .ref r2, .ref r3, .int 0, .ref r4, .ref r5, .ref r6, .ref r7, .ref r8, .int 0, .int 0, .null, .int 0, .int 0])), (r0, .inl (cI, 48, .inl (fun _ => 0))), (r1, .inl (cI, 48, .inl (fun _ => 0))), (r2, .inl (cI, 48, .inl (fun _ => 0))), (r3, .inl (cI, 48, .inl (fun _ => 0))), (r4, .inl (cI, 48, .inl (fun _ => 0))), (r5, .inl (cI, 48, .inl (fun _ => 0))), (r6, .inl (cI, 48, .inl (fun _ => 0))), (r7, .inl (cI, 48, .inl (fun _ => 0))), (r8, .inl (cZ, 48, .inl (fun _ => 0))), (r9, .inl (cI, 48, .inl (fun _ => 0)))]) := hD
  refine va_putF (D := (dC, dI)) (ci := 3) (v := .ref r9) (ty := .array .int) (C := RX3) (T := TX3) (N := 17) hx hb hT inX3 tyX3 tyX3_ok nmX3 hown hK hP hD hS 0 rfl rfl 14 (by decide) (hT _ tw_fl_X3_38) (fun _ h9 => h9) rfl hin rfl (by decide +kernel) rfl rfl (Nat.le_of_ble_eq_true rfl) dX3_init_81 (fun H locs hP hD hS => ?_)
  have hP : va_P (dC, dI) vwCl ([(q, .inr (3, [.int 0, .int 0, .ref r0, .ref r1, .ref r2, .ref r3, .int 0, .ref r4, .ref r5, .ref r6, .ref r7, .ref r8, .int 0, .int 0, .ref r9, .int 0, .int 0])), (r0, .inl (cI, 48, .inl (fun _ => 0))), (r1, .inl (cI, 48, .inl (fun _ => 0))), (r2, .inl (cI, 48, .inl (fun _ => 0))), (r3, .inl (cI, 48, .inl (fun _ => 0))), (r4, .inl (cI, 48, .inl (fun _ => 0))), (r5, .inl (cI, 48, .inl (fun _ => 0))), (r6, .inl (cI, 48, .inl (fun _ => 0))), (r7, .inl (cI, 48, .inl (fun _ => 0))), (r8, .inl (cZ, 48, .inl (fun _ => 0))), (r9, .inl (cI, 48, .inl (fun _ => 0)))]) H := hP
  have hD : va_D A ([(q, .inr (3, [.int 0, .int 0, .ref r0, .ref r1, .ref r2, .ref r3, .int 0, .ref r4, .ref r5, .ref r6, .ref r7, .ref r8, .int 0, .int 0, .ref r9, .int 0, .int 0])), (r0, .inl (cI, 48, .inl (fun _ => 0))), (r1, .inl (cI, 48, .inl (fun _ => 0))), (r2, .inl (cI, 48, .inl (fun _ => 0))), (r3, .inl (cI, 48, .inl (fun _ => 0))), (r4, .inl (cI, 48, .inl (fun _ => 0))), (r5, .inl (cI, 48, .inl (fun _ => 0))), (r6, .inl (cI, 48, .inl (fun _ => 0))), (r7, .inl (cI, 48, .inl (fun _ => 0))), (r8, .inl (cZ, 48, .inl (fun _ => 0))), (r9, .inl (cI, 48, .inl (fun _ => 0)))]) := hD
  refine lv_aload_n hx hb dX3_init_84 rfl (lv_at hl 0 rfl) ?_
  refine lv_iconst (v := (-1)) hx hb dX3_init_85 (by decide) ?_
  refine va_put (D := (dC, dI)) (ci := 3) (v := .int ((-1))) (ty := .int) (C := RX3) (T := TX3) (N := 17) hx hb hT inX3 tyX3 tyX3_ok nmX3 hown hK hP hD hS 0 rfl rfl 16 (by decide) (hT _ tw_fl_X3_41) (fun _ h9 => h9) rfl (by decide +kernel) rfl rfl (Nat.le_of_ble_eq_true rfl) dX3_init_86 (fun H locs hP hD hS => ?_)
  have hP : va_P (dC, dI) vwCl ([(q, .inr (3, [.int 0, .int 0, .ref r0, .ref r1, .ref r2, .ref r3, .int 0, .ref r4, .ref r5, .ref r6, .ref r7, .ref r8, .int 0, .int 0, .ref r9, .int 0, .int ((-1))])), (r0, .inl (cI, 48, .inl (fun _ => 0))), (r1, .inl (cI, 48, .inl (fun _ => 0))), (r2, .inl (cI, 48, .inl (fun _ => 0))), (r3, .inl (cI, 48, .inl (fun _ => 0))), (r4, .inl (cI, 48, .inl (fun _ => 0))), (r5, .inl (cI, 48, .inl (fun _ => 0))), (r6, .inl (cI, 48, .inl (fun _ => 0))), (r7, .inl (cI, 48, .inl (fun _ => 0))), (r8, .inl (cZ, 48, .inl (fun _ => 0))), (r9, .inl (cI, 48, .inl (fun _ => 0)))]) H := hP
  have hD : va_D A ([(q, .inr (3, [.int 0, .int 0, .ref r0, .ref r1, .ref r2, .ref r3, .int 0, .ref r4, .ref r5, .ref r6, .ref r7, .ref r8, .int 0, .int 0, .ref r9, .int 0, .int ((-1))])), (r0, .inl (cI, 48, .inl (fun _ => 0))), (r1, .inl (cI, 48, .inl (fun _ => 0))), (r2, .inl (cI, 48, .inl (fun _ => 0))), (r3, .inl (cI, 48, .inl (fun _ => 0))), (r4, .inl (cI, 48, .inl (fun _ => 0))), (r5, .inl (cI, 48, .inl (fun _ => 0))), (r6, .inl (cI, 48, .inl (fun _ => 0))), (r7, .inl (cI, 48, .inl (fun _ => 0))), (r8, .inl (cZ, 48, .inl (fun _ => 0))), (r9, .inl (cI, 48, .inl (fun _ => 0)))]) := hD
  exact W.vret hx hb hr (fun t ht hW => ⟨⟨ps_ad [r0, r1, r2, r3, r4, r5, r6, r7, r8, r9], rfl, trivial, by rw [ht]; exact hP, va_K.moved hW.alike hK, hD⟩, hS.F ht⟩) hS.2.2 dX3_init_89
/-- the private constructors that the shelf's own calls -/
def ps_N2 (U : State) : Prop := va_Nw (.methodLinkNest RX2 9 yX1_init RX2) U ∧ va_Nw (.methodLinkNest RX2 21 yX0_init RX2) U
theorem ps_N2.warm {s U : State} (hW : s.WarmedH U.vm) (h : ps_N2 s) : ps_N2 U := ⟨va_Nw.warmM hW h.1, va_Nw.warmM hW h.2⟩
theorem ps_N2.calling {U : State} {g : JFrame} {mk : MethodId} {a : Array Value} (h : ps_N2 U) : ps_N2 (U.calling g mk a) := ⟨va_Nw.same rfl rfl h.1, va_Nw.same rfl rfl h.2⟩
section PSR
variable {p : Program} {l : Launch} {e : Env} {R : Room} {s : State} {m : MethodId} {args : Array Value} {below : List Frame} {meth : Method} {c : Code} {H : Heap} {locs : List Loc} {cells slots : Nat} {Q : State → Prop}
variable {pc : Nat} {ls : Array Slot} {rest st0 : List Value} {D : va_G} {A0 : Nat → Prop} {tys : List (ClassId × FieldType)} {ws wc wr : va_W} {H0 : Heap} {mc ms : Nat} {av : Array Value}
/-- a call that makes cells: their addresses come with it -/
theorem ps_cqa {S : Type} {w1 : S → va_W} (hr : va_Run p l e R s m args below meth c H locs cells slots mc ms (F0 m pc ls st0) rest (va_Qv (fun _ : S => True) (fun a t => va_P D vwCl (w1 a) t.heap ∧ va_K D vwCl tys t ∧ va_D (va_A wc H.size) (w1 a)) (va_A wc H.size) av) (va_A wc H.size)) (hS : va_S A0 H0 H locs) (hA : ∀ q, H0.size ≤ q → A0 q) (hP : va_P D vwCl ws H) (hD : va_D A0 ws)
    (isC isR : List Nat) (hC : isC.map (fun i => ws[i]?) = wc.map some) (hR : isR.map (fun i => ws[i]?) = wr.map some) (hn : va_nd isR = true) (hdis : ∀ i ∈ isR, i ∉ isC)
    (kk : ∀ (a : S) (H1 : Heap) (locs1 : List Loc), va_P D vwCl (wr ++ w1 a) H1 → va_D A0 (wr ++ w1 a) → va_S A0 H0 H1 locs1 → W p l e R s m args below meth c H1 locs1 (cells + mc) (slots + ms) Q (F0 m (pc + 3) ls rest)) : W p l e R s m args below meth c H locs cells slots Q (F0 m pc ls st0) := by
  have hF := va_free (wc := wc) hD hS hA isC hC
  refine va_callv hr hS (fun q _ h => hF q h) hF (fun u t H1 locs1 ht hvm hw hB hz1 hk1 hS1 => ?_)
  obtain ⟨hP1, hK1, hD1⟩ := hB
  rw [ht] at hP1
  obtain ⟨hP2, hD2⟩ := va_join (wr := wr) (w1 := w1 u) hP hD isC isR hC hR hn hdis hk1 hF hP1 hD1
  exact kk u H1 locs1 hP2 hD2 hS1
end PSR
set_option maxHeartbeats 4000000 in
set_option maxRecDepth 100000 in
theorem mX2_init (l : Launch) (dC : Nat → ClassId) (dI : Nat → Nat → Nat) (cI cZ : ClassId) (h0 : Nat) (sz : Nat) : Met l yX2_init (.code yX2_init cX2_init 1 none :: ps_T) ({ frames := 2, cells := 20, slots := 837, locals := 40 }) (fun v U => ps_qc (dC, dI) (ps_ty cI cZ) ([(h0, .inr (2, [.null, .null, .null, .int 0, .int 0, .int 0, .int 0, .int 0]))]) sz [.ref h0] v U ∧ ps_N2 U) (va_Qv (fun _ : (Nat × Nat × Nat × Nat) × (Nat → Nat) × (Nat → Nat) => True) (fun z9 t => va_P (dC, dI) vwCl (ps_shW h0 z9.1.1 z9.1.2.1 z9.1.2.2.1 0 0 0 (-1) 0 ++ ps_trW cI cZ z9.1.1 z9.2.1 0 (fun _ _ => 0) ++ ps_trW cI cZ z9.1.2.1 z9.2.2 0 (fun _ _ => 0) ++ ps_lsW cI z9.1.2.2.1 z9.1.2.2.2 0 0 (fun _ => 0)) t.heap ∧ va_K (dC, dI) vwCl (ps_ty cI cZ) t ∧ va_D (va_A ([(h0, .inr (2, [.null, .null, .null, .int 0, .int 0, .int 0, .int 0, .int 0]))]) sz) (ps_shW h0 z9.1.1 z9.1.2.1 z9.1.2.2.1 0 0 0 (-1) 0 ++ ps_trW cI cZ z9.1.1 z9.2.1 0 (fun _ _ => 0) ++ ps_trW cI cZ z9.1.2.1 z9.2.2 0 (fun _ _ => 0) ++ ps_lsW cI z9.1.2.2.1 z9.1.2.2.2 0 0 (fun _ => 0))) (va_A ([(h0, .inr (2, [.null, .null, .null, .int 0, .int 0, .int 0, .int 0, .int 0]))]) sz)) 20 837 (va_A ([(h0, .inr (2, [.null, .null, .null, .int 0, .int 0, .int 0, .int 0, .int 0]))]) sz) := by
  refine Met.ofW (cc := cX2_init) (maxL := 1) (ret := none) (by decide) rfl ?_
  intro p e s m args below meth c s₁ B hml hv
  obtain ⟨⟨rfl, hsz, hN, hP, hK, hD0⟩, hN2⟩ := hv
  have hx := B.exec
  have hb := B.bytes
  have hr := B.returns
  have hlocks := B.notSynchronized
  have hT : ∀ w ∈ ps_T, w.before ([.ref h0] : List Value).toArray s = true := fun w h => atoms_spec (ws := (.code yX2_init cX2_init 1 none :: ps_T)) B.pre w (List.mem_cons_of_mem _ h)
  have hown : s.vm.findClass RX2 = some m.cls := findClass_of_methodNamed B.named
  have hin : meth.name = "<init>" := (name_of_methodNamed B.named B.method).1
  subst hsz
  have hD := hD0.self (sz := s.heap.size)
  generalize hAe : va_A ([(h0, .inr (2, [.null, .null, .null, .int 0, .int 0, .int 0, .int 0, .int 0]))]) s.heap.size = A at hD ⊢
  have hA : ∀ q : Nat, s.heap.size ≤ q → A q := fun q h => by rw [← hAe]; exact Or.inr h
  have hS : va_S A s.heap s.heap [] := va_S.rf
  have hl := lv_entry ([.ref h0]) (n := 1) (Nat.le_of_ble_eq_true rfl)
  rw [lg_entry_eq]
  generalize (lg_sl ([.ref h0]) ++ List.replicate (1 - (lg_sl ([.ref h0])).length) Slot.unset).toArray = ls at hl ⊢
  have hl : lv_has ls 1 [(0, .ref h0)] := hl
  refine lv_aload_n hx hb dX2_init_0 rfl (lv_at hl 0 rfl) ?_
  refine W.objInit hx hb hown (hT _ tw_ml_X2_1) (hT _ tw_im_Object_init) (hT _ tw_co_Object_init) rfl (by rw [hml]; exact hl.1) rfl dX2_init_1 (Nat.le_of_ble_eq_true rfl) (Nat.le_of_ble_eq_true rfl) ?_
  refine W.eq (g2 := F0 m 4 ls []) rfl ?_
  refine lv_aload_n hx hb dX2_init_4 rfl (lv_at hl 0 rfl) ?_
  refine va_new (ci := 1) (fs := [.null, .null, .null, .null, .null, .null, .null, .null, .int 0]) (C := RX1) (T := TX1) (N := 9) hx hb hT inX1 tyX1 tyX1_ok hown (hT _ tw_cl_X2_7) (hT _ tw_it_X1) (hT _ tw_in_X1) hK hP hD hS hA rfl (fun j hj => by rcases (show j = 0 ∨ j = 1 ∨ j = 2 ∨ j = 3 ∨ j = 4 ∨ j = 5 ∨ j = 6 ∨ j = 7 ∨ j = 8 by omega) with rfl | rfl | rfl | rfl | rfl | rfl | rfl | rfl | rfl <;> rfl) (Nat.le_of_ble_eq_true rfl) (Nat.le_of_ble_eq_true rfl) dX2_init_5 (fun q1 H hP hD hS => ?_)
  have hP : va_P (dC, dI) vwCl ([(h0, .inr (2, [.null, .null, .null, .int 0, .int 0, .int 0, .int 0, .int 0]))] ++ [(q1, .inr (1, [.null, .null, .null, .null, .null, .null, .null, .null, .int 0]))]) H := hP
  have hD : va_D A ([(h0, .inr (2, [.null, .null, .null, .int 0, .int 0, .int 0, .int 0, .int 0]))] ++ [(q1, .inr (1, [.null, .null, .null, .null, .null, .null, .null, .null, .int 0]))]) := hD
  refine lv_dup hx hb dX2_init_8 rfl ?_
  refine ps_cqa (wc := [(q1, .inr (1, [.null, .null, .null, .null, .null, .null, .null, .null, .int 0]))]) (wr := [(h0, .inr (2, [.null, .null, .null, .int 0, .int 0, .int 0, .int 0, .int 0]))]) (w1 := fun (a : Nat → Nat) => ps_trW cI cZ q1 a 0 (fun _ _ => 0)) (va_runIN (host := RX2) (As := []) (rest := [.ref q1, .ref h0]) ⟨hx, hb, hml, hown, hT⟩ (mX1_init l dC dI cI cZ q1 _) ⟨va_cnB 0 hT (ps_gC tw_co_X1_init) rfl rfl rfl hN2.1 (hT _ tw_in_X1) ⟨by decide, by decide, by decide +kernel⟩ ⟨Nat.le_of_ble_eq_true rfl, Nat.le_of_ble_eq_true rfl⟩, rfl, hT _ tw_im_X1_init⟩ (ps_qreS (wc := [(q1, .inr (1, [.null, .null, .null, .null, .null, .null, .null, .null, .int 0]))]) [1] hN hP hK hD rfl rfl rfl) rfl rfl hl.1 rfl (lv_room (Nat.le_of_ble_eq_true rfl)) dX2_init_9 ⟨Nat.le_of_ble_eq_true rfl, Nat.le_of_ble_eq_true rfl⟩) hS hA hP hD [1] [0] rfl rfl rfl (by decide) (fun a1 H locs hP hD hS => ?_)
  have hP : va_P (dC, dI) vwCl ([(h0, .inr (2, [.null, .null, .null, .int 0, .int 0, .int 0, .int 0, .int 0]))] ++ ps_trW cI cZ q1 a1 0 (fun _ _ => 0)) H := hP
  have hD : va_D A ([(h0, .inr (2, [.null, .null, .null, .int 0, .int 0, .int 0, .int 0, .int 0]))] ++ ps_trW cI cZ q1 a1 0 (fun _ _ => 0)) := hD
  refine va_putF (D := (dC, dI)) (ci := 2) (v := .ref q1) (ty := .object "PointShelf$Tree") (C := RX2) (T := TX2) (N := 8) hx hb hT inX2 tyX2 tyX2_ok nmX2 hown hK hP hD hS 0 rfl rfl 0 (by decide) (hT _ tw_fl_X2_10) (fun _ h9 => h9) rfl hin rfl (by decide +kernel) rfl rfl (Nat.le_of_ble_eq_true rfl) dX2_init_12 (fun H locs hP hD hS => ?_)
  have hP : va_P (dC, dI) vwCl ([(h0, .inr (2, [.ref q1, .null, .null, .int 0, .int 0, .int 0, .int 0, .int 0]))] ++ ps_trW cI cZ q1 a1 0 (fun _ _ => 0)) H := hP
  have hD : va_D A ([(h0, .inr (2, [.ref q1, .null, .null, .int 0, .int 0, .int 0, .int 0, .int 0]))] ++ ps_trW cI cZ q1 a1 0 (fun _ _ => 0)) := hD
  refine lv_aload_n hx hb dX2_init_15 rfl (lv_at hl 0 rfl) ?_
  refine va_new (ci := 1) (fs := [.null, .null, .null, .null, .null, .null, .null, .null, .int 0]) (C := RX1) (T := TX1) (N := 9) hx hb hT inX1 tyX1 tyX1_ok hown (hT _ tw_cl_X2_7) (hT _ tw_it_X1) (hT _ tw_in_X1) hK hP hD hS hA rfl (fun j hj => by rcases (show j = 0 ∨ j = 1 ∨ j = 2 ∨ j = 3 ∨ j = 4 ∨ j = 5 ∨ j = 6 ∨ j = 7 ∨ j = 8 by omega) with rfl | rfl | rfl | rfl | rfl | rfl | rfl | rfl | rfl <;> rfl) (Nat.le_of_ble_eq_true rfl) (Nat.le_of_ble_eq_true rfl) dX2_init_16 (fun q2 H hP hD hS => ?_)
  have hP : va_P (dC, dI) vwCl ([(h0, .inr (2, [.ref q1, .null, .null, .int 0, .int 0, .int 0, .int 0, .int 0]))] ++ ps_trW cI cZ q1 a1 0 (fun _ _ => 0) ++ [(q2, .inr (1, [.null, .null, .null, .null, .null, .null, .null, .null, .int 0]))]) H := hP
  have hD : va_D A ([(h0, .inr (2, [.ref q1, .null, .null, .int 0, .int 0, .int 0, .int 0, .int 0]))] ++ ps_trW cI cZ q1 a1 0 (fun _ _ => 0) ++ [(q2, .inr (1, [.null, .null, .null, .null, .null, .null, .null, .null, .int 0]))]) := hD
  refine lv_dup hx hb dX2_init_19 rfl ?_
  refine ps_cqa (wc := [(q2, .inr (1, [.null, .null, .null, .null, .null, .null, .null, .null, .int 0]))]) (wr := [(h0, .inr (2, [.ref q1, .null, .null, .int 0, .int 0, .int 0, .int 0, .int 0]))] ++ ps_trW cI cZ q1 a1 0 (fun _ _ => 0)) (w1 := fun (a : Nat → Nat) => ps_trW cI cZ q2 a 0 (fun _ _ => 0)) (va_runIN (host := RX2) (As := []) (rest := [.ref q2, .ref h0]) ⟨hx, hb, hml, hown, hT⟩ (mX1_init l dC dI cI cZ q2 _) ⟨va_cnB 0 hT (ps_gC tw_co_X1_init) rfl rfl rfl hN2.1 (hT _ tw_in_X1) ⟨by decide, by decide, by decide +kernel⟩ ⟨Nat.le_of_ble_eq_true rfl, Nat.le_of_ble_eq_true rfl⟩, rfl, hT _ tw_im_X1_init⟩ (ps_qreS (wc := [(q2, .inr (1, [.null, .null, .null, .null, .null, .null, .null, .null, .int 0]))]) [10] hN hP hK hD rfl rfl rfl) rfl rfl hl.1 rfl (lv_room (Nat.le_of_ble_eq_true rfl)) dX2_init_20 ⟨Nat.le_of_ble_eq_true rfl, Nat.le_of_ble_eq_true rfl⟩) hS hA hP hD [10] [0, 1, 2, 3, 4, 5, 6, 7, 8, 9] rfl rfl rfl (by decide) (fun a2 H locs hP hD hS => ?_)
  have hP : va_P (dC, dI) vwCl ([(h0, .inr (2, [.ref q1, .null, .null, .int 0, .int 0, .int 0, .int 0, .int 0]))] ++ ps_trW cI cZ q1 a1 0 (fun _ _ => 0) ++ ps_trW cI cZ q2 a2 0 (fun _ _ => 0)) H := hP
  have hD : va_D A ([(h0, .inr (2, [.ref q1, .null, .null, .int 0, .int 0, .int 0, .int 0, .int 0]))] ++ ps_trW cI cZ q1 a1 0 (fun _ _ => 0) ++ ps_trW cI cZ q2 a2 0 (fun _ _ => 0)) := hD
  refine va_putF (D := (dC, dI)) (ci := 2) (v := .ref q2) (ty := .object "PointShelf$Tree") (C := RX2) (T := TX2) (N := 8) hx hb hT inX2 tyX2 tyX2_ok nmX2 hown hK hP hD hS 0 rfl rfl 1 (by decide) (hT _ tw_fl_X2_16) (fun _ h9 => h9) rfl hin rfl (by decide +kernel) rfl rfl (Nat.le_of_ble_eq_true rfl) dX2_init_23 (fun H locs hP hD hS => ?_)
  have hP : va_P (dC, dI) vwCl ([(h0, .inr (2, [.ref q1, .ref q2, .null, .int 0, .int 0, .int 0, .int 0, .int 0]))] ++ ps_trW cI cZ q1 a1 0 (fun _ _ => 0) ++ ps_trW cI cZ q2 a2 0 (fun _ _ => 0)) H := hP
  have hD : va_D A ([(h0, .inr (2, [.ref q1, .ref q2, .null, .int 0, .int 0, .int 0, .int 0, .int 0]))] ++ ps_trW cI cZ q1 a1 0 (fun _ _ => 0) ++ ps_trW cI cZ q2 a2 0 (fun _ _ => 0)) := hD
  refine lv_aload_n hx hb dX2_init_26 rfl (lv_at hl 0 rfl) ?_
  refine va_new (ci := 0) (fs := [.null, .int 0, .int 0]) (C := RX0) (T := TX0) (N := 3) hx hb hT inX0 tyX0 tyX0_ok hown (hT _ tw_cl_X2_19) (hT _ tw_it_X0) (hT _ tw_in_X0) hK hP hD hS hA rfl (fun j hj => by rcases (show j = 0 ∨ j = 1 ∨ j = 2 by omega) with rfl | rfl | rfl <;> rfl) (Nat.le_of_ble_eq_true rfl) (Nat.le_of_ble_eq_true rfl) dX2_init_27 (fun q3 H hP hD hS => ?_)
  have hP : va_P (dC, dI) vwCl ([(h0, .inr (2, [.ref q1, .ref q2, .null, .int 0, .int 0, .int 0, .int 0, .int 0]))] ++ ps_trW cI cZ q1 a1 0 (fun _ _ => 0) ++ ps_trW cI cZ q2 a2 0 (fun _ _ => 0) ++ [(q3, .inr (0, [.null, .int 0, .int 0]))]) H := hP
  have hD : va_D A ([(h0, .inr (2, [.ref q1, .ref q2, .null, .int 0, .int 0, .int 0, .int 0, .int 0]))] ++ ps_trW cI cZ q1 a1 0 (fun _ _ => 0) ++ ps_trW cI cZ q2 a2 0 (fun _ _ => 0) ++ [(q3, .inr (0, [.null, .int 0, .int 0]))]) := hD
  refine lv_dup hx hb dX2_init_30 rfl ?_
  refine ps_cqa (wc := [(q3, .inr (0, [.null, .int 0, .int 0]))]) (wr := [(h0, .inr (2, [.ref q1, .ref q2, .null, .int 0, .int 0, .int 0, .int 0, .int 0]))] ++ ps_trW cI cZ q1 a1 0 (fun _ _ => 0) ++ ps_trW cI cZ q2 a2 0 (fun _ _ => 0)) (w1 := fun (a : Nat → Nat) => ps_lsW cI q3 (a 0) 0 0 (fun _ => 0)) (va_runIN (host := RX2) (As := []) (rest := [.ref q3, .ref h0]) ⟨hx, hb, hml, hown, hT⟩ (mX0_init l dC dI cI cZ q3 _) ⟨va_cnB 0 hT (ps_gC tw_co_X0_init) rfl rfl rfl hN2.2 (hT _ tw_in_X0) ⟨by decide, by decide, by decide +kernel⟩ ⟨Nat.le_of_ble_eq_true rfl, Nat.le_of_ble_eq_true rfl⟩, rfl, hT _ tw_im_X0_init⟩ (ps_qreS (wc := [(q3, .inr (0, [.null, .int 0, .int 0]))]) [19] hN hP hK hD rfl rfl rfl) rfl rfl hl.1 rfl (lv_room (Nat.le_of_ble_eq_true rfl)) dX2_init_31 ⟨Nat.le_of_ble_eq_true rfl, Nat.le_of_ble_eq_true rfl⟩) hS hA hP hD [19] [0, 1, 2, 3, 4, 5, 6, 7, 8, 9, 10, 11, 12, 13, 14, 15, 16, 17, 18] rfl rfl rfl (by decide) (fun a3 H locs hP hD hS => ?_)
  have hP : va_P (dC, dI) vwCl ([(h0, .inr (2, [.ref q1, .ref q2, .null, .int 0, .int 0, .int 0, .int 0, .int 0]))] ++ ps_trW cI cZ q1 a1 0 (fun _ _ => 0) ++ ps_trW cI cZ q2 a2 0 (fun _ _ => 0) ++ ps_lsW cI q3 (a3 0) 0 0 (fun _ => 0)) H := hP
  have hD : va_D A ([(h0, .inr (2, [.ref q1, .ref q2, .null, .int 0, .int 0, .int 0, .int 0, .int 0]))] ++ ps_trW cI cZ q1 a1 0 (fun _ _ => 0) ++ ps_trW cI cZ q2 a2 0 (fun _ _ => 0) ++ ps_lsW cI q3 (a3 0) 0 0 (fun _ => 0)) := hD
  refine va_putF (D := (dC, dI)) (ci := 2) (v := .ref q3) (ty := .object "PointShelf$Listing") (C := RX2) (T := TX2) (N := 8) hx hb hT inX2 tyX2 tyX2_ok nmX2 hown hK hP hD hS 0 rfl rfl 2 (by decide) (hT _ tw_fl_X2_22) (fun _ h9 => h9) rfl hin rfl (by decide +kernel) rfl rfl (Nat.le_of_ble_eq_true rfl) dX2_init_34 (fun H locs hP hD hS => ?_)
  have hP : va_P (dC, dI) vwCl ([(h0, .inr (2, [.ref q1, .ref q2, .ref q3, .int 0, .int 0, .int 0, .int 0, .int 0]))] ++ ps_trW cI cZ q1 a1 0 (fun _ _ => 0) ++ ps_trW cI cZ q2 a2 0 (fun _ _ => 0) ++ ps_lsW cI q3 (a3 0) 0 0 (fun _ => 0)) H := hP
  have hD : va_D A ([(h0, .inr (2, [.ref q1, .ref q2, .ref q3, .int 0, .int 0, .int 0, .int 0, .int 0]))] ++ ps_trW cI cZ q1 a1 0 (fun _ _ => 0) ++ ps_trW cI cZ q2 a2 0 (fun _ _ => 0) ++ ps_lsW cI q3 (a3 0) 0 0 (fun _ => 0)) := hD
  refine lv_aload_n hx hb dX2_init_37 rfl (lv_at hl 0 rfl) ?_
  refine lv_iconst (v := (-1)) hx hb dX2_init_38 (by decide) ?_
  refine va_put (D := (dC, dI)) (ci := 2) (v := .int (-1)) (ty := .int) (C := RX2) (T := TX2) (N := 8) hx hb hT inX2 tyX2 tyX2_ok nmX2 hown hK hP hD hS 0 rfl rfl 6 (by decide) (hT _ tw_fl_X2_26) (fun _ h9 => h9) rfl (by decide +kernel) rfl rfl (Nat.le_of_ble_eq_true rfl) dX2_init_39 (fun H locs hP hD hS => ?_)
  have hP : va_P (dC, dI) vwCl ([(h0, .inr (2, [.ref q1, .ref q2, .ref q3, .int 0, .int 0, .int 0, .int (-1), .int 0]))] ++ ps_trW cI cZ q1 a1 0 (fun _ _ => 0) ++ ps_trW cI cZ q2 a2 0 (fun _ _ => 0) ++ ps_lsW cI q3 (a3 0) 0 0 (fun _ => 0)) H := hP
  have hD : va_D A ([(h0, .inr (2, [.ref q1, .ref q2, .ref q3, .int 0, .int 0, .int 0, .int (-1), .int 0]))] ++ ps_trW cI cZ q1 a1 0 (fun _ _ => 0) ++ ps_trW cI cZ q2 a2 0 (fun _ _ => 0) ++ ps_lsW cI q3 (a3 0) 0 0 (fun _ => 0)) := hD
  exact W.vret hx hb hr (fun t ht hW => ⟨⟨((q1, q2, q3, a3 0), a1, a2), rfl, trivial, by rw [ht]; exact hP, va_K.moved hW.alike hK, hD⟩, hS.F ht⟩) hS.2.2 dX2_init_42
