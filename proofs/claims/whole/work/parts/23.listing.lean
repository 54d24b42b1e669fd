/-! contracts: the listing. By wip/shelf.py. -/
abbrev ps_lsW (cI : ClassId) (q b f e : Nat) (h : Nat → Int32) : va_W := [(q, .inr (0, [.ref b, .int (nI f), .int (nI e)])), (b, .inl (cI, 48, .inl h))]
abbrev ps_shW (h0 q1 q2 q3 : Nat) (cx cy cz pl pw : Int32) : va_W := [(h0, .inr (2, [.ref q1, .ref q2, .ref q3, .int cx, .int cy, .int cz, .int pl, .int pw]))]
theorem ps_ne_toInt {x k : Int32} (h : ¬ x = k) : x.toInt ≠ k.toInt := fun e => h (Int32.toInt_inj.mp e)
/-- an id put into the rising ids below 'at' -/
def ps_li (id : Int32) : Nat → (Nat → Int32) → (Nat → Int32)
  | 0, f => upd f 0 id
  | a + 1, f => if id < f a then ps_li id a (upd f (a + 1) (f a)) else upd f (a + 1) id
theorem ps_li_t {id : Int32} {a : Nat} {f : Nat → Int32} (h : id < f a) : ps_li id (a + 1) f = ps_li id a (upd f (a + 1) (f a)) := by
  show (if id < f a then ps_li id a (upd f (a + 1) (f a)) else upd f (a + 1) id) = _
  rw [if_pos h]
theorem ps_li_f {id : Int32} {a : Nat} {f : Nat → Int32} (h : ¬ id < f a) : ps_li id (a + 1) f = upd f (a + 1) id := by
  show (if id < f a then ps_li id a (upd f (a + 1) (f a)) else upd f (a + 1) id) = _
  rw [if_neg h]
def ps_ib (g : ps_G) (cx cy cz x y z : Int32) (k : Nat) : Bool := ps_bt cx (g 1 k) x && ps_bt cy (g 2 k) y && ps_bt cz (g 3 k) z
/-- pagesLeft behind a writing of p pages -/
def ps_pl (pl p : Int32) : Int32 := if pl = -1 then pl else pl - p
def ps_fv (g : ps_G) (k : Nat) (f : Int32) : Int32 := if f = 0 then g 1 k else if f = 1 then g 2 k else if f = 2 then g 3 k else if f = 3 then g 4 k else g 5 k
/-- the listing behind the first k rows of a box -/
def ps_bx (g : ps_G) (P : Nat → Bool) (lh : Nat → Int32) : Nat → Nat × (Nat → Int32)
  | 0 => (0, lh)
  | k + 1 => if P k = true then ((ps_bx g P lh k).1 + 1, ps_li (g 0 k) (ps_bx g P lh k).1 (ps_bx g P lh k).2) else ps_bx g P lh k
theorem ps_bx_t {g : ps_G} {P : Nat → Bool} {lh : Nat → Int32} {k : Nat} (h : P k = true) : ps_bx g P lh (k + 1) = ((ps_bx g P lh k).1 + 1, ps_li (g 0 k) (ps_bx g P lh k).1 (ps_bx g P lh k).2) := by
  show (if P k = true then ((ps_bx g P lh k).1 + 1, ps_li (g 0 k) (ps_bx g P lh k).1 (ps_bx g P lh k).2) else ps_bx g P lh k) = _
  rw [if_pos h]
theorem ps_bx_f {g : ps_G} {P : Nat → Bool} {lh : Nat → Int32} {k : Nat} (h : P k = false) : ps_bx g P lh (k + 1) = ps_bx g P lh k := by
  show (if P k = true then ((ps_bx g P lh k).1 + 1, ps_li (g 0 k) (ps_bx g P lh k).1 (ps_bx g P lh k).2) else ps_bx g P lh k) = _
  rw [if_neg (by rw [h]; decide)]
theorem ps_bx_le (g : ps_G) (P : Nat → Bool) (lh : Nat → Int32) : ∀ k, (ps_bx g P lh k).1 ≤ k
  | 0 => Nat.le_refl _
  | k + 1 => by
    have ih := ps_bx_le g P lh k
    cases h : P k with
    | true => rw [ps_bx_t h]; exact Nat.succ_le_succ ih
    | false => rw [ps_bx_f h]; omega
def ps_bq (g : ps_G) (cx cy cz x y z d : Int32) (k : Nat) : Bool := decide (¬ d < g 5 k) && ps_ib g cx cy cz x y z k
def ps_sv (n1 n2 : Nat) (g1 g2 : ps_G) (lf le : Nat) (pw w : Int32) : Int32 :=
  if w = 0 then nI n1 else if w = 1 then nI (ps_cn (fun k => decide (g1 6 k = 0)) n1) else if w = 2 then nI (64 - ps_cn (fun k => ps_bp (g2 6 k)) n2) else if w = 3 then pw else if w = 4 then nI (le - lf) else if w = 5 then nI n2 else -1
theorem ps_decI {n : Nat} (h : 0 < n) : nI n + Int32.ofInt (-1) = nI (n - 1) := by
  obtain ⟨m, rfl⟩ : ∃ m, n = m + 1 := ⟨n - 1, by omega⟩
  have e : Int32.ofInt (-1) = -1 := by decide
  rw [e]
  exact pk_m1 m
theorem ps_li_e1 {id : Int32} {at' le : Nat} {h' lh : Nat → Int32} (h0 : 0 < at') (h : ¬ id < h' (at' - 1)) (he : ps_li id at' h' = ps_li id le lh) : upd h' at' id = ps_li id le lh := by
  obtain ⟨m, rfl⟩ : ∃ m, at' = m + 1 := ⟨at' - 1, by omega⟩
  rw [← he, ps_li_f (a := m) h]
theorem ps_li_e2 {id : Int32} {at' le : Nat} {h' lh : Nat → Int32} (h0 : 0 < at') (h : id < h' (at' - 1)) (he : ps_li id at' h' = ps_li id le lh) : ps_li id (at' - 1) (upd h' at' (h' (at' - 1))) = ps_li id le lh := by
  obtain ⟨m, rfl⟩ : ∃ m, at' = m + 1 := ⟨at' - 1, by omega⟩
  rw [← he, ps_li_t (a := m) h]
  rfl
section PSE
variable {p : Program} {l : Launch} {e : Env} {R : Room} {s : State} {m : MethodId} {args : Array Value} {below : List Frame} {meth : Method} {c : Code} {H : Heap} {locs : List Loc} {cells slots : Nat} {Q : State → Prop}
variable {cc : ByteArray} {pc : Nat} {ls : Array Slot} {rest : List Value}
theorem ps_if_le (hexec : p.tables.exec = Jvm.exec) (hb : c.code = cc) {a : Nat} {off : Int} {tgt : Nat} (hdg : decode cc pc = .ok (.ifCond .le off, 3)) (ht : (pc : Int) + off = (tgt : Int)) (h1 : a < 2 ^ 31)
    (kt : a ≤ 0 → W p l e R s m args below meth c H locs cells slots Q (F0 m tgt ls rest)) (kf : 0 < a → W p l e R s m args below meth c H locs cells slots Q (F0 m (pc + 3) ls rest)) : W p l e R s m args below meth c H locs cells slots Q (F0 m pc ls (.int (nI a) :: rest)) :=
  lv_if_le hexec hb hdg ht (fun h => kt ((nI_leI (b := 0) h1 (by decide)).mp h)) (fun h => kf (Nat.lt_of_not_le (fun h' => h ((nI_leI (b := 0) h1 (by decide)).mpr h'))))
end PSE
set_option maxHeartbeats 4000000 in
set_option maxRecDepth 100000 in
theorem mX0_size (l : Launch) (dC : Nat → ClassId) (dI : Nat → Nat → Nat) (cI cZ : ClassId) (q3 b lf le : Nat) (lh : Nat → Int32) (hfe : lf ≤ le) : Met l yX0_size (.code yX0_size cX0_size 1 (some .int) :: ps_T) ({ frames := 0, cells := 0, slots := 0, locals := 0 }) (ps_pc (dC, dI) (ps_ty cI cZ) (ps_lsW cI q3 b lf le lh) [.ref q3]) (vp_Si (fun r => r = nI (le - lf))) 0 0 (fun _ => False) := by
  refine Met.ofW (cc := cX0_size) (maxL := 1) (ret := (some .int)) (by decide) rfl ?_
  intro p e s m args below meth c s₁ B hml hv
  obtain ⟨rfl, hN, hP, hK⟩ := hv
  have hx := B.exec
  have hb := B.bytes
  have hr := B.returns
  have hlocks := B.notSynchronized
  have hT : ∀ w ∈ ps_T, w.before ([.ref q3] : List Value).toArray s = true := fun w h => atoms_spec (ws := (.code yX0_size cX0_size 1 (some .int) :: ps_T)) B.pre w (List.mem_cons_of_mem _ h)
  have hown : s.vm.findClass RX0 = some m.cls := findClass_of_methodNamed B.named
  have hl := lv_entry ([.ref q3]) (n := 1) (Nat.le_of_ble_eq_true rfl)
  rw [lg_entry_eq]
  generalize (lg_sl ([.ref q3]) ++ List.replicate (1 - (lg_sl ([.ref q3])).length) Slot.unset).toArray = ls at hl ⊢
  have hl : lv_has ls 1 [(0, .ref q3)] := hl
  refine lv_aload_n hx hb dX0_size_0 rfl (lv_at hl 0 rfl) ?_
  refine va_get (D := (dC, dI)) (ci := 0) (v := .int (nI le)) (C := RX0) (T := TX0) (N := 3) hx hb hT inX0 hown hK hP 0 rfl rfl 2 (by decide) (hT _ tw_fl_X0_15) (fun _ h9 => h9) rfl dX0_size_1 ?_
  refine lv_aload_n hx hb dX0_size_4 rfl (lv_at hl 0 rfl) ?_
  refine va_get (D := (dC, dI)) (ci := 0) (v := .int (nI lf)) (C := RX0) (T := TX0) (N := 3) hx hb hT inX0 hown hK hP 0 rfl rfl 1 (by decide) (hT _ tw_fl_X0_19) (fun _ h9 => h9) rfl dX0_size_5 ?_
  refine lv_isub hx hb dX0_size_8 ?_
  rw [pk_sub hfe]
  exact W.iret (v := nI (le - lf)) hx hb hr (fun t ht hW => ⟨nI (le - lf), rfl, rfl, ht⟩) (fun q h => by cases h) dX0_size_9
set_option maxHeartbeats 4000000 in
set_option maxRecDepth 100000 in
theorem mX0_clear (l : Launch) (dC : Nat → ClassId) (dI : Nat → Nat → Nat) (cI cZ : ClassId) (q3 b lf le : Nat) (lh : Nat → Int32) (sz : Nat) : Met l yX0_clear (.code yX0_clear cX0_clear 1 none :: ps_T) ({ frames := 0, cells := 0, slots := 0, locals := 0 }) (ps_qc (dC, dI) (ps_ty cI cZ) (ps_lsW cI q3 b lf le lh) sz [.ref q3]) (va_Qv (fun _ : Unit => True) (ps_qB (dC, dI) (ps_ty cI cZ) (va_A (ps_lsW cI q3 b lf le lh) sz) (ps_lsW cI q3 b 0 0 lh)) (va_A (ps_lsW cI q3 b lf le lh) sz)) 0 0 (va_A (ps_lsW cI q3 b lf le lh) sz) := by
  refine Met.ofW (cc := cX0_clear) (maxL := 1) (ret := none) (by decide) rfl ?_
  intro p e s m args below meth c s₁ B hml hv
  obtain ⟨rfl, hsz, hN, hP, hK, hD0⟩ := hv
  have hx := B.exec
  have hb := B.bytes
  have hr := B.returns
  have hlocks := B.notSynchronized
  have hT : ∀ w ∈ ps_T, w.before ([.ref q3] : List Value).toArray s = true := fun w h => atoms_spec (ws := (.code yX0_clear cX0_clear 1 none :: ps_T)) B.pre w (List.mem_cons_of_mem _ h)
  have hown : s.vm.findClass RX0 = some m.cls := findClass_of_methodNamed B.named
  subst hsz
  have hD := hD0.self (sz := s.heap.size)
  generalize hAe : va_A (ps_lsW cI q3 b lf le lh) s.heap.size = A at hD ⊢
  have hA : ∀ q : Nat, s.heap.size ≤ q → A q := fun q h => by rw [← hAe]; exact Or.inr h
  have hS : va_S A s.heap s.heap [] := va_S.rf
  have hl := lv_entry ([.ref q3]) (n := 1) (Nat.le_of_ble_eq_true rfl)
  rw [lg_entry_eq]
  generalize (lg_sl ([.ref q3]) ++ List.replicate (1 - (lg_sl ([.ref q3])).length) Slot.unset).toArray = ls at hl ⊢
  have hl : lv_has ls 1 [(0, .ref q3)] := hl
  refine lv_aload_n hx hb dX0_clear_0 rfl (lv_at hl 0 rfl) ?_
  refine lv_iconst (v := 0) hx hb dX0_clear_1 (by decide) ?_
  refine va_put (D := (dC, dI)) (ci := 0) (v := .int 0) (ty := .int) (C := RX0) (T := TX0) (N := 3) hx hb hT inX0 tyX0 tyX0_ok nmX0 hown hK hP hD hS 0 rfl rfl 1 (by decide) (hT _ tw_fl_X0_19) (fun _ h9 => h9) rfl (by decide +kernel) rfl rfl (Nat.le_of_ble_eq_true rfl) dX0_clear_2 (fun H locs hP hD hS => ?_)
  have hP : va_P (dC, dI) vwCl (ps_lsW cI q3 b 0 le lh) H := hP
  have hD : va_D A (ps_lsW cI q3 b 0 le lh) := hD
  refine lv_aload_n hx hb dX0_clear_5 rfl (lv_at hl 0 rfl) ?_
  refine lv_iconst (v := 0) hx hb dX0_clear_6 (by decide) ?_
  refine va_put (D := (dC, dI)) (ci := 0) (v := .int 0) (ty := .int) (C := RX0) (T := TX0) (N := 3) hx hb hT inX0 tyX0 tyX0_ok nmX0 hown hK hP hD hS 0 rfl rfl 2 (by decide) (hT _ tw_fl_X0_15) (fun _ h9 => h9) rfl (by decide +kernel) rfl rfl (Nat.le_of_ble_eq_true rfl) dX0_clear_7 (fun H locs hP hD hS => ?_)
  have hP : va_P (dC, dI) vwCl (ps_lsW cI q3 b 0 0 lh) H := hP
  have hD : va_D A (ps_lsW cI q3 b 0 0 lh) := hD
  exact W.vret hx hb hr (fun t ht hW => ⟨⟨(), rfl, trivial, by rw [ht]; exact hP, va_K.moved hW.alike hK, hD⟩, hS.F ht⟩) hS.2.2 dX0_clear_10
set_option maxHeartbeats 4000000 in
set_option maxRecDepth 100000 in
theorem mX0_insert (l : Launch) (dC : Nat → ClassId) (dI : Nat → Nat → Nat) (cI cZ : ClassId) (q3 b lf le : Nat) (lh : Nat → Int32) (hle : le < 48) (id : Int32) (sz : Nat) : Met l yX0_insert (.code yX0_insert cX0_insert 3 none :: ps_T) ({ frames := 0, cells := 0, slots := 0, locals := 0 }) (ps_qc (dC, dI) (ps_ty cI cZ) (ps_lsW cI q3 b lf le lh) sz [.ref q3, .int id]) (va_Qv (fun _ : Unit => True) (ps_qB (dC, dI) (ps_ty cI cZ) (va_A (ps_lsW cI q3 b lf le lh) sz) (ps_lsW cI q3 b lf ((le + 1)) ((ps_li id le lh)))) (va_A (ps_lsW cI q3 b lf le lh) sz)) 0 0 (va_A (ps_lsW cI q3 b lf le lh) sz) := by
  refine Met.ofW (cc := cX0_insert) (maxL := 3) (ret := none) (by decide) rfl ?_
  intro p e s m args below meth c s₁ B hml hv
  obtain ⟨rfl, hsz, hN, hP, hK, hD0⟩ := hv
  have hx := B.exec
  have hb := B.bytes
  have hr := B.returns
  have hlocks := B.notSynchronized
  have hT : ∀ w ∈ ps_T, w.before ([.ref q3, .int id] : List Value).toArray s = true := fun w h => atoms_spec (ws := (.code yX0_insert cX0_insert 3 none :: ps_T)) B.pre w (List.mem_cons_of_mem _ h)
  have hown : s.vm.findClass RX0 = some m.cls := findClass_of_methodNamed B.named
  subst hsz
  have hD := hD0.self (sz := s.heap.size)
  generalize hAe : va_A (ps_lsW cI q3 b lf le lh) s.heap.size = A at hD ⊢
  have hA : ∀ q : Nat, s.heap.size ≤ q → A q := fun q h => by rw [← hAe]; exact Or.inr h
  have hS : va_S A s.heap s.heap [] := va_S.rf
  have hl := lv_entry ([.ref q3, .int id]) (n := 3) (Nat.le_of_ble_eq_true rfl)
  rw [lg_entry_eq]
  generalize (lg_sl ([.ref q3, .int id]) ++ List.replicate (3 - (lg_sl ([.ref q3, .int id])).length) Slot.unset).toArray = ls at hl ⊢
  have hl : lv_has ls 3 [(0, .ref q3), (1, .int id)] := hl
  refine lv_aload_n hx hb dX0_insert_0 rfl (lv_at hl 0 rfl) ?_
  refine va_get (D := (dC, dI)) (ci := 0) (v := .int (nI le)) (C := RX0) (T := TX0) (N := 3) hx hb hT inX0 hown hK hP 0 rfl rfl 2 (by decide) (hT _ tw_fl_X0_15) (fun _ h9 => h9) rfl dX0_insert_1 ?_
  refine lv_istore_n (lv' := [(2, .int (nI le)), (0, .ref q3), (1, .int id)]) hx hb dX0_insert_4 rfl hl (by decide) rfl (fun ls hl => ?_)
  refine ps_loopQ (α := Nat × (Nat → Int32)) (fun z => z.1) (fun z ls H locs => (z.1 ≤ le) ∧ (ps_li id z.1 z.2 = ps_li id le lh) ∧ lv_has ls 3 [(0, .ref q3), (1, .int id), (2, .int (nI z.1))] ∧ va_P (dC, dI) vwCl (ps_lsW cI q3 b lf le z.2) H ∧ va_D A (ps_lsW cI q3 b lf le z.2) ∧ va_S A s.heap H locs) ?_ ((le, lh)) ls _ _ ⟨Nat.le_refl _, rfl, lv_sub hl [1, 2, 0] rfl, hP, hD, hS⟩
  intro z ls H locs ih hI
  obtain ⟨hat, he, hl, hP, hD, hS⟩ := hI
  refine lv_iload_n hx hb dX0_insert_5 rfl (lv_at hl 2 rfl) ?_
  refine ps_if_le (tgt := 41) (a := z.1) hx hb dX0_insert_6 rfl (by omega) (fun h6 => ?_) (fun h6 => ?_)
  · skip
    have he : upd z.2 z.1 id = ps_li id le lh := by rw [← he, show z.1 = 0 by omega]; rfl
    refine lv_aload_n hx hb dX0_insert_41 rfl (lv_at hl 0 rfl) ?_
    refine va_get (D := (dC, dI)) (ci := 0) (v := .ref b) (C := RX0) (T := TX0) (N := 3) hx hb hT inX0 hown hK hP 0 rfl rfl 0 (by decide) (hT _ tw_fl_X0_9) (fun _ h9 => h9) rfl dX0_insert_42 ?_
    refine lv_iload_n hx hb dX0_insert_45 rfl (lv_at hl 2 rfl) ?_
    refine lv_iload_n hx hb dX0_insert_46 rfl (lv_at hl 1 rfl) ?_
    refine ps_iast (k := z.1) hx hb hK hP hD hS 1 0 rfl rfl (by omega) (by decide) dX0_insert_47 (fun H locs hP hD hS => ?_)
    have hP : va_P (dC, dI) vwCl (ps_lsW cI q3 b lf le (upd z.2 z.1 id)) H := hP
    have hD : va_D A (ps_lsW cI q3 b lf le (upd z.2 z.1 id)) := hD
    rw [he] at hP hD
    refine lv_aload_n hx hb dX0_insert_48 rfl (lv_at hl 0 rfl) ?_
    refine lv_dup hx hb dX0_insert_49 rfl ?_
    refine va_get (D := (dC, dI)) (ci := 0) (v := .int (nI le)) (C := RX0) (T := TX0) (N := 3) hx hb hT inX0 hown hK hP 0 rfl rfl 2 (by decide) (hT _ tw_fl_X0_15) (fun _ h9 => h9) rfl dX0_insert_50 ?_
    refine lv_iconst (v := 1) hx hb dX0_insert_53 (by decide) ?_
    refine lv_iadd hx hb dX0_insert_54 ?_
    rw [nI_1]
    refine va_put (D := (dC, dI)) (ci := 0) (v := .int (nI (le + 1))) (ty := .int) (C := RX0) (T := TX0) (N := 3) hx hb hT inX0 tyX0 tyX0_ok nmX0 hown hK hP hD hS 0 rfl rfl 2 (by decide) (hT _ tw_fl_X0_15) (fun _ h9 => h9) rfl (by decide +kernel) rfl rfl (Nat.le_of_ble_eq_true rfl) dX0_insert_55 (fun H locs hP hD hS => ?_)
    have hP : va_P (dC, dI) vwCl (ps_lsW cI q3 b lf (le + 1) ((ps_li id le lh))) H := hP
    have hD : va_D A (ps_lsW cI q3 b lf (le + 1) ((ps_li id le lh))) := hD
    exact W.vret hx hb hr (fun t ht hW => ⟨⟨(), rfl, trivial, by rw [ht]; exact hP, va_K.moved hW.alike hK, hD⟩, hS.F ht⟩) hS.2.2 dX0_insert_58
  · skip
    refine lv_aload_n hx hb dX0_insert_9 rfl (lv_at hl 0 rfl) ?_
    refine va_get (D := (dC, dI)) (ci := 0) (v := .ref b) (C := RX0) (T := TX0) (N := 3) hx hb hT inX0 hown hK hP 0 rfl rfl 0 (by decide) (hT _ tw_fl_X0_9) (fun _ h9 => h9) rfl dX0_insert_10 ?_
    refine lv_iload_n hx hb dX0_insert_13 rfl (lv_at hl 2 rfl) ?_
    refine lv_iconst (v := 1) hx hb dX0_insert_14 (by decide) ?_
    refine lv_isub hx hb dX0_insert_15 ?_
    rw [ps_dec h6]
    refine ps_iald (k := z.1 - 1) (f := z.2) hx hb hK hP 1 0 rfl rfl (by omega) (by decide) dX0_insert_16 ?_
    refine lv_iload_n hx hb dX0_insert_17 rfl (lv_at hl 1 rfl) ?_
    refine lv_icmp_le (tgt := 41) hx hb dX0_insert_18 rfl (fun h18 => ?_) (fun h18 => ?_)
    · skip
      have he : upd z.2 z.1 id = ps_li id le lh := ps_li_e1 h6 (Int32.not_lt.mpr h18) he
      refine lv_aload_n hx hb dX0_insert_41 rfl (lv_at hl 0 rfl) ?_
      refine va_get (D := (dC, dI)) (ci := 0) (v := .ref b) (C := RX0) (T := TX0) (N := 3) hx hb hT inX0 hown hK hP 0 rfl rfl 0 (by decide) (hT _ tw_fl_X0_9) (fun _ h9 => h9) rfl dX0_insert_42 ?_
      refine lv_iload_n hx hb dX0_insert_45 rfl (lv_at hl 2 rfl) ?_
      refine lv_iload_n hx hb dX0_insert_46 rfl (lv_at hl 1 rfl) ?_
      refine ps_iast (k := z.1) hx hb hK hP hD hS 1 0 rfl rfl (by omega) (by decide) dX0_insert_47 (fun H locs hP hD hS => ?_)
      have hP : va_P (dC, dI) vwCl (ps_lsW cI q3 b lf le (upd z.2 z.1 id)) H := hP
      have hD : va_D A (ps_lsW cI q3 b lf le (upd z.2 z.1 id)) := hD
      rw [he] at hP hD
      refine lv_aload_n hx hb dX0_insert_48 rfl (lv_at hl 0 rfl) ?_
      refine lv_dup hx hb dX0_insert_49 rfl ?_
      refine va_get (D := (dC, dI)) (ci := 0) (v := .int (nI le)) (C := RX0) (T := TX0) (N := 3) hx hb hT inX0 hown hK hP 0 rfl rfl 2 (by decide) (hT _ tw_fl_X0_15) (fun _ h9 => h9) rfl dX0_insert_50 ?_
      refine lv_iconst (v := 1) hx hb dX0_insert_53 (by decide) ?_
      refine lv_iadd hx hb dX0_insert_54 ?_
      rw [nI_1]
      refine va_put (D := (dC, dI)) (ci := 0) (v := .int (nI (le + 1))) (ty := .int) (C := RX0) (T := TX0) (N := 3) hx hb hT inX0 tyX0 tyX0_ok nmX0 hown hK hP hD hS 0 rfl rfl 2 (by decide) (hT _ tw_fl_X0_15) (fun _ h9 => h9) rfl (by decide +kernel) rfl rfl (Nat.le_of_ble_eq_true rfl) dX0_insert_55 (fun H locs hP hD hS => ?_)
      have hP : va_P (dC, dI) vwCl (ps_lsW cI q3 b lf (le + 1) ((ps_li id le lh))) H := hP
      have hD : va_D A (ps_lsW cI q3 b lf (le + 1) ((ps_li id le lh))) := hD
      exact W.vret hx hb hr (fun t ht hW => ⟨⟨(), rfl, trivial, by rw [ht]; exact hP, va_K.moved hW.alike hK, hD⟩, hS.F ht⟩) hS.2.2 dX0_insert_58
    · skip
      have he := ps_li_e2 h6 (Int32.not_le.mp h18) he
      refine lv_aload_n hx hb dX0_insert_21 rfl (lv_at hl 0 rfl) ?_
      refine va_get (D := (dC, dI)) (ci := 0) (v := .ref b) (C := RX0) (T := TX0) (N := 3) hx hb hT inX0 hown hK hP 0 rfl rfl 0 (by decide) (hT _ tw_fl_X0_9) (fun _ h9 => h9) rfl dX0_insert_22 ?_
      refine lv_iload_n hx hb dX0_insert_25 rfl (lv_at hl 2 rfl) ?_
      refine lv_aload_n hx hb dX0_insert_26 rfl (lv_at hl 0 rfl) ?_
      refine va_get (D := (dC, dI)) (ci := 0) (v := .ref b) (C := RX0) (T := TX0) (N := 3) hx hb hT inX0 hown hK hP 0 rfl rfl 0 (by decide) (hT _ tw_fl_X0_9) (fun _ h9 => h9) rfl dX0_insert_27 ?_
      refine lv_iload_n hx hb dX0_insert_30 rfl (lv_at hl 2 rfl) ?_
      refine lv_iconst (v := 1) hx hb dX0_insert_31 (by decide) ?_
      refine lv_isub hx hb dX0_insert_32 ?_
      rw [ps_dec h6]
      refine ps_iald (k := z.1 - 1) (f := z.2) hx hb hK hP 1 0 rfl rfl (by omega) (by decide) dX0_insert_33 ?_
      refine ps_iast (k := z.1) hx hb hK hP hD hS 1 0 rfl rfl (by omega) (by decide) dX0_insert_34 (fun H locs hP hD hS => ?_)
      have hP : va_P (dC, dI) vwCl (ps_lsW cI q3 b lf le (upd z.2 z.1 (z.2 (z.1 - 1)))) H := hP
      have hD : va_D A (ps_lsW cI q3 b lf le (upd z.2 z.1 (z.2 (z.1 - 1)))) := hD
      refine lv_iinc (k := 2) (v := nI (z.1 - 1)) (lv' := [(2, .int (nI (z.1 - 1))), (0, .ref q3), (1, .int id)]) hx hb dX0_insert_35 hl rfl (ps_decI h6) (by decide) rfl (fun ls hl => ?_)
      refine lv_goto (tgt := 5) hx hb dX0_insert_38 rfl ?_
      exact ih ((z.1 - 1, upd z.2 z.1 (z.2 (z.1 - 1)))) ls _ _ (by show z.1 - 1 < z.1; omega) ⟨by show z.1 - 1 ≤ le; omega, he, lv_sub hl [1, 2, 0] rfl, hP, hD, hS⟩
set_option maxHeartbeats 4000000 in
set_option maxRecDepth 100000 in
theorem mX0_takeFirst (l : Launch) (dC : Nat → ClassId) (dI : Nat → Nat → Nat) (cI cZ : ClassId) (q3 b lf le : Nat) (lh : Nat → Int32) (hfe : lf < le) (hle : le ≤ 48) (sz : Nat) : Met l yX0_takeFirst (.code yX0_takeFirst cX0_takeFirst 2 (some .int) :: ps_T) ({ frames := 0, cells := 0, slots := 0, locals := 0 }) (ps_qc (dC, dI) (ps_ty cI cZ) (ps_lsW cI q3 b lf le lh) sz [.ref q3]) (va_Qi (fun (r : Int32) (_ : Unit) => r = lh lf) (ps_qB (dC, dI) (ps_ty cI cZ) (va_A (ps_lsW cI q3 b lf le lh) sz) (ps_lsW cI q3 b ((lf + 1)) le lh)) (va_A (ps_lsW cI q3 b lf le lh) sz)) 0 0 (va_A (ps_lsW cI q3 b lf le lh) sz) := by
  refine Met.ofW (cc := cX0_takeFirst) (maxL := 2) (ret := (some .int)) (by decide) rfl ?_
  intro p e s m args below meth c s₁ B hml hv
  obtain ⟨rfl, hsz, hN, hP, hK, hD0⟩ := hv
  have hx := B.exec
  have hb := B.bytes
  have hr := B.returns
  have hlocks := B.notSynchronized
  have hT : ∀ w ∈ ps_T, w.before ([.ref q3] : List Value).toArray s = true := fun w h => atoms_spec (ws := (.code yX0_takeFirst cX0_takeFirst 2 (some .int) :: ps_T)) B.pre w (List.mem_cons_of_mem _ h)
  have hown : s.vm.findClass RX0 = some m.cls := findClass_of_methodNamed B.named
  subst hsz
  have hD := hD0.self (sz := s.heap.size)
  generalize hAe : va_A (ps_lsW cI q3 b lf le lh) s.heap.size = A at hD ⊢
  have hA : ∀ q : Nat, s.heap.size ≤ q → A q := fun q h => by rw [← hAe]; exact Or.inr h
  have hS : va_S A s.heap s.heap [] := va_S.rf
  have hl := lv_entry ([.ref q3]) (n := 2) (Nat.le_of_ble_eq_true rfl)
  rw [lg_entry_eq]
  generalize (lg_sl ([.ref q3]) ++ List.replicate (2 - (lg_sl ([.ref q3])).length) Slot.unset).toArray = ls at hl ⊢
  have hl : lv_has ls 2 [(0, .ref q3)] := hl
  refine lv_aload_n hx hb dX0_takeFirst_0 rfl (lv_at hl 0 rfl) ?_
  refine va_get (D := (dC, dI)) (ci := 0) (v := .int (nI lf)) (C := RX0) (T := TX0) (N := 3) hx hb hT inX0 hown hK hP 0 rfl rfl 1 (by decide) (hT _ tw_fl_X0_19) (fun _ h9 => h9) rfl dX0_takeFirst_1 ?_
  refine lv_aload_n hx hb dX0_takeFirst_4 rfl (lv_at hl 0 rfl) ?_
  refine va_get (D := (dC, dI)) (ci := 0) (v := .int (nI le)) (C := RX0) (T := TX0) (N := 3) hx hb hT inX0 hown hK hP 0 rfl rfl 2 (by decide) (hT _ tw_fl_X0_15) (fun _ h9 => h9) rfl dX0_takeFirst_5 ?_
  refine ps_icmp_lt (tgt := 21) (a := lf) (b := le) hx hb dX0_takeFirst_8 rfl (by omega) (by omega) (fun h8 => ?_) (fun h8 => ?_)
  · skip
    refine lv_aload_n hx hb dX0_takeFirst_21 rfl (lv_at hl 0 rfl) ?_
    refine va_get (D := (dC, dI)) (ci := 0) (v := .ref b) (C := RX0) (T := TX0) (N := 3) hx hb hT inX0 hown hK hP 0 rfl rfl 0 (by decide) (hT _ tw_fl_X0_9) (fun _ h9 => h9) rfl dX0_takeFirst_22 ?_
    refine lv_aload_n hx hb dX0_takeFirst_25 rfl (lv_at hl 0 rfl) ?_
    refine va_get (D := (dC, dI)) (ci := 0) (v := .int (nI lf)) (C := RX0) (T := TX0) (N := 3) hx hb hT inX0 hown hK hP 0 rfl rfl 1 (by decide) (hT _ tw_fl_X0_19) (fun _ h9 => h9) rfl dX0_takeFirst_26 ?_
    refine ps_iald (k := lf) (f := lh) hx hb hK hP 1 0 rfl rfl (by omega) (by decide) dX0_takeFirst_29 ?_
    refine lv_istore_n (lv' := [(1, .int (lh lf)), (0, .ref q3)]) hx hb dX0_takeFirst_30 rfl hl (by decide) rfl (fun ls hl => ?_)
    refine lv_aload_n hx hb dX0_takeFirst_31 rfl (lv_at hl 1 rfl) ?_
    refine lv_dup hx hb dX0_takeFirst_32 rfl ?_
    refine va_get (D := (dC, dI)) (ci := 0) (v := .int (nI lf)) (C := RX0) (T := TX0) (N := 3) hx hb hT inX0 hown hK hP 0 rfl rfl 1 (by decide) (hT _ tw_fl_X0_19) (fun _ h9 => h9) rfl dX0_takeFirst_33 ?_
    refine lv_iconst (v := 1) hx hb dX0_takeFirst_36 (by decide) ?_
    refine lv_iadd hx hb dX0_takeFirst_37 ?_
    rw [nI_1]
    refine va_put (D := (dC, dI)) (ci := 0) (v := .int (nI (lf + 1))) (ty := .int) (C := RX0) (T := TX0) (N := 3) hx hb hT inX0 tyX0 tyX0_ok nmX0 hown hK hP hD hS 0 rfl rfl 1 (by decide) (hT _ tw_fl_X0_19) (fun _ h9 => h9) rfl (by decide +kernel) rfl rfl (Nat.le_of_ble_eq_true rfl) dX0_takeFirst_38 (fun H locs hP hD hS => ?_)
    have hP : va_P (dC, dI) vwCl (ps_lsW cI q3 b (lf + 1) le lh) H := hP
    have hD : va_D A (ps_lsW cI q3 b (lf + 1) le lh) := hD
    refine lv_iload_n hx hb dX0_takeFirst_41 rfl (lv_at hl 0 rfl) ?_
    exact W.iret (v := lh lf) hx hb hr (fun t ht hW => ⟨⟨lh lf, (), rfl, rfl, by rw [ht]; exact hP, va_K.moved hW.alike hK, hD⟩, hS.F ht⟩) hS.2.2 dX0_takeFirst_42
  · skip
    exact absurd h8 (by omega)
