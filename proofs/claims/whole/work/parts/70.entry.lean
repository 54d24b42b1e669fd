/-! THE CLAIM OUT OF ONE WALK OF THE LAW'S BODY. Your part is whole_start (and what it stands on); all else here is the same for every law, but numbers. -/
def R_law : String := "PointShelfLaw"
def lw_P (b : Addr) (xs : List Int32) (args : Array Value) (s : State) : Prop := args = #[.ref b] ∧ s.IntsAt b xs ∧ xs.length ≤ 3072 ∧ (Jvm.Cond.and given_1 narrow_1).before args s = true
def lw_Q (_ : Array Value) (s : State) (o : Outcome) (t : State) : Prop := o = .returned (some (.int 1)) ∧ Framed s o t [] 1071 9619
def lw_Z (below : List Frame) (a : Array Value) (s : State) : State → Prop := fun t => ∃ o, t.status = .running ∧ Ended t below o ∧ lw_Q a s o t
/-- the law's own end, with 1 on the stack, nothing written that was there before, its room as the claim has it -/
theorem lw_ret {p : Program} {l : Launch} {e : Env} {s : State} {m : MethodId} {below : List Frame} {meth : Method} {c : Code} {b : Nat} (hx : p.tables.exec = Jvm.exec) (hb : c.code = code) (hr : meth.sig.returnType = ret) (hlocks : meth.locks = false) {pc : Nat} {H : Heap} {ls : Array Slot} (hdg : decode code pc = .ok (.ireturn, 1)) : W p l e room_1 s m #[Value.ref b] below meth c H [] 1071 9619 (lw_Z below #[Value.ref b] s) (F0 m pc ls [.int 1]) := by
  intro T hT X
  obtain ⟨fs, hret, hrun, hended, hW, hframe⟩ := X.leave (v := some (.int 1)) (hlocks := hlocks) (fun h => by rw [hr] at h; cases h)
  have hmeth' : T.vm.method? m = some meth := X.method'
  refine ⟨T.setFrames fs, ?_, .returned (some (.int 1)), hrun, hended, rfl, ⟨_, rfl⟩, hW, hframe⟩
  jvm_step X.here [X.here.top, hx, hb, hdg, hmeth', hr, ret, narrow_b1]
  (try refine ⟨rfl, ?_⟩); (try refine ⟨rfl, ?_⟩)
  first | (intro acts; rw [hret _ acts rfl rfl rfl]) | rw [hret _ _ rfl rfl rfl]
  exact Steps.refl _
/-- what holds at the law's entry: the machine, the code, the tables' words (any of lw_tbl by 'hts w (by decide +kernel)'), the script of L ints xs at the cell b, what the Statement gives of the start (any of its parts by flat_of_before) -/
def lw_At (p : Program) (s : State) (m : MethodId) (meth : Method) (c : Code) (b L : Nat) (xs : Nat → Int32) : Prop :=
  p.tables.exec = Jvm.exec ∧ c.code = code ∧ meth.sig.returnType = ret ∧ c.maxLocals = 7 ∧ s.vm.findClass R_law = some m.cls ∧ (∀ w ∈ lw_tbl, w.before #[Value.ref b] s = true) ∧ va_X b L xs s s.heap ∧ b < s.heap.size ∧ meth.locks = false ∧ (Jvm.Cond.and given_1 narrow_1).before #[Value.ref b] s = true
/-! what the law's entry gives -/
set_option maxRecDepth 100000 in
theorem ps_str {args : Array Value} {s : State} (hts : ∀ w ∈ lw_tbl, w.before args s = true) (hs : ∀ w ∈ flatC (Jvm.Cond.and given_1 narrow_1), w.before args s = true) {own tx : String} {k : Nat} (h1 : Cond.stringRef own k tx ∈ lw_tbl) (h2 : Cond.exactly (.string own k) "java/lang/String" ∈ flatC (Jvm.Cond.and given_1 narrow_1)) : ∃ sa : Nat, vk_R own k tx sa s := by
  obtain ⟨a, -, -, -, ha, -⟩ := Cond.exactly_spec (hs _ h2)
  exact ⟨a, vk_R.of (hts _ h1) ha⟩
set_option maxRecDepth 100000 in
set_option maxHeartbeats 4000000 in
theorem ps_Ex_of {args : Array Value} {s : State} (hts : ∀ w ∈ lw_tbl, w.before args s = true) (hs : ∀ w ∈ flatC (Jvm.Cond.and given_1 narrow_1), w.before args s = true) : ps_Ex s := by
  refine ⟨⟨fun X hX => ?_, fun x hx => ?_⟩, fun x hx => ?_, fun X hX Y hY hn => ?_⟩
  · simp only [ps_exs, List.mem_cons, List.not_mem_nil, or_false] at hX
    rcases hX with rfl | rfl | rfl | rfl <;> exact va_Nw.of rfl (hts _ (by decide +kernel))
  · simp only [ps_dcl, List.mem_cons, List.not_mem_nil, or_false] at hx
    rcases hx with rfl | rfl | rfl <;> exact va_Nw.of rfl (hts _ (by decide +kernel))
  · simp only [ps_strs, List.mem_cons, List.not_mem_nil, or_false] at hx
    rcases hx with rfl | rfl | rfl | rfl | rfl | rfl | rfl | rfl | rfl | rfl | rfl | rfl | rfl | rfl <;> exact ps_str hts hs (by decide +kernel) (by decide +kernel)
  · simp only [ps_exs, List.mem_cons, List.not_mem_nil, or_false] at hX hY
    rcases hX with rfl | rfl | rfl | rfl <;> rcases hY with rfl | rfl | rfl | rfl <;> first | exact absurd rfl hn | exact va_Nc.of (hs _ (by decide +kernel))
set_option maxRecDepth 100000 in
set_option maxHeartbeats 4000000 in
theorem ps_entry {p : Program} {s : State} {m : MethodId} {meth : Method} {c : Code} {b L : Nat} {xs : Nat → Int32} (l : Launch) (hlt : l.stackTraces = false) (hL : L ≤ 3072) (C0 : lw_At p s m meth c b L xs) : ∃ (dC : Nat → ClassId) (dI : Nat → Nat → Nat) (cI cZ cL : ClassId), ps_Cx p l s m #[Value.ref b] c dC dI cI cZ cL (fun q => s.heap.size ≤ q) b L xs ∧ ps_N2 s := by
  obtain ⟨hx, hb, hr, hml, hown, hts, hX, hbl, hlocks, hgv⟩ := C0
  have hT : ∀ w ∈ ps_T, w.before #[Value.ref b] s = true := fun w h => hts w (ps_T_good w h).1
  have hs := flat_of_before _ hgv
  have hN : ps_N s := ⟨va_Nw.of rfl (hts _ (by decide +kernel)), va_Nw.of rfl (hts _ (by decide +kernel))⟩
  have hN2 : ps_N2 s := ⟨va_Nw.of rfl (hts _ (by decide +kernel)), va_Nw.of rfl (hts _ (by decide +kernel))⟩
  have hE : ps_Ex s := ps_Ex_of hts hs
  have hZ : ps_Z (fun q => s.heap.size ≤ q) s s.heap := ⟨vx_Zqof (hts _ (by decide +kernel)) (hts _ (by decide +kernel)) (hs _ (by decide +kernel)) (fun a h h2 => absurd h (Nat.not_lt.mpr h2)), vx_Zqof (hts _ (by decide +kernel)) (hts _ (by decide +kernel)) (hs _ (by decide +kernel)) (fun a h h2 => absurd h (Nat.not_lt.mpr h2))⟩
  have arr : ∀ ty : FieldType, (Cond.arrayClass ty).before #[Value.ref b] s = true → ∃ cA : ClassId, ArrOfT s cA ty ∧ s.vm.findClass ("[" ++ ty.toString) = some cA := fun ty h => by
    obtain ⟨cA, kA, comp, h1, h2, h3⟩ := Cond.arrayClass_spec h
    exact ⟨cA, fun n z => ⟨fun k h => (by cases h), kA, h2, comp, h3⟩, h1⟩
  obtain ⟨cI, aI, fI⟩ := arr .int (hT _ tw_ac_int)
  obtain ⟨cZ, aZ, fZ⟩ := arr .boolean (hT _ tw_ac_boolean)
  obtain ⟨cL, aL, fL⟩ := arr .long (hT _ tw_ac_long)
  obtain ⟨c0, i0, k0⟩ := u_known hT inX0 (hT _ tw_it_X0)
  obtain ⟨c1, i1, k1⟩ := u_known hT inX1 (hT _ tw_it_X1)
  obtain ⟨c2, i2, k2⟩ := u_known hT inX2 (hT _ tw_it_X2)
  obtain ⟨c3, i3, k3⟩ := u_known hT inX3 (hT _ tw_it_X3)
  refine ⟨fun q => if q = 0 then c0 else if q = 1 then c1 else if q = 2 then c2 else c3, fun q => if q = 0 then i0 else if q = 1 then i1 else if q = 2 then i2 else i3, cI, cZ, cL, ⟨hlt, hx, hb, hml, hown, hT, hN, hE, hZ, ⟨fun c q h => ?_, fun k q h => ?_⟩, fun q h => h, hX, hbl, Nat.not_le.mpr hbl, hL⟩, hN2⟩
  · rcases c with _ | _ | _ | _ | n
    · have h : some (RX0, TX0, 3) = some q := h
      cases h
      exact k0
    · have h : some (RX1, TX1, 9) = some q := h
      cases h
      exact k1
    · have h : some (RX2, TX2, 8) = some q := h
      cases h
      exact k2
    · have h : some (RX3, TX3, 17) = some q := h
      cases h
      exact k3
    · have h : (none : Option vw_C) = some q := h
      cases h
  · rcases k with _ | _ | _ | n
    · have h : some (cI, FieldType.int) = some q := h
      cases h
      exact ⟨aI, fI⟩
    · have h : some (cZ, FieldType.boolean) = some q := h
      cases h
      exact ⟨aZ, fZ⟩
    · have h : some (cL, FieldType.long) = some q := h
      cases h
      exact ⟨aL, fL⟩
    · have h : (none : Option (ClassId × FieldType)) = some q := h
      cases h
