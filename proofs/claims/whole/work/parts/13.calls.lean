/-! the tree's cells; calls with the words that all share; branches on a Boolean -/
abbrev ps_trW (cI cZ : ClassId) (q : Nat) (a : Nat → Nat) (n : Nat) (g : ps_G) : va_W :=
  [(q, .inr (1, [.ref (a 0), .ref (a 1), .ref (a 2), .ref (a 3), .ref (a 4), .ref (a 5), .ref (a 6), .ref (a 7), .int (nI n)])),
   (a 0, .inl (cI, 48, .inl (g 0))), (a 1, .inl (cI, 48, .inl (g 1))), (a 2, .inl (cI, 48, .inl (g 2))), (a 3, .inl (cI, 48, .inl (g 3))), (a 4, .inl (cI, 48, .inl (g 4))),
   (a 5, .inl (cI, 48, .inl (g 5))), (a 6, .inl (cI, 48, .inl (g 6))), (a 7, .inl (cZ, 48, .inl (g 7)))]
abbrev ps_ty (cI cZ : ClassId) : List (ClassId × FieldType) := [(cI, .int), (cZ, .boolean)]
/-- the two private members of the nest's host that the tree calls -/
def ps_N (U : State) : Prop := va_Nw (.methodLinkNest RX1 45 yX2_rankOf RX2) U ∧ va_Nw (.methodLinkNest RX1 94 yX2_cubeIndex RX2) U
theorem ps_N.warm {s U : State} (hW : s.WarmedH U.vm) (h : ps_N s) : ps_N U := ⟨va_Nw.warmM hW h.1, va_Nw.warmM hW h.2⟩
theorem ps_N.calling {U : State} {g : JFrame} {mk : MethodId} {a : Array Value} (h : ps_N U) : ps_N (U.calling g mk a) := ⟨va_Nw.same rfl rfl h.1, va_Nw.same rfl rfl h.2⟩
/-- the start of a method that only reads: its arguments, the cells that it reads -/
def ps_pc (D : va_G) (tys : List (ClassId × FieldType)) (ws : va_W) (av : List Value) : Array Value → State → Prop := va_Pc av (fun U => ps_N U ∧ va_P D vwCl ws U.heap ∧ va_K D vwCl tys U)
theorem ps_pc_blind {D : va_G} {tys : List (ClassId × FieldType)} {ws : va_W} {av : List Value} : FrameBlind (ps_pc D tys ws av) := fun a U g mk q => by
  obtain ⟨q0, qN, qP, qK⟩ := q
  exact ⟨q0, qN.calling, qP, va_K.moved (u := U) (U := U.calling g mk a) (Vm.Alike.refl U.vm) qK⟩
theorem ps_preS {s : State} {H : Heap} {D : va_G} {tys : List (ClassId × FieldType)} {ws : va_W} {av : List Value} (hN : ps_N s) (hP : va_P D vwCl ws H) (hK : va_K D vwCl tys s) : PreS s H (ps_pc D tys ws av) av :=
  ⟨ps_pc_blind, fun U hU hW => ⟨rfl, hN.warm hW, by rw [hU]; exact hP, va_K.moved hW.alike hK⟩⟩
theorem ps_preV {s : State} {H : Heap} {D : va_G} {tys : List (ClassId × FieldType)} {ws : va_W} {As : List Value} {b q0 ci : Nat} {q : vw_C} {fs : List Value} (hN : ps_N s) (hP : va_P D vwCl ws H) (hK : va_K D vwCl tys s) (hc : vwCl[ci]? = some q) (he : ws[q0]? = some (b, .inr (ci, fs))) : PreV s H q.1 b (ps_pc D tys ws (.ref b :: As)) As :=
  ⟨ps_pc_blind, va_recv hK hP hc he, fun U hU hW => ⟨rfl, hN.warm hW, by rw [hU]; exact hP, va_K.moved hW.alike hK⟩⟩
theorem ps_gV {own C : String} {idx n : Nat} {y : MethodName} {b : ByteArray} {r : Option FieldType} (h1 : Cond.methodLink own idx y ∈ ps_T) (h2 : Cond.instanceMethod y ∈ ps_T) (h3 : Cond.selects C y y ∈ ps_T) (h4 : Cond.initialized C ∈ ps_T) (h5 : Cond.code y b n r ∈ ps_T) : GoodIn ps_T (wsV own idx C y (.code y b n r :: ps_T)) := by
  intro w hw
  refine ps_T_self w ?_
  simp only [wsV, List.cons_append, List.nil_append, List.mem_cons] at hw
  rcases hw with rfl | rfl | rfl | rfl | rfl | h <;> assumption
theorem ps_gS {own : String} {idx n : Nat} {y : MethodName} {b : ByteArray} {r : Option FieldType} (h1 : Cond.methodLink own idx y ∈ ps_T) (h2 : Cond.static y ∈ ps_T) (h4 : Cond.initialized y.cls ∈ ps_T) (h5 : Cond.code y b n r ∈ ps_T) : GoodIn ps_T (va_wsS own idx y (.code y b n r :: ps_T)) := by
  intro w hw
  refine ps_T_self w ?_
  simp only [va_wsS, List.cons_append, List.nil_append, List.mem_cons] at hw
  rcases hw with rfl | rfl | rfl | rfl | h <;> assumption
theorem ps_gC {n : Nat} {y : MethodName} {b : ByteArray} {r : Option FieldType} (h5 : Cond.code y b n r ∈ ps_T) : GoodIn ps_T (.code y b n r :: ps_T) := by
  intro w hw
  refine ps_T_self w ?_
  rcases List.mem_cons.mp hw with rfl | h <;> assumption
section PSC
variable {p : Program} {l : Launch} {e : Env} {R : Room} {s : State} {m : MethodId} {args : Array Value} {below : List Frame} {meth : Method} {c : Code} {H : Heap} {locs : List Loc} {cells slots : Nat} {Q : State → Prop}
variable {cc : ByteArray} {pc : Nat} {ls : Array Slot} {rest : List Value}
theorem ps_ifb_eq (hexec : p.tables.exec = Jvm.exec) (hb : c.code = cc) {x : Bool} {off : Int} {tgt : Nat} (hdg : decode cc pc = .ok (.ifCond .eq off, 3)) (ht : (pc : Int) + off = (tgt : Int))
    (kt : x = false → W p l e R s m args below meth c H locs cells slots Q (F0 m tgt ls rest)) (kf : x = true → W p l e R s m args below meth c H locs cells slots Q (F0 m (pc + 3) ls rest)) : W p l e R s m args below meth c H locs cells slots Q (F0 m pc ls (.int (ps_bi x) :: rest)) :=
  lv_if_eq hexec hb hdg ht (fun h => kt (ps_bi0.mp h)) (fun h => kf (ps_bi1.mp h))
theorem ps_ifb_ne (hexec : p.tables.exec = Jvm.exec) (hb : c.code = cc) {x : Bool} {off : Int} {tgt : Nat} (hdg : decode cc pc = .ok (.ifCond .ne off, 3)) (ht : (pc : Int) + off = (tgt : Int))
    (kt : x = true → W p l e R s m args below meth c H locs cells slots Q (F0 m tgt ls rest)) (kf : x = false → W p l e R s m args below meth c H locs cells slots Q (F0 m (pc + 3) ls rest)) : W p l e R s m args below meth c H locs cells slots Q (F0 m pc ls (.int (ps_bi x) :: rest)) :=
  lv_if_ne hexec hb hdg ht (fun h => kt (ps_bi1.mp h)) (fun h => kf (ps_bi0.mp h))
end PSC
