/-! methods that write: their start and end; calls of them -/
def ps_qc (D : va_G) (tys : List (ClassId × FieldType)) (ws : va_W) (sz : Nat) (av : List Value) : Array Value → State → Prop := va_Pc av (fun U => U.heap.size = sz ∧ ps_N U ∧ va_P D vwCl ws U.heap ∧ va_K D vwCl tys U ∧ va_D (fun _ => True) ws)
def ps_qB (D : va_G) (tys : List (ClassId × FieldType)) (A : Nat → Prop) (ws : va_W) : Unit → State → Prop := fun _ t => va_P D vwCl ws t.heap ∧ va_K D vwCl tys t ∧ va_D A ws
theorem ps_qc_blind {D : va_G} {tys : List (ClassId × FieldType)} {ws : va_W} {sz : Nat} {av : List Value} : FrameBlind (ps_qc D tys ws sz av) := fun a U g mk q => by
  obtain ⟨q0, q1, qN, qP, qK, qD⟩ := q
  exact ⟨q0, q1, qN.calling, qP, va_K.moved (u := U) (U := U.calling g mk a) (Vm.Alike.refl U.vm) qK, qD⟩
theorem ps_qreS {s : State} {H : Heap} {D : va_G} {tys : List (ClassId × FieldType)} {ws wc : va_W} {av : List Value} {A : Nat → Prop} (isC : List Nat) (hN : ps_N s) (hP : va_P D vwCl ws H) (hK : va_K D vwCl tys s) (hD : va_D A ws) (h1 : isC.filterMap (fun i => ws[i]?) = wc) (h2 : va_nd isC = true) (h3 : isC.map (fun i => ws[i]?) = wc.map some) : PreS s H (ps_qc D tys wc H.size av) av :=
  ⟨ps_qc_blind, fun U hU hW => ⟨rfl, by rw [hU], hN.warm hW, by rw [hU]; exact hP.sub isC h1, va_K.moved hW.alike hK, (hD.sub isC h2 h3).weaken (fun _ _ _ _ => trivial)⟩⟩
theorem ps_qreV {s : State} {H : Heap} {D : va_G} {tys : List (ClassId × FieldType)} {ws wc : va_W} {As : List Value} {A : Nat → Prop} {b ci : Nat} {q : vw_C} {fs : List Value} (isC : List Nat) (hN : ps_N s) (hP : va_P D vwCl ws H) (hK : va_K D vwCl tys s) (hD : va_D A ws) (h1 : isC.filterMap (fun i => ws[i]?) = wc) (h2 : va_nd isC = true) (h3 : isC.map (fun i => ws[i]?) = wc.map some) (hc : vwCl[ci]? = some q) (he : wc[0]? = some (b, .inr (ci, fs))) : PreV s H q.1 b (ps_qc D tys wc H.size (.ref b :: As)) As :=
  ⟨ps_qc_blind, va_recv hK (hP.sub isC h1) hc he, fun U hU hW => ⟨rfl, by rw [hU], hN.warm hW, by rw [hU]; exact hP.sub isC h1, va_K.moved hW.alike hK, (hD.sub isC h2 h3).weaken (fun _ _ _ _ => trivial)⟩⟩
section PSD
variable {p : Program} {l : Launch} {e : Env} {R : Room} {s : State} {m : MethodId} {args : Array Value} {below : List Frame} {meth : Method} {c : Code} {H : Heap} {locs : List Loc} {cells slots : Nat} {Q : State → Prop}
variable {pc : Nat} {ls : Array Slot} {rest st0 : List Value} {D : va_G} {A0 : Nat → Prop} {tys : List (ClassId × FieldType)} {ws wc wr w1 ws2 : va_W} {H0 : Heap} {mc ms : Nat} {a : Array Value} {cc : ByteArray}
theorem ps_cqv (hr : va_Run p l e R s m args below meth c H locs cells slots mc ms (F0 m pc ls st0) rest (va_Qv (fun _ : Unit => True) (ps_qB D tys (va_A wc H.size) w1) (va_A wc H.size) a) (va_A wc H.size)) (hS : va_S A0 H0 H locs) (hA : ∀ q, H0.size ≤ q → A0 q) (hP : va_P D vwCl ws H) (hD : va_D A0 ws)
    (isC isR is2 : List Nat) (hC : isC.map (fun i => ws[i]?) = wc.map some) (hR : isR.map (fun i => ws[i]?) = wr.map some) (hn : va_nd isR = true) (hdis : ∀ i ∈ isR, i ∉ isC) (h2 : is2.filterMap (fun i => (wr ++ w1)[i]?) = ws2) (h3 : is2.map (fun i => (wr ++ w1)[i]?) = ws2.map some) (h4 : va_nd is2 = true)
    (kk : ∀ (H1 : Heap) (locs1 : List Loc), va_P D vwCl ws2 H1 → va_D A0 ws2 → va_S A0 H0 H1 locs1 → W p l e R s m args below meth c H1 locs1 (cells + mc) (slots + ms) Q (F0 m (pc + 3) ls rest)) : W p l e R s m args below meth c H locs cells slots Q (F0 m pc ls st0) := by
  have hF := va_free (wc := wc) hD hS hA isC hC
  refine va_callv hr hS (fun q _ h => hF q h) hF (fun u t H1 locs1 ht hvm hw hB hz1 hk1 hS1 => ?_)
  obtain ⟨hP1, hK1, hD1⟩ := hB
  rw [ht] at hP1
  obtain ⟨hP2, hD2⟩ := va_join (wr := wr) (w1 := w1) hP hD isC isR hC hR hn hdis hk1 hF hP1 hD1
  exact kk H1 locs1 (hP2.sub is2 h2) (hD2.sub is2 h4 h3) hS1
theorem ps_cqi {v : Int32} (hr : va_Run p l e R s m args below meth c H locs cells slots mc ms (F0 m pc ls st0) rest (va_Qi (fun (r : Int32) (_ : Unit) => r = v) (ps_qB D tys (va_A wc H.size) w1) (va_A wc H.size) a) (va_A wc H.size)) (hS : va_S A0 H0 H locs) (hA : ∀ q, H0.size ≤ q → A0 q) (hP : va_P D vwCl ws H) (hD : va_D A0 ws)
    (isC isR is2 : List Nat) (hC : isC.map (fun i => ws[i]?) = wc.map some) (hR : isR.map (fun i => ws[i]?) = wr.map some) (hn : va_nd isR = true) (hdis : ∀ i ∈ isR, i ∉ isC) (h2 : is2.filterMap (fun i => (wr ++ w1)[i]?) = ws2) (h3 : is2.map (fun i => (wr ++ w1)[i]?) = ws2.map some) (h4 : va_nd is2 = true)
    (kk : ∀ (H1 : Heap) (locs1 : List Loc), va_P D vwCl ws2 H1 → va_D A0 ws2 → va_S A0 H0 H1 locs1 → W p l e R s m args below meth c H1 locs1 (cells + mc) (slots + ms) Q (F0 m (pc + 3) ls (.int v :: rest))) : W p l e R s m args below meth c H locs cells slots Q (F0 m pc ls st0) := by
  have hF := va_free (wc := wc) hD hS hA isC hC
  refine va_calli hr hS (fun q _ h => hF q h) hF (fun r u t H1 locs1 ht hvm hw hB hz1 hk1 hS1 => ?_)
  have hw : r = v := hw
  subst hw
  obtain ⟨hP1, hK1, hD1⟩ := hB
  rw [ht] at hP1
  obtain ⟨hP2, hD2⟩ := va_join (wr := wr) (w1 := w1) hP hD isC isR hC hR hn hdis hk1 hF hP1 hD1
  exact kk H1 locs1 (hP2.sub is2 h2) (hD2.sub is2 h4 h3) hS1
/-- System.arraycopy between rows of ints, by numbers -/
theorem ps_copy (hexec : p.tables.exec = Jvm.exec) (hb : c.code = cc) (hml : c.maxLocals = ls.size) {own : String} {index : Nat} (hown : s.vm.findClass own = some m.cls) (hT : ∀ w ∈ ps_T, w.before args s = true) (hlink : Cond.methodLink own index arraycopyName ∈ ps_T)
    (hK : va_K D vwCl tys s) (hP : va_P D vwCl ws H) (hD : va_D A0 ws) (hS : va_S A0 H0 H locs) (q0 q1 t0 : Nat) {a0 a1 : Nat} {c0 : ClassId} {n0 n1 : Nat} {f g : Nat → Int32} (ha0 : ws[q0]? = some (a0, .inl (c0, n0, .inl f))) (ha1 : ws[q1]? = some (a1, .inl (c0, n1, .inl g))) (ht0 : tys[t0]? = some (c0, .int))
    {sp dp n : Nat} (h1 : sp < 2 ^ 31) (h2 : dp < 2 ^ 31) (h3 : n < 2 ^ 31) (h4 : sp + n ≤ n0) (h5 : dp + n ≤ n1)
    (hframes : 1 ≤ R.frames) (hlocals : (rest.map fun v => v.category).sum + (nativeFrameWords "java/lang/System" "arraycopy" 5 + 11) ≤ R.locals) (hdg : decode cc pc = .ok (.invokestatic index, 3))
    (kk : ∀ (H1 : Heap) (locs1 : List Loc), va_P D vwCl (ws.set q1 (a1, .inl (c0, n1, .inl (va_cpy f g sp dp n)))) H1 → va_D A0 (ws.set q1 (a1, .inl (c0, n1, .inl (va_cpy f g sp dp n)))) → va_S A0 H0 H1 locs1 → W p l e R s m args below meth c H1 locs1 cells slots Q (F0 m (pc + 3) ls rest)) : W p l e R s m args below meth c H locs cells slots Q (F0 m pc ls (.int (nI n) :: .int (nI dp) :: .ref a1 :: .int (nI sp) :: .ref a0 :: rest)) := by
  refine va_copyi hexec hb hml hown (hT _ hlink) (hT _ tw_na_System_arraycopy) (hT _ tw_st_System_arraycopy) (hT _ tw_in_System) hK hP hD hS q0 q1 t0 t0 ha0 ha1 ht0 ht0 rfl (nI_pos h1) (nI_pos h2) (nI_pos h3) (by rw [nI_clamp h1, nI_clamp h3]; exact h4) (by rw [nI_clamp h2, nI_clamp h3]; exact h5) (fun i _ => rfl) hframes hlocals hdg ?_
  rw [nI_clamp h1, nI_clamp h2, nI_clamp h3]
  exact kk
end PSD
theorem ps_dn_eq {c : Nat → Nat} {d : Nat} (hd : d ≤ 4) (hj : ∀ j, j < d → 3 ≤ c j) (h : 4 ≤ d ∨ c d < 3) : ps_dn c = d := by
  unfold ps_dn
  have h0 := hj 0; have h1 := hj 1; have h2 := hj 2; have h3 := hj 3
  rcases (by omega : d = 0 ∨ d = 1 ∨ d = 2 ∨ d = 3 ∨ d = 4) with rfl | rfl | rfl | rfl | rfl <;> (repeat' split) <;> omega
theorem ps_dec {n : Nat} (h : 0 < n) : nI n - 1 = nI (n - 1) := by
  obtain ⟨m, rfl⟩ : ∃ m, n = m + 1 := ⟨n - 1, by omega⟩
  exact nI_pred m
theorem ps_mk_at (g : ps_G) (n' : Nat) (o : ps_G) (k : Nat) : ps_mk g n' o (k + 1) k = ps_bi (!ps_al o n' g k) := by
  simp [ps_mk]
