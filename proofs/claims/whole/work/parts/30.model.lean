/-! contracts: the reference's readers. By wip/model.py. -/
abbrev ps_mdW (cI cZ : ClassId) (w0 : Nat) (b0 : Nat → Nat) (th : Int32) (mn kn : Nat) (co : Int32) (ln : Nat) (wr lt : Int32) (f : ps_G) : va_W :=
  [(w0, .inr (3, [.int th, .int (nI mn), .ref (b0 0), .ref (b0 1), .ref (b0 2), .ref (b0 3), .int (nI kn), .ref (b0 4), .ref (b0 5), .ref (b0 6), .ref (b0 7), .ref (b0 8), .int co, .int (nI ln), .ref (b0 9), .int wr, .int lt])),
   (b0 0, .inl (cI, 48, .inl (f 0))), (b0 1, .inl (cI, 48, .inl (f 1))), (b0 2, .inl (cI, 48, .inl (f 2))), (b0 3, .inl (cI, 48, .inl (f 3))), (b0 4, .inl (cI, 48, .inl (f 4))), (b0 5, .inl (cI, 48, .inl (f 5))),
   (b0 6, .inl (cI, 48, .inl (f 6))), (b0 7, .inl (cI, 48, .inl (f 7))), (b0 8, .inl (cZ, 48, .inl (f 8))), (b0 9, .inl (cI, 48, .inl (f 9)))]
def ps_inr (v lo hi : Int32) : Bool := decide (¬ v < lo) && decide (¬ hi < v)
def ps_ip (x y z : Int32) : Bool := ps_inr x 0 15 && ps_inr y 0 15 && ps_inr z 0 15
def ps_pk (x y z : Int32) : Int32 := 256 * x + 16 * y + z
def ps_ax (p f : Int32) : Int32 := if f = 0 then p / 256 else if f = 1 then p / 16 - p / 16 / 16 * 16 else p - p / 16 * 16
/-- the last place of a value -/
def ps_fl (f : Nat → Int32) (v : Int32) : Nat → Option Nat
  | 0 => none
  | n + 1 => if f n = v then some n else ps_fl f v n
theorem ps_fl_t {f : Nat → Int32} {v : Int32} {n : Nat} (h : f n = v) : ps_fl f v (n + 1) = some n := by simp [ps_fl, h]
theorem ps_fl_f {f : Nat → Int32} {v : Int32} {n : Nat} (h : ¬ f n = v) : ps_fl f v (n + 1) = ps_fl f v n := by simp [ps_fl, h]
theorem ps_fl_spec {f : Nat → Int32} {v : Int32} : ∀ {n k : Nat}, ps_fl f v n = some k → k < n ∧ f k = v
  | 0, k, h => by simp [ps_fl] at h
  | n + 1, k, h => by
    by_cases e : f n = v
    · rw [ps_fl_t e] at h
      cases h
      exact ⟨by omega, e⟩
    · rw [ps_fl_f e] at h
      obtain ⟨h1, h2⟩ := ps_fl_spec h
      exact ⟨by omega, h2⟩
theorem ps_fl_spec0 {f : Nat → Int32} {v : Int32} : ∀ {n : Nat}, ps_fl f v n = none → ∀ j, j < n → f j ≠ v
  | 0, _, j, hj => by omega
  | n + 1, h, j, hj => by
    by_cases e : f n = v
    · rw [ps_fl_t e] at h
      cases h
    · rw [ps_fl_f e] at h
      by_cases hjn : j = n
      · subst hjn; exact e
      · exact ps_fl_spec0 h j (by omega)
/-- one cube at a depth, by packed places -/
def ps_mo (p q d : Int32) : Bool := decide (ps_cb d (ps_ax p 0) = ps_cb d (ps_ax q 0)) && decide (ps_cb d (ps_ax p 1) = ps_cb d (ps_ax q 1)) && decide (ps_cb d (ps_ax p 2) = ps_cb d (ps_ax q 2))
def ps_kp (f : ps_G) (p d : Int32) (k : Nat) : Bool := decide (¬ f 8 k = 0) && decide (f 3 k = d) && ps_mo (f 1 k) p d
/-- the greatest rank that isn't done -/
def ps_gr (f : ps_G) : Nat → Option Nat
  | 0 => none
  | n + 1 => if f 8 n = 0 ∧ (∀ b, ps_gr f n = some b → ps_rk (f 0 b) < ps_rk (f 0 n)) then some n else ps_gr f n
theorem ps_gr_t {f : ps_G} {n : Nat} (h : f 8 n = 0) (h2 : ∀ b, ps_gr f n = some b → ps_rk (f 0 b) < ps_rk (f 0 n)) : ps_gr f (n + 1) = some n := by
  show (if f 8 n = 0 ∧ (∀ b, ps_gr f n = some b → ps_rk (f 0 b) < ps_rk (f 0 n)) then some n else ps_gr f n) = _
  rw [if_pos ⟨h, h2⟩]
theorem ps_gr_f {f : ps_G} {n : Nat} (h : ¬ (f 8 n = 0 ∧ (∀ b, ps_gr f n = some b → ps_rk (f 0 b) < ps_rk (f 0 n)))) : ps_gr f (n + 1) = ps_gr f n := by
  show (if f 8 n = 0 ∧ (∀ b, ps_gr f n = some b → ps_rk (f 0 b) < ps_rk (f 0 n)) then some n else ps_gr f n) = _
  rw [if_neg h]
theorem ps_gr_lt {f : ps_G} : ∀ {n k : Nat}, ps_gr f n = some k → k < n
  | 0, k, h => by simp [ps_gr] at h
  | n + 1, k, h => by
    by_cases e : f 8 n = 0 ∧ (∀ b, ps_gr f n = some b → ps_rk (f 0 b) < ps_rk (f 0 n))
    · rw [ps_gr_t e.1 e.2] at h
      cases h
      omega
    · rw [ps_gr_f e] at h
      have := ps_gr_lt h
      omega
theorem ps_rkM {k : Nat} {v : Int32} (hk : k ≤ 3) (h : 3 ≤ k) (hp : ¬ 0 ≤ ps_hn k v) : (ps_hn k v).toInt64 + 4294967296 = lN (ps_rk v) := by
  have e : k = 3 := by omega
  subst e
  exact ps_neg (Int32.not_le.mp hp)
theorem ps_rkP {k : Nat} {v : Int32} (hk : k ≤ 3) (h : 3 ≤ k) (hp : 0 ≤ ps_hn k v) : (ps_hn k v).toInt64 = lN (ps_rk v) := by
  have e : k = 3 := by omega
  subst e
  exact ps_pos (Int32.not_lt.mpr hp)
theorem ps_fr_some {k : Nat} {o : Option Nat} (h : o = some k) : nI k = ps_fr o := by rw [h]; rfl
theorem ps_fr_eq {o o' : Option Nat} (h : o' = o) : ps_fr o = ps_fr o' := by rw [h]
theorem ps_rk_le {a b : Int32} (h : ¬ lg_cmp (lN (ps_rk a)) (lN (ps_rk b)) ≤ 0) : ps_rk b < ps_rk a := by
  rw [lg_cmp_le, pk_lLE (Nat.lt_trans (ps_rk_lt _) (by decide)) (Nat.lt_trans (ps_rk_lt _) (by decide))] at h
  omega
theorem ps_rk_nl {a b : Int32} (h : lg_cmp (lN (ps_rk a)) (lN (ps_rk b)) ≤ 0) : ¬ ps_rk b < ps_rk a := by
  rw [lg_cmp_le, pk_lLE (Nat.lt_trans (ps_rk_lt _) (by decide)) (Nat.lt_trans (ps_rk_lt _) (by decide))] at h
  omega
/-- all numbers below n, one by one -/
def ps_all (Q : Nat → Bool) : Nat → Bool
  | 0 => true
  | n + 1 => ps_all Q n && Q n
def ps_ex (Q : Nat → Bool) : Nat → Bool
  | 0 => false
  | n + 1 => ps_ex Q n || Q n
def ps_nf (d p : Nat → Int32) (k q : Nat) : Bool := !(decide (d q = d k) && ps_mo (p q) (p k) (d k))
def ps_bw (v x y : Int32) : Bool := if x ≤ y then decide (¬ v < x) && decide (¬ y < v) else decide (¬ v < y) && decide (¬ x < v)
def ps_iq (f : ps_G) (co p : Int32) (k fd : Nat) : Bool := ps_bw (ps_ax (f 1 k) (nI fd)) (ps_ax co (nI fd)) (ps_ax p (nI fd))
def ps_dd (p q : Int32) : Nat → Int32
  | 0 => 0
  | n + 1 => ps_dd p q n + (ps_ax p (nI n) - ps_ax q (nI n)) * (ps_ax p (nI n) - ps_ax q (nI n))
def ps_tq (d p : Nat → Int32) (k q : Nat) : Bool := decide (d q = d k) && ps_mo (p q) (p k) (d k)
/-- the sum over the nodes' first rows -/
def ps_tp (F : Nat → Bool) (C : Nat → Nat) : Nat → Nat
  | 0 => 0
  | k + 1 => if F k = true then ps_tp F C k + (C k + 5) / 6 else ps_tp F C k
theorem ps_tp_t {F : Nat → Bool} {C : Nat → Nat} {k : Nat} (h : F k = true) : ps_tp F C (k + 1) = ps_tp F C k + (C k + 5) / 6 := by simp [ps_tp, h]
theorem ps_tp_f {F : Nat → Bool} {C : Nat → Nat} {k : Nat} (h : F k = false) : ps_tp F C (k + 1) = ps_tp F C k := by simp [ps_tp, h]
theorem ps_tp_le {F : Nat → Bool} {C : Nat → Nat} {m : Nat} : ∀ n, (∀ k, k < n → C k ≤ m) → ps_tp F C n ≤ n * ((m + 5) / 6)
  | 0, _ => by simp [ps_tp]
  | n + 1, h => by
    have ih := ps_tp_le (F := F) n (fun k hk => h k (by omega))
    have h1 := h n (by omega)
    have h2 : (C n + 5) / 6 ≤ (m + 5) / 6 := by omega
    have h3 : (n + 1) * ((m + 5) / 6) = n * ((m + 5) / 6) + (m + 5) / 6 := by rw [Nat.add_mul, Nat.one_mul]
    cases e : F n with
    | true => rw [ps_tp_t e]; omega
    | false => rw [ps_tp_f e]; omega
def ps_cq (f : ps_G) (k q : Nat) : Bool := decide (f 4 q = f 0 k) && decide (f 5 q = f 1 k) && decide (f 6 q = f 2 k) && decide (f 7 q = f 3 k)
def ps_c1 (f : ps_G) (p d : Int32) (k : Nat) : Bool := decide (¬ f 3 k < d) && ps_mo (f 1 k) p d
def ps_c2 (f : ps_G) (p d : Int32) (k : Nat) : Bool := decide (¬ f 7 k < d) && ps_mo (f 5 k) p d
def ps_sm (f : ps_G) (kn : Nat) (p d : Int32) (k : Nat) : Bool := !ps_c1 f p d k || ps_ex (ps_cq f k) kn
def ps_cl (f : ps_G) (mn kn : Nat) (p d : Int32) : Bool := ps_all (ps_sm f kn p d) mn && decide (ps_cn (ps_c1 f p d) mn = ps_cn (ps_c2 f p d) kn)
def ps_wq (f : ps_G) (mn kn k : Nat) : Bool := ps_all (ps_nf (f 3) (f 1) k) k && !ps_cl f mn kn (f 1 k) (f 3 k)
def ps_wc (f : ps_G) (mn k : Nat) : Nat := ps_cn (ps_kp f (f 1 k) (f 3 k)) mn
theorem ps_subs (x a : Nat) : nI x - nI a - 1 = nI x - nI (a + 1) := by
  rw [← nI_1, Int32.sub_sub]
theorem ps_sub0 {x a : Nat} (hx : x < 2 ^ 31) (ha : a < 2 ^ 31) : nI x - nI a = 0 ↔ x = a := by
  constructor
  · intro h
    have h1 : nI x = nI a := by
      have := congrArg (· + nI a) h
      simpa [Int32.sub_add_cancel] using this
    exact (nI_eq hx ha).mp h1
  · intro h
    rw [h, Int32.sub_self]
section PSM
variable {p : Program} {l : Launch} {e : Env} {R : Room} {s : State} {m : MethodId} {args : Array Value} {below : List Frame} {meth : Method} {c : Code} {H : Heap} {locs : List Loc} {cells slots : Nat} {Q : State → Prop}
variable {pc : Nat} {ls : Array Slot} {rest st0 : List Value} {D : va_G} {A0 : Nat → Prop} {tys : List (ClassId × FieldType)} {ws wc wr w1 ws2 : va_W} {H0 : Heap} {mc ms : Nat} {a : Array Value} {cc : ByteArray}
theorem ps_cql {v : Int64} (hr : va_Run p l e R s m args below meth c H locs cells slots mc ms (F0 m pc ls st0) rest (va_Ql (fun (r : Int64) (_ : Unit) => r = v) (ps_qB D tys (va_A wc H.size) w1) (va_A wc H.size) a) (va_A wc H.size)) (hS : va_S A0 H0 H locs) (hA : ∀ q, H0.size ≤ q → A0 q) (hP : va_P D vwCl ws H) (hD : va_D A0 ws)
    (isC isR is2 : List Nat) (hC : isC.map (fun i => ws[i]?) = wc.map some) (hR : isR.map (fun i => ws[i]?) = wr.map some) (hn : va_nd isR = true) (hdis : ∀ i ∈ isR, i ∉ isC) (h2 : is2.filterMap (fun i => (wr ++ w1)[i]?) = ws2) (h3 : is2.map (fun i => (wr ++ w1)[i]?) = ws2.map some) (h4 : va_nd is2 = true)
    (kk : ∀ (H1 : Heap) (locs1 : List Loc), va_P D vwCl ws2 H1 → va_D A0 ws2 → va_S A0 H0 H1 locs1 → W p l e R s m args below meth c H1 locs1 (cells + mc) (slots + ms) Q (F0 m (pc + 3) ls (.long v :: rest))) : W p l e R s m args below meth c H locs cells slots Q (F0 m pc ls st0) := by
  have hF := va_free (wc := wc) hD hS hA isC hC
  refine va_calll hr hS (fun q _ h => hF q h) hF (fun r u t H1 locs1 ht hvm hw hB hz1 hk1 hS1 => ?_)
  have hw : r = v := hw
  subst hw
  obtain ⟨hP1, hK1, hD1⟩ := hB
  rw [ht] at hP1
  obtain ⟨hP2, hD2⟩ := va_join (wr := wr) (w1 := w1) hP hD isC isR hC hR hn hdis hk1 hF hP1 hD1
  exact kk H1 locs1 (hP2.sub is2 h2) (hD2.sub is2 h4 h3) hS1
end PSM
theorem ps_mo_t {p q d : Int32} (h1 : ps_cb d (ps_ax p 0) = ps_cb d (ps_ax q 0)) (h2 : ps_cb d (ps_ax p 1) = ps_cb d (ps_ax q 1)) (h3 : ps_cb d (ps_ax p 2) = ps_cb d (ps_ax q 2)) : (1 : Int32) = ps_bi (ps_mo p q d) := ps_bi_t (by simp [ps_mo, h1, h2, h3])
theorem ps_mo_f1 {p q d : Int32} (h1 : ¬ ps_cb d (ps_ax p 0) = ps_cb d (ps_ax q 0)) : (0 : Int32) = ps_bi (ps_mo p q d) := ps_bi_f (by simp [ps_mo, h1])
theorem ps_mo_f2 {p q d : Int32} (h1 : ¬ ps_cb d (ps_ax p 1) = ps_cb d (ps_ax q 1)) : (0 : Int32) = ps_bi (ps_mo p q d) := ps_bi_f (by simp [ps_mo, h1])
theorem ps_mo_f3 {p q d : Int32} (h1 : ¬ ps_cb d (ps_ax p 2) = ps_cb d (ps_ax q 2)) : (0 : Int32) = ps_bi (ps_mo p q d) := ps_bi_f (by simp [ps_mo, h1])
theorem ps_pf {c : Nat} (h : c < 1000) : (nI c + 5) / 6 = nI ((c + 5) / 6) := by
  have e : nI c + 5 = nI (c + 5) := nI_add c 5
  rw [e]
  exact pk_div (a := c + 5) (d := 6) (by omega) (by omega) (by decide)
theorem ps_bi_nar (b : Bool) : narrow .boolean (.int (ps_bi b)) = .int (ps_bi b) := by cases b <;> rfl
set_option maxHeartbeats 4000000 in
set_option maxRecDepth 100000 in
theorem mX3_in (l : Launch) (v lo hi : Int32) : Met l yX3_in (.code yX3_in cX3_in 3 (some .boolean) :: ps_T) ({ frames := 0, cells := 0, slots := 0, locals := 0 }) (fun av _ => av = ([.int v, .int lo, .int hi] : List Value).toArray) (vp_Si (fun r => r = ps_bi (ps_inr v lo hi))) 0 0 (fun _ => False) := by
  refine Met.ofW (cc := cX3_in) (maxL := 3) (ret := (some .boolean)) (by decide) rfl ?_
  intro p e s m args below meth c s₁ B hml hv
  subst hv
  have hx := B.exec
  have hb := B.bytes
  have hr := B.returns
  have hlocks := B.notSynchronized
  have hT : ∀ w ∈ ps_T, w.before ([.int v, .int lo, .int hi] : List Value).toArray s = true := fun w h => atoms_spec (ws := (.code yX3_in cX3_in 3 (some .boolean) :: ps_T)) B.pre w (List.mem_cons_of_mem _ h)
  have hown : s.vm.findClass RX3 = some m.cls := findClass_of_methodNamed B.named
  have hl := lv_entry ([.int v, .int lo, .int hi]) (n := 3) (Nat.le_of_ble_eq_true rfl)
  rw [lg_entry_eq]
  generalize (lg_sl ([.int v, .int lo, .int hi]) ++ List.replicate (3 - (lg_sl ([.int v, .int lo, .int hi])).length) Slot.unset).toArray = ls at hl ⊢
  have hl : lv_has ls 3 [(0, .int v), (1, .int lo), (2, .int hi)] := hl
  refine lv_iload_n hx hb dX3_in_0 rfl (lv_at hl 0 rfl) ?_
  refine lv_iload_n hx hb dX3_in_1 rfl (lv_at hl 1 rfl) ?_
  refine lv_icmp_lt (tgt := 14) hx hb dX3_in_2 rfl (fun h2 => ?_) (fun h2 => ?_)
  · skip
    refine lv_iconst (v := 0) hx hb dX3_in_14 (by decide) ?_
    exact W.zret (v := 0) hx hb hr (rfl) (fun t ht hW => ⟨0, rfl, by simp_all [ps_inr, ps_bi], ht⟩) (fun q h => by cases h) dX3_in_15
  · skip
    refine lv_iload_n hx hb dX3_in_5 rfl (lv_at hl 0 rfl) ?_
    refine lv_iload_n hx hb dX3_in_6 rfl (lv_at hl 2 rfl) ?_
    refine lv_icmp_gt (tgt := 14) hx hb dX3_in_7 rfl (fun h7 => ?_) (fun h7 => ?_)
    · skip
      refine lv_iconst (v := 0) hx hb dX3_in_14 (by decide) ?_
      exact W.zret (v := 0) hx hb hr (rfl) (fun t ht hW => ⟨0, rfl, by simp_all [ps_inr, ps_bi], ht⟩) (fun q h => by cases h) dX3_in_15
    · skip
      refine lv_iconst (v := 1) hx hb dX3_in_10 (by decide) ?_
      refine lv_goto (tgt := 15) hx hb dX3_in_11 rfl ?_
      exact W.zret (v := 1) hx hb hr (rfl) (fun t ht hW => ⟨1, rfl, by simp_all [ps_inr, ps_bi], ht⟩) (fun q h => by cases h) dX3_in_15
set_option maxHeartbeats 4000000 in
set_option maxRecDepth 100000 in
theorem mX3_isPlace (l : Launch) (x y z : Int32) : Met l yX3_isPlace (.code yX3_isPlace cX3_isPlace 3 (some .boolean) :: ps_T) ({ frames := 1, cells := 0, slots := 0, locals := 22 }) (fun av _ => av = ([.int x, .int y, .int z] : List Value).toArray) (vp_Si (fun r => r = ps_bi (ps_ip x y z))) 0 0 (fun _ => False) := by
  refine Met.ofW (cc := cX3_isPlace) (maxL := 3) (ret := (some .boolean)) (by decide) rfl ?_
  intro p e s m args below meth c s₁ B hml hv
  subst hv
  have hx := B.exec
  have hb := B.bytes
  have hr := B.returns
  have hlocks := B.notSynchronized
  have hT : ∀ w ∈ ps_T, w.before ([.int x, .int y, .int z] : List Value).toArray s = true := fun w h => atoms_spec (ws := (.code yX3_isPlace cX3_isPlace 3 (some .boolean) :: ps_T)) B.pre w (List.mem_cons_of_mem _ h)
  have hown : s.vm.findClass RX3 = some m.cls := findClass_of_methodNamed B.named
  have hl := lv_entry ([.int x, .int y, .int z]) (n := 3) (Nat.le_of_ble_eq_true rfl)
  rw [lg_entry_eq]
  generalize (lg_sl ([.int x, .int y, .int z]) ++ List.replicate (3 - (lg_sl ([.int x, .int y, .int z])).length) Slot.unset).toArray = ls at hl ⊢
  have hl : lv_has ls 3 [(0, .int x), (1, .int y), (2, .int z)] := hl
  refine lv_iload_n hx hb dX3_isPlace_0 rfl (lv_at hl 0 rfl) ?_
  refine lv_iconst (v := 0) hx hb dX3_isPlace_1 (by decide) ?_
  refine lv_bipush (v := 15) hx hb dX3_isPlace_2 (by decide) ?_
  refine vp_callSi (va_Run.run (va_runS (As := [.int x, .int 0, .int 15]) (rest := []) ⟨hx, hb, hml, hown, hT⟩ (mX3_in l x 0 15) (va_cwS 3 hT (ps_gS tw_ml_X3_48 tw_st_X3_in tw_in_X3 tw_co_X3_in) rfl rfl rfl ⟨by decide, by decide, by decide +kernel⟩ ⟨Nat.le_of_ble_eq_true rfl, Nat.le_of_ble_eq_true rfl⟩) preEq rfl rfl hl.1 rfl (lv_room (Nat.le_of_ble_eq_true rfl)) dX3_isPlace_4 ⟨Nat.le_of_ble_eq_true rfl, Nat.le_of_ble_eq_true rfl⟩)) (fun r hr => ?_)
  obtain rfl : r = ps_bi (ps_inr x 0 15) := hr
  refine ps_ifb_eq (tgt := 34) hx hb dX3_isPlace_7 rfl (fun h7 => ?_) (fun h7 => ?_)
  · skip
    refine lv_iconst (v := 0) hx hb dX3_isPlace_34 (by decide) ?_
    exact W.zret (v := 0) hx hb hr (rfl) (fun t ht hW => ⟨0, rfl, by simp_all [ps_ip, ps_bi], ht⟩) (fun q h => by cases h) dX3_isPlace_35
  · skip
    refine lv_iload_n hx hb dX3_isPlace_10 rfl (lv_at hl 1 rfl) ?_
    refine lv_iconst (v := 0) hx hb dX3_isPlace_11 (by decide) ?_
    refine lv_bipush (v := 15) hx hb dX3_isPlace_12 (by decide) ?_
    refine vp_callSi (va_Run.run (va_runS (As := [.int y, .int 0, .int 15]) (rest := []) ⟨hx, hb, hml, hown, hT⟩ (mX3_in l y 0 15) (va_cwS 3 hT (ps_gS tw_ml_X3_48 tw_st_X3_in tw_in_X3 tw_co_X3_in) rfl rfl rfl ⟨by decide, by decide, by decide +kernel⟩ ⟨Nat.le_of_ble_eq_true rfl, Nat.le_of_ble_eq_true rfl⟩) preEq rfl rfl hl.1 rfl (lv_room (Nat.le_of_ble_eq_true rfl)) dX3_isPlace_14 ⟨Nat.le_of_ble_eq_true rfl, Nat.le_of_ble_eq_true rfl⟩)) (fun r hr => ?_)
    obtain rfl : r = ps_bi (ps_inr y 0 15) := hr
    refine ps_ifb_eq (tgt := 34) hx hb dX3_isPlace_17 rfl (fun h17 => ?_) (fun h17 => ?_)
    · skip
      refine lv_iconst (v := 0) hx hb dX3_isPlace_34 (by decide) ?_
      exact W.zret (v := 0) hx hb hr (rfl) (fun t ht hW => ⟨0, rfl, by simp_all [ps_ip, ps_bi], ht⟩) (fun q h => by cases h) dX3_isPlace_35
    · skip
      refine lv_iload_n hx hb dX3_isPlace_20 rfl (lv_at hl 2 rfl) ?_
      refine lv_iconst (v := 0) hx hb dX3_isPlace_21 (by decide) ?_
      refine lv_bipush (v := 15) hx hb dX3_isPlace_22 (by decide) ?_
      refine vp_callSi (va_Run.run (va_runS (As := [.int z, .int 0, .int 15]) (rest := []) ⟨hx, hb, hml, hown, hT⟩ (mX3_in l z 0 15) (va_cwS 3 hT (ps_gS tw_ml_X3_48 tw_st_X3_in tw_in_X3 tw_co_X3_in) rfl rfl rfl ⟨by decide, by decide, by decide +kernel⟩ ⟨Nat.le_of_ble_eq_true rfl, Nat.le_of_ble_eq_true rfl⟩) preEq rfl rfl hl.1 rfl (lv_room (Nat.le_of_ble_eq_true rfl)) dX3_isPlace_24 ⟨Nat.le_of_ble_eq_true rfl, Nat.le_of_ble_eq_true rfl⟩)) (fun r hr => ?_)
      obtain rfl : r = ps_bi (ps_inr z 0 15) := hr
      refine ps_ifb_eq (tgt := 34) hx hb dX3_isPlace_27 rfl (fun h27 => ?_) (fun h27 => ?_)
      · skip
        refine lv_iconst (v := 0) hx hb dX3_isPlace_34 (by decide) ?_
        exact W.zret (v := 0) hx hb hr (rfl) (fun t ht hW => ⟨0, rfl, by simp_all [ps_ip, ps_bi], ht⟩) (fun q h => by cases h) dX3_isPlace_35
      · skip
        refine lv_iconst (v := 1) hx hb dX3_isPlace_30 (by decide) ?_
        refine lv_goto (tgt := 35) hx hb dX3_isPlace_31 rfl ?_
        exact W.zret (v := 1) hx hb hr (rfl) (fun t ht hW => ⟨1, rfl, by simp_all [ps_ip, ps_bi], ht⟩) (fun q h => by cases h) dX3_isPlace_35
set_option maxHeartbeats 4000000 in
set_option maxRecDepth 100000 in
theorem mX3_packed (l : Launch) (x y z : Int32) : Met l yX3_packed (.code yX3_packed cX3_packed 3 (some .int) :: ps_T) ({ frames := 0, cells := 0, slots := 0, locals := 0 }) (fun av _ => av = ([.int x, .int y, .int z] : List Value).toArray) (vp_Si (fun r => r = ps_pk x y z)) 0 0 (fun _ => False) := by
  refine Met.ofW (cc := cX3_packed) (maxL := 3) (ret := (some .int)) (by decide) rfl ?_
  intro p e s m args below meth c s₁ B hml hv
  subst hv
  have hx := B.exec
  have hb := B.bytes
  have hr := B.returns
  have hlocks := B.notSynchronized
  have hT : ∀ w ∈ ps_T, w.before ([.int x, .int y, .int z] : List Value).toArray s = true := fun w h => atoms_spec (ws := (.code yX3_packed cX3_packed 3 (some .int) :: ps_T)) B.pre w (List.mem_cons_of_mem _ h)
  have hown : s.vm.findClass RX3 = some m.cls := findClass_of_methodNamed B.named
  have hl := lv_entry ([.int x, .int y, .int z]) (n := 3) (Nat.le_of_ble_eq_true rfl)
  rw [lg_entry_eq]
  generalize (lg_sl ([.int x, .int y, .int z]) ++ List.replicate (3 - (lg_sl ([.int x, .int y, .int z])).length) Slot.unset).toArray = ls at hl ⊢
  have hl : lv_has ls 3 [(0, .int x), (1, .int y), (2, .int z)] := hl
  refine lv_sipush (v := 256) hx hb dX3_packed_0 (by decide) ?_
  refine lv_iload_n hx hb dX3_packed_3 rfl (lv_at hl 0 rfl) ?_
  refine lv_imul hx hb dX3_packed_4 ?_
  refine lv_bipush (v := 16) hx hb dX3_packed_5 (by decide) ?_
  refine lv_iload_n hx hb dX3_packed_7 rfl (lv_at hl 1 rfl) ?_
  refine lv_imul hx hb dX3_packed_8 ?_
  refine lv_iadd hx hb dX3_packed_9 ?_
  refine lv_iload_n hx hb dX3_packed_10 rfl (lv_at hl 2 rfl) ?_
  refine lv_iadd hx hb dX3_packed_11 ?_
  exact W.iret (v := ((256 * x) + (16 * y)) + z) hx hb hr (fun t ht hW => ⟨((256 * x) + (16 * y)) + z, rfl, rfl, ht⟩) (fun q h => by cases h) dX3_packed_12
set_option maxHeartbeats 4000000 in
set_option maxRecDepth 100000 in
theorem mX3_axis (l : Launch) (p9 f9 : Int32) : Met l yX3_axis (.code yX3_axis cX3_axis 2 (some .int) :: ps_T) ({ frames := 0, cells := 0, slots := 0, locals := 0 }) (fun av _ => av = ([.int p9, .int f9] : List Value).toArray) (vp_Si (fun r => r = ps_ax p9 f9)) 0 0 (fun _ => False) := by
  refine Met.ofW (cc := cX3_axis) (maxL := 2) (ret := (some .int)) (by decide) rfl ?_
  intro p e s m args below meth c s₁ B hml hv
  subst hv
  have hx := B.exec
  have hb := B.bytes
  have hr := B.returns
  have hlocks := B.notSynchronized
  have hT : ∀ w ∈ ps_T, w.before ([.int p9, .int f9] : List Value).toArray s = true := fun w h => atoms_spec (ws := (.code yX3_axis cX3_axis 2 (some .int) :: ps_T)) B.pre w (List.mem_cons_of_mem _ h)
  have hown : s.vm.findClass RX3 = some m.cls := findClass_of_methodNamed B.named
  have hl := lv_entry ([.int p9, .int f9]) (n := 2) (Nat.le_of_ble_eq_true rfl)
  rw [lg_entry_eq]
  generalize (lg_sl ([.int p9, .int f9]) ++ List.replicate (2 - (lg_sl ([.int p9, .int f9])).length) Slot.unset).toArray = ls at hl ⊢
  have hl : lv_has ls 2 [(0, .int p9), (1, .int f9)] := hl
  refine lv_iload_n hx hb dX3_axis_0 rfl (lv_at hl 1 rfl) ?_
  refine lv_if_ne (tgt := 12) hx hb dX3_axis_1 rfl (fun h1 => ?_) (fun h1 => ?_)
  · skip
    refine lv_iload_n hx hb dX3_axis_12 rfl (lv_at hl 1 rfl) ?_
    refine lv_iconst (v := 1) hx hb dX3_axis_13 (by decide) ?_
    refine lv_icmp_ne (tgt := 27) hx hb dX3_axis_14 rfl (fun h14 => ?_) (fun h14 => ?_)
    · skip
      refine lv_iload_n hx hb dX3_axis_27 rfl (lv_at hl 0 rfl) ?_
      refine lv_bipush (v := 16) hx hb dX3_axis_28 (by decide) ?_
      refine lv_irem hx hb dX3_axis_30 (by decide) ?_
      exact W.iret (v := p9 - p9 / 16 * 16) hx hb hr (fun t ht hW => ⟨p9 - p9 / 16 * 16, rfl, by simp [ps_ax, *], ht⟩) (fun q h => by cases h) dX3_axis_31
    · skip
      refine lv_iload_n hx hb dX3_axis_17 rfl (lv_at hl 0 rfl) ?_
      refine lv_bipush (v := 16) hx hb dX3_axis_18 (by decide) ?_
      refine lv_idiv hx hb dX3_axis_20 (by decide) ?_
      refine lv_bipush (v := 16) hx hb dX3_axis_21 (by decide) ?_
      refine lv_irem hx hb dX3_axis_23 (by decide) ?_
      refine lv_goto (tgt := 31) hx hb dX3_axis_24 rfl ?_
      exact W.iret (v := (p9 / 16) - (p9 / 16) / 16 * 16) hx hb hr (fun t ht hW => ⟨(p9 / 16) - (p9 / 16) / 16 * 16, rfl, by simp [ps_ax, *], ht⟩) (fun q h => by cases h) dX3_axis_31
  · skip
    refine lv_iload_n hx hb dX3_axis_4 rfl (lv_at hl 0 rfl) ?_
    refine lv_sipush (v := 256) hx hb dX3_axis_5 (by decide) ?_
    refine lv_idiv hx hb dX3_axis_8 (by decide) ?_
    refine lv_goto (tgt := 31) hx hb dX3_axis_9 rfl ?_
    exact W.iret (v := p9 / 256) hx hb hr (fun t ht hW => ⟨p9 / 256, rfl, by simp [ps_ax, *], ht⟩) (fun q h => by cases h) dX3_axis_31
set_option maxHeartbeats 4000000 in
set_option maxRecDepth 100000 in
theorem mX3_rankOf (l : Launch) (v : Int32) : Met l yX3_rankOf (.code yX3_rankOf cX3_rankOf 3 (some .long) :: ps_T) ({ frames := 0, cells := 0, slots := 0, locals := 0 }) (fun av _ => av = ([.int v] : List Value).toArray) (vp_Sl (fun r => r = lN (ps_rk v))) 0 0 (fun _ => False) := by
  refine Met.ofW (cc := cX3_rankOf) (maxL := 3) (ret := (some .long)) (by decide) rfl ?_
  intro p e s m args below meth c s₁ B hml hv
  subst hv
  have hx := B.exec
  have hb := B.bytes
  have hr := B.returns
  have hlocks := B.notSynchronized
  have hT : ∀ w ∈ ps_T, w.before ([.int v] : List Value).toArray s = true := fun w h => atoms_spec (ws := (.code yX3_rankOf cX3_rankOf 3 (some .long) :: ps_T)) B.pre w (List.mem_cons_of_mem _ h)
  have hown : s.vm.findClass RX3 = some m.cls := findClass_of_methodNamed B.named
  have hl := lv_entry ([.int v]) (n := 3) (Nat.le_of_ble_eq_true rfl)
  rw [lg_entry_eq]
  generalize (lg_sl ([.int v]) ++ List.replicate (3 - (lg_sl ([.int v])).length) Slot.unset).toArray = ls at hl ⊢
  have hl : lv_has ls 3 [(0, .int v)] := hl
  refine lv_iload_n hx hb dX3_rankOf_0 rfl (lv_at hl 0 rfl) ?_
  refine lv_istore_n (lv' := [(1, .int v), (0, .int v)]) hx hb dX3_rankOf_1 rfl hl (by decide) rfl (fun ls hl => ?_)
  refine lv_iconst (v := 0) hx hb dX3_rankOf_2 (by decide) ?_
  refine lv_istore_n (lv' := [(2, .int 0), (1, .int v), (0, .int v)]) hx hb dX3_rankOf_3 rfl hl (by decide) rfl (fun ls hl => ?_)
  have hl : lv_has ls 3 [(2, .int (nI 0)), (1, .int (ps_hn 0 v)), (0, .int v)] := hl
  refine ps_loopS (α := Nat) (fun k => 3 - k) (fun k ls => (k ≤ 3) ∧ lv_has ls 3 [(0, .int v), (1, .int (ps_hn k v)), (2, .int (nI k))]) ?_ 0 ls ⟨by omega, lv_sub hl [2, 1, 0] rfl⟩
  intro k ls ih4 hI
  obtain ⟨hk, hl⟩ := hI
  refine lv_iload_n hx hb dX3_rankOf_4 rfl (lv_at hl 2 rfl) ?_
  refine lv_iconst (v := 3) hx hb dX3_rankOf_5 (by decide) ?_
  refine ps_icmp_ge (tgt := 27) (a := k) (b := 3) hx hb dX3_rankOf_6 rfl (by omega) (by omega) (fun h6 => ?_) (fun h6 => ?_)
  · skip
    refine lv_iload_n hx hb dX3_rankOf_27 rfl (lv_at hl 1 rfl) ?_
    refine lv_if_ge (tgt := 40) hx hb dX3_rankOf_28 rfl (fun h28 => ?_) (fun h28 => ?_)
    · skip
      have hres : (ps_hn k v).toInt64 = lN (ps_rk v) := ps_rkP hk h6 h28
      refine lv_iload_n hx hb dX3_rankOf_40 rfl (lv_at hl 1 rfl) ?_
      refine lv_i2l (v := (ps_hn k v).toInt64) hx hb dX3_rankOf_41 rfl ?_
      exact W.lret (v := (ps_hn k v).toInt64) hx hb hr (fun t ht hW => ⟨(ps_hn k v).toInt64, rfl, hres, ht⟩) (fun q h => by cases h) dX3_rankOf_42
    · skip
      have hres : (ps_hn k v).toInt64 + 4294967296 = lN (ps_rk v) := ps_rkM hk h6 h28
      refine lv_iload_n hx hb dX3_rankOf_31 rfl (lv_at hl 1 rfl) ?_
      refine lv_i2l (v := (ps_hn k v).toInt64) hx hb dX3_rankOf_32 rfl ?_
      refine lv_ldc2 (v := (4294967296)) hx hb hown (hT _ tw_kl_X3_53) dX3_rankOf_33 ?_
      refine lv_ladd hx hb dX3_rankOf_36 ?_
      refine lv_goto (tgt := 42) hx hb dX3_rankOf_37 rfl ?_
      exact W.lret (v := ((ps_hn k v).toInt64) + ((4294967296))) hx hb hr (fun t ht hW => ⟨((ps_hn k v).toInt64) + ((4294967296)), rfl, hres, ht⟩) (fun q h => by cases h) dX3_rankOf_42
  · skip
    refine lv_iload_n hx hb dX3_rankOf_9 rfl (lv_at hl 1 rfl) ?_
    refine lv_ldc (v := (-1640531535)) hx hb hown (hT _ tw_kc_X3_52) dX3_rankOf_10 ?_
    refine lv_imul hx hb dX3_rankOf_12 ?_
    refine lv_istore_n (lv' := [(1, .int ((ps_hn k v) * ((-1640531535)))), (0, .int v), (2, .int (nI k))]) hx hb dX3_rankOf_13 rfl hl (by decide) rfl (fun ls hl => ?_)
    refine lv_iload_n hx hb dX3_rankOf_14 rfl (lv_at hl 0 rfl) ?_
    refine lv_iload_n hx hb dX3_rankOf_15 rfl (lv_at hl 0 rfl) ?_
    refine lv_bipush (v := 16) hx hb dX3_rankOf_16 (by decide) ?_
    refine lv_iushr (v := (((ps_hn k v) * ((-1640531535))).toUInt32 >>> ((16 : Int32).toUInt32 &&& Int32.toUInt32 31)).toInt32) hx hb dX3_rankOf_18 rfl ?_
    refine lv_ixor hx hb dX3_rankOf_19 ?_
    refine lv_istore_n (lv' := [(1, .int (((ps_hn k v) * ((-1640531535))) ^^^ ((((ps_hn k v) * ((-1640531535))).toUInt32 >>> ((16 : Int32).toUInt32 &&& Int32.toUInt32 31)).toInt32))), (0, .int v), (2, .int (nI k))]) hx hb dX3_rankOf_20 rfl hl (by decide) rfl (fun ls hl => ?_)
    refine lv_iinc (k := 2) (v := nI (k + 1)) (lv' := [(2, .int (nI (k + 1))), (1, .int (((ps_hn k v) * ((-1640531535))) ^^^ ((((ps_hn k v) * ((-1640531535))).toUInt32 >>> ((16 : Int32).toUInt32 &&& Int32.toUInt32 31)).toInt32))), (0, .int v)]) hx hb dX3_rankOf_21 hl rfl (ps_inc _) (by decide) rfl (fun ls hl => ?_)
    refine lv_goto (tgt := 4) hx hb dX3_rankOf_24 rfl ?_
    exact ih4 ((k + 1)) ls (by omega) ⟨by omega, lv_sub hl [2, 1, 0] rfl⟩
set_option maxHeartbeats 4000000 in
set_option maxRecDepth 100000 in
theorem mX3_isOne (l : Launch) (p9 q9 d : Int32) : Met l yX3_isOne (.code yX3_isOne cX3_isOne 4 (some .boolean) :: ps_T) ({ frames := 1, cells := 0, slots := 0, locals := 21 }) (fun av _ => av = ([.int p9, .int q9, .int d] : List Value).toArray) (vp_Si (fun r => r = ps_bi (ps_mo p9 q9 d))) 0 0 (fun _ => False) := by
  refine Met.ofW (cc := cX3_isOne) (maxL := 4) (ret := (some .boolean)) (by decide) rfl ?_
  intro p e s m args below meth c s₁ B hml hv
  subst hv
  have hx := B.exec
  have hb := B.bytes
  have hr := B.returns
  have hlocks := B.notSynchronized
  have hT : ∀ w ∈ ps_T, w.before ([.int p9, .int q9, .int d] : List Value).toArray s = true := fun w h => atoms_spec (ws := (.code yX3_isOne cX3_isOne 4 (some .boolean) :: ps_T)) B.pre w (List.mem_cons_of_mem _ h)
  have hown : s.vm.findClass RX3 = some m.cls := findClass_of_methodNamed B.named
  have hl := lv_entry ([.int p9, .int q9, .int d]) (n := 4) (Nat.le_of_ble_eq_true rfl)
  rw [lg_entry_eq]
  generalize (lg_sl ([.int p9, .int q9, .int d]) ++ List.replicate (4 - (lg_sl ([.int p9, .int q9, .int d])).length) Slot.unset).toArray = ls at hl ⊢
  have hl : lv_has ls 4 [(0, .int p9), (1, .int q9), (2, .int d)] := hl
  refine lv_iconst (v := 4) hx hb dX3_isOne_0 (by decide) ?_
  refine lv_iload_n hx hb dX3_isOne_1 rfl (lv_at hl 2 rfl) ?_
  refine lv_isub hx hb dX3_isOne_2 ?_
  refine lv_istore_n (lv' := [(3, .int (4 - d)), (0, .int p9), (1, .int q9), (2, .int d)]) hx hb dX3_isOne_3 rfl hl (by decide) rfl (fun ls hl => ?_)
  refine lv_iload_n hx hb dX3_isOne_4 rfl (lv_at hl 1 rfl) ?_
  refine lv_iconst (v := 0) hx hb dX3_isOne_5 (by decide) ?_
  refine vp_callSi (va_Run.run (va_runS (As := [.int p9, .int 0]) (rest := []) ⟨hx, hb, hml, hown, hT⟩ (mX3_axis l p9 0) (va_cwS 2 hT (ps_gS tw_ml_X3_62 tw_st_X3_axis tw_in_X3 tw_co_X3_axis) rfl rfl rfl ⟨by decide, by decide, by decide +kernel⟩ ⟨Nat.le_of_ble_eq_true rfl, Nat.le_of_ble_eq_true rfl⟩) preEq rfl rfl hl.1 rfl (lv_room (Nat.le_of_ble_eq_true rfl)) dX3_isOne_6 ⟨Nat.le_of_ble_eq_true rfl, Nat.le_of_ble_eq_true rfl⟩)) (fun r hr => ?_)
  obtain rfl : r = ps_ax p9 0 := hr
  refine lv_iload_n hx hb dX3_isOne_9 rfl (lv_at hl 0 rfl) ?_
  refine lv_ishr hx hb dX3_isOne_10 ?_
  refine lv_iload_n hx hb dX3_isOne_11 rfl (lv_at hl 2 rfl) ?_
  refine lv_iconst (v := 0) hx hb dX3_isOne_12 (by decide) ?_
  refine vp_callSi (va_Run.run (va_runS (As := [.int q9, .int 0]) (rest := [.int ((ps_ax p9 0) >>> ((4 - d) &&& 31))]) ⟨hx, hb, hml, hown, hT⟩ (mX3_axis l q9 0) (va_cwS 2 hT (ps_gS tw_ml_X3_62 tw_st_X3_axis tw_in_X3 tw_co_X3_axis) rfl rfl rfl ⟨by decide, by decide, by decide +kernel⟩ ⟨Nat.le_of_ble_eq_true rfl, Nat.le_of_ble_eq_true rfl⟩) preEq rfl rfl hl.1 rfl (lv_room (Nat.le_of_ble_eq_true rfl)) dX3_isOne_13 ⟨Nat.le_of_ble_eq_true rfl, Nat.le_of_ble_eq_true rfl⟩)) (fun r hr => ?_)
  obtain rfl : r = ps_ax q9 0 := hr
  refine lv_iload_n hx hb dX3_isOne_16 rfl (lv_at hl 0 rfl) ?_
  refine lv_ishr hx hb dX3_isOne_17 ?_
  refine lv_icmp_ne (tgt := 59) hx hb dX3_isOne_18 rfl (fun h18 => ?_) (fun h18 => ?_)
  · skip
    refine lv_iconst (v := 0) hx hb dX3_isOne_59 (by decide) ?_
    exact W.zret (v := 0) hx hb hr (rfl) (fun t ht hW => ⟨0, rfl, by first | exact ps_mo_t h18 h35 h52 | exact ps_mo_f1 h18 | exact ps_mo_f2 h35 | exact ps_mo_f3 h52, ht⟩) (fun q h => by cases h) dX3_isOne_60
  · skip
    refine lv_iload_n hx hb dX3_isOne_21 rfl (lv_at hl 1 rfl) ?_
    refine lv_iconst (v := 1) hx hb dX3_isOne_22 (by decide) ?_
    refine vp_callSi (va_Run.run (va_runS (As := [.int p9, .int 1]) (rest := []) ⟨hx, hb, hml, hown, hT⟩ (mX3_axis l p9 1) (va_cwS 2 hT (ps_gS tw_ml_X3_62 tw_st_X3_axis tw_in_X3 tw_co_X3_axis) rfl rfl rfl ⟨by decide, by decide, by decide +kernel⟩ ⟨Nat.le_of_ble_eq_true rfl, Nat.le_of_ble_eq_true rfl⟩) preEq rfl rfl hl.1 rfl (lv_room (Nat.le_of_ble_eq_true rfl)) dX3_isOne_23 ⟨Nat.le_of_ble_eq_true rfl, Nat.le_of_ble_eq_true rfl⟩)) (fun r hr => ?_)
    obtain rfl : r = ps_ax p9 1 := hr
    refine lv_iload_n hx hb dX3_isOne_26 rfl (lv_at hl 0 rfl) ?_
    refine lv_ishr hx hb dX3_isOne_27 ?_
    refine lv_iload_n hx hb dX3_isOne_28 rfl (lv_at hl 2 rfl) ?_
    refine lv_iconst (v := 1) hx hb dX3_isOne_29 (by decide) ?_
    refine vp_callSi (va_Run.run (va_runS (As := [.int q9, .int 1]) (rest := [.int ((ps_ax p9 1) >>> ((4 - d) &&& 31))]) ⟨hx, hb, hml, hown, hT⟩ (mX3_axis l q9 1) (va_cwS 2 hT (ps_gS tw_ml_X3_62 tw_st_X3_axis tw_in_X3 tw_co_X3_axis) rfl rfl rfl ⟨by decide, by decide, by decide +kernel⟩ ⟨Nat.le_of_ble_eq_true rfl, Nat.le_of_ble_eq_true rfl⟩) preEq rfl rfl hl.1 rfl (lv_room (Nat.le_of_ble_eq_true rfl)) dX3_isOne_30 ⟨Nat.le_of_ble_eq_true rfl, Nat.le_of_ble_eq_true rfl⟩)) (fun r hr => ?_)
    obtain rfl : r = ps_ax q9 1 := hr
    refine lv_iload_n hx hb dX3_isOne_33 rfl (lv_at hl 0 rfl) ?_
    refine lv_ishr hx hb dX3_isOne_34 ?_
    refine lv_icmp_ne (tgt := 59) hx hb dX3_isOne_35 rfl (fun h35 => ?_) (fun h35 => ?_)
    · skip
      refine lv_iconst (v := 0) hx hb dX3_isOne_59 (by decide) ?_
      exact W.zret (v := 0) hx hb hr (rfl) (fun t ht hW => ⟨0, rfl, by first | exact ps_mo_t h18 h35 h52 | exact ps_mo_f1 h18 | exact ps_mo_f2 h35 | exact ps_mo_f3 h52, ht⟩) (fun q h => by cases h) dX3_isOne_60
    · skip
      refine lv_iload_n hx hb dX3_isOne_38 rfl (lv_at hl 1 rfl) ?_
      refine lv_iconst (v := 2) hx hb dX3_isOne_39 (by decide) ?_
      refine vp_callSi (va_Run.run (va_runS (As := [.int p9, .int 2]) (rest := []) ⟨hx, hb, hml, hown, hT⟩ (mX3_axis l p9 2) (va_cwS 2 hT (ps_gS tw_ml_X3_62 tw_st_X3_axis tw_in_X3 tw_co_X3_axis) rfl rfl rfl ⟨by decide, by decide, by decide +kernel⟩ ⟨Nat.le_of_ble_eq_true rfl, Nat.le_of_ble_eq_true rfl⟩) preEq rfl rfl hl.1 rfl (lv_room (Nat.le_of_ble_eq_true rfl)) dX3_isOne_40 ⟨Nat.le_of_ble_eq_true rfl, Nat.le_of_ble_eq_true rfl⟩)) (fun r hr => ?_)
      obtain rfl : r = ps_ax p9 2 := hr
      refine lv_iload_n hx hb dX3_isOne_43 rfl (lv_at hl 0 rfl) ?_
      refine lv_ishr hx hb dX3_isOne_44 ?_
      refine lv_iload_n hx hb dX3_isOne_45 rfl (lv_at hl 2 rfl) ?_
      refine lv_iconst (v := 2) hx hb dX3_isOne_46 (by decide) ?_
      refine vp_callSi (va_Run.run (va_runS (As := [.int q9, .int 2]) (rest := [.int ((ps_ax p9 2) >>> ((4 - d) &&& 31))]) ⟨hx, hb, hml, hown, hT⟩ (mX3_axis l q9 2) (va_cwS 2 hT (ps_gS tw_ml_X3_62 tw_st_X3_axis tw_in_X3 tw_co_X3_axis) rfl rfl rfl ⟨by decide, by decide, by decide +kernel⟩ ⟨Nat.le_of_ble_eq_true rfl, Nat.le_of_ble_eq_true rfl⟩) preEq rfl rfl hl.1 rfl (lv_room (Nat.le_of_ble_eq_true rfl)) dX3_isOne_47 ⟨Nat.le_of_ble_eq_true rfl, Nat.le_of_ble_eq_true rfl⟩)) (fun r hr => ?_)
      obtain rfl : r = ps_ax q9 2 := hr
      refine lv_iload_n hx hb dX3_isOne_50 rfl (lv_at hl 0 rfl) ?_
      refine lv_ishr hx hb dX3_isOne_51 ?_
      refine lv_icmp_ne (tgt := 59) hx hb dX3_isOne_52 rfl (fun h52 => ?_) (fun h52 => ?_)
      · skip
        refine lv_iconst (v := 0) hx hb dX3_isOne_59 (by decide) ?_
        exact W.zret (v := 0) hx hb hr (rfl) (fun t ht hW => ⟨0, rfl, by first | exact ps_mo_t h18 h35 h52 | exact ps_mo_f1 h18 | exact ps_mo_f2 h35 | exact ps_mo_f3 h52, ht⟩) (fun q h => by cases h) dX3_isOne_60
      · skip
        refine lv_iconst (v := 1) hx hb dX3_isOne_55 (by decide) ?_
        refine lv_goto (tgt := 60) hx hb dX3_isOne_56 rfl ?_
        exact W.zret (v := 1) hx hb hr (rfl) (fun t ht hW => ⟨1, rfl, by first | exact ps_mo_t h18 h35 h52 | exact ps_mo_f1 h18 | exact ps_mo_f2 h35 | exact ps_mo_f3 h52, ht⟩) (fun q h => by cases h) dX3_isOne_60
set_option maxHeartbeats 4000000 in
set_option maxRecDepth 100000 in
theorem mX3_between (l : Launch) (v x y : Int32) : Met l yX3_between (.code yX3_between cX3_between 3 (some .boolean) :: ps_T) ({ frames := 0, cells := 0, slots := 0, locals := 0 }) (fun av _ => av = ([.int v, .int x, .int y] : List Value).toArray) (vp_Si (fun r => r = ps_bi (ps_bw v x y))) 0 0 (fun _ => False) := by
  refine Met.ofW (cc := cX3_between) (maxL := 3) (ret := (some .boolean)) (by decide) rfl ?_
  intro p e s m args below meth c s₁ B hml hv
  subst hv
  have hx := B.exec
  have hb := B.bytes
  have hr := B.returns
  have hlocks := B.notSynchronized
  have hT : ∀ w ∈ ps_T, w.before ([.int v, .int x, .int y] : List Value).toArray s = true := fun w h => atoms_spec (ws := (.code yX3_between cX3_between 3 (some .boolean) :: ps_T)) B.pre w (List.mem_cons_of_mem _ h)
  have hown : s.vm.findClass RX3 = some m.cls := findClass_of_methodNamed B.named
  have hl := lv_entry ([.int v, .int x, .int y]) (n := 3) (Nat.le_of_ble_eq_true rfl)
  rw [lg_entry_eq]
  generalize (lg_sl ([.int v, .int x, .int y]) ++ List.replicate (3 - (lg_sl ([.int v, .int x, .int y])).length) Slot.unset).toArray = ls at hl ⊢
  have hl : lv_has ls 3 [(0, .int v), (1, .int x), (2, .int y)] := hl
  refine lv_iload_n hx hb dX3_between_0 rfl (lv_at hl 1 rfl) ?_
  refine lv_iload_n hx hb dX3_between_1 rfl (lv_at hl 2 rfl) ?_
  refine lv_icmp_gt (tgt := 23) hx hb dX3_between_2 rfl (fun h2 => ?_) (fun h2 => ?_)
  · skip
    have h2n : ¬ x ≤ y := Int32.not_le.mpr h2
    refine lv_iload_n hx hb dX3_between_23 rfl (lv_at hl 0 rfl) ?_
    refine lv_iload_n hx hb dX3_between_24 rfl (lv_at hl 2 rfl) ?_
    refine lv_icmp_lt (tgt := 37) hx hb dX3_between_25 rfl (fun h25 => ?_) (fun h25 => ?_)
    · skip
      refine lv_iconst (v := 0) hx hb dX3_between_37 (by decide) ?_
      exact W.zret (v := 0) hx hb hr (rfl) (fun t ht hW => ⟨0, rfl, by simp only [ps_bw, h2n, if_true, if_false]; clear h2 h2n; simp_all [ps_bi], ht⟩) (fun q h => by cases h) dX3_between_38
    · skip
      refine lv_iload_n hx hb dX3_between_28 rfl (lv_at hl 0 rfl) ?_
      refine lv_iload_n hx hb dX3_between_29 rfl (lv_at hl 1 rfl) ?_
      refine lv_icmp_gt (tgt := 37) hx hb dX3_between_30 rfl (fun h30 => ?_) (fun h30 => ?_)
      · skip
        refine lv_iconst (v := 0) hx hb dX3_between_37 (by decide) ?_
        exact W.zret (v := 0) hx hb hr (rfl) (fun t ht hW => ⟨0, rfl, by simp only [ps_bw, h2n, if_true, if_false]; clear h2 h2n; simp_all [ps_bi], ht⟩) (fun q h => by cases h) dX3_between_38
      · skip
        refine lv_iconst (v := 1) hx hb dX3_between_33 (by decide) ?_
        refine lv_goto (tgt := 38) hx hb dX3_between_34 rfl ?_
        exact W.zret (v := 1) hx hb hr (rfl) (fun t ht hW => ⟨1, rfl, by simp only [ps_bw, h2n, if_true, if_false]; clear h2 h2n; simp_all [ps_bi], ht⟩) (fun q h => by cases h) dX3_between_38
  · skip
    have h2n : x ≤ y := Int32.not_lt.mp h2
    refine lv_iload_n hx hb dX3_between_5 rfl (lv_at hl 0 rfl) ?_
    refine lv_iload_n hx hb dX3_between_6 rfl (lv_at hl 1 rfl) ?_
    refine lv_icmp_lt (tgt := 19) hx hb dX3_between_7 rfl (fun h7 => ?_) (fun h7 => ?_)
    · skip
      refine lv_iconst (v := 0) hx hb dX3_between_19 (by decide) ?_
      refine lv_goto (tgt := 38) hx hb dX3_between_20 rfl ?_
      exact W.zret (v := 0) hx hb hr (rfl) (fun t ht hW => ⟨0, rfl, by simp only [ps_bw, h2n, if_true, if_false]; clear h2 h2n; simp_all [ps_bi], ht⟩) (fun q h => by cases h) dX3_between_38
    · skip
      refine lv_iload_n hx hb dX3_between_10 rfl (lv_at hl 0 rfl) ?_
      refine lv_iload_n hx hb dX3_between_11 rfl (lv_at hl 2 rfl) ?_
      refine lv_icmp_gt (tgt := 19) hx hb dX3_between_12 rfl (fun h12 => ?_) (fun h12 => ?_)
      · skip
        refine lv_iconst (v := 0) hx hb dX3_between_19 (by decide) ?_
        refine lv_goto (tgt := 38) hx hb dX3_between_20 rfl ?_
        exact W.zret (v := 0) hx hb hr (rfl) (fun t ht hW => ⟨0, rfl, by simp only [ps_bw, h2n, if_true, if_false]; clear h2 h2n; simp_all [ps_bi], ht⟩) (fun q h => by cases h) dX3_between_38
      · skip
        refine lv_iconst (v := 1) hx hb dX3_between_15 (by decide) ?_
        refine lv_goto (tgt := 38) hx hb dX3_between_16 rfl ?_
        exact W.zret (v := 1) hx hb hr (rfl) (fun t ht hW => ⟨1, rfl, by simp only [ps_bw, h2n, if_true, if_false]; clear h2 h2n; simp_all [ps_bi], ht⟩) (fun q h => by cases h) dX3_between_38
set_option maxHeartbeats 4000000 in
set_option maxRecDepth 100000 in
theorem mX3_distance (l : Launch) (p9 q9 : Int32) : Met l yX3_distance (.code yX3_distance cX3_distance 5 (some .int) :: ps_T) ({ frames := 1, cells := 0, slots := 0, locals := 21 }) (fun av _ => av = ([.int p9, .int q9] : List Value).toArray) (vp_Si (fun r => r = ps_dd p9 q9 3)) 0 0 (fun _ => False) := by
  refine Met.ofW (cc := cX3_distance) (maxL := 5) (ret := (some .int)) (by decide) rfl ?_
  intro p e s m args below meth c s₁ B hml hv
  subst hv
  have hx := B.exec
  have hb := B.bytes
  have hr := B.returns
  have hlocks := B.notSynchronized
  have hT : ∀ w ∈ ps_T, w.before ([.int p9, .int q9] : List Value).toArray s = true := fun w h => atoms_spec (ws := (.code yX3_distance cX3_distance 5 (some .int) :: ps_T)) B.pre w (List.mem_cons_of_mem _ h)
  have hown : s.vm.findClass RX3 = some m.cls := findClass_of_methodNamed B.named
  have hl := lv_entry ([.int p9, .int q9]) (n := 5) (Nat.le_of_ble_eq_true rfl)
  rw [lg_entry_eq]
  generalize (lg_sl ([.int p9, .int q9]) ++ List.replicate (5 - (lg_sl ([.int p9, .int q9])).length) Slot.unset).toArray = ls at hl ⊢
  have hl : lv_has ls 5 [(0, .int p9), (1, .int q9)] := hl
  refine lv_iconst (v := 0) hx hb dX3_distance_0 (by decide) ?_
  refine lv_istore_n (lv' := [(2, .int 0), (0, .int p9), (1, .int q9)]) hx hb dX3_distance_1 rfl hl (by decide) rfl (fun ls hl => ?_)
  refine lv_iconst (v := 0) hx hb dX3_distance_2 (by decide) ?_
  refine lv_istore_n (lv' := [(3, .int 0), (2, .int 0), (0, .int p9), (1, .int q9)]) hx hb dX3_distance_3 rfl hl (by decide) rfl (fun ls hl => ?_)
  have hl : lv_has ls 5 [(3, .int (nI 0)), (2, .int (ps_dd p9 q9 0)), (0, .int p9), (1, .int q9)] := hl
  refine ps_loopS (α := Nat) (fun k => 3 - k) (fun k ls => (k ≤ 3) ∧ lv_has ls 5 [(0, .int p9), (1, .int q9), (2, .int (ps_dd p9 q9 k)), (3, .int (nI k))]) ?_ 0 ls ⟨by omega, lv_sub hl [2, 3, 1, 0] rfl⟩
  intro k ls ih4 hI
  obtain ⟨hk, hl⟩ := hI
  refine lv_iload_n hx hb dX3_distance_4 rfl (lv_at hl 3 rfl) ?_
  refine lv_iconst (v := 3) hx hb dX3_distance_5 (by decide) ?_
  refine ps_icmp_ge (tgt := 36) (a := k) (b := 3) hx hb dX3_distance_6 rfl (by omega) (by omega) (fun h6 => ?_) (fun h6 => ?_)
  · skip
    refine lv_iload_n hx hb dX3_distance_36 rfl (lv_at hl 2 rfl) ?_
    exact W.iret (v := ps_dd p9 q9 k) hx hb hr (fun t ht hW => ⟨ps_dd p9 q9 k, rfl, by rw [show k = 3 by omega], ht⟩) (fun q h => by cases h) dX3_distance_37
  · skip
    refine lv_iload_n hx hb dX3_distance_9 rfl (lv_at hl 0 rfl) ?_
    refine lv_iload_n hx hb dX3_distance_10 rfl (lv_at hl 3 rfl) ?_
    refine vp_callSi (va_Run.run (va_runS (As := [.int p9, .int (nI k)]) (rest := []) ⟨hx, hb, hml, hown, hT⟩ (mX3_axis l p9 (nI k)) (va_cwS 2 hT (ps_gS tw_ml_X3_62 tw_st_X3_axis tw_in_X3 tw_co_X3_axis) rfl rfl rfl ⟨by decide, by decide, by decide +kernel⟩ ⟨Nat.le_of_ble_eq_true rfl, Nat.le_of_ble_eq_true rfl⟩) preEq rfl rfl hl.1 rfl (lv_room (Nat.le_of_ble_eq_true rfl)) dX3_distance_11 ⟨Nat.le_of_ble_eq_true rfl, Nat.le_of_ble_eq_true rfl⟩)) (fun r hr => ?_)
    obtain rfl : r = ps_ax p9 (nI k) := hr
    refine lv_iload_n hx hb dX3_distance_14 rfl (lv_at hl 1 rfl) ?_
    refine lv_iload_n hx hb dX3_distance_15 rfl (lv_at hl 3 rfl) ?_
    refine vp_callSi (va_Run.run (va_runS (As := [.int q9, .int (nI k)]) (rest := [.int (ps_ax p9 (nI k))]) ⟨hx, hb, hml, hown, hT⟩ (mX3_axis l q9 (nI k)) (va_cwS 2 hT (ps_gS tw_ml_X3_62 tw_st_X3_axis tw_in_X3 tw_co_X3_axis) rfl rfl rfl ⟨by decide, by decide, by decide +kernel⟩ ⟨Nat.le_of_ble_eq_true rfl, Nat.le_of_ble_eq_true rfl⟩) preEq rfl rfl hl.1 rfl (lv_room (Nat.le_of_ble_eq_true rfl)) dX3_distance_16 ⟨Nat.le_of_ble_eq_true rfl, Nat.le_of_ble_eq_true rfl⟩)) (fun r hr => ?_)
    obtain rfl : r = ps_ax q9 (nI k) := hr
    refine lv_isub hx hb dX3_distance_19 ?_
    refine lv_istore (lv' := [(4, .int ((ps_ax p9 (nI k)) - (ps_ax q9 (nI k)))), (0, .int p9), (1, .int q9), (2, .int (ps_dd p9 q9 k)), (3, .int (nI k))]) hx hb dX3_distance_20 hl (by decide) rfl (fun ls hl => ?_)
    refine lv_iload_n hx hb dX3_distance_22 rfl (lv_at hl 3 rfl) ?_
    refine lv_iload hx hb dX3_distance_23 (lv_at hl 0 rfl) ?_
    refine lv_iload hx hb dX3_distance_25 (lv_at hl 0 rfl) ?_
    refine lv_imul hx hb dX3_distance_27 ?_
    refine lv_iadd hx hb dX3_distance_28 ?_
    refine lv_istore_n (lv' := [(2, .int ((ps_dd p9 q9 k) + (((ps_ax p9 (nI k)) - (ps_ax q9 (nI k))) * ((ps_ax p9 (nI k)) - (ps_ax q9 (nI k)))))), (4, .int ((ps_ax p9 (nI k)) - (ps_ax q9 (nI k)))), (0, .int p9), (1, .int q9), (3, .int (nI k))]) hx hb dX3_distance_29 rfl hl (by decide) rfl (fun ls hl => ?_)
    refine lv_iinc (k := 4) (v := nI (k + 1)) (lv' := [(3, .int (nI (k + 1))), (2, .int ((ps_dd p9 q9 k) + (((ps_ax p9 (nI k)) - (ps_ax q9 (nI k))) * ((ps_ax p9 (nI k)) - (ps_ax q9 (nI k)))))), (4, .int ((ps_ax p9 (nI k)) - (ps_ax q9 (nI k)))), (0, .int p9), (1, .int q9)]) hx hb dX3_distance_30 hl rfl (ps_inc _) (by decide) rfl (fun ls hl => ?_)
    refine lv_goto (tgt := 4) hx hb dX3_distance_33 rfl ?_
    exact ih4 ((k + 1)) ls (by omega) ⟨by omega, lv_sub hl [3, 4, 1, 0] rfl⟩
set_option maxHeartbeats 4000000 in
set_option maxRecDepth 100000 in
theorem mX3_pagesFor (l : Launch) (c9 : Nat) (hc9 : c9 < 1000) : Met l yX3_pagesFor (.code yX3_pagesFor cX3_pagesFor 1 (some .int) :: ps_T) ({ frames := 0, cells := 0, slots := 0, locals := 0 }) (fun av _ => av = ([.int (nI c9)] : List Value).toArray) (vp_Si (fun r => r = nI ((c9 + 5) / 6))) 0 0 (fun _ => False) := by
  refine Met.ofW (cc := cX3_pagesFor) (maxL := 1) (ret := (some .int)) (by decide) rfl ?_
  intro p e s m args below meth c s₁ B hml hv
  subst hv
  have hx := B.exec
  have hb := B.bytes
  have hr := B.returns
  have hlocks := B.notSynchronized
  have hT : ∀ w ∈ ps_T, w.before ([.int (nI c9)] : List Value).toArray s = true := fun w h => atoms_spec (ws := (.code yX3_pagesFor cX3_pagesFor 1 (some .int) :: ps_T)) B.pre w (List.mem_cons_of_mem _ h)
  have hown : s.vm.findClass RX3 = some m.cls := findClass_of_methodNamed B.named
  have hl := lv_entry ([.int (nI c9)]) (n := 1) (Nat.le_of_ble_eq_true rfl)
  rw [lg_entry_eq]
  generalize (lg_sl ([.int (nI c9)]) ++ List.replicate (1 - (lg_sl ([.int (nI c9)])).length) Slot.unset).toArray = ls at hl ⊢
  have hl : lv_has ls 1 [(0, .int (nI c9))] := hl
  refine lv_iload_n hx hb dX3_pagesFor_0 rfl (lv_at hl 0 rfl) ?_
  refine lv_iconst (v := 5) hx hb dX3_pagesFor_1 (by decide) ?_
  refine lv_iadd hx hb dX3_pagesFor_2 ?_
  refine lv_bipush (v := 6) hx hb dX3_pagesFor_3 (by decide) ?_
  refine lv_idiv hx hb dX3_pagesFor_5 (by decide) ?_
  exact W.iret (v := ((nI c9) + 5) / 6) hx hb hr (fun t ht hW => ⟨((nI c9) + 5) / 6, rfl, ps_pf hc9, ht⟩) (fun q h => by cases h) dX3_pagesFor_6
set_option maxHeartbeats 4000000 in
set_option maxRecDepth 100000 in
theorem mX3_thrown (l : Launch) (dC : Nat → ClassId) (dI : Nat → Nat → Nat) (cI cZ : ClassId) (w0 : Nat) (b0 : Nat → Nat) (th : Int32) (mn kn : Nat) (co : Int32) (ln : Nat) (wr lt : Int32) (f : ps_G) : Met l yX3_thrown (.code yX3_thrown cX3_thrown 1 (some .int) :: ps_T) ({ frames := 0, cells := 0, slots := 0, locals := 0 }) (ps_pc (dC, dI) (ps_ty cI cZ) (ps_mdW cI cZ w0 b0 th mn kn co ln wr lt f) [.ref w0]) (vp_Si (fun r => r = th)) 0 0 (fun _ => False) := by
  refine Met.ofW (cc := cX3_thrown) (maxL := 1) (ret := (some .int)) (by decide) rfl ?_
  intro p e s m args below meth c s₁ B hml hv
  obtain ⟨rfl, hN, hP, hK⟩ := hv
  have hx := B.exec
  have hb := B.bytes
  have hr := B.returns
  have hlocks := B.notSynchronized
  have hT : ∀ w ∈ ps_T, w.before ([.ref w0] : List Value).toArray s = true := fun w h => atoms_spec (ws := (.code yX3_thrown cX3_thrown 1 (some .int) :: ps_T)) B.pre w (List.mem_cons_of_mem _ h)
  have hown : s.vm.findClass RX3 = some m.cls := findClass_of_methodNamed B.named
  have hl := lv_entry ([.ref w0]) (n := 1) (Nat.le_of_ble_eq_true rfl)
  rw [lg_entry_eq]
  generalize (lg_sl ([.ref w0]) ++ List.replicate (1 - (lg_sl ([.ref w0])).length) Slot.unset).toArray = ls at hl ⊢
  have hl : lv_has ls 1 [(0, .ref w0)] := hl
  refine lv_aload_n hx hb dX3_thrown_0 rfl (lv_at hl 0 rfl) ?_
  refine va_get (D := (dC, dI)) (ci := 3) (v := .int th) (C := RX3) (T := TX3) (N := 17) hx hb hT inX3 hown hK hP 0 rfl rfl 0 (by decide) (hT _ tw_fl_X3_45) (fun _ h9 => h9) rfl dX3_thrown_1 ?_
  exact W.iret (v := th) hx hb hr (fun t ht hW => ⟨th, rfl, rfl, ht⟩) (fun q h => by cases h) dX3_thrown_4
set_option maxHeartbeats 4000000 in
set_option maxRecDepth 100000 in
theorem mX3_find (l : Launch) (dC : Nat → ClassId) (dI : Nat → Nat → Nat) (cI cZ : ClassId) (w0 : Nat) (b0 : Nat → Nat) (th : Int32) (mn kn : Nat) (co : Int32) (ln : Nat) (wr lt : Int32) (f : ps_G) (hmn : mn ≤ 48) (v : Int32) : Met l yX3_find (.code yX3_find cX3_find 4 (some .int) :: ps_T) ({ frames := 0, cells := 0, slots := 0, locals := 0 }) (ps_pc (dC, dI) (ps_ty cI cZ) (ps_mdW cI cZ w0 b0 th mn kn co ln wr lt f) [.ref w0, .int v]) (vp_Si (fun r => r = ps_fr (ps_fl (f 0) v mn))) 0 0 (fun _ => False) := by
  refine Met.ofW (cc := cX3_find) (maxL := 4) (ret := (some .int)) (by decide) rfl ?_
  intro p e s m args below meth c s₁ B hml hv
  obtain ⟨rfl, hN, hP, hK⟩ := hv
  have hx := B.exec
  have hb := B.bytes
  have hr := B.returns
  have hlocks := B.notSynchronized
  have hT : ∀ w ∈ ps_T, w.before ([.ref w0, .int v] : List Value).toArray s = true := fun w h => atoms_spec (ws := (.code yX3_find cX3_find 4 (some .int) :: ps_T)) B.pre w (List.mem_cons_of_mem _ h)
  have hown : s.vm.findClass RX3 = some m.cls := findClass_of_methodNamed B.named
  have hl := lv_entry ([.ref w0, .int v]) (n := 4) (Nat.le_of_ble_eq_true rfl)
  rw [lg_entry_eq]
  generalize (lg_sl ([.ref w0, .int v]) ++ List.replicate (4 - (lg_sl ([.ref w0, .int v])).length) Slot.unset).toArray = ls at hl ⊢
  have hl : lv_has ls 4 [(0, .ref w0), (1, .int v)] := hl
  refine lv_iconst (v := (-1)) hx hb dX3_find_0 (by decide) ?_
  refine lv_istore_n (lv' := [(2, .int ((-1))), (0, .ref w0), (1, .int v)]) hx hb dX3_find_1 rfl hl (by decide) rfl (fun ls hl => ?_)
  refine lv_iconst (v := 0) hx hb dX3_find_2 (by decide) ?_
  refine lv_istore_n (lv' := [(3, .int 0), (2, .int ((-1))), (0, .ref w0), (1, .int v)]) hx hb dX3_find_3 rfl hl (by decide) rfl (fun ls hl => ?_)
  have hl : lv_has ls 4 [(3, .int (nI 0)), (2, .int (ps_fr (ps_fl (f 0) v 0))), (0, .ref w0), (1, .int v)] := hl
  refine ps_loopS (α := Nat) (fun k => mn - k) (fun k ls => (k ≤ mn) ∧ lv_has ls 4 [(0, .ref w0), (1, .int v), (2, .int (ps_fr (ps_fl (f 0) v k))), (3, .int (nI k))]) ?_ 0 ls ⟨by omega, lv_sub hl [2, 3, 1, 0] rfl⟩
  intro k ls ih4 hI
  obtain ⟨hk, hl⟩ := hI
  refine lv_iload_n hx hb dX3_find_4 rfl (lv_at hl 3 rfl) ?_
  refine lv_aload_n hx hb dX3_find_5 rfl (lv_at hl 0 rfl) ?_
  refine va_get (D := (dC, dI)) (ci := 3) (v := .int (nI mn)) (C := RX3) (T := TX3) (N := 17) hx hb hT inX3 hown hK hP 0 rfl rfl 1 (by decide) (hT _ tw_fl_X3_59) (fun _ h9 => h9) rfl dX3_find_6 ?_
  refine ps_icmp_ge (tgt := 34) (a := k) (b := mn) hx hb dX3_find_9 rfl (by omega) (by omega) (fun h9 => ?_) (fun h9 => ?_)
  · skip
    refine lv_iload_n hx hb dX3_find_34 rfl (lv_at hl 2 rfl) ?_
    exact W.iret (v := ps_fr (ps_fl (f 0) v k)) hx hb hr (fun t ht hW => ⟨ps_fr (ps_fl (f 0) v k), rfl, by rw [show k = mn by omega], ht⟩) (fun q h => by cases h) dX3_find_35
  · skip
    refine lv_aload_n hx hb dX3_find_12 rfl (lv_at hl 0 rfl) ?_
    refine va_get (D := (dC, dI)) (ci := 3) (v := .ref (b0 0)) (C := RX3) (T := TX3) (N := 17) hx hb hT inX3 hown hK hP 0 rfl rfl 2 (by decide) (hT _ tw_fl_X3_7) (fun _ h9 => h9) rfl dX3_find_13 ?_
    refine lv_iload_n hx hb dX3_find_16 rfl (lv_at hl 3 rfl) ?_
    refine ps_iald (k := k) (f := f 0) hx hb hK hP 1 0 rfl rfl (by omega) (by decide) dX3_find_17 ?_
    refine lv_iload_n hx hb dX3_find_18 rfl (lv_at hl 1 rfl) ?_
    refine lv_icmp_ne (tgt := 26) hx hb dX3_find_19 rfl (fun h19 => ?_) (fun h19 => ?_)
    · skip
      refine lv_iload_n hx hb dX3_find_26 rfl (lv_at hl 2 rfl) ?_
      refine lv_topi (fun y9 hy9 => ?_)
      obtain rfl : y9 = ps_fr (ps_fl (f 0) v (k + 1)) := hy9.trans (ps_fr_eq (ps_fl_f h19))
      refine lv_istore_n (lv' := [(2, .int (ps_fr (ps_fl (f 0) v (k + 1)))), (0, .ref w0), (1, .int v), (3, .int (nI k))]) hx hb dX3_find_27 rfl hl (by decide) rfl (fun ls hl => ?_)
      refine lv_iinc (k := 3) (v := nI (k + 1)) (lv' := [(3, .int (nI (k + 1))), (2, .int (ps_fr (ps_fl (f 0) v (k + 1)))), (0, .ref w0), (1, .int v)]) hx hb dX3_find_28 hl rfl (ps_inc _) (by decide) rfl (fun ls hl => ?_)
      refine lv_goto (tgt := 4) hx hb dX3_find_31 rfl ?_
      exact ih4 ((k + 1)) ls (by omega) ⟨by omega, lv_sub hl [2, 3, 1, 0] rfl⟩
    · skip
      refine lv_iload_n hx hb dX3_find_22 rfl (lv_at hl 3 rfl) ?_
      refine lv_topi (fun y9 hy9 => ?_)
      obtain rfl : y9 = ps_fr (ps_fl (f 0) v (k + 1)) := hy9.trans (ps_fr_some (ps_fl_t h19))
      refine lv_goto (tgt := 27) hx hb dX3_find_23 rfl ?_
      refine lv_istore_n (lv' := [(2, .int (ps_fr (ps_fl (f 0) v (k + 1)))), (0, .ref w0), (1, .int v), (3, .int (nI k))]) hx hb dX3_find_27 rfl hl (by decide) rfl (fun ls hl => ?_)
      refine lv_iinc (k := 3) (v := nI (k + 1)) (lv' := [(3, .int (nI (k + 1))), (2, .int (ps_fr (ps_fl (f 0) v (k + 1)))), (0, .ref w0), (1, .int v)]) hx hb dX3_find_28 hl rfl (ps_inc _) (by decide) rfl (fun ls hl => ?_)
      refine lv_goto (tgt := 4) hx hb dX3_find_31 rfl ?_
      exact ih4 ((k + 1)) ls (by omega) ⟨by omega, lv_sub hl [2, 3, 1, 0] rfl⟩
set_option maxHeartbeats 4000000 in
set_option maxRecDepth 100000 in
theorem mX3_keeps (l : Launch) (dC : Nat → ClassId) (dI : Nat → Nat → Nat) (cI cZ : ClassId) (w0 : Nat) (b0 : Nat → Nat) (th : Int32) (mn kn : Nat) (co : Int32) (ln : Nat) (wr lt : Int32) (f : ps_G) (hmn : mn ≤ 48) (p9 d : Int32) : Met l yX3_keeps (.code yX3_keeps cX3_keeps 5 (some .int) :: ps_T) ({ frames := 2, cells := 0, slots := 0, locals := 44 }) (ps_pc (dC, dI) (ps_ty cI cZ) (ps_mdW cI cZ w0 b0 th mn kn co ln wr lt f) [.ref w0, .int p9, .int d]) (vp_Si (fun r => r = nI (ps_cn (ps_kp f p9 d) mn))) 0 0 (fun _ => False) := by
  refine Met.ofW (cc := cX3_keeps) (maxL := 5) (ret := (some .int)) (by decide) rfl ?_
  intro p e s m args below meth c s₁ B hml hv
  obtain ⟨rfl, hN, hP, hK⟩ := hv
  have hx := B.exec
  have hb := B.bytes
  have hr := B.returns
  have hlocks := B.notSynchronized
  have hT : ∀ w ∈ ps_T, w.before ([.ref w0, .int p9, .int d] : List Value).toArray s = true := fun w h => atoms_spec (ws := (.code yX3_keeps cX3_keeps 5 (some .int) :: ps_T)) B.pre w (List.mem_cons_of_mem _ h)
  have hown : s.vm.findClass RX3 = some m.cls := findClass_of_methodNamed B.named
  have hl := lv_entry ([.ref w0, .int p9, .int d]) (n := 5) (Nat.le_of_ble_eq_true rfl)
  rw [lg_entry_eq]
  generalize (lg_sl ([.ref w0, .int p9, .int d]) ++ List.replicate (5 - (lg_sl ([.ref w0, .int p9, .int d])).length) Slot.unset).toArray = ls at hl ⊢
  have hl : lv_has ls 5 [(0, .ref w0), (1, .int p9), (2, .int d)] := hl
  refine lv_iconst (v := 0) hx hb dX3_keeps_0 (by decide) ?_
  refine lv_istore_n (lv' := [(3, .int 0), (0, .ref w0), (1, .int p9), (2, .int d)]) hx hb dX3_keeps_1 rfl hl (by decide) rfl (fun ls hl => ?_)
  refine lv_iconst (v := 0) hx hb dX3_keeps_2 (by decide) ?_
  refine lv_istore (lv' := [(4, .int 0), (3, .int 0), (0, .ref w0), (1, .int p9), (2, .int d)]) hx hb dX3_keeps_3 hl (by decide) rfl (fun ls hl => ?_)
  have hl : lv_has ls 5 [(4, .int (nI 0)), (3, .int (nI (ps_cn (ps_kp f p9 d) 0))), (0, .ref w0), (1, .int p9), (2, .int d)] := hl
  refine ps_loopS (α := Nat) (fun k => mn - k) (fun k ls => (k ≤ mn) ∧ lv_has ls 5 [(0, .ref w0), (1, .int p9), (2, .int d), (3, .int (nI (ps_cn (ps_kp f p9 d) k))), (4, .int (nI k))]) ?_ 0 ls ⟨by omega, lv_sub hl [2, 3, 4, 1, 0] rfl⟩
  intro k ls ih5 hI
  obtain ⟨hk, hl⟩ := hI
  refine lv_iload hx hb dX3_keeps_5 (lv_at hl 4 rfl) ?_
  refine lv_aload_n hx hb dX3_keeps_7 rfl (lv_at hl 0 rfl) ?_
  refine va_get (D := (dC, dI)) (ci := 3) (v := .int (nI mn)) (C := RX3) (T := TX3) (N := 17) hx hb hT inX3 hown hK hP 0 rfl rfl 1 (by decide) (hT _ tw_fl_X3_59) (fun _ h9 => h9) rfl dX3_keeps_8 ?_
  refine ps_icmp_ge (tgt := 64) (a := k) (b := mn) hx hb dX3_keeps_11 rfl (by omega) (by omega) (fun h11 => ?_) (fun h11 => ?_)
  · skip
    refine lv_iload_n hx hb dX3_keeps_64 rfl (lv_at hl 3 rfl) ?_
    exact W.iret (v := nI (ps_cn (ps_kp f p9 d) k)) hx hb hr (fun t ht hW => ⟨nI (ps_cn (ps_kp f p9 d) k), rfl, by rw [show k = mn by omega], ht⟩) (fun q h => by cases h) dX3_keeps_65
  · skip
    refine lv_aload_n hx hb dX3_keeps_14 rfl (lv_at hl 0 rfl) ?_
    refine va_get (D := (dC, dI)) (ci := 3) (v := .ref (b0 8)) (C := RX3) (T := TX3) (N := 17) hx hb hT inX3 hown hK hP 0 rfl rfl 11 (by decide) (hT _ tw_fl_X3_34) (fun _ h9 => h9) rfl dX3_keeps_15 ?_
    refine lv_iload hx hb dX3_keeps_18 (lv_at hl 4 rfl) ?_
    refine ps_zald (k := k) (f := f 8) hx hb hK hP 9 1 rfl rfl (by omega) (by decide) dX3_keeps_20 ?_
    refine lv_if_eq (tgt := 56) hx hb dX3_keeps_21 rfl (fun h21 => ?_) (fun h21 => ?_)
    · skip
      have hc : ps_kp f p9 d k = false := by simp [ps_kp, h21]
      refine lv_iload_n hx hb dX3_keeps_56 rfl (lv_at hl 3 rfl) ?_
      refine lv_istore_n (lv' := [(3, .int (nI (ps_cn (ps_kp f p9 d) k))), (0, .ref w0), (1, .int p9), (2, .int d), (4, .int (nI k))]) hx hb dX3_keeps_57 rfl hl (by decide) rfl (fun ls hl => ?_)
      refine lv_iinc (k := 4) (v := nI (k + 1)) (lv' := [(4, .int (nI (k + 1))), (3, .int (nI (ps_cn (ps_kp f p9 d) k))), (0, .ref w0), (1, .int p9), (2, .int d)]) hx hb dX3_keeps_58 hl rfl (ps_inc _) (by decide) rfl (fun ls hl => ?_)
      refine lv_goto (tgt := 5) hx hb dX3_keeps_61 rfl ?_
      first | rw [← ps_cnT hc] at hl | rw [← ps_cnF hc] at hl
      exact ih5 ((k + 1)) ls (by omega) ⟨by omega, lv_sub hl [2, 3, 4, 1, 0] rfl⟩
    · skip
      refine lv_aload_n hx hb dX3_keeps_24 rfl (lv_at hl 0 rfl) ?_
      refine va_get (D := (dC, dI)) (ci := 3) (v := .ref (b0 3)) (C := RX3) (T := TX3) (N := 17) hx hb hT inX3 hown hK hP 0 rfl rfl 5 (by decide) (hT _ tw_fl_X3_19) (fun _ h9 => h9) rfl dX3_keeps_25 ?_
      refine lv_iload hx hb dX3_keeps_28 (lv_at hl 4 rfl) ?_
      refine ps_iald (k := k) (f := f 3) hx hb hK hP 4 0 rfl rfl (by omega) (by decide) dX3_keeps_30 ?_
      refine lv_iload_n hx hb dX3_keeps_31 rfl (lv_at hl 2 rfl) ?_
      refine lv_icmp_ne (tgt := 56) hx hb dX3_keeps_32 rfl (fun h32 => ?_) (fun h32 => ?_)
      · skip
        have hc : ps_kp f p9 d k = false := by simp [ps_kp, h32]
        refine lv_iload_n hx hb dX3_keeps_56 rfl (lv_at hl 3 rfl) ?_
        refine lv_istore_n (lv' := [(3, .int (nI (ps_cn (ps_kp f p9 d) k))), (0, .ref w0), (1, .int p9), (2, .int d), (4, .int (nI k))]) hx hb dX3_keeps_57 rfl hl (by decide) rfl (fun ls hl => ?_)
        refine lv_iinc (k := 4) (v := nI (k + 1)) (lv' := [(4, .int (nI (k + 1))), (3, .int (nI (ps_cn (ps_kp f p9 d) k))), (0, .ref w0), (1, .int p9), (2, .int d)]) hx hb dX3_keeps_58 hl rfl (ps_inc _) (by decide) rfl (fun ls hl => ?_)
        refine lv_goto (tgt := 5) hx hb dX3_keeps_61 rfl ?_
        first | rw [← ps_cnT hc] at hl | rw [← ps_cnF hc] at hl
        exact ih5 ((k + 1)) ls (by omega) ⟨by omega, lv_sub hl [2, 3, 4, 1, 0] rfl⟩
      · skip
        refine lv_aload_n hx hb dX3_keeps_35 rfl (lv_at hl 0 rfl) ?_
        refine va_get (D := (dC, dI)) (ci := 3) (v := .ref (b0 1)) (C := RX3) (T := TX3) (N := 17) hx hb hT inX3 hown hK hP 0 rfl rfl 3 (by decide) (hT _ tw_fl_X3_13) (fun _ h9 => h9) rfl dX3_keeps_36 ?_
        refine lv_iload hx hb dX3_keeps_39 (lv_at hl 4 rfl) ?_
        refine ps_iald (k := k) (f := f 1) hx hb hK hP 2 0 rfl rfl (by omega) (by decide) dX3_keeps_41 ?_
        refine lv_iload_n hx hb dX3_keeps_42 rfl (lv_at hl 1 rfl) ?_
        refine lv_iload_n hx hb dX3_keeps_43 rfl (lv_at hl 2 rfl) ?_
        refine vp_callSi (va_Run.run (va_runS (As := [.int (f 1 k), .int p9, .int d]) (rest := []) ⟨hx, hb, hml, hown, hT⟩ (mX3_isOne l (f 1 k) p9 d) (va_cwS 3 hT (ps_gS tw_ml_X3_66 tw_st_X3_isOne tw_in_X3 tw_co_X3_isOne) rfl rfl rfl ⟨by decide, by decide, by decide +kernel⟩ ⟨Nat.le_of_ble_eq_true rfl, Nat.le_of_ble_eq_true rfl⟩) preEq rfl rfl hl.1 rfl (lv_room (Nat.le_of_ble_eq_true rfl)) dX3_keeps_44 ⟨Nat.le_of_ble_eq_true rfl, Nat.le_of_ble_eq_true rfl⟩)) (fun r hr => ?_)
        obtain rfl : r = ps_bi (ps_mo (f 1 k) p9 d) := hr
        refine ps_ifb_eq (tgt := 56) hx hb dX3_keeps_47 rfl (fun h47 => ?_) (fun h47 => ?_)
        · skip
          have hc : ps_kp f p9 d k = false := by simp [ps_kp, h47]
          refine lv_iload_n hx hb dX3_keeps_56 rfl (lv_at hl 3 rfl) ?_
          refine lv_istore_n (lv' := [(3, .int (nI (ps_cn (ps_kp f p9 d) k))), (0, .ref w0), (1, .int p9), (2, .int d), (4, .int (nI k))]) hx hb dX3_keeps_57 rfl hl (by decide) rfl (fun ls hl => ?_)
          refine lv_iinc (k := 4) (v := nI (k + 1)) (lv' := [(4, .int (nI (k + 1))), (3, .int (nI (ps_cn (ps_kp f p9 d) k))), (0, .ref w0), (1, .int p9), (2, .int d)]) hx hb dX3_keeps_58 hl rfl (ps_inc _) (by decide) rfl (fun ls hl => ?_)
          refine lv_goto (tgt := 5) hx hb dX3_keeps_61 rfl ?_
          first | rw [← ps_cnT hc] at hl | rw [← ps_cnF hc] at hl
          exact ih5 ((k + 1)) ls (by omega) ⟨by omega, lv_sub hl [2, 3, 4, 1, 0] rfl⟩
        · skip
          have hc : ps_kp f p9 d k = true := by simp [ps_kp, h21, h32, h47]
          refine lv_iload_n hx hb dX3_keeps_50 rfl (lv_at hl 3 rfl) ?_
          refine lv_iconst (v := 1) hx hb dX3_keeps_51 (by decide) ?_
          refine lv_iadd hx hb dX3_keeps_52 ?_
          rw [nI_1]
          refine lv_goto (tgt := 57) hx hb dX3_keeps_53 rfl ?_
          refine lv_istore_n (lv' := [(3, .int (nI ((ps_cn (ps_kp f p9 d) k) + 1))), (0, .ref w0), (1, .int p9), (2, .int d), (4, .int (nI k))]) hx hb dX3_keeps_57 rfl hl (by decide) rfl (fun ls hl => ?_)
          refine lv_iinc (k := 4) (v := nI (k + 1)) (lv' := [(4, .int (nI (k + 1))), (3, .int (nI ((ps_cn (ps_kp f p9 d) k) + 1))), (0, .ref w0), (1, .int p9), (2, .int d)]) hx hb dX3_keeps_58 hl rfl (ps_inc _) (by decide) rfl (fun ls hl => ?_)
          refine lv_goto (tgt := 5) hx hb dX3_keeps_61 rfl ?_
          first | rw [← ps_cnT hc] at hl | rw [← ps_cnF hc] at hl
          exact ih5 ((k + 1)) ls (by omega) ⟨by omega, lv_sub hl [2, 3, 4, 1, 0] rfl⟩
set_option maxHeartbeats 4000000 in
set_option maxRecDepth 100000 in
theorem mX3_greatest (l : Launch) (dC : Nat → ClassId) (dI : Nat → Nat → Nat) (cI cZ : ClassId) (w0 : Nat) (b0 : Nat → Nat) (th : Int32) (mn kn : Nat) (co : Int32) (ln : Nat) (wr lt : Int32) (f : ps_G) (hmn : mn ≤ 48) : Met l yX3_greatest (.code yX3_greatest cX3_greatest 3 (some .int) :: ps_T) ({ frames := 1, cells := 0, slots := 0, locals := 22 }) (ps_pc (dC, dI) (ps_ty cI cZ) (ps_mdW cI cZ w0 b0 th mn kn co ln wr lt f) [.ref w0]) (vp_Si (fun r => r = ps_fr (ps_gr f mn))) 0 0 (fun _ => False) := by
  refine Met.ofW (cc := cX3_greatest) (maxL := 3) (ret := (some .int)) (by decide) rfl ?_
  intro p e s m args below meth c s₁ B hml hv
  obtain ⟨rfl, hN, hP, hK⟩ := hv
  have hx := B.exec
  have hb := B.bytes
  have hr := B.returns
  have hlocks := B.notSynchronized
  have hT : ∀ w ∈ ps_T, w.before ([.ref w0] : List Value).toArray s = true := fun w h => atoms_spec (ws := (.code yX3_greatest cX3_greatest 3 (some .int) :: ps_T)) B.pre w (List.mem_cons_of_mem _ h)
  have hown : s.vm.findClass RX3 = some m.cls := findClass_of_methodNamed B.named
  have hl := lv_entry ([.ref w0]) (n := 3) (Nat.le_of_ble_eq_true rfl)
  rw [lg_entry_eq]
  generalize (lg_sl ([.ref w0]) ++ List.replicate (3 - (lg_sl ([.ref w0])).length) Slot.unset).toArray = ls at hl ⊢
  have hl : lv_has ls 3 [(0, .ref w0)] := hl
  refine lv_iconst (v := (-1)) hx hb dX3_greatest_0 (by decide) ?_
  refine lv_istore_n (lv' := [(1, .int ((-1))), (0, .ref w0)]) hx hb dX3_greatest_1 rfl hl (by decide) rfl (fun ls hl => ?_)
  refine lv_iconst (v := 0) hx hb dX3_greatest_2 (by decide) ?_
  refine lv_istore_n (lv' := [(2, .int 0), (1, .int ((-1))), (0, .ref w0)]) hx hb dX3_greatest_3 rfl hl (by decide) rfl (fun ls hl => ?_)
  have hl : lv_has ls 3 [(2, .int (nI 0)), (1, .int (ps_fr (ps_gr f 0))), (0, .ref w0)] := hl
  refine ps_loopS (α := Nat) (fun k => mn - k) (fun k ls => (k ≤ mn) ∧ lv_has ls 3 [(0, .ref w0), (1, .int (ps_fr (ps_gr f k))), (2, .int (nI k))]) ?_ 0 ls ⟨by omega, lv_sub hl [2, 1, 0] rfl⟩
  intro k ls ih4 hI
  obtain ⟨hk, hl⟩ := hI
  refine lv_iload_n hx hb dX3_greatest_4 rfl (lv_at hl 2 rfl) ?_
  refine lv_aload_n hx hb dX3_greatest_5 rfl (lv_at hl 0 rfl) ?_
  refine va_get (D := (dC, dI)) (ci := 3) (v := .int (nI mn)) (C := RX3) (T := TX3) (N := 17) hx hb hT inX3 hown hK hP 0 rfl rfl 1 (by decide) (hT _ tw_fl_X3_59) (fun _ h9 => h9) rfl dX3_greatest_6 ?_
  refine ps_icmp_ge (tgt := 59) (a := k) (b := mn) hx hb dX3_greatest_9 rfl (by omega) (by omega) (fun h9 => ?_) (fun h9 => ?_)
  · skip
    refine lv_iload_n hx hb dX3_greatest_59 rfl (lv_at hl 1 rfl) ?_
    exact W.iret (v := ps_fr (ps_gr f k)) hx hb hr (fun t ht hW => ⟨ps_fr (ps_gr f k), rfl, by rw [show k = mn by omega], ht⟩) (fun q h => by cases h) dX3_greatest_60
  · skip
    refine lv_aload_n hx hb dX3_greatest_12 rfl (lv_at hl 0 rfl) ?_
    refine va_get (D := (dC, dI)) (ci := 3) (v := .ref (b0 8)) (C := RX3) (T := TX3) (N := 17) hx hb hT inX3 hown hK hP 0 rfl rfl 11 (by decide) (hT _ tw_fl_X3_34) (fun _ h9 => h9) rfl dX3_greatest_13 ?_
    refine lv_iload_n hx hb dX3_greatest_16 rfl (lv_at hl 2 rfl) ?_
    refine ps_zald (k := k) (f := f 8) hx hb hK hP 9 1 rfl rfl (by omega) (by decide) dX3_greatest_17 ?_
    refine lv_if_ne (tgt := 51) hx hb dX3_greatest_18 rfl (fun h18 => ?_) (fun h18 => ?_)
    · skip
      refine lv_iload_n hx hb dX3_greatest_51 rfl (lv_at hl 1 rfl) ?_
      refine lv_topi (fun y9 hy9 => ?_)
      obtain rfl : y9 = ps_fr (ps_gr f (k + 1)) := hy9.trans (ps_fr_eq (ps_gr_f (fun h => h18 h.1)))
      refine lv_istore_n (lv' := [(1, .int (ps_fr (ps_gr f (k + 1)))), (0, .ref w0), (2, .int (nI k))]) hx hb dX3_greatest_52 rfl hl (by decide) rfl (fun ls hl => ?_)
      refine lv_iinc (k := 2) (v := nI (k + 1)) (lv' := [(2, .int (nI (k + 1))), (1, .int (ps_fr (ps_gr f (k + 1)))), (0, .ref w0)]) hx hb dX3_greatest_53 hl rfl (ps_inc _) (by decide) rfl (fun ls hl => ?_)
      refine lv_goto (tgt := 4) hx hb dX3_greatest_56 rfl ?_
      exact ih4 ((k + 1)) ls (by omega) ⟨by omega, lv_sub hl [2, 1, 0] rfl⟩
    · skip
      rcases hg : ps_gr f k with _ | b9
      · skip
        rw [hg] at hl
        have hl : lv_has ls 3 [(0, .ref w0), (1, .int (-1)), (2, .int (nI k))] := hl
        have hb9 : ∀ b, ps_gr f k = some b → ps_rk (f 0 b) < ps_rk (f 0 k) := by rw [hg]; intro b h; cases h
        refine lv_iload_n hx hb dX3_greatest_21 rfl (lv_at hl 1 rfl) ?_
        refine lv_if_lt (tgt := 47) hx hb dX3_greatest_22 rfl (fun h22 => ?_) (fun h22 => ?_)
        · skip
          refine lv_iload_n hx hb dX3_greatest_47 rfl (lv_at hl 2 rfl) ?_
          refine lv_topi (fun y9 hy9 => ?_)
          obtain rfl : y9 = ps_fr (ps_gr f (k + 1)) := hy9.trans (ps_fr_some (ps_gr_t h18 hb9))
          refine lv_goto (tgt := 52) hx hb dX3_greatest_48 rfl ?_
          refine lv_istore_n (lv' := [(1, .int (ps_fr (ps_gr f (k + 1)))), (0, .ref w0), (2, .int (nI k))]) hx hb dX3_greatest_52 rfl hl (by decide) rfl (fun ls hl => ?_)
          refine lv_iinc (k := 2) (v := nI (k + 1)) (lv' := [(2, .int (nI (k + 1))), (1, .int (ps_fr (ps_gr f (k + 1)))), (0, .ref w0)]) hx hb dX3_greatest_53 hl rfl (ps_inc _) (by decide) rfl (fun ls hl => ?_)
          refine lv_goto (tgt := 4) hx hb dX3_greatest_56 rfl ?_
          exact ih4 ((k + 1)) ls (by omega) ⟨by omega, lv_sub hl [2, 1, 0] rfl⟩
        · skip
          exact absurd (by decide) h22
      · skip
        rw [hg] at hl
        have hl : lv_has ls 3 [(0, .ref w0), (1, .int (nI b9)), (2, .int (nI k))] := hl
        have hb0 := ps_gr_lt hg
        refine lv_iload_n hx hb dX3_greatest_21 rfl (lv_at hl 1 rfl) ?_
        refine lv_if_lt (tgt := 47) hx hb dX3_greatest_22 rfl (fun h22 => ?_) (fun h22 => ?_)
        · skip
          exact absurd h22 (nI_pos (by omega))
        · skip
          refine lv_aload_n hx hb dX3_greatest_25 rfl (lv_at hl 0 rfl) ?_
          refine va_get (D := (dC, dI)) (ci := 3) (v := .ref (b0 0)) (C := RX3) (T := TX3) (N := 17) hx hb hT inX3 hown hK hP 0 rfl rfl 2 (by decide) (hT _ tw_fl_X3_7) (fun _ h9 => h9) rfl dX3_greatest_26 ?_
          refine lv_iload_n hx hb dX3_greatest_29 rfl (lv_at hl 2 rfl) ?_
          refine ps_iald (k := k) (f := f 0) hx hb hK hP 1 0 rfl rfl (by omega) (by decide) dX3_greatest_30 ?_
          refine vp_callSl (va_Run.run (va_runS (As := [.int (f 0 k)]) (rest := []) ⟨hx, hb, hml, hown, hT⟩ (mX3_rankOf l (f 0 k)) (va_cwS 1 hT (ps_gS tw_ml_X3_55 tw_st_X3_rankOf tw_in_X3 tw_co_X3_rankOf) rfl rfl rfl ⟨by decide, by decide, by decide +kernel⟩ ⟨Nat.le_of_ble_eq_true rfl, Nat.le_of_ble_eq_true rfl⟩) preEq rfl rfl hl.1 rfl (lv_room (Nat.le_of_ble_eq_true rfl)) dX3_greatest_31 ⟨Nat.le_of_ble_eq_true rfl, Nat.le_of_ble_eq_true rfl⟩)) (fun r hr => ?_)
          obtain rfl : r = lN (ps_rk (f 0 k)) := hr
          refine lv_aload_n hx hb dX3_greatest_34 rfl (lv_at hl 0 rfl) ?_
          refine va_get (D := (dC, dI)) (ci := 3) (v := .ref (b0 0)) (C := RX3) (T := TX3) (N := 17) hx hb hT inX3 hown hK hP 0 rfl rfl 2 (by decide) (hT _ tw_fl_X3_7) (fun _ h9 => h9) rfl dX3_greatest_35 ?_
          refine lv_iload_n hx hb dX3_greatest_38 rfl (lv_at hl 1 rfl) ?_
          refine ps_iald (k := b9) (f := f 0) hx hb hK hP 1 0 rfl rfl (by omega) (by decide) dX3_greatest_39 ?_
          refine vp_callSl (va_Run.run (va_runS (As := [.int (f 0 b9)]) (rest := [.long (lN (ps_rk (f 0 k)))]) ⟨hx, hb, hml, hown, hT⟩ (mX3_rankOf l (f 0 b9)) (va_cwS 1 hT (ps_gS tw_ml_X3_55 tw_st_X3_rankOf tw_in_X3 tw_co_X3_rankOf) rfl rfl rfl ⟨by decide, by decide, by decide +kernel⟩ ⟨Nat.le_of_ble_eq_true rfl, Nat.le_of_ble_eq_true rfl⟩) preEq rfl rfl hl.1 rfl (lv_room (Nat.le_of_ble_eq_true rfl)) dX3_greatest_40 ⟨Nat.le_of_ble_eq_true rfl, Nat.le_of_ble_eq_true rfl⟩)) (fun r hr => ?_)
          obtain rfl : r = lN (ps_rk (f 0 b9)) := hr
          refine W.lcmp hx hb dX3_greatest_43 ?_
          refine lv_if_le (tgt := 51) hx hb dX3_greatest_44 rfl (fun h44 => ?_) (fun h44 => ?_)
          · skip
            refine lv_iload_n hx hb dX3_greatest_51 rfl (lv_at hl 1 rfl) ?_
            refine lv_topi (fun y9 hy9 => ?_)
            obtain rfl : y9 = ps_fr (ps_gr f (k + 1)) := hy9.trans ((ps_fr_some hg).trans (ps_fr_eq (ps_gr_f (fun h => ps_rk_nl h44 (h.2 _ hg)))))
            refine lv_istore_n (lv' := [(1, .int (ps_fr (ps_gr f (k + 1)))), (0, .ref w0), (2, .int (nI k))]) hx hb dX3_greatest_52 rfl hl (by decide) rfl (fun ls hl => ?_)
            refine lv_iinc (k := 2) (v := nI (k + 1)) (lv' := [(2, .int (nI (k + 1))), (1, .int (ps_fr (ps_gr f (k + 1)))), (0, .ref w0)]) hx hb dX3_greatest_53 hl rfl (ps_inc _) (by decide) rfl (fun ls hl => ?_)
            refine lv_goto (tgt := 4) hx hb dX3_greatest_56 rfl ?_
            exact ih4 ((k + 1)) ls (by omega) ⟨by omega, lv_sub hl [2, 1, 0] rfl⟩
          · skip
            have hb9 : ∀ b, ps_gr f k = some b → ps_rk (f 0 b) < ps_rk (f 0 k) := by rw [hg]; intro b h; cases h; exact ps_rk_le h44
            refine lv_iload_n hx hb dX3_greatest_47 rfl (lv_at hl 2 rfl) ?_
            refine lv_topi (fun y9 hy9 => ?_)
            obtain rfl : y9 = ps_fr (ps_gr f (k + 1)) := hy9.trans (ps_fr_some (ps_gr_t h18 hb9))
            refine lv_goto (tgt := 52) hx hb dX3_greatest_48 rfl ?_
            refine lv_istore_n (lv' := [(1, .int (ps_fr (ps_gr f (k + 1)))), (0, .ref w0), (2, .int (nI k))]) hx hb dX3_greatest_52 rfl hl (by decide) rfl (fun ls hl => ?_)
            refine lv_iinc (k := 2) (v := nI (k + 1)) (lv' := [(2, .int (nI (k + 1))), (1, .int (ps_fr (ps_gr f (k + 1)))), (0, .ref w0)]) hx hb dX3_greatest_53 hl rfl (ps_inc _) (by decide) rfl (fun ls hl => ?_)
            refine lv_goto (tgt := 4) hx hb dX3_greatest_56 rfl ?_
            exact ih4 ((k + 1)) ls (by omega) ⟨by omega, lv_sub hl [2, 1, 0] rfl⟩
set_option maxHeartbeats 4000000 in
set_option maxRecDepth 100000 in
theorem mX3_isFirst (l : Launch) (dC : Nat → ClassId) (dI : Nat → Nat → Nat) (cI cZ : ClassId) (w0 : Nat) (b0 : Nat → Nat) (th : Int32) (mn kn : Nat) (co : Int32) (ln : Nat) (wr lt : Int32) (f : ps_G) (k : Nat) (hk : k < 48) : Met l yX3_isFirst (.code yX3_isFirst cX3_isFirst 4 (some .boolean) :: ps_T) ({ frames := 2, cells := 0, slots := 0, locals := 44 }) (ps_pc (dC, dI) (ps_ty cI cZ) (ps_mdW cI cZ w0 b0 th mn kn co ln wr lt f) [.ref w0, .int (nI k)]) (vp_Si (fun r => r = ps_bi (ps_all (ps_nf (f 3) (f 1) k) k))) 0 0 (fun _ => False) := by
  refine Met.ofW (cc := cX3_isFirst) (maxL := 4) (ret := (some .boolean)) (by decide) rfl ?_
  intro p e s m args below meth c s₁ B hml hv
  obtain ⟨rfl, hN, hP, hK⟩ := hv
  have hx := B.exec
  have hb := B.bytes
  have hr := B.returns
  have hlocks := B.notSynchronized
  have hT : ∀ w ∈ ps_T, w.before ([.ref w0, .int (nI k)] : List Value).toArray s = true := fun w h => atoms_spec (ws := (.code yX3_isFirst cX3_isFirst 4 (some .boolean) :: ps_T)) B.pre w (List.mem_cons_of_mem _ h)
  have hown : s.vm.findClass RX3 = some m.cls := findClass_of_methodNamed B.named
  have hl := lv_entry ([.ref w0, .int (nI k)]) (n := 4) (Nat.le_of_ble_eq_true rfl)
  rw [lg_entry_eq]
  generalize (lg_sl ([.ref w0, .int (nI k)]) ++ List.replicate (4 - (lg_sl ([.ref w0, .int (nI k)])).length) Slot.unset).toArray = ls at hl ⊢
  have hl : lv_has ls 4 [(0, .ref w0), (1, .int (nI k))] := hl
  refine lv_iconst (v := 1) hx hb dX3_isFirst_0 (by decide) ?_
  refine lv_istore_n (lv' := [(2, .int 1), (0, .ref w0), (1, .int (nI k))]) hx hb dX3_isFirst_1 rfl hl (by decide) rfl (fun ls hl => ?_)
  refine lv_iconst (v := 0) hx hb dX3_isFirst_2 (by decide) ?_
  refine lv_istore_n (lv' := [(3, .int 0), (2, .int 1), (0, .ref w0), (1, .int (nI k))]) hx hb dX3_isFirst_3 rfl hl (by decide) rfl (fun ls hl => ?_)
  have hl : lv_has ls 4 [(3, .int (nI 0)), (2, .int (ps_bi (ps_all (ps_nf (f 3) (f 1) k) 0))), (0, .ref w0), (1, .int (nI k))] := hl
  refine ps_loopS (α := Nat) (fun j => k - j) (fun j ls => (j ≤ k) ∧ lv_has ls 4 [(0, .ref w0), (1, .int (nI k)), (2, .int (ps_bi (ps_all (ps_nf (f 3) (f 1) k) j))), (3, .int (nI j))]) ?_ 0 ls ⟨by omega, lv_sub hl [2, 3, 1, 0] rfl⟩
  intro j ls ih4 hI
  obtain ⟨hj, hl⟩ := hI
  refine lv_iload_n hx hb dX3_isFirst_4 rfl (lv_at hl 3 rfl) ?_
  refine lv_iload_n hx hb dX3_isFirst_5 rfl (lv_at hl 1 rfl) ?_
  refine ps_icmp_ge (tgt := 64) (a := j) (b := k) hx hb dX3_isFirst_6 rfl (by omega) (by omega) (fun h6 => ?_) (fun h6 => ?_)
  · skip
    refine lv_iload_n hx hb dX3_isFirst_64 rfl (lv_at hl 2 rfl) ?_
    exact W.zret (v := ps_bi (ps_all (ps_nf (f 3) (f 1) k) j)) hx hb hr (ps_bi_nar _) (fun t ht hW => ⟨ps_bi (ps_all (ps_nf (f 3) (f 1) k) j), rfl, by rw [show j = k by omega], ht⟩) (fun q h => by cases h) dX3_isFirst_65
  · skip
    refine lv_iload_n hx hb dX3_isFirst_9 rfl (lv_at hl 2 rfl) ?_
    refine ps_ifb_eq (tgt := 56) hx hb dX3_isFirst_10 rfl (fun h10 => ?_) (fun h10 => ?_)
    · skip
      refine lv_iconst (v := 0) hx hb dX3_isFirst_56 (by decide) ?_
      refine lv_topi (fun y9 hy9 => ?_)
      obtain rfl : y9 = ps_bi (ps_all (ps_nf (f 3) (f 1) k) (j + 1)) := hy9.trans (ps_bi_f (by first | simp [ps_all, h10]; done | simp [ps_all, ps_nf, h25, h49]))
      refine lv_istore_n (lv' := [(2, .int (ps_bi (ps_all (ps_nf (f 3) (f 1) k) (j + 1)))), (0, .ref w0), (1, .int (nI k)), (3, .int (nI j))]) hx hb dX3_isFirst_57 rfl hl (by decide) rfl (fun ls hl => ?_)
      refine lv_iinc (k := 3) (v := nI (j + 1)) (lv' := [(3, .int (nI (j + 1))), (2, .int (ps_bi (ps_all (ps_nf (f 3) (f 1) k) (j + 1)))), (0, .ref w0), (1, .int (nI k))]) hx hb dX3_isFirst_58 hl rfl (ps_inc _) (by decide) rfl (fun ls hl => ?_)
      refine lv_goto (tgt := 4) hx hb dX3_isFirst_61 rfl ?_
      exact ih4 ((j + 1)) ls (by omega) ⟨by omega, lv_sub hl [2, 3, 1, 0] rfl⟩
    · skip
      refine lv_aload_n hx hb dX3_isFirst_13 rfl (lv_at hl 0 rfl) ?_
      refine va_get (D := (dC, dI)) (ci := 3) (v := .ref (b0 3)) (C := RX3) (T := TX3) (N := 17) hx hb hT inX3 hown hK hP 0 rfl rfl 5 (by decide) (hT _ tw_fl_X3_19) (fun _ h9 => h9) rfl dX3_isFirst_14 ?_
      refine lv_iload_n hx hb dX3_isFirst_17 rfl (lv_at hl 3 rfl) ?_
      refine ps_iald (k := j) (f := f 3) hx hb hK hP 4 0 rfl rfl (by omega) (by decide) dX3_isFirst_18 ?_
      refine lv_aload_n hx hb dX3_isFirst_19 rfl (lv_at hl 0 rfl) ?_
      refine va_get (D := (dC, dI)) (ci := 3) (v := .ref (b0 3)) (C := RX3) (T := TX3) (N := 17) hx hb hT inX3 hown hK hP 0 rfl rfl 5 (by decide) (hT _ tw_fl_X3_19) (fun _ h9 => h9) rfl dX3_isFirst_20 ?_
      refine lv_iload_n hx hb dX3_isFirst_23 rfl (lv_at hl 1 rfl) ?_
      refine ps_iald (k := k) (f := f 3) hx hb hK hP 4 0 rfl rfl (by omega) (by decide) dX3_isFirst_24 ?_
      refine lv_icmp_ne (tgt := 52) hx hb dX3_isFirst_25 rfl (fun h25 => ?_) (fun h25 => ?_)
      · skip
        refine lv_iconst (v := 1) hx hb dX3_isFirst_52 (by decide) ?_
        refine lv_topi (fun y9 hy9 => ?_)
        obtain rfl : y9 = ps_bi (ps_all (ps_nf (f 3) (f 1) k) (j + 1)) := hy9.trans (ps_bi_t (by first | (simp [ps_all, ps_nf, h10, h25]; done) | simp [ps_all, ps_nf, h10, h49]))
        refine lv_goto (tgt := 57) hx hb dX3_isFirst_53 rfl ?_
        refine lv_istore_n (lv' := [(2, .int (ps_bi (ps_all (ps_nf (f 3) (f 1) k) (j + 1)))), (0, .ref w0), (1, .int (nI k)), (3, .int (nI j))]) hx hb dX3_isFirst_57 rfl hl (by decide) rfl (fun ls hl => ?_)
        refine lv_iinc (k := 3) (v := nI (j + 1)) (lv' := [(3, .int (nI (j + 1))), (2, .int (ps_bi (ps_all (ps_nf (f 3) (f 1) k) (j + 1)))), (0, .ref w0), (1, .int (nI k))]) hx hb dX3_isFirst_58 hl rfl (ps_inc _) (by decide) rfl (fun ls hl => ?_)
        refine lv_goto (tgt := 4) hx hb dX3_isFirst_61 rfl ?_
        exact ih4 ((j + 1)) ls (by omega) ⟨by omega, lv_sub hl [2, 3, 1, 0] rfl⟩
      · skip
        refine lv_aload_n hx hb dX3_isFirst_28 rfl (lv_at hl 0 rfl) ?_
        refine va_get (D := (dC, dI)) (ci := 3) (v := .ref (b0 1)) (C := RX3) (T := TX3) (N := 17) hx hb hT inX3 hown hK hP 0 rfl rfl 3 (by decide) (hT _ tw_fl_X3_13) (fun _ h9 => h9) rfl dX3_isFirst_29 ?_
        refine lv_iload_n hx hb dX3_isFirst_32 rfl (lv_at hl 3 rfl) ?_
        refine ps_iald (k := j) (f := f 1) hx hb hK hP 2 0 rfl rfl (by omega) (by decide) dX3_isFirst_33 ?_
        refine lv_aload_n hx hb dX3_isFirst_34 rfl (lv_at hl 0 rfl) ?_
        refine va_get (D := (dC, dI)) (ci := 3) (v := .ref (b0 1)) (C := RX3) (T := TX3) (N := 17) hx hb hT inX3 hown hK hP 0 rfl rfl 3 (by decide) (hT _ tw_fl_X3_13) (fun _ h9 => h9) rfl dX3_isFirst_35 ?_
        refine lv_iload_n hx hb dX3_isFirst_38 rfl (lv_at hl 1 rfl) ?_
        refine ps_iald (k := k) (f := f 1) hx hb hK hP 2 0 rfl rfl (by omega) (by decide) dX3_isFirst_39 ?_
        refine lv_aload_n hx hb dX3_isFirst_40 rfl (lv_at hl 0 rfl) ?_
        refine va_get (D := (dC, dI)) (ci := 3) (v := .ref (b0 3)) (C := RX3) (T := TX3) (N := 17) hx hb hT inX3 hown hK hP 0 rfl rfl 5 (by decide) (hT _ tw_fl_X3_19) (fun _ h9 => h9) rfl dX3_isFirst_41 ?_
        refine lv_iload_n hx hb dX3_isFirst_44 rfl (lv_at hl 1 rfl) ?_
        refine ps_iald (k := k) (f := f 3) hx hb hK hP 4 0 rfl rfl (by omega) (by decide) dX3_isFirst_45 ?_
        refine vp_callSi (va_Run.run (va_runS (As := [.int (f 1 j), .int (f 1 k), .int (f 3 k)]) (rest := []) ⟨hx, hb, hml, hown, hT⟩ (mX3_isOne l (f 1 j) (f 1 k) (f 3 k)) (va_cwS 3 hT (ps_gS tw_ml_X3_66 tw_st_X3_isOne tw_in_X3 tw_co_X3_isOne) rfl rfl rfl ⟨by decide, by decide, by decide +kernel⟩ ⟨Nat.le_of_ble_eq_true rfl, Nat.le_of_ble_eq_true rfl⟩) preEq rfl rfl hl.1 rfl (lv_room (Nat.le_of_ble_eq_true rfl)) dX3_isFirst_46 ⟨Nat.le_of_ble_eq_true rfl, Nat.le_of_ble_eq_true rfl⟩)) (fun r hr => ?_)
        obtain rfl : r = ps_bi (ps_mo (f 1 j) (f 1 k) (f 3 k)) := hr
        refine ps_ifb_ne (tgt := 56) hx hb dX3_isFirst_49 rfl (fun h49 => ?_) (fun h49 => ?_)
        · skip
          refine lv_iconst (v := 0) hx hb dX3_isFirst_56 (by decide) ?_
          refine lv_topi (fun y9 hy9 => ?_)
          obtain rfl : y9 = ps_bi (ps_all (ps_nf (f 3) (f 1) k) (j + 1)) := hy9.trans (ps_bi_f (by first | simp [ps_all, h10]; done | simp [ps_all, ps_nf, h25, h49]))
          refine lv_istore_n (lv' := [(2, .int (ps_bi (ps_all (ps_nf (f 3) (f 1) k) (j + 1)))), (0, .ref w0), (1, .int (nI k)), (3, .int (nI j))]) hx hb dX3_isFirst_57 rfl hl (by decide) rfl (fun ls hl => ?_)
          refine lv_iinc (k := 3) (v := nI (j + 1)) (lv' := [(3, .int (nI (j + 1))), (2, .int (ps_bi (ps_all (ps_nf (f 3) (f 1) k) (j + 1)))), (0, .ref w0), (1, .int (nI k))]) hx hb dX3_isFirst_58 hl rfl (ps_inc _) (by decide) rfl (fun ls hl => ?_)
          refine lv_goto (tgt := 4) hx hb dX3_isFirst_61 rfl ?_
          exact ih4 ((j + 1)) ls (by omega) ⟨by omega, lv_sub hl [2, 3, 1, 0] rfl⟩
        · skip
          refine lv_iconst (v := 1) hx hb dX3_isFirst_52 (by decide) ?_
          refine lv_topi (fun y9 hy9 => ?_)
          obtain rfl : y9 = ps_bi (ps_all (ps_nf (f 3) (f 1) k) (j + 1)) := hy9.trans (ps_bi_t (by first | (simp [ps_all, ps_nf, h10, h25]; done) | simp [ps_all, ps_nf, h10, h49]))
          refine lv_goto (tgt := 57) hx hb dX3_isFirst_53 rfl ?_
          refine lv_istore_n (lv' := [(2, .int (ps_bi (ps_all (ps_nf (f 3) (f 1) k) (j + 1)))), (0, .ref w0), (1, .int (nI k)), (3, .int (nI j))]) hx hb dX3_isFirst_57 rfl hl (by decide) rfl (fun ls hl => ?_)
          refine lv_iinc (k := 3) (v := nI (j + 1)) (lv' := [(3, .int (nI (j + 1))), (2, .int (ps_bi (ps_all (ps_nf (f 3) (f 1) k) (j + 1)))), (0, .ref w0), (1, .int (nI k))]) hx hb dX3_isFirst_58 hl rfl (ps_inc _) (by decide) rfl (fun ls hl => ?_)
          refine lv_goto (tgt := 4) hx hb dX3_isFirst_61 rfl ?_
          exact ih4 ((j + 1)) ls (by omega) ⟨by omega, lv_sub hl [2, 3, 1, 0] rfl⟩
set_option maxHeartbeats 4000000 in
set_option maxRecDepth 100000 in
theorem mX3_isFirstKept (l : Launch) (dC : Nat → ClassId) (dI : Nat → Nat → Nat) (cI cZ : ClassId) (w0 : Nat) (b0 : Nat → Nat) (th : Int32) (mn kn : Nat) (co : Int32) (ln : Nat) (wr lt : Int32) (f : ps_G) (k : Nat) (hk : k < 48) : Met l yX3_isFirstKept (.code yX3_isFirstKept cX3_isFirstKept 4 (some .boolean) :: ps_T) ({ frames := 2, cells := 0, slots := 0, locals := 44 }) (ps_pc (dC, dI) (ps_ty cI cZ) (ps_mdW cI cZ w0 b0 th mn kn co ln wr lt f) [.ref w0, .int (nI k)]) (vp_Si (fun r => r = ps_bi (ps_all (ps_nf (f 7) (f 5) k) k))) 0 0 (fun _ => False) := by
  refine Met.ofW (cc := cX3_isFirstKept) (maxL := 4) (ret := (some .boolean)) (by decide) rfl ?_
  intro p e s m args below meth c s₁ B hml hv
  obtain ⟨rfl, hN, hP, hK⟩ := hv
  have hx := B.exec
  have hb := B.bytes
  have hr := B.returns
  have hlocks := B.notSynchronized
  have hT : ∀ w ∈ ps_T, w.before ([.ref w0, .int (nI k)] : List Value).toArray s = true := fun w h => atoms_spec (ws := (.code yX3_isFirstKept cX3_isFirstKept 4 (some .boolean) :: ps_T)) B.pre w (List.mem_cons_of_mem _ h)
  have hown : s.vm.findClass RX3 = some m.cls := findClass_of_methodNamed B.named
  have hl := lv_entry ([.ref w0, .int (nI k)]) (n := 4) (Nat.le_of_ble_eq_true rfl)
  rw [lg_entry_eq]
  generalize (lg_sl ([.ref w0, .int (nI k)]) ++ List.replicate (4 - (lg_sl ([.ref w0, .int (nI k)])).length) Slot.unset).toArray = ls at hl ⊢
  have hl : lv_has ls 4 [(0, .ref w0), (1, .int (nI k))] := hl
  refine lv_iconst (v := 1) hx hb dX3_isFirstKept_0 (by decide) ?_
  refine lv_istore_n (lv' := [(2, .int 1), (0, .ref w0), (1, .int (nI k))]) hx hb dX3_isFirstKept_1 rfl hl (by decide) rfl (fun ls hl => ?_)
  refine lv_iconst (v := 0) hx hb dX3_isFirstKept_2 (by decide) ?_
  refine lv_istore_n (lv' := [(3, .int 0), (2, .int 1), (0, .ref w0), (1, .int (nI k))]) hx hb dX3_isFirstKept_3 rfl hl (by decide) rfl (fun ls hl => ?_)
  have hl : lv_has ls 4 [(3, .int (nI 0)), (2, .int (ps_bi (ps_all (ps_nf (f 7) (f 5) k) 0))), (0, .ref w0), (1, .int (nI k))] := hl
  refine ps_loopS (α := Nat) (fun j => k - j) (fun j ls => (j ≤ k) ∧ lv_has ls 4 [(0, .ref w0), (1, .int (nI k)), (2, .int (ps_bi (ps_all (ps_nf (f 7) (f 5) k) j))), (3, .int (nI j))]) ?_ 0 ls ⟨by omega, lv_sub hl [2, 3, 1, 0] rfl⟩
  intro j ls ih4 hI
  obtain ⟨hj, hl⟩ := hI
  refine lv_iload_n hx hb dX3_isFirstKept_4 rfl (lv_at hl 3 rfl) ?_
  refine lv_iload_n hx hb dX3_isFirstKept_5 rfl (lv_at hl 1 rfl) ?_
  refine ps_icmp_ge (tgt := 64) (a := j) (b := k) hx hb dX3_isFirstKept_6 rfl (by omega) (by omega) (fun h6 => ?_) (fun h6 => ?_)
  · skip
    refine lv_iload_n hx hb dX3_isFirstKept_64 rfl (lv_at hl 2 rfl) ?_
    exact W.zret (v := ps_bi (ps_all (ps_nf (f 7) (f 5) k) j)) hx hb hr (ps_bi_nar _) (fun t ht hW => ⟨ps_bi (ps_all (ps_nf (f 7) (f 5) k) j), rfl, by rw [show j = k by omega], ht⟩) (fun q h => by cases h) dX3_isFirstKept_65
  · skip
    refine lv_iload_n hx hb dX3_isFirstKept_9 rfl (lv_at hl 2 rfl) ?_
    refine ps_ifb_eq (tgt := 56) hx hb dX3_isFirstKept_10 rfl (fun h10 => ?_) (fun h10 => ?_)
    · skip
      refine lv_iconst (v := 0) hx hb dX3_isFirstKept_56 (by decide) ?_
      refine lv_topi (fun y9 hy9 => ?_)
      obtain rfl : y9 = ps_bi (ps_all (ps_nf (f 7) (f 5) k) (j + 1)) := hy9.trans (ps_bi_f (by first | simp [ps_all, h10]; done | simp [ps_all, ps_nf, h25, h49]))
      refine lv_istore_n (lv' := [(2, .int (ps_bi (ps_all (ps_nf (f 7) (f 5) k) (j + 1)))), (0, .ref w0), (1, .int (nI k)), (3, .int (nI j))]) hx hb dX3_isFirstKept_57 rfl hl (by decide) rfl (fun ls hl => ?_)
      refine lv_iinc (k := 3) (v := nI (j + 1)) (lv' := [(3, .int (nI (j + 1))), (2, .int (ps_bi (ps_all (ps_nf (f 7) (f 5) k) (j + 1)))), (0, .ref w0), (1, .int (nI k))]) hx hb dX3_isFirstKept_58 hl rfl (ps_inc _) (by decide) rfl (fun ls hl => ?_)
      refine lv_goto (tgt := 4) hx hb dX3_isFirstKept_61 rfl ?_
      exact ih4 ((j + 1)) ls (by omega) ⟨by omega, lv_sub hl [2, 3, 1, 0] rfl⟩
    · skip
      refine lv_aload_n hx hb dX3_isFirstKept_13 rfl (lv_at hl 0 rfl) ?_
      refine va_get (D := (dC, dI)) (ci := 3) (v := .ref (b0 7)) (C := RX3) (T := TX3) (N := 17) hx hb hT inX3 hown hK hP 0 rfl rfl 10 (by decide) (hT _ tw_fl_X3_31) (fun _ h9 => h9) rfl dX3_isFirstKept_14 ?_
      refine lv_iload_n hx hb dX3_isFirstKept_17 rfl (lv_at hl 3 rfl) ?_
      refine ps_iald (k := j) (f := f 7) hx hb hK hP 8 0 rfl rfl (by omega) (by decide) dX3_isFirstKept_18 ?_
      refine lv_aload_n hx hb dX3_isFirstKept_19 rfl (lv_at hl 0 rfl) ?_
      refine va_get (D := (dC, dI)) (ci := 3) (v := .ref (b0 7)) (C := RX3) (T := TX3) (N := 17) hx hb hT inX3 hown hK hP 0 rfl rfl 10 (by decide) (hT _ tw_fl_X3_31) (fun _ h9 => h9) rfl dX3_isFirstKept_20 ?_
      refine lv_iload_n hx hb dX3_isFirstKept_23 rfl (lv_at hl 1 rfl) ?_
      refine ps_iald (k := k) (f := f 7) hx hb hK hP 8 0 rfl rfl (by omega) (by decide) dX3_isFirstKept_24 ?_
      refine lv_icmp_ne (tgt := 52) hx hb dX3_isFirstKept_25 rfl (fun h25 => ?_) (fun h25 => ?_)
      · skip
        refine lv_iconst (v := 1) hx hb dX3_isFirstKept_52 (by decide) ?_
        refine lv_topi (fun y9 hy9 => ?_)
        obtain rfl : y9 = ps_bi (ps_all (ps_nf (f 7) (f 5) k) (j + 1)) := hy9.trans (ps_bi_t (by first | (simp [ps_all, ps_nf, h10, h25]; done) | simp [ps_all, ps_nf, h10, h49]))
        refine lv_goto (tgt := 57) hx hb dX3_isFirstKept_53 rfl ?_
        refine lv_istore_n (lv' := [(2, .int (ps_bi (ps_all (ps_nf (f 7) (f 5) k) (j + 1)))), (0, .ref w0), (1, .int (nI k)), (3, .int (nI j))]) hx hb dX3_isFirstKept_57 rfl hl (by decide) rfl (fun ls hl => ?_)
        refine lv_iinc (k := 3) (v := nI (j + 1)) (lv' := [(3, .int (nI (j + 1))), (2, .int (ps_bi (ps_all (ps_nf (f 7) (f 5) k) (j + 1)))), (0, .ref w0), (1, .int (nI k))]) hx hb dX3_isFirstKept_58 hl rfl (ps_inc _) (by decide) rfl (fun ls hl => ?_)
        refine lv_goto (tgt := 4) hx hb dX3_isFirstKept_61 rfl ?_
        exact ih4 ((j + 1)) ls (by omega) ⟨by omega, lv_sub hl [2, 3, 1, 0] rfl⟩
      · skip
        refine lv_aload_n hx hb dX3_isFirstKept_28 rfl (lv_at hl 0 rfl) ?_
        refine va_get (D := (dC, dI)) (ci := 3) (v := .ref (b0 5)) (C := RX3) (T := TX3) (N := 17) hx hb hT inX3 hown hK hP 0 rfl rfl 8 (by decide) (hT _ tw_fl_X3_25) (fun _ h9 => h9) rfl dX3_isFirstKept_29 ?_
        refine lv_iload_n hx hb dX3_isFirstKept_32 rfl (lv_at hl 3 rfl) ?_
        refine ps_iald (k := j) (f := f 5) hx hb hK hP 6 0 rfl rfl (by omega) (by decide) dX3_isFirstKept_33 ?_
        refine lv_aload_n hx hb dX3_isFirstKept_34 rfl (lv_at hl 0 rfl) ?_
        refine va_get (D := (dC, dI)) (ci := 3) (v := .ref (b0 5)) (C := RX3) (T := TX3) (N := 17) hx hb hT inX3 hown hK hP 0 rfl rfl 8 (by decide) (hT _ tw_fl_X3_25) (fun _ h9 => h9) rfl dX3_isFirstKept_35 ?_
        refine lv_iload_n hx hb dX3_isFirstKept_38 rfl (lv_at hl 1 rfl) ?_
        refine ps_iald (k := k) (f := f 5) hx hb hK hP 6 0 rfl rfl (by omega) (by decide) dX3_isFirstKept_39 ?_
        refine lv_aload_n hx hb dX3_isFirstKept_40 rfl (lv_at hl 0 rfl) ?_
        refine va_get (D := (dC, dI)) (ci := 3) (v := .ref (b0 7)) (C := RX3) (T := TX3) (N := 17) hx hb hT inX3 hown hK hP 0 rfl rfl 10 (by decide) (hT _ tw_fl_X3_31) (fun _ h9 => h9) rfl dX3_isFirstKept_41 ?_
        refine lv_iload_n hx hb dX3_isFirstKept_44 rfl (lv_at hl 1 rfl) ?_
        refine ps_iald (k := k) (f := f 7) hx hb hK hP 8 0 rfl rfl (by omega) (by decide) dX3_isFirstKept_45 ?_
        refine vp_callSi (va_Run.run (va_runS (As := [.int (f 5 j), .int (f 5 k), .int (f 7 k)]) (rest := []) ⟨hx, hb, hml, hown, hT⟩ (mX3_isOne l (f 5 j) (f 5 k) (f 7 k)) (va_cwS 3 hT (ps_gS tw_ml_X3_66 tw_st_X3_isOne tw_in_X3 tw_co_X3_isOne) rfl rfl rfl ⟨by decide, by decide, by decide +kernel⟩ ⟨Nat.le_of_ble_eq_true rfl, Nat.le_of_ble_eq_true rfl⟩) preEq rfl rfl hl.1 rfl (lv_room (Nat.le_of_ble_eq_true rfl)) dX3_isFirstKept_46 ⟨Nat.le_of_ble_eq_true rfl, Nat.le_of_ble_eq_true rfl⟩)) (fun r hr => ?_)
        obtain rfl : r = ps_bi (ps_mo (f 5 j) (f 5 k) (f 7 k)) := hr
        refine ps_ifb_ne (tgt := 56) hx hb dX3_isFirstKept_49 rfl (fun h49 => ?_) (fun h49 => ?_)
        · skip
          refine lv_iconst (v := 0) hx hb dX3_isFirstKept_56 (by decide) ?_
          refine lv_topi (fun y9 hy9 => ?_)
          obtain rfl : y9 = ps_bi (ps_all (ps_nf (f 7) (f 5) k) (j + 1)) := hy9.trans (ps_bi_f (by first | simp [ps_all, h10]; done | simp [ps_all, ps_nf, h25, h49]))
          refine lv_istore_n (lv' := [(2, .int (ps_bi (ps_all (ps_nf (f 7) (f 5) k) (j + 1)))), (0, .ref w0), (1, .int (nI k)), (3, .int (nI j))]) hx hb dX3_isFirstKept_57 rfl hl (by decide) rfl (fun ls hl => ?_)
          refine lv_iinc (k := 3) (v := nI (j + 1)) (lv' := [(3, .int (nI (j + 1))), (2, .int (ps_bi (ps_all (ps_nf (f 7) (f 5) k) (j + 1)))), (0, .ref w0), (1, .int (nI k))]) hx hb dX3_isFirstKept_58 hl rfl (ps_inc _) (by decide) rfl (fun ls hl => ?_)
          refine lv_goto (tgt := 4) hx hb dX3_isFirstKept_61 rfl ?_
          exact ih4 ((j + 1)) ls (by omega) ⟨by omega, lv_sub hl [2, 3, 1, 0] rfl⟩
        · skip
          refine lv_iconst (v := 1) hx hb dX3_isFirstKept_52 (by decide) ?_
          refine lv_topi (fun y9 hy9 => ?_)
          obtain rfl : y9 = ps_bi (ps_all (ps_nf (f 7) (f 5) k) (j + 1)) := hy9.trans (ps_bi_t (by first | (simp [ps_all, ps_nf, h10, h25]; done) | simp [ps_all, ps_nf, h10, h49]))
          refine lv_goto (tgt := 57) hx hb dX3_isFirstKept_53 rfl ?_
          refine lv_istore_n (lv' := [(2, .int (ps_bi (ps_all (ps_nf (f 7) (f 5) k) (j + 1)))), (0, .ref w0), (1, .int (nI k)), (3, .int (nI j))]) hx hb dX3_isFirstKept_57 rfl hl (by decide) rfl (fun ls hl => ?_)
          refine lv_iinc (k := 3) (v := nI (j + 1)) (lv' := [(3, .int (nI (j + 1))), (2, .int (ps_bi (ps_all (ps_nf (f 7) (f 5) k) (j + 1)))), (0, .ref w0), (1, .int (nI k))]) hx hb dX3_isFirstKept_58 hl rfl (ps_inc _) (by decide) rfl (fun ls hl => ?_)
          refine lv_goto (tgt := 4) hx hb dX3_isFirstKept_61 rfl ?_
          exact ih4 ((j + 1)) ls (by omega) ⟨by omega, lv_sub hl [2, 3, 1, 0] rfl⟩
set_option maxHeartbeats 4000000 in
set_option maxRecDepth 100000 in
theorem mX3_isIn (l : Launch) (dC : Nat → ClassId) (dI : Nat → Nat → Nat) (cI cZ : ClassId) (w0 : Nat) (b0 : Nat → Nat) (th : Int32) (mn kn : Nat) (co : Int32) (ln : Nat) (wr lt : Int32) (f : ps_G) (k : Nat) (hk : k < 48) (p9 : Int32) : Met l yX3_isIn (.code yX3_isIn cX3_isIn 5 (some .boolean) :: ps_T) ({ frames := 1, cells := 0, slots := 0, locals := 22 }) (ps_pc (dC, dI) (ps_ty cI cZ) (ps_mdW cI cZ w0 b0 th mn kn co ln wr lt f) [.ref w0, .int (nI k), .int p9]) (vp_Si (fun r => r = ps_bi (ps_all (ps_iq f co p9 k) 3))) 0 0 (fun _ => False) := by
  refine Met.ofW (cc := cX3_isIn) (maxL := 5) (ret := (some .boolean)) (by decide) rfl ?_
  intro p e s m args below meth c s₁ B hml hv
  obtain ⟨rfl, hN, hP, hK⟩ := hv
  have hx := B.exec
  have hb := B.bytes
  have hr := B.returns
  have hlocks := B.notSynchronized
  have hT : ∀ w ∈ ps_T, w.before ([.ref w0, .int (nI k), .int p9] : List Value).toArray s = true := fun w h => atoms_spec (ws := (.code yX3_isIn cX3_isIn 5 (some .boolean) :: ps_T)) B.pre w (List.mem_cons_of_mem _ h)
  have hown : s.vm.findClass RX3 = some m.cls := findClass_of_methodNamed B.named
  have hl := lv_entry ([.ref w0, .int (nI k), .int p9]) (n := 5) (Nat.le_of_ble_eq_true rfl)
  rw [lg_entry_eq]
  generalize (lg_sl ([.ref w0, .int (nI k), .int p9]) ++ List.replicate (5 - (lg_sl ([.ref w0, .int (nI k), .int p9])).length) Slot.unset).toArray = ls at hl ⊢
  have hl : lv_has ls 5 [(0, .ref w0), (1, .int (nI k)), (2, .int p9)] := hl
  refine lv_iconst (v := 1) hx hb dX3_isIn_0 (by decide) ?_
  refine lv_istore_n (lv' := [(3, .int 1), (0, .ref w0), (1, .int (nI k)), (2, .int p9)]) hx hb dX3_isIn_1 rfl hl (by decide) rfl (fun ls hl => ?_)
  refine lv_iconst (v := 0) hx hb dX3_isIn_2 (by decide) ?_
  refine lv_istore (lv' := [(4, .int 0), (3, .int 1), (0, .ref w0), (1, .int (nI k)), (2, .int p9)]) hx hb dX3_isIn_3 hl (by decide) rfl (fun ls hl => ?_)
  have hl : lv_has ls 5 [(4, .int (nI 0)), (3, .int (ps_bi (ps_all (ps_iq f co p9 k) 0))), (0, .ref w0), (1, .int (nI k)), (2, .int p9)] := hl
  refine ps_loopS (α := Nat) (fun j => 3 - j) (fun j ls => (j ≤ 3) ∧ lv_has ls 5 [(0, .ref w0), (1, .int (nI k)), (2, .int p9), (3, .int (ps_bi (ps_all (ps_iq f co p9 k) j))), (4, .int (nI j))]) ?_ 0 ls ⟨by omega, lv_sub hl [2, 3, 4, 1, 0] rfl⟩
  intro j ls ih5 hI
  obtain ⟨hj, hl⟩ := hI
  refine lv_iload hx hb dX3_isIn_5 (lv_at hl 4 rfl) ?_
  refine lv_iconst (v := 3) hx hb dX3_isIn_7 (by decide) ?_
  refine ps_icmp_ge (tgt := 59) (a := j) (b := 3) hx hb dX3_isIn_8 rfl (by omega) (by omega) (fun h8 => ?_) (fun h8 => ?_)
  · skip
    refine lv_iload_n hx hb dX3_isIn_59 rfl (lv_at hl 3 rfl) ?_
    exact W.zret (v := ps_bi (ps_all (ps_iq f co p9 k) j)) hx hb hr (ps_bi_nar _) (fun t ht hW => ⟨ps_bi (ps_all (ps_iq f co p9 k) j), rfl, by rw [show j = 3 by omega], ht⟩) (fun q h => by cases h) dX3_isIn_60
  · skip
    refine lv_iload_n hx hb dX3_isIn_11 rfl (lv_at hl 3 rfl) ?_
    refine ps_ifb_eq (tgt := 51) hx hb dX3_isIn_12 rfl (fun h12 => ?_) (fun h12 => ?_)
    · skip
      refine lv_iconst (v := 0) hx hb dX3_isIn_51 (by decide) ?_
      refine lv_topi (fun y9 hy9 => ?_)
      obtain rfl : y9 = ps_bi (ps_all (ps_iq f co p9 k) (j + 1)) := hy9.trans (ps_bi_f (by first | simp [ps_all, h12]; done | simp [ps_all, ps_iq, h44]))
      refine lv_istore_n (lv' := [(3, .int (ps_bi (ps_all (ps_iq f co p9 k) (j + 1)))), (0, .ref w0), (1, .int (nI k)), (2, .int p9), (4, .int (nI j))]) hx hb dX3_isIn_52 rfl hl (by decide) rfl (fun ls hl => ?_)
      refine lv_iinc (k := 4) (v := nI (j + 1)) (lv' := [(4, .int (nI (j + 1))), (3, .int (ps_bi (ps_all (ps_iq f co p9 k) (j + 1)))), (0, .ref w0), (1, .int (nI k)), (2, .int p9)]) hx hb dX3_isIn_53 hl rfl (ps_inc _) (by decide) rfl (fun ls hl => ?_)
      refine lv_goto (tgt := 5) hx hb dX3_isIn_56 rfl ?_
      exact ih5 ((j + 1)) ls (by omega) ⟨by omega, lv_sub hl [2, 3, 4, 1, 0] rfl⟩
    · skip
      refine lv_aload_n hx hb dX3_isIn_15 rfl (lv_at hl 0 rfl) ?_
      refine va_get (D := (dC, dI)) (ci := 3) (v := .ref (b0 1)) (C := RX3) (T := TX3) (N := 17) hx hb hT inX3 hown hK hP 0 rfl rfl 3 (by decide) (hT _ tw_fl_X3_13) (fun _ h9 => h9) rfl dX3_isIn_16 ?_
      refine lv_iload_n hx hb dX3_isIn_19 rfl (lv_at hl 1 rfl) ?_
      refine ps_iald (k := k) (f := f 1) hx hb hK hP 2 0 rfl rfl (by omega) (by decide) dX3_isIn_20 ?_
      refine lv_iload hx hb dX3_isIn_21 (lv_at hl 4 rfl) ?_
      refine vp_callSi (va_Run.run (va_runS (As := [.int (f 1 k), .int (nI j)]) (rest := []) ⟨hx, hb, hml, hown, hT⟩ (mX3_axis l (f 1 k) (nI j)) (va_cwS 2 hT (ps_gS tw_ml_X3_62 tw_st_X3_axis tw_in_X3 tw_co_X3_axis) rfl rfl rfl ⟨by decide, by decide, by decide +kernel⟩ ⟨Nat.le_of_ble_eq_true rfl, Nat.le_of_ble_eq_true rfl⟩) preEq rfl rfl hl.1 rfl (lv_room (Nat.le_of_ble_eq_true rfl)) dX3_isIn_23 ⟨Nat.le_of_ble_eq_true rfl, Nat.le_of_ble_eq_true rfl⟩)) (fun r hr => ?_)
      obtain rfl : r = ps_ax (f 1 k) (nI j) := hr
      refine lv_aload_n hx hb dX3_isIn_26 rfl (lv_at hl 0 rfl) ?_
      refine va_get (D := (dC, dI)) (ci := 3) (v := .int co) (C := RX3) (T := TX3) (N := 17) hx hb hT inX3 hown hK hP 0 rfl rfl 12 (by decide) (hT _ tw_fl_X3_93) (fun _ h9 => h9) rfl dX3_isIn_27 ?_
      refine lv_iload hx hb dX3_isIn_30 (lv_at hl 4 rfl) ?_
      refine vp_callSi (va_Run.run (va_runS (As := [.int co, .int (nI j)]) (rest := [.int (ps_ax (f 1 k) (nI j))]) ⟨hx, hb, hml, hown, hT⟩ (mX3_axis l co (nI j)) (va_cwS 2 hT (ps_gS tw_ml_X3_62 tw_st_X3_axis tw_in_X3 tw_co_X3_axis) rfl rfl rfl ⟨by decide, by decide, by decide +kernel⟩ ⟨Nat.le_of_ble_eq_true rfl, Nat.le_of_ble_eq_true rfl⟩) preEq rfl rfl hl.1 rfl (lv_room (Nat.le_of_ble_eq_true rfl)) dX3_isIn_32 ⟨Nat.le_of_ble_eq_true rfl, Nat.le_of_ble_eq_true rfl⟩)) (fun r hr => ?_)
      obtain rfl : r = ps_ax co (nI j) := hr
      refine lv_iload_n hx hb dX3_isIn_35 rfl (lv_at hl 2 rfl) ?_
      refine lv_iload hx hb dX3_isIn_36 (lv_at hl 4 rfl) ?_
      refine vp_callSi (va_Run.run (va_runS (As := [.int p9, .int (nI j)]) (rest := [.int (ps_ax co (nI j)), .int (ps_ax (f 1 k) (nI j))]) ⟨hx, hb, hml, hown, hT⟩ (mX3_axis l p9 (nI j)) (va_cwS 2 hT (ps_gS tw_ml_X3_62 tw_st_X3_axis tw_in_X3 tw_co_X3_axis) rfl rfl rfl ⟨by decide, by decide, by decide +kernel⟩ ⟨Nat.le_of_ble_eq_true rfl, Nat.le_of_ble_eq_true rfl⟩) preEq rfl rfl hl.1 rfl (lv_room (Nat.le_of_ble_eq_true rfl)) dX3_isIn_38 ⟨Nat.le_of_ble_eq_true rfl, Nat.le_of_ble_eq_true rfl⟩)) (fun r hr => ?_)
      obtain rfl : r = ps_ax p9 (nI j) := hr
      refine vp_callSi (va_Run.run (va_runS (As := [.int (ps_ax (f 1 k) (nI j)), .int (ps_ax co (nI j)), .int (ps_ax p9 (nI j))]) (rest := []) ⟨hx, hb, hml, hown, hT⟩ (mX3_between l (ps_ax (f 1 k) (nI j)) (ps_ax co (nI j)) (ps_ax p9 (nI j))) (va_cwS 3 hT (ps_gS tw_ml_X3_96 tw_st_X3_between tw_in_X3 tw_co_X3_between) rfl rfl rfl ⟨by decide, by decide, by decide +kernel⟩ ⟨Nat.le_of_ble_eq_true rfl, Nat.le_of_ble_eq_true rfl⟩) preEq rfl rfl hl.1 rfl (lv_room (Nat.le_of_ble_eq_true rfl)) dX3_isIn_41 ⟨Nat.le_of_ble_eq_true rfl, Nat.le_of_ble_eq_true rfl⟩)) (fun r hr => ?_)
      obtain rfl : r = ps_bi (ps_bw (ps_ax (f 1 k) (nI j)) (ps_ax co (nI j)) (ps_ax p9 (nI j))) := hr
      refine ps_ifb_eq (tgt := 51) hx hb dX3_isIn_44 rfl (fun h44 => ?_) (fun h44 => ?_)
      · skip
        refine lv_iconst (v := 0) hx hb dX3_isIn_51 (by decide) ?_
        refine lv_topi (fun y9 hy9 => ?_)
        obtain rfl : y9 = ps_bi (ps_all (ps_iq f co p9 k) (j + 1)) := hy9.trans (ps_bi_f (by first | simp [ps_all, h12]; done | simp [ps_all, ps_iq, h44]))
        refine lv_istore_n (lv' := [(3, .int (ps_bi (ps_all (ps_iq f co p9 k) (j + 1)))), (0, .ref w0), (1, .int (nI k)), (2, .int p9), (4, .int (nI j))]) hx hb dX3_isIn_52 rfl hl (by decide) rfl (fun ls hl => ?_)
        refine lv_iinc (k := 4) (v := nI (j + 1)) (lv' := [(4, .int (nI (j + 1))), (3, .int (ps_bi (ps_all (ps_iq f co p9 k) (j + 1)))), (0, .ref w0), (1, .int (nI k)), (2, .int p9)]) hx hb dX3_isIn_53 hl rfl (ps_inc _) (by decide) rfl (fun ls hl => ?_)
        refine lv_goto (tgt := 5) hx hb dX3_isIn_56 rfl ?_
        exact ih5 ((j + 1)) ls (by omega) ⟨by omega, lv_sub hl [2, 3, 4, 1, 0] rfl⟩
      · skip
        refine lv_iconst (v := 1) hx hb dX3_isIn_47 (by decide) ?_
        refine lv_topi (fun y9 hy9 => ?_)
        obtain rfl : y9 = ps_bi (ps_all (ps_iq f co p9 k) (j + 1)) := hy9.trans (ps_bi_t (by simp [ps_all, ps_iq, h12, h44]))
        refine lv_goto (tgt := 52) hx hb dX3_isIn_48 rfl ?_
        refine lv_istore_n (lv' := [(3, .int (ps_bi (ps_all (ps_iq f co p9 k) (j + 1)))), (0, .ref w0), (1, .int (nI k)), (2, .int p9), (4, .int (nI j))]) hx hb dX3_isIn_52 rfl hl (by decide) rfl (fun ls hl => ?_)
        refine lv_iinc (k := 4) (v := nI (j + 1)) (lv' := [(4, .int (nI (j + 1))), (3, .int (ps_bi (ps_all (ps_iq f co p9 k) (j + 1)))), (0, .ref w0), (1, .int (nI k)), (2, .int p9)]) hx hb dX3_isIn_53 hl rfl (ps_inc _) (by decide) rfl (fun ls hl => ?_)
        refine lv_goto (tgt := 5) hx hb dX3_isIn_56 rfl ?_
        exact ih5 ((j + 1)) ls (by omega) ⟨by omega, lv_sub hl [2, 3, 4, 1, 0] rfl⟩
set_option maxHeartbeats 4000000 in
set_option maxRecDepth 100000 in
theorem mX3_isCommitted (l : Launch) (dC : Nat → ClassId) (dI : Nat → Nat → Nat) (cI cZ : ClassId) (w0 : Nat) (b0 : Nat → Nat) (th : Int32) (mn kn : Nat) (co : Int32) (ln : Nat) (wr lt : Int32) (f : ps_G) (hkn : kn ≤ 48) (k : Nat) (hk : k < 48) : Met l yX3_isCommitted (.code yX3_isCommitted cX3_isCommitted 4 (some .boolean) :: ps_T) ({ frames := 0, cells := 0, slots := 0, locals := 0 }) (ps_pc (dC, dI) (ps_ty cI cZ) (ps_mdW cI cZ w0 b0 th mn kn co ln wr lt f) [.ref w0, .int (nI k)]) (vp_Si (fun r => r = ps_bi (ps_ex (ps_cq f k) kn))) 0 0 (fun _ => False) := by
  refine Met.ofW (cc := cX3_isCommitted) (maxL := 4) (ret := (some .boolean)) (by decide) rfl ?_
  intro p e s m args below meth c s₁ B hml hv
  obtain ⟨rfl, hN, hP, hK⟩ := hv
  have hx := B.exec
  have hb := B.bytes
  have hr := B.returns
  have hlocks := B.notSynchronized
  have hT : ∀ w ∈ ps_T, w.before ([.ref w0, .int (nI k)] : List Value).toArray s = true := fun w h => atoms_spec (ws := (.code yX3_isCommitted cX3_isCommitted 4 (some .boolean) :: ps_T)) B.pre w (List.mem_cons_of_mem _ h)
  have hown : s.vm.findClass RX3 = some m.cls := findClass_of_methodNamed B.named
  have hl := lv_entry ([.ref w0, .int (nI k)]) (n := 4) (Nat.le_of_ble_eq_true rfl)
  rw [lg_entry_eq]
  generalize (lg_sl ([.ref w0, .int (nI k)]) ++ List.replicate (4 - (lg_sl ([.ref w0, .int (nI k)])).length) Slot.unset).toArray = ls at hl ⊢
  have hl : lv_has ls 4 [(0, .ref w0), (1, .int (nI k))] := hl
  refine lv_iconst (v := 0) hx hb dX3_isCommitted_0 (by decide) ?_
  refine lv_istore_n (lv' := [(2, .int 0), (0, .ref w0), (1, .int (nI k))]) hx hb dX3_isCommitted_1 rfl hl (by decide) rfl (fun ls hl => ?_)
  refine lv_iconst (v := 0) hx hb dX3_isCommitted_2 (by decide) ?_
  refine lv_istore_n (lv' := [(3, .int 0), (2, .int 0), (0, .ref w0), (1, .int (nI k))]) hx hb dX3_isCommitted_3 rfl hl (by decide) rfl (fun ls hl => ?_)
  have hl : lv_has ls 4 [(3, .int (nI 0)), (2, .int (ps_bi (ps_ex (ps_cq f k) 0))), (0, .ref w0), (1, .int (nI k))] := hl
  refine ps_loopS (α := Nat) (fun j => kn - j) (fun j ls => (j ≤ kn) ∧ lv_has ls 4 [(0, .ref w0), (1, .int (nI k)), (2, .int (ps_bi (ps_ex (ps_cq f k) j))), (3, .int (nI j))]) ?_ 0 ls ⟨by omega, lv_sub hl [2, 3, 1, 0] rfl⟩
  intro j ls ih4 hI
  obtain ⟨hj, hl⟩ := hI
  refine lv_iload_n hx hb dX3_isCommitted_4 rfl (lv_at hl 3 rfl) ?_
  refine lv_aload_n hx hb dX3_isCommitted_5 rfl (lv_at hl 0 rfl) ?_
  refine va_get (D := (dC, dI)) (ci := 3) (v := .int (nI kn)) (C := RX3) (T := TX3) (N := 17) hx hb hT inX3 hown hK hP 0 rfl rfl 6 (by decide) (hT _ tw_fl_X3_109) (fun _ h9 => h9) rfl dX3_isCommitted_6 ?_
  refine ps_icmp_ge (tgt := 88) (a := j) (b := kn) hx hb dX3_isCommitted_9 rfl (by omega) (by omega) (fun h9 => ?_) (fun h9 => ?_)
  · skip
    refine lv_iload_n hx hb dX3_isCommitted_88 rfl (lv_at hl 2 rfl) ?_
    exact W.zret (v := ps_bi (ps_ex (ps_cq f k) j)) hx hb hr (ps_bi_nar _) (fun t ht hW => ⟨ps_bi (ps_ex (ps_cq f k) j), rfl, by rw [show j = kn by omega], ht⟩) (fun q h => by cases h) dX3_isCommitted_89
  · skip
    refine lv_iload_n hx hb dX3_isCommitted_12 rfl (lv_at hl 2 rfl) ?_
    refine ps_ifb_ne (tgt := 76) hx hb dX3_isCommitted_13 rfl (fun h13 => ?_) (fun h13 => ?_)
    · skip
      refine lv_iconst (v := 1) hx hb dX3_isCommitted_76 (by decide) ?_
      refine lv_topi (fun y9 hy9 => ?_)
      obtain rfl : y9 = ps_bi (ps_ex (ps_cq f k) (j + 1)) := hy9.trans (ps_bi_t (by first | simp [ps_ex, h13]; done | simp [ps_ex, ps_cq, h28, h43, h58, h73]))
      refine lv_goto (tgt := 81) hx hb dX3_isCommitted_77 rfl ?_
      refine lv_istore_n (lv' := [(2, .int (ps_bi (ps_ex (ps_cq f k) (j + 1)))), (0, .ref w0), (1, .int (nI k)), (3, .int (nI j))]) hx hb dX3_isCommitted_81 rfl hl (by decide) rfl (fun ls hl => ?_)
      refine lv_iinc (k := 3) (v := nI (j + 1)) (lv' := [(3, .int (nI (j + 1))), (2, .int (ps_bi (ps_ex (ps_cq f k) (j + 1)))), (0, .ref w0), (1, .int (nI k))]) hx hb dX3_isCommitted_82 hl rfl (ps_inc _) (by decide) rfl (fun ls hl => ?_)
      refine lv_goto (tgt := 4) hx hb dX3_isCommitted_85 rfl ?_
      exact ih4 ((j + 1)) ls (by omega) ⟨by omega, lv_sub hl [2, 3, 1, 0] rfl⟩
    · skip
      refine lv_aload_n hx hb dX3_isCommitted_16 rfl (lv_at hl 0 rfl) ?_
      refine va_get (D := (dC, dI)) (ci := 3) (v := .ref (b0 4)) (C := RX3) (T := TX3) (N := 17) hx hb hT inX3 hown hK hP 0 rfl rfl 7 (by decide) (hT _ tw_fl_X3_22) (fun _ h9 => h9) rfl dX3_isCommitted_17 ?_
      refine lv_iload_n hx hb dX3_isCommitted_20 rfl (lv_at hl 3 rfl) ?_
      refine ps_iald (k := j) (f := f 4) hx hb hK hP 5 0 rfl rfl (by omega) (by decide) dX3_isCommitted_21 ?_
      refine lv_aload_n hx hb dX3_isCommitted_22 rfl (lv_at hl 0 rfl) ?_
      refine va_get (D := (dC, dI)) (ci := 3) (v := .ref (b0 0)) (C := RX3) (T := TX3) (N := 17) hx hb hT inX3 hown hK hP 0 rfl rfl 2 (by decide) (hT _ tw_fl_X3_7) (fun _ h9 => h9) rfl dX3_isCommitted_23 ?_
      refine lv_iload_n hx hb dX3_isCommitted_26 rfl (lv_at hl 1 rfl) ?_
      refine ps_iald (k := k) (f := f 0) hx hb hK hP 1 0 rfl rfl (by omega) (by decide) dX3_isCommitted_27 ?_
      refine lv_icmp_ne (tgt := 80) hx hb dX3_isCommitted_28 rfl (fun h28 => ?_) (fun h28 => ?_)
      · skip
        refine lv_iconst (v := 0) hx hb dX3_isCommitted_80 (by decide) ?_
        refine lv_topi (fun y9 hy9 => ?_)
        obtain rfl : y9 = ps_bi (ps_ex (ps_cq f k) (j + 1)) := hy9.trans (ps_bi_f (by first | simp [ps_ex, ps_cq, h13, h28]; done | simp [ps_ex, ps_cq, h13, h43]; done | simp [ps_ex, ps_cq, h13, h58]; done | simp [ps_ex, ps_cq, h13, h73]))
        refine lv_istore_n (lv' := [(2, .int (ps_bi (ps_ex (ps_cq f k) (j + 1)))), (0, .ref w0), (1, .int (nI k)), (3, .int (nI j))]) hx hb dX3_isCommitted_81 rfl hl (by decide) rfl (fun ls hl => ?_)
        refine lv_iinc (k := 3) (v := nI (j + 1)) (lv' := [(3, .int (nI (j + 1))), (2, .int (ps_bi (ps_ex (ps_cq f k) (j + 1)))), (0, .ref w0), (1, .int (nI k))]) hx hb dX3_isCommitted_82 hl rfl (ps_inc _) (by decide) rfl (fun ls hl => ?_)
        refine lv_goto (tgt := 4) hx hb dX3_isCommitted_85 rfl ?_
        exact ih4 ((j + 1)) ls (by omega) ⟨by omega, lv_sub hl [2, 3, 1, 0] rfl⟩
      · skip
        refine lv_aload_n hx hb dX3_isCommitted_31 rfl (lv_at hl 0 rfl) ?_
        refine va_get (D := (dC, dI)) (ci := 3) (v := .ref (b0 5)) (C := RX3) (T := TX3) (N := 17) hx hb hT inX3 hown hK hP 0 rfl rfl 8 (by decide) (hT _ tw_fl_X3_25) (fun _ h9 => h9) rfl dX3_isCommitted_32 ?_
        refine lv_iload_n hx hb dX3_isCommitted_35 rfl (lv_at hl 3 rfl) ?_
        refine ps_iald (k := j) (f := f 5) hx hb hK hP 6 0 rfl rfl (by omega) (by decide) dX3_isCommitted_36 ?_
        refine lv_aload_n hx hb dX3_isCommitted_37 rfl (lv_at hl 0 rfl) ?_
        refine va_get (D := (dC, dI)) (ci := 3) (v := .ref (b0 1)) (C := RX3) (T := TX3) (N := 17) hx hb hT inX3 hown hK hP 0 rfl rfl 3 (by decide) (hT _ tw_fl_X3_13) (fun _ h9 => h9) rfl dX3_isCommitted_38 ?_
        refine lv_iload_n hx hb dX3_isCommitted_41 rfl (lv_at hl 1 rfl) ?_
        refine ps_iald (k := k) (f := f 1) hx hb hK hP 2 0 rfl rfl (by omega) (by decide) dX3_isCommitted_42 ?_
        refine lv_icmp_ne (tgt := 80) hx hb dX3_isCommitted_43 rfl (fun h43 => ?_) (fun h43 => ?_)
        · skip
          refine lv_iconst (v := 0) hx hb dX3_isCommitted_80 (by decide) ?_
          refine lv_topi (fun y9 hy9 => ?_)
          obtain rfl : y9 = ps_bi (ps_ex (ps_cq f k) (j + 1)) := hy9.trans (ps_bi_f (by first | simp [ps_ex, ps_cq, h13, h28]; done | simp [ps_ex, ps_cq, h13, h43]; done | simp [ps_ex, ps_cq, h13, h58]; done | simp [ps_ex, ps_cq, h13, h73]))
          refine lv_istore_n (lv' := [(2, .int (ps_bi (ps_ex (ps_cq f k) (j + 1)))), (0, .ref w0), (1, .int (nI k)), (3, .int (nI j))]) hx hb dX3_isCommitted_81 rfl hl (by decide) rfl (fun ls hl => ?_)
          refine lv_iinc (k := 3) (v := nI (j + 1)) (lv' := [(3, .int (nI (j + 1))), (2, .int (ps_bi (ps_ex (ps_cq f k) (j + 1)))), (0, .ref w0), (1, .int (nI k))]) hx hb dX3_isCommitted_82 hl rfl (ps_inc _) (by decide) rfl (fun ls hl => ?_)
          refine lv_goto (tgt := 4) hx hb dX3_isCommitted_85 rfl ?_
          exact ih4 ((j + 1)) ls (by omega) ⟨by omega, lv_sub hl [2, 3, 1, 0] rfl⟩
        · skip
          refine lv_aload_n hx hb dX3_isCommitted_46 rfl (lv_at hl 0 rfl) ?_
          refine va_get (D := (dC, dI)) (ci := 3) (v := .ref (b0 6)) (C := RX3) (T := TX3) (N := 17) hx hb hT inX3 hown hK hP 0 rfl rfl 9 (by decide) (hT _ tw_fl_X3_28) (fun _ h9 => h9) rfl dX3_isCommitted_47 ?_
          refine lv_iload_n hx hb dX3_isCommitted_50 rfl (lv_at hl 3 rfl) ?_
          refine ps_iald (k := j) (f := f 6) hx hb hK hP 7 0 rfl rfl (by omega) (by decide) dX3_isCommitted_51 ?_
          refine lv_aload_n hx hb dX3_isCommitted_52 rfl (lv_at hl 0 rfl) ?_
          refine va_get (D := (dC, dI)) (ci := 3) (v := .ref (b0 2)) (C := RX3) (T := TX3) (N := 17) hx hb hT inX3 hown hK hP 0 rfl rfl 4 (by decide) (hT _ tw_fl_X3_16) (fun _ h9 => h9) rfl dX3_isCommitted_53 ?_
          refine lv_iload_n hx hb dX3_isCommitted_56 rfl (lv_at hl 1 rfl) ?_
          refine ps_iald (k := k) (f := f 2) hx hb hK hP 3 0 rfl rfl (by omega) (by decide) dX3_isCommitted_57 ?_
          refine lv_icmp_ne (tgt := 80) hx hb dX3_isCommitted_58 rfl (fun h58 => ?_) (fun h58 => ?_)
          · skip
            refine lv_iconst (v := 0) hx hb dX3_isCommitted_80 (by decide) ?_
            refine lv_topi (fun y9 hy9 => ?_)
            obtain rfl : y9 = ps_bi (ps_ex (ps_cq f k) (j + 1)) := hy9.trans (ps_bi_f (by first | simp [ps_ex, ps_cq, h13, h28]; done | simp [ps_ex, ps_cq, h13, h43]; done | simp [ps_ex, ps_cq, h13, h58]; done | simp [ps_ex, ps_cq, h13, h73]))
            refine lv_istore_n (lv' := [(2, .int (ps_bi (ps_ex (ps_cq f k) (j + 1)))), (0, .ref w0), (1, .int (nI k)), (3, .int (nI j))]) hx hb dX3_isCommitted_81 rfl hl (by decide) rfl (fun ls hl => ?_)
            refine lv_iinc (k := 3) (v := nI (j + 1)) (lv' := [(3, .int (nI (j + 1))), (2, .int (ps_bi (ps_ex (ps_cq f k) (j + 1)))), (0, .ref w0), (1, .int (nI k))]) hx hb dX3_isCommitted_82 hl rfl (ps_inc _) (by decide) rfl (fun ls hl => ?_)
            refine lv_goto (tgt := 4) hx hb dX3_isCommitted_85 rfl ?_
            exact ih4 ((j + 1)) ls (by omega) ⟨by omega, lv_sub hl [2, 3, 1, 0] rfl⟩
          · skip
            refine lv_aload_n hx hb dX3_isCommitted_61 rfl (lv_at hl 0 rfl) ?_
            refine va_get (D := (dC, dI)) (ci := 3) (v := .ref (b0 7)) (C := RX3) (T := TX3) (N := 17) hx hb hT inX3 hown hK hP 0 rfl rfl 10 (by decide) (hT _ tw_fl_X3_31) (fun _ h9 => h9) rfl dX3_isCommitted_62 ?_
            refine lv_iload_n hx hb dX3_isCommitted_65 rfl (lv_at hl 3 rfl) ?_
            refine ps_iald (k := j) (f := f 7) hx hb hK hP 8 0 rfl rfl (by omega) (by decide) dX3_isCommitted_66 ?_
            refine lv_aload_n hx hb dX3_isCommitted_67 rfl (lv_at hl 0 rfl) ?_
            refine va_get (D := (dC, dI)) (ci := 3) (v := .ref (b0 3)) (C := RX3) (T := TX3) (N := 17) hx hb hT inX3 hown hK hP 0 rfl rfl 5 (by decide) (hT _ tw_fl_X3_19) (fun _ h9 => h9) rfl dX3_isCommitted_68 ?_
            refine lv_iload_n hx hb dX3_isCommitted_71 rfl (lv_at hl 1 rfl) ?_
            refine ps_iald (k := k) (f := f 3) hx hb hK hP 4 0 rfl rfl (by omega) (by decide) dX3_isCommitted_72 ?_
            refine lv_icmp_ne (tgt := 80) hx hb dX3_isCommitted_73 rfl (fun h73 => ?_) (fun h73 => ?_)
            · skip
              refine lv_iconst (v := 0) hx hb dX3_isCommitted_80 (by decide) ?_
              refine lv_topi (fun y9 hy9 => ?_)
              obtain rfl : y9 = ps_bi (ps_ex (ps_cq f k) (j + 1)) := hy9.trans (ps_bi_f (by first | simp [ps_ex, ps_cq, h13, h28]; done | simp [ps_ex, ps_cq, h13, h43]; done | simp [ps_ex, ps_cq, h13, h58]; done | simp [ps_ex, ps_cq, h13, h73]))
              refine lv_istore_n (lv' := [(2, .int (ps_bi (ps_ex (ps_cq f k) (j + 1)))), (0, .ref w0), (1, .int (nI k)), (3, .int (nI j))]) hx hb dX3_isCommitted_81 rfl hl (by decide) rfl (fun ls hl => ?_)
              refine lv_iinc (k := 3) (v := nI (j + 1)) (lv' := [(3, .int (nI (j + 1))), (2, .int (ps_bi (ps_ex (ps_cq f k) (j + 1)))), (0, .ref w0), (1, .int (nI k))]) hx hb dX3_isCommitted_82 hl rfl (ps_inc _) (by decide) rfl (fun ls hl => ?_)
              refine lv_goto (tgt := 4) hx hb dX3_isCommitted_85 rfl ?_
              exact ih4 ((j + 1)) ls (by omega) ⟨by omega, lv_sub hl [2, 3, 1, 0] rfl⟩
            · skip
              refine lv_iconst (v := 1) hx hb dX3_isCommitted_76 (by decide) ?_
              refine lv_topi (fun y9 hy9 => ?_)
              obtain rfl : y9 = ps_bi (ps_ex (ps_cq f k) (j + 1)) := hy9.trans (ps_bi_t (by first | simp [ps_ex, h13]; done | simp [ps_ex, ps_cq, h28, h43, h58, h73]))
              refine lv_goto (tgt := 81) hx hb dX3_isCommitted_77 rfl ?_
              refine lv_istore_n (lv' := [(2, .int (ps_bi (ps_ex (ps_cq f k) (j + 1)))), (0, .ref w0), (1, .int (nI k)), (3, .int (nI j))]) hx hb dX3_isCommitted_81 rfl hl (by decide) rfl (fun ls hl => ?_)
              refine lv_iinc (k := 3) (v := nI (j + 1)) (lv' := [(3, .int (nI (j + 1))), (2, .int (ps_bi (ps_ex (ps_cq f k) (j + 1)))), (0, .ref w0), (1, .int (nI k))]) hx hb dX3_isCommitted_82 hl rfl (ps_inc _) (by decide) rfl (fun ls hl => ?_)
              refine lv_goto (tgt := 4) hx hb dX3_isCommitted_85 rfl ?_
              exact ih4 ((j + 1)) ls (by omega) ⟨by omega, lv_sub hl [2, 3, 1, 0] rfl⟩
