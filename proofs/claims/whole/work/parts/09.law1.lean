def R_law : String := "UpdateRobotLaw"
def lw_P (b : Addr) (xs : List Int32) (args : Array Value) (s : State) : Prop := args = #[.ref b] ∧ s.IntsAt b xs ∧ xs.length ≤ 2561 ∧ (Jvm.Cond.and given_1 narrow_1).before args s = true
def lw_Q (_ : Array Value) (s : State) (o : Outcome) (t : State) : Prop := o = .returned (some (.int 1)) ∧ Framed s o t [] 600000 7302250
def lw_Z (below : List Frame) (a : Array Value) (s : State) : State → Prop := fun t => ∃ o, t.status = .running ∧ Ended t below o ∧ lw_Q a s o t
/-- the law's own end, with 1 on the stack, nothing written that was there before, its room as the claim has it -/
theorem lw_ret {p : Program} {l : Launch} {e : Env} {s : State} {m : MethodId} {below : List Frame} {meth : Method} {c : Code} {b : Nat} (hx : p.tables.exec = Jvm.exec) (hb : c.code = code) (hr : meth.sig.returnType = ret) (hlocks : meth.locks = false) {pc : Nat} {H : Heap} {ls : Array Slot} (hdg : decode code pc = .ok (.ireturn, 1)) : W p l e room_1 s m #[Value.ref b] below meth c H [] 600000 7302250 (lw_Z below #[Value.ref b] s) (F0 m pc ls [.int 1]) := by
  intro T hT X
  obtain ⟨fs, hret, hrun, hended, hW, hframe⟩ := X.leave (v := some (.int 1)) (hlocks := hlocks) (fun h => by rw [hr] at h; cases h)
  have hmeth' : T.vm.method? m = some meth := X.method'
  refine ⟨T.setFrames fs, ?_, .returned (some (.int 1)), hrun, hended, rfl, ⟨_, rfl⟩, hW, hframe⟩
  jvm_step X.here [X.here.top, hx, hb, hdg, hmeth', hr, ret, narrow_b1]
  (try refine ⟨rfl, ?_⟩); (try refine ⟨rfl, ?_⟩)
  first | (intro acts; rw [hret _ acts rfl rfl rfl]) | rw [hret _ _ rfl rfl rfl]
  exact Steps.refl _
/-- what holds at the law's entry: the machine, the code, the tables' words (any of lw_tbl by 'hts w (by decide +kernel)'), the script of L ints xs at the cell b, what the Statement gives of the start (any of its parts by flat_of_before) -/
def lw_At (p : Program) (s : State) (m : MethodId) (meth : Method) (c : Code) (b L : Nat) (xs : Nat → Int32) : Prop :=
  p.tables.exec = Jvm.exec ∧ c.code = code ∧ meth.sig.returnType = ret ∧ c.maxLocals = 4 ∧ s.vm.findClass R_law = some m.cls ∧ (∀ w ∈ lw_tbl, w.before #[Value.ref b] s = true) ∧ va_X b L xs s s.heap ∧ b < s.heap.size ∧ meth.locks = false ∧ (Jvm.Cond.and given_1 narrow_1).before #[Value.ref b] s = true
set_option maxHeartbeats 4000000 in
set_option maxRecDepth 100000 in
theorem clw_cell (l : Launch) (b L : Nat) (xs : Nat → Int32) (hL : L ≤ 2561) : Met l lwy_cell lws_cell lwr_cell (va_Pc [.ref b, .int 0] (fun U => va_X b L xs U U.heap ∧ b < U.heap.size)) (fun _ st oc t => oc = .returned (some (.int (if 0 < L then xs 0 else 0))) ∧ t.heap = st.heap) 0 0 (fun _ => False) := by
  refine Met.ofW (cc := method_2_code) (maxL := 2) (ret := (some .int)) (by decide) rfl ?_
  intro p e s m args below meth c s₁ B hml hv
  obtain ⟨rfl, hX, hbl⟩ := hv
  have hx := B.exec
  have hb := B.bytes
  have hr := B.returns
  have hlocks := B.notSynchronized
  have hS : va_S (fun _ => False) s.heap s.heap [] := va_S.rf
  have hbA : ¬ (fun _ : Nat => False) b := id
  have hl := lv_entry ([.ref b, .int 0]) (n := 2) (Nat.le_of_ble_eq_true rfl)
  rw [lg_entry_eq]
  generalize (lg_sl ([.ref b, .int 0]) ++ List.replicate (2 - (lg_sl ([.ref b, .int 0])).length) Slot.unset).toArray = ls at hl ⊢
  have hl : lv_has ls 2 [(0, .ref b), (1, .int 0)] := hl
  refine lv_iload_n hx hb dlwc_0 rfl (lv_at hl 1 rfl) ?_
  refine lv_aload_n hx hb dlwc_1 rfl (lv_at hl 0 rfl) ?_
  refine va_slen hx hb hX hbl hbA hS dlwc_2 ?_
  refine lv_icmp_ge (tgt := 12) hx hb dlwc_3 (by decide) (fun c1 => ?_) (fun c1 => ?_)
  · have h0 : ¬ 0 < L := fun q => by
      have h1 : nI 0 < nI L := nI_lt q (by omega)
      have h2 : nI L ≤ nI 0 := c1
      exact absurd h2 (Int32.not_le.mpr h1)
    refine lv_iconst (v := 0) hx hb dlwc_12 (by decide) ?_
    exact W.iret (v := 0) hx hb hr (fun t ht hW => ⟨by rw [if_neg h0], ht⟩) hS.2.2 dlwc_13
  · have h0 : 0 < L := Nat.lt_of_not_le fun q => c1 (by
      have : L = 0 := by omega
      subst this
      exact Int32.le_refl 0)
    refine lv_aload_n hx hb dlwc_6 rfl (lv_at hl 0 rfl) ?_
    refine lv_iload_n hx hb dlwc_7 rfl (lv_at hl 1 rfl) ?_
    refine va_sld hx hb hX hbl hbA hS (vp_in_nI (n := 0) h0 (by omega)) dlwc_8 ?_
    refine lv_goto (tgt := 13) hx hb dlwc_9 (by decide) ?_
    exact W.iret (v := xs ((0 : Int32).toNatClampNeg)) hx hb hr (fun t ht hW => ⟨by rw [if_pos h0]; rfl, ht⟩) hS.2.2 dlwc_13
/-- both systems stand side by side, behind what was there before -/
def lw_Ads (sz : Nat) (a b : Nat → Nat) : Prop := ur_Ad a ∧ rf_Ad b ∧ (∀ i j : Nat, i < 119 → j < 19 → a i ≠ b j) ∧ (∀ i : Nat, i < 119 → sz ≤ a i) ∧ ∀ i : Nat, i < 19 → sz ≤ b i
theorem lw_keepR {D : va_G} {sz : Nat} {a b : Nat → Nat} {k : Nat → ClassId} {τ : ST} {H H1 : Heap} (hA : lw_Ads sz a b) (hR : rf_P D b k τ H) (hk : ∀ q : Nat, q < H.size → ¬ ur_A a q → H1[q]? = H[q]?) : rf_P D b k τ H1 :=
  va_P.kept hR (fun i q hi => hk q.1 (hR i q hi).lt (fun ⟨j, hj, e⟩ => hA.2.2.1 j i hj (rf_fst hi).1 (by rw [← e, (rf_fst hi).2])))
theorem lw_keepU {D : va_G} {sz : Nat} {a b : Nat → Nat} {k : Nat → ClassId} {σ : ST} {H H1 : Heap} (hA : lw_Ads sz a b) (hP : ur_P D a k σ H) (hk : ∀ q : Nat, q < H.size → ¬ rf_A b q → H1[q]? = H[q]?) : ur_P D a k σ H1 :=
  va_P.kept hP (fun i q hi => hk q.1 (hP i q hi).lt (fun ⟨j, hj, e⟩ => hA.2.2.1 i j (ur_fst hi).1 hj (by rw [← e, (ur_fst hi).2])))
section lwSEC
variable {p : Program} {l : Launch} {e : Env} {R : Room} {s : State} {m : MethodId} {args : Array Value} {below : List Frame} {meth : Method} {c : Code} {H : Heap} {locs : List Loc} {cells slots : Nat} {Q : State → Prop}
variable {cc : ByteArray} {pc : Nat} {ls : Array Slot} {rest : List Value} {D : va_G} {a : Nat → Nat} {k : Nat → ClassId} {σ : ST} {H0 : Heap}
variable {b : Nat → Nat} {τ : ST} {sz : Nat}
variable {y : MethodName} {bytes : ByteArray} {maxL nL n index : Nat} {ret : Option FieldType} {ws : List Cond} {rm : Room} {own C : String} {As st0 : List Value}
theorem lw_u_ir {res : Int32} (S : CallFix p m c cc nL s args ub_T own) (hM : Met l y ws rm (ur_Pc D a k σ (.ref (a 0) :: As)) (va_Qi (fun (r : Int32) (u : ST) => r = res ∧ u = σ) (ur_B D a k) (ur_A a)) 0 0 (ur_A a)) (cw : CallW R s args own urR_Rb index y bytes maxL ret ws rm 0 0 n) (hK : ub_K D k s) (hA : lw_Ads sz a b) (hP : ur_P D a k σ H) (hR : rf_P D b k τ H)
    (hn : As.length = n) (hsz : ls.size = nL) (hst : st0 = As.reverse ++ .ref (a 0) :: rest) (hW : (rest.map fun v => v.category).sum ≤ 8) (hdg : decode cc pc = .ok (.invokevirtual index, 3)) (hf : cells ≤ R.cells ∧ slots ≤ R.slots) (hS : va_S (fun q => sz ≤ q) H0 H locs)
    (kk : ∀ (H1 : Heap) (locs1 : List Loc), ur_P D a k σ H1 → rf_P D b k τ H1 → va_S (fun q => sz ≤ q) H0 H1 locs1 → W p l e R s m args below meth c H1 locs1 cells slots Q (F0 m (pc + 3) ls (.int res :: rest))) : W p l e R s m args below meth c H locs cells slots Q (F0 m pc ls st0) :=
  va_calli (va_runV (As := As) (rest := rest) S hM cw ⟨ur_blind, ur_rc0 hK hP, fun U hU hW => ⟨rfl, by rw [hU]; exact hP, va_K.moved hW.alike hK⟩⟩ rfl hn hsz hst (lv_room hW) hdg hf) hS (fun q _ h => by obtain ⟨i, h1, h2⟩ := h; rw [h2]; exact hA.2.2.2.1 i h1) (fun q h => by obtain ⟨i, h1, h2⟩ := h; rw [h2]; exact hA.2.2.2.1 i h1) (fun r u t H1 locs1 ht _ hw hB _ hk hS => by
    obtain ⟨h1, h2⟩ := hw
    subst h1
    subst h2
    exact kk H1 locs1 (by rw [← ht]; exact hB.1) (lw_keepR hA hR hk) hS)
theorem lw_u_iw {res : Int32 × ST} (S : CallFix p m c cc nL s args ub_T own) (hM : Met l y ws rm (ur_Pc D a k σ (.ref (a 0) :: As)) (va_Qi (fun (r : Int32) (u : ST) => r = res.1 ∧ u = res.2) (ur_B D a k) (ur_A a)) 0 0 (ur_A a)) (cw : CallW R s args own urR_Rb index y bytes maxL ret ws rm 0 0 n) (hK : ub_K D k s) (hA : lw_Ads sz a b) (hP : ur_P D a k σ H) (hR : rf_P D b k τ H)
    (hn : As.length = n) (hsz : ls.size = nL) (hst : st0 = As.reverse ++ .ref (a 0) :: rest) (hW : (rest.map fun v => v.category).sum ≤ 8) (hdg : decode cc pc = .ok (.invokevirtual index, 3)) (hf : cells ≤ R.cells ∧ slots ≤ R.slots) (hS : va_S (fun q => sz ≤ q) H0 H locs)
    (kk : ∀ (H1 : Heap) (locs1 : List Loc), ur_P D a k res.2 H1 → rf_P D b k τ H1 → va_S (fun q => sz ≤ q) H0 H1 locs1 → W p l e R s m args below meth c H1 locs1 cells slots Q (F0 m (pc + 3) ls (.int res.1 :: rest))) : W p l e R s m args below meth c H locs cells slots Q (F0 m pc ls st0) :=
  va_calli (va_runV (As := As) (rest := rest) S hM cw ⟨ur_blind, ur_rc0 hK hP, fun U hU hW => ⟨rfl, by rw [hU]; exact hP, va_K.moved hW.alike hK⟩⟩ rfl hn hsz hst (lv_room hW) hdg hf) hS (fun q _ h => by obtain ⟨i, h1, h2⟩ := h; rw [h2]; exact hA.2.2.2.1 i h1) (fun q h => by obtain ⟨i, h1, h2⟩ := h; rw [h2]; exact hA.2.2.2.1 i h1) (fun r u t H1 locs1 ht _ hw hB _ hk hS => by
    obtain ⟨h1, h2⟩ := hw
    rw [h1]
    exact kk H1 locs1 (by rw [← ht, ← h2]; exact hB.1) (lw_keepR hA hR hk) hS)
theorem lw_r_iw {res : Int32 × ST} (S : CallFix p m c cc nL s args ub_T own) (hM : Met l y ws rm (rf_Pc D b k τ (.ref (b 0) :: As)) (va_Qi (fun (r : Int32) (u : ST) => r = res.1 ∧ u = res.2) (rf_B D b k) (rf_A b)) 0 0 (rf_A b)) (cw : CallW R s args own rfR_Md index y bytes maxL ret ws rm 0 0 n) (hK : ub_K D k s) (hA : lw_Ads sz a b) (hP : ur_P D a k σ H) (hR : rf_P D b k τ H)
    (hn : As.length = n) (hsz : ls.size = nL) (hst : st0 = As.reverse ++ .ref (b 0) :: rest) (hW : (rest.map fun v => v.category).sum ≤ 8) (hdg : decode cc pc = .ok (.invokevirtual index, 3)) (hf : cells ≤ R.cells ∧ slots ≤ R.slots) (hS : va_S (fun q => sz ≤ q) H0 H locs)
    (kk : ∀ (H1 : Heap) (locs1 : List Loc), ur_P D a k σ H1 → rf_P D b k res.2 H1 → va_S (fun q => sz ≤ q) H0 H1 locs1 → W p l e R s m args below meth c H1 locs1 cells slots Q (F0 m (pc + 3) ls (.int res.1 :: rest))) : W p l e R s m args below meth c H locs cells slots Q (F0 m pc ls st0) :=
  va_calli (va_runV (As := As) (rest := rest) S hM cw ⟨rf_blind, rf_rc0 hK hR, fun U hU hW => ⟨rfl, by rw [hU]; exact hR, va_K.moved hW.alike hK⟩⟩ rfl hn hsz hst (lv_room hW) hdg hf) hS (fun q _ h => by obtain ⟨i, h1, h2⟩ := h; rw [h2]; exact hA.2.2.2.2 i h1) (fun q h => by obtain ⟨i, h1, h2⟩ := h; rw [h2]; exact hA.2.2.2.2 i h1) (fun r u t H1 locs1 ht _ hw hB _ hk hS => by
    obtain ⟨h1, h2⟩ := hw
    rw [h1]
    exact kk H1 locs1 (lw_keepU hA hP hk) (by rw [← ht, ← h2]; exact hB.1) hS)
/-- a call that reads alone -/
theorem lw_cell {Pc : Array Value → State → Prop} {Qa : State → Outcome → State → Prop} {v : Int32} (hr : va_Run p l e R s m args below meth c H locs cells slots 0 0 (F0 m pc ls st0) rest Qa (fun _ => False)) (hQ : ∀ (st : State) (o : Outcome) (t : State), Qa st o t → o = .returned (some (.int v)) ∧ t.heap = st.heap)
    (kk : W p l e R s m args below meth c H locs cells slots Q (F0 m (pc + 3) ls (.int v :: rest))) : W p l e R s m args below meth c H locs cells slots Q (F0 m pc ls st0) := by
  intro T hT X
  obtain ⟨v', st₀, t, T', L, h0, X', hL, e1, e2, hq, st⟩ := hr T hT X
  obtain ⟨hv, hh⟩ := hQ _ _ _ hq
  cases hv
  have hL0 : L = [] := by
    cases L with
    | nil => rfl
    | cons q l => exact absurd (hL q List.mem_cons_self) id
  subst hL0
  rw [List.append_nil] at X'
  obtain ⟨t2, a1, b1⟩ := kk T' (by rw [e1, hh, h0]) X'
  exact ⟨t2, st t2 a1, b1⟩
end lwSEC
