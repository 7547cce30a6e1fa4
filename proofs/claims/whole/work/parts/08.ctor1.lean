/-- the class of the arrays of int arrays -/
def ub_O (U : State) : Prop := (Cond.arrayOver (.array .int)).before #[] U = true
theorem ub_O.use {A : Array Value} {U : State} (h : ub_O U) : (Cond.arrayOver (.array .int)).before A U = true := h
theorem ub_O.moved {u U : State} (hvm : u.vm.Alike U.vm) (h : ub_O u) : ub_O U := over_moved (a := #[]) (a' := #[]) hvm h
/-! cells one behind another from an address on -/
def ly (sz : Nat) : List va_E → va_W
  | [] => []
  | e :: es => (sz, e) :: ly (sz + 1) es
theorem ly_get (es : List va_E) : ∀ (sz i : Nat), (ly sz es)[i]? = (es[i]?).map (fun e => (sz + i, e)) := by
  induction es with
  | nil => intro sz i; simp [ly]
  | cons e es ih =>
    intro sz i
    cases i with
    | zero => simp [ly]
    | succ i =>
      simp only [ly, List.getElem?_cons_succ, ih]
      cases es[i]? with
      | none => rfl
      | some x => simp only [Option.map_some]; congr 2; omega
theorem ly_len (es : List va_E) : ∀ sz : Nat, (ly sz es).length = es.length := by
  induction es with
  | nil => intro sz; rfl
  | cons e es ih => intro sz; simp only [ly, List.length_cons, ih]
theorem ly_app (es fs : List va_E) : ∀ sz : Nat, ly sz (es ++ fs) = ly sz es ++ ly (sz + es.length) fs := by
  induction es with
  | nil => intro sz; rfl
  | cons e es ih =>
    intro sz
    simp only [ly, List.cons_append, ih, List.length_cons]
    congr 3
    omega
theorem ly_set (es : List va_E) : ∀ (sz i : Nat) (e : va_E), (ly sz es).set i (sz + i, e) = ly sz (es.set i e) := by
  induction es with
  | nil => intro sz i e; rfl
  | cons x es ih =>
    intro sz i e
    cases i with
    | zero => rfl
    | succ i =>
      simp only [ly, List.set_cons_succ]
      rw [show sz + (i + 1) = (sz + 1) + i by omega, ih]
theorem ly_at {es : List va_E} {sz i : Nat} {e : va_E} (h : es[i]? = some e) : (ly sz es)[i]? = some (sz + i, e) := by
  rw [ly_get, h]
  rfl
theorem ly_of {es : List va_E} {sz i : Nat} {q : Nat × va_E} (h : (ly sz es)[i]? = some q) : q.1 = sz + i ∧ es[i]? = some q.2 := by
  rw [ly_get] at h
  cases hx : es[i]? with
  | none => rw [hx] at h; cases h
  | some e => rw [hx] at h; cases h; exact ⟨rfl, rfl⟩
theorem ly_D (es : List va_E) (sz : Nat) : va_D (fun q => sz ≤ q) (ly sz es) :=
  ⟨fun i j x y hi hj hxy => by
    have h1 := (ly_of hi).1
    have h2 := (ly_of hj).1
    omega, fun i x hi => by
    have h1 := (ly_of hi).1
    show sz ≤ x.1
    omega⟩
def lyP (D : va_G) (sz : Nat) (es : List va_E) (H : Heap) : Prop := H.size = sz + es.length ∧ va_P D ub_cl (ly sz es) H
/-- a part of the cells, and what became of them, beside those ahead of them -/
theorem lyP_join {D : va_G} {sz : Nat} {es fs gs : List va_E} {H H1 : Heap} (h : lyP D sz (es ++ fs) H) (h1 : lyP D (sz + es.length) gs H1) (hk : ∀ q : Nat, q < H.size → ¬ sz + es.length ≤ q → H1[q]? = H[q]?) : lyP D sz (es ++ gs) H1 := by
  refine ⟨by rw [h1.1, List.length_append]; omega, fun i q hi => ?_⟩
  obtain ⟨e1, e2⟩ := ly_of hi
  by_cases hl : i < es.length
  · rw [List.getElem?_append_left hl] at e2
    have h3 : (ly sz (es ++ fs))[i]? = some (sz + i, q.2) := ly_at (by rw [List.getElem?_append_left hl]; exact e2)
    have h4 := h.2 i _ h3
    have h5 : va_at D ub_cl (sz + i, q.2) H1 := h4.kept (hk _ h4.lt (by show ¬ _ ≤ sz + i; omega))
    have : q = (sz + i, q.2) := by rw [← e1]
    rw [this]
    exact h5
  · rw [List.getElem?_append_right (by omega)] at e2
    have h3 := h1.2 (i - es.length) _ (ly_at e2)
    have : q = (sz + es.length + (i - es.length), q.2) := by
      rw [show sz + es.length + (i - es.length) = sz + i by omega, ← e1]
    rw [this]
    exact h3
theorem lyP_part {D : va_G} {sz : Nat} {es fs : List va_E} {H : Heap} (h : lyP D sz (es ++ fs) H) : lyP D (sz + es.length) fs H := by
  refine ⟨by rw [h.1, List.length_append]; omega, fun i q hi => ?_⟩
  obtain ⟨e1, e2⟩ := ly_of hi
  have h3 := h.2 (es.length + i) _ (ly_at (by rw [List.getElem?_append_right (by omega), show es.length + i - es.length = i by omega]; exact e2))
  have : q = (sz + (es.length + i), q.2) := by
    rw [show sz + (es.length + i) = sz + es.length + i by omega, ← e1]
  rw [this]
  exact h3
theorem lyP_push {D : va_G} {sz : Nat} {es fs : List va_E} {H H1 : Heap} (h : lyP D sz es H) (ho : ∀ q, q < H.size → H1[q]? = H[q]?) (hz : H1.size = H.size + fs.length) (hn : ∀ i e, fs[i]? = some e → va_at D ub_cl (sz + es.length + i, e) H1) : lyP D sz (es ++ fs) H1 := by
  refine ⟨by rw [hz, h.1, List.length_append]; omega, fun i q hi => ?_⟩
  obtain ⟨e1, e2⟩ := ly_of hi
  have hq : q = (sz + i, q.2) := by rw [← e1]
  rw [hq]
  by_cases hl : i < es.length
  · rw [List.getElem?_append_left hl] at e2
    have h4 := h.2 i _ (ly_at e2)
    exact h4.kept (ho _ h4.lt)
  · rw [List.getElem?_append_right (by omega)] at e2
    have h4 := hn _ _ e2
    rw [show sz + es.length + (i - es.length) = sz + i by omega] at h4
    exact h4
section lySEC
variable {p : Program} {l : Launch} {e : Env} {R : Room} {s : State} {m : MethodId} {args : Array Value} {below : List Frame} {meth : Method} {c : Code} {H : Heap} {locs : List Loc} {cells slots : Nat} {Q : State → Prop}
variable {cc : ByteArray} {pc : Nat} {ls : Array Slot} {rest : List Value} {D : va_G} {a : Nat → Nat} {k : Nat → ClassId} {σ : ST} {H0 : Heap}
variable {sz : Nat} {es : List va_E}
theorem ly_S {H1 : Heap} (hS : va_S (fun q => sz ≤ q) H0 H locs) (ho : ∀ q, q < H.size → H1[q]? = H[q]?) (hz : H.size ≤ H1.size) : va_S (fun q => sz ≤ q) H0 H1 locs :=
  ⟨Nat.le_trans hS.1 hz, fun q h1 h2 => (ho q (Nat.lt_of_lt_of_le h1 hS.1)).trans (hS.2.1 q h1 h2), hS.2.2⟩
theorem ly_newa {n : Int32} {N : Nat} (hx : p.tables.exec = Jvm.exec) (hb : c.code = cc) (harr : (Cond.arrayClass .int).before args s = true) (hK : ub_K D k s) (hP : lyP D sz es H) (hS : va_S (fun q => sz ≤ q) H0 H locs) (hn : ¬ n < 0) (hN : n.toNatClampNeg = N) (hby : N * 4 ≤ 536870912) (hc : cells + 1 ≤ R.cells) (hs : slots + N ≤ R.slots) (hdg : decode cc pc = .ok (.newarray .int, 2))
    (kk : ∀ H1 : Heap, lyP D sz (es ++ [.inl (k 0, N, .inl (fun _ => 0))]) H1 → va_S (fun q => sz ≤ q) H0 H1 locs → W p l e R s m args below meth c H1 locs (cells + 1) (slots + N) Q (F0 m (pc + 2) ls (.ref (sz + es.length) :: rest))) : W p l e R s m args below meth c H locs cells slots Q (F0 m pc ls (.int n :: rest)) := by
  refine va_newaK (atype := .int) hx hb harr rfl hdg rfl hn hN hby hc hs hP.1 fun H1 cA e1 z1 o1 _ hNm => ?_
  have hk0 : s.vm.findClass "[I" = some (k 0) := (hK.2 0 _ rfl).2
  have hcA : cA = k 0 := Option.some.inj (hNm.symm.trans hk0)
  subst hcA
  have ho : ∀ q, q < H.size → H1[q]? = H[q]? := fun q hq => o1 q (by rw [← hP.1]; exact hq)
  refine kk H1 (lyP_push hP ho (by rw [z1, hP.1]; rfl) (fun i x hi => ?_)) (ly_S hS ho (by rw [z1, hP.1]; omega))
  have hz : i < 1 := (List.getElem?_eq_some_iff.mp hi).1
  rw [show i = 0 by omega] at hi ⊢
  cases hi
  exact e1
theorem ly_newz {n : Int32} {N : Nat} (hx : p.tables.exec = Jvm.exec) (hb : c.code = cc) (harr : (Cond.arrayClass .boolean).before args s = true) (hK : ub_K D k s) (hP : lyP D sz es H) (hS : va_S (fun q => sz ≤ q) H0 H locs) (hn : ¬ n < 0) (hN : n.toNatClampNeg = N) (hby : N * 1 ≤ 536870912) (hc : cells + 1 ≤ R.cells) (hs : slots + N ≤ R.slots) (hdg : decode cc pc = .ok (.newarray .boolean, 2))
    (kk : ∀ H1 : Heap, lyP D sz (es ++ [.inl (k 1, N, .inl (fun _ => 0))]) H1 → va_S (fun q => sz ≤ q) H0 H1 locs → W p l e R s m args below meth c H1 locs (cells + 1) (slots + N) Q (F0 m (pc + 2) ls (.ref (sz + es.length) :: rest))) : W p l e R s m args below meth c H locs cells slots Q (F0 m pc ls (.int n :: rest)) := by
  refine va_newaK (atype := .boolean) hx hb harr rfl hdg rfl hn hN hby hc hs hP.1 fun H1 cA e1 z1 o1 _ hNm => ?_
  have hk0 : s.vm.findClass "[Z" = some (k 1) := (hK.2 1 _ rfl).2
  have hcA : cA = k 1 := Option.some.inj (hNm.symm.trans hk0)
  subst hcA
  have ho : ∀ q, q < H.size → H1[q]? = H[q]? := fun q hq => o1 q (by rw [← hP.1]; exact hq)
  refine kk H1 (lyP_push hP ho (by rw [z1, hP.1]; rfl) (fun i x hi => ?_)) (ly_S hS ho (by rw [z1, hP.1]; omega))
  have hz : i < 1 := (List.getElem?_eq_some_iff.mp hi).1
  rw [show i = 0 by omega] at hi ⊢
  cases hi
  exact e1
/-- the outer array of a grid, as it is filled -/
theorem ly_outer (cA : ClassId) (N h0 : Nat) : ∀ i : Nat, Jvm.Free.Multi.outerC cA N h0 i = arrV cA N (fun j => va_rf (if j < i then some (h0 + 1 + j) else none))
  | 0 => by
    have : (fun j : Nat => va_rf (if j < 0 then some (h0 + 1 + j) else none)) = fun _ => Value.null := by
      funext j
      rw [if_neg (Nat.not_lt_zero j)]
      rfl
    rw [this, ← arrV_new]
    rfl
  | i + 1 => by
    have h := ly_outer cA N h0 i
    show (Jvm.Free.Multi.outerC cA N h0 i).setSlot i (.ref (h0 + 1 + i)) = _
    rw [h, arrV_store]
    congr 1
    funext j
    by_cases e : j = i
    · subst e
      simp [updV, va_rf]
    · by_cases h : j < i
      · simp [updV, e, h, Nat.lt_succ_of_lt h]
      · simp [updV, e, h, show ¬ j < i + 1 by omega]
theorem ly_mna {own : String} {index : Nat} {n z : Int32} {N M : Nat} (hx : p.tables.exec = Jvm.exec) (hb : c.code = cc) (hown : s.vm.findClass own = some m.cls) (hcl : (Cond.classLink own index "[[I").before args s = true) (hov : ub_O s) (harr : (Cond.arrayClass .int).before args s = true) (hK : ub_K D k s) (hP : lyP D sz es H) (hS : va_S (fun q => sz ≤ q) H0 H locs)
    (hn : ¬ n < 0) (hz : ¬ z < 0) (hN : n.toNatClampNeg = N) (hM : z.toNatClampNeg = M) (hb1 : N * 4 ≤ 536870912) (hb2 : M * 4 ≤ 536870912) (hc : cells + (1 + N) ≤ R.cells) (hs : slots + (N + N * M) ≤ R.slots) (hdg : decode cc pc = .ok (.multianewarray index 2, 4))
    (kk : ∀ H1 : Heap, lyP D sz (es ++ (.inl (k 2, N, .inr (.inr (.inr (.inr (fun i => if i < N then some (sz + es.length + 1 + i) else none))))) :: List.replicate N (.inl (k 0, M, .inl (fun _ => 0))))) H1 → va_S (fun q => sz ≤ q) H0 H1 locs → W p l e R s m args below meth c H1 locs (cells + 1 + N) (slots + N + N * M) Q (F0 m (pc + 4) ls (.ref (sz + es.length) :: rest))) : W p l e R s m args below meth c H locs cells slots Q (F0 m pc ls (.int z :: .int n :: rest)) := by
  subst hN
  subst hM
  intro T hT X
  obtain ⟨vm₁, cA, comp, -, fA, fC, -, -, X', step⟩ := X.multianewarray2F (ty := .int) hx hown hcl hov.use harr (g := F0 m pc ls (.int z :: .int n :: rest)) rfl (by rw [hb]; exact hdg) rfl hn hz hb1 hb2 (by omega) rfl rfl hc hs
  have hk0 : s.vm.findClass "[I" = some (k 0) := (hK.2 0 _ rfl).2
  have hk2 : s.vm.findClass "[[I" = some (k 2) := (hK.2 2 _ rfl).2
  have e0 : comp = k 0 := Option.some.inj (fC.symm.trans hk0)
  have e2 : cA = k 2 := Option.some.inj (fA.symm.trans hk2)
  subst e0
  subst e2
  have hTh : (T.setVm vm₁).heap = H := hT
  generalize hF : Jvm.Free.Multi.fill (T.setVm vm₁) (k 2) (k 0) n.toNatClampNeg z.toNatClampNeg (defaultValue .int) n.toNatClampNeg = F at X' step
  obtain ⟨f1, f2, -, -⟩ := Jvm.Free.Multi.fill_facts (T.setVm vm₁) (k 2) (k 0) n.toNatClampNeg z.toNatClampNeg (defaultValue .int) n.toNatClampNeg
  rw [hF, hTh] at f1 f2
  have ho : ∀ q, q < H.size → F.heap[q]? = H[q]? := fun q hq => by
    have := Jvm.Free.Multi.fill_old (T.setVm vm₁) (k 2) (k 0) n.toNatClampNeg z.toNatClampNeg (defaultValue .int) (a := q) (by rw [hTh]; exact hq) n.toNatClampNeg
    rw [hF, hTh] at this
    exact this
  have hr : ∀ j : Nat, j < n.toNatClampNeg → F.heap[H.size + 1 + j]? = some (Jvm.Free.Multi.innerC (k 0) z.toNatClampNeg (defaultValue .int)) := fun j hj => by
    have := Jvm.Free.Multi.fill_inner (T.setVm vm₁) (k 2) (k 0) n.toNatClampNeg z.toNatClampNeg (defaultValue .int) n.toNatClampNeg j hj
    rw [hF, hTh] at this
    exact this
  have hin : Jvm.Free.Multi.innerC (k 0) z.toNatClampNeg (defaultValue .int) = vp_cell (k 0) (z.toNatClampNeg, .inl (fun _ => 0)) := by
    show ({ cls := k 0, slots := Array.replicate z.toNatClampNeg (defaultValue .int), vm := .none } : Cell) = _
    rw [arrV_new]
    rfl
  have hsz : H.size = sz + es.length := hP.1
  obtain ⟨t, a1, b1⟩ := kk F.heap (lyP_push hP ho (by rw [f1, List.length_cons, List.length_replicate]; omega) (fun i x hi => by
    cases i with
    | zero =>
      cases hi
      show F.heap[sz + es.length + 0]? = some (vp_cell _ _)
      rw [show sz + es.length + 0 = H.size by omega, f2, ly_outer, ← hsz]
      rfl
    | succ i =>
      rw [List.getElem?_cons_succ] at hi
      have hl : i < n.toNatClampNeg := by
        have := (List.getElem?_eq_some_iff.mp hi).1
        rw [List.length_replicate] at this
        exact this
      rw [List.getElem?_replicate, if_pos hl] at hi
      cases hi
      show F.heap[sz + es.length + (i + 1)]? = some (vp_cell _ _)
      rw [show sz + es.length + (i + 1) = H.size + 1 + i by omega, hr i hl, hin])) (ly_S hS ho (by rw [f1]; omega)) F rfl X'
  rw [← hsz] at a1
  have hTs : (T.setVm vm₁).heap.size = H.size := by rw [hTh]
  exact ⟨t, step t (by rw [hT]; exact a1), b1⟩
end lySEC
section lySEC2
variable {p : Program} {l : Launch} {e : Env} {R : Room} {s : State} {m : MethodId} {args : Array Value} {below : List Frame} {meth : Method} {c : Code} {H : Heap} {locs : List Loc} {cells slots : Nat} {Q : State → Prop}
variable {cc : ByteArray} {pc : Nat} {ls : Array Slot} {rest : List Value} {D : va_G} {a : Nat → Nat} {k : Nat → ClassId} {σ : ST} {H0 : Heap}
variable {sz : Nat} {es : List va_E}
theorem ly_re (hc : s.heap.size + cells = sz + es.length) (hne : 0 < es.length) (hP : va_P D ub_cl (ly sz es) H) {g : JFrame} (kk : lyP D sz es H → W p l e R s m args below meth c H locs cells slots Q g) : W p l e R s m args below meth c H locs cells slots Q g := fun T hT X => by
  have h1 : H.size ≤ s.heap.size + cells := by rw [← hT]; exact X.heapSize
  have h2 : sz + es.length ≤ H.size := by
    have h3 : (ly sz es)[es.length - 1]? = some (sz + (es.length - 1), es[es.length - 1]'(by omega)) := ly_at (List.getElem?_eq_getElem (by omega))
    have h4 := (hP _ _ h3).lt
    have h5 : sz + (es.length - 1) < H.size := h4
    omega
  exact kk ⟨by omega, hP⟩ T hT X
theorem ly_putF {own ref C : String} {T : u_T} {N ci index : Nat} {fs : List Value} {ty : FieldType} {v : Value} (hx : p.tables.exec = Jvm.exec) (hb : c.code = cc) (hts : ∀ w ∈ ub_T, w.before args s = true) (hin : ∀ w ∈ u_ws C T N, w ∈ ub_T) (ty0 : Nat → FieldType) (hty : ∀ k, k < N → parseFieldDescriptor (T k).2.2.1 = some (ty0 k)) (hnm : ∀ a, a < N → ∀ b, b < N → a ≠ b → (T a).2.1 ≠ (T b).2.1) (hown : s.vm.findClass own = some m.cls) (hK : ub_K D k s) (hP : lyP D sz es H) (hS : va_S (fun q => sz ≤ q) H0 H locs)
    (he : es[0]? = some (.inr (ci, fs))) (hc : ub_cl[ci]? = some (C, T, N)) (j : Nat) (hj : j < N) (hlink : (Cond.fieldLink own index ref (T j).2.1 (T j).2.2.1).before args s = true) (hsame : ∀ x, s.fieldFound? (T j).1 (T j).2.1 (T j).2.2.1 = some x → s.fieldFound? ref (T j).2.1 (T j).2.2.1 = some x) (hfin : (T j).2.2.2 = true) (hin2 : meth.name = "<init>") (hdecl : (T j).1 = own) (hd : parseFieldDescriptor (T j).2.2.1 = some ty) (hn : narrow ty v = v) (hfit : fits ty v = true) (hl : j < fs.length)
    (hsz : s.heap.size + cells = sz + es.length) (hdg : decode cc pc = .ok (.putfield index, 3)) (kk : ∀ (H1 : Heap) (locs1 : List Loc), lyP D sz (es.set 0 (.inr (ci, fs.set j v))) H1 → va_S (fun q => sz ≤ q) H0 H1 locs1 → W p l e R s m args below meth c H1 locs1 cells slots Q (F0 m (pc + 3) ls rest)) : W p l e R s m args below meth c H locs cells slots Q (F0 m pc ls (v :: .ref sz :: rest)) := by
  have h0 : 0 < es.length := (List.getElem?_eq_some_iff.mp he).1
  refine va_putF (D := D) (ci := ci) (ty := ty) hx hb hts hin ty0 hty hnm hown hK hP.2 (ly_D es sz) hS 0 (ly_at he) hc j hj hlink hsame hfin hin2 hdecl hd hn hfit hl hdg (fun H1 locs1 hP1 _ hS1 => ?_)
  have e1 := ly_set es sz 0 (.inr (ci, fs.set j v))
  rw [e1] at hP1
  exact ly_re (by rw [List.length_set]; exact hsz) (by rw [List.length_set]; exact h0) hP1 (fun hP2 => kk H1 locs1 hP2 hS1)
theorem ly_put {own ref C : String} {T : u_T} {N ci index : Nat} {fs : List Value} {ty : FieldType} {v : Value} (hx : p.tables.exec = Jvm.exec) (hb : c.code = cc) (hts : ∀ w ∈ ub_T, w.before args s = true) (hin : ∀ w ∈ u_ws C T N, w ∈ ub_T) (ty0 : Nat → FieldType) (hty : ∀ k, k < N → parseFieldDescriptor (T k).2.2.1 = some (ty0 k)) (hnm : ∀ a, a < N → ∀ b, b < N → a ≠ b → (T a).2.1 ≠ (T b).2.1) (hown : s.vm.findClass own = some m.cls) (hK : ub_K D k s) (hP : lyP D sz es H) (hS : va_S (fun q => sz ≤ q) H0 H locs)
    (he : es[0]? = some (.inr (ci, fs))) (hc : ub_cl[ci]? = some (C, T, N)) (j : Nat) (hj : j < N) (hlink : (Cond.fieldLink own index ref (T j).2.1 (T j).2.2.1).before args s = true) (hsame : ∀ x, s.fieldFound? (T j).1 (T j).2.1 (T j).2.2.1 = some x → s.fieldFound? ref (T j).2.1 (T j).2.2.1 = some x) (hfin : (T j).2.2.2 = false) (hd : parseFieldDescriptor (T j).2.2.1 = some ty) (hn : narrow ty v = v) (hfit : fits ty v = true) (hl : j < fs.length)
    (hsz : s.heap.size + cells = sz + es.length) (hdg : decode cc pc = .ok (.putfield index, 3)) (kk : ∀ (H1 : Heap) (locs1 : List Loc), lyP D sz (es.set 0 (.inr (ci, fs.set j v))) H1 → va_S (fun q => sz ≤ q) H0 H1 locs1 → W p l e R s m args below meth c H1 locs1 cells slots Q (F0 m (pc + 3) ls rest)) : W p l e R s m args below meth c H locs cells slots Q (F0 m pc ls (v :: .ref sz :: rest)) := by
  have h0 : 0 < es.length := (List.getElem?_eq_some_iff.mp he).1
  refine va_put (D := D) (ci := ci) (ty := ty) hx hb hts hin ty0 hty hnm hown hK hP.2 (ly_D es sz) hS 0 (ly_at he) hc j hj hlink hsame hfin hd hn hfit hl hdg (fun H1 locs1 hP1 _ hS1 => ?_)
  have e1 := ly_set es sz 0 (.inr (ci, fs.set j v))
  rw [e1] at hP1
  exact ly_re (by rw [List.length_set]; exact hsz) (by rw [List.length_set]; exact h0) hP1 (fun hP2 => kk H1 locs1 hP2 hS1)
theorem ly_new {own C : String} {T : u_T} {N ci index : Nat} {fs : List Value} (hx : p.tables.exec = Jvm.exec) (hb : c.code = cc) (hts : ∀ w ∈ ub_T, w.before args s = true) (hin : ∀ w ∈ u_ws C T N, w ∈ ub_T) (ty : Nat → FieldType) (hty : ∀ k, k < N → parseFieldDescriptor (T k).2.2.1 = some (ty k)) (hown : s.vm.findClass own = some m.cls) (hcl : (Cond.classLink own index C).before args s = true) (hinst : (Cond.instantiable C N).before args s = true) (hini : (Cond.initialized C).before args s = true)
    (hK : ub_K D k s) (hP : lyP D sz es H) (hS : va_S (fun q => sz ≤ q) H0 H locs) (hc : ub_cl[ci]? = some (C, T, N)) (hfs : ∀ j, j < N → defaultValue (ty j) = vp_V fs j) (hcells : cells + 1 ≤ R.cells) (hslots : slots + N ≤ R.slots) (hdg : decode cc pc = .ok (.new index, 3))
    (kk : ∀ H1 : Heap, lyP D sz (es ++ [.inr (ci, fs)]) H1 → va_S (fun q => sz ≤ q) H0 H1 locs → W p l e R s m args below meth c H1 locs (cells + 1) (slots + N) Q (F0 m (pc + 3) ls (.ref (sz + es.length) :: rest))) : W p l e R s m args below meth c H locs cells slots Q (F0 m pc ls rest) := by
  have hKn := hK.1 ci _ hc
  refine W.newcK hx hb hown hcl hinst hini rfl hdg hcells hslots hKn.2.1 hP.1 fun H1 kC hkC e1 z1 o1 => ?_
  have ho : ∀ q, q < H.size → H1[q]? = H[q]? := fun q hq => o1 q (by rw [← hP.1]; exact hq)
  refine kk H1 (lyP_push hP ho (by rw [z1, hP.1]; rfl) (fun i x hi => ?_)) (ly_S hS ho (by rw [z1, hP.1]; omega))
  have hz : i < 1 := (List.getElem?_eq_some_iff.mp hi).1
  rw [show i = 0 by omega] at hi ⊢
  cases hi
  exact ⟨_, hc, (u_born ty hts hin hKn hkC e1 hty).to hfs⟩
end lySEC2
theorem ly_blind {D : va_G} {k : Nat → ClassId} {sz : Nat} {es : List va_E} {av : List Value} : FrameBlind (va_Pc av (fun U => lyP D sz es U.heap ∧ ub_K D k U ∧ ub_O U)) := fun v U g mk q => by
  obtain ⟨q0, qP, qK, qO⟩ := q
  exact ⟨q0, qP, va_K.moved (u := U) (U := U.calling g mk v) (Vm.Alike.refl U.vm) qK, qO⟩
