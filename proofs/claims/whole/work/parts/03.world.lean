/-! the state of a system: numbers by array and place; one place is written -/
abbrev ST : Type := Nat → Nat → Int32
def wr (σ : ST) (i j : Nat) (v : Int32) : ST := fun i' j' => if i' = i then (if j' = j then v else σ i' j') else σ i' j'
abbrev ub_in (x : Int32) (n : Nat) : Prop := ¬ (x < 0 ∨ n ≤ x.toNatClampNeg)
theorem wr_row (σ : ST) (i j : Nat) (v : Int32) : wr σ i j v i = upd (σ i) j v := by
  funext j'
  simp [wr, upd]
theorem wr_ne {σ : ST} {i j : Nat} {v : Int32} {i' : Nat} (h : i' ≠ i) : wr σ i j v i' = σ i' := by
  funext j'
  simp [wr, h]
/-! a function's text along a walk: a branch taken or not, a place in range, a call that answered -/
theorem ob_t {α : Type} {c : Prop} [Decidable c] {x y : Option α} {r : α} (hc : c) (h : (if c then x else y) = some r) : x = some r := by
  rw [if_pos hc] at h
  exact h
theorem ob_f {α : Type} {c : Prop} [Decidable c] {x y : Option α} {r : α} (hc : ¬ c) (h : (if c then x else y) = some r) : y = some r := by
  rw [if_neg hc] at h
  exact h
theorem ob_i {α : Type} {c : Prop} [Decidable c] {x : Option α} {r : α} (h : (if c then x else none) = some r) : c ∧ x = some r := by
  by_cases hc : c
  · rw [if_pos hc] at h
    exact ⟨hc, h⟩
  · rw [if_neg hc] at h
    cases h
theorem ob_b {α β : Type} {x : Option α} {f : α → Option β} {r : β} (h : Option.bind x f = some r) : ∃ y, x = some y ∧ f y = some r := by
  cases x with
  | none => cases h
  | some y => exact ⟨y, rfl, h⟩
theorem ub_nar {v : Int32} (h : v = 0 ∨ v = 1) : narrow .boolean (.int v) = .int v := by
  rcases h with h | h
  · rw [h]; rfl
  · rw [h]; rfl
theorem ob_r {α β : Type} {x : α} {y : β} {r : α × β} (h : some (x, y) = some r) : x = r.1 ∧ y = r.2 := by
  cases h
  exact ⟨rfl, rfl⟩
theorem ob_cs {c A : Prop} (t : c → A) (f : ¬ c → A) : A := by
  by_cases hc : c
  · exact t hc
  · exact f hc
section ubSEC
variable {p : Program} {l : Launch} {e : Env} {R : Room} {s : State} {m : MethodId} {args : Array Value} {below : List Frame} {meth : Method} {c : Code} {H : Heap} {locs : List Loc} {cells slots : Nat} {Q : State → Prop}
variable {cc : ByteArray} {pc : Nat} {ls : Array Slot} {rest : List Value} {D : va_G} {a : Nat → Nat} {k : Nat → ClassId} {σ : ST} {H0 : Heap}
variable {ws : va_W} {cl : List vw_C} {tys : List (ClassId × FieldType)}
/-- aaload out of an array of int arrays -/
theorem ub_aald {q0 t0 n : Nat} {cA : ClassId} {b : Nat} {f : Nat → Option Nat} {x : Int32} (hx : p.tables.exec = Jvm.exec) (hb : c.code = cc) (hK : va_K D cl tys s) (hP : va_P D cl ws H) (ha : ws[q0]? = some (b, .inl (cA, n, .inr (.inr (.inr (.inr f)))))) (ht : tys[t0]? = some (cA, .array .int)) (hin : ub_in x n) (hdg : decode cc pc = .ok (.aaload, 1))
    (kk : W p l e R s m args below meth c H locs cells slots Q (F0 m (pc + 1) ls (va_rf (f x.toNatClampNeg) :: rest))) : W p l e R s m args below meth c H locs cells slots Q (F0 m pc ls (.int x :: .ref b :: rest)) := by
  have hlt : x.toNatClampNeg < n := Nat.not_le.mp fun q => hin (Or.inr q)
  have hsz : (arrV cA n (fun j => va_rf (f j))).slots.size = n := arrV_size _ _ _
  have hrd : (arrV cA n (fun j => va_rf (f j))).slots[x.toNatClampNeg]? = some (va_rf (f x.toNatClampNeg)) := arrV_read _ _ hlt
  have hcell : H[b]? = some (arrV cA n (fun j => va_rf (f j))) := hP q0 _ ha
  exact W.aald (ty := .array .int) hx hb hcell ((hK.2 t0 _ ht).1 n (fun j => va_rf (f j))) rfl (fun q => by cases q) (by rw [hsz]; exact hin) hrd rfl rfl hdg kk
end ubSEC
def ur_len (i : Nat) : Nat := if i < 10 then 12 else if i < 14 then 60 else if i < 50 then 8 else 12
def ur_X (a : Nat → Nat) (k : Nat → ClassId) (σ : ST) : va_W := [
  (a 0, .inr (0, [.int (σ 111 0), .ref (a 1), .ref (a 2), .ref (a 3), .int (σ 111 1), .int (σ 111 2)])),
  (a 1, .inr (1, [.int (σ 111 3), .ref (a (0 + 9)), .ref (a (1 + 9)), .ref (a (2 + 9)), .ref (a (3 + 9)), .ref (a (4 + 9)), .ref (a (5 + 9)), .ref (a (6 + 9)), .ref (a (7 + 9)), .ref (a 5), .ref (a 6), .ref (a 7)])),
  (a 2, .inr (2, [.ref (a (8 + 9)), .ref (a (9 + 9))])),
  (a 3, .inr (3, [.int (σ 111 4), .ref (a (10 + 9)), .ref (a (11 + 9)), .ref (a (12 + 9)), .ref (a (13 + 9)), .ref (a 4), .ref (a 8)])),
  (a 4, .inl (k 1, 60, .inl (σ 110))),
  (a 5, .inl (k 2, 12, .inr (.inr (.inr (.inr (fun i => some (a (i + 14 + 9)))))))),
  (a 6, .inl (k 2, 12, .inr (.inr (.inr (.inr (fun i => some (a (i + 26 + 9)))))))),
  (a 7, .inl (k 2, 12, .inr (.inr (.inr (.inr (fun i => some (a (i + 38 + 9)))))))),
  (a 8, .inl (k 2, 60, .inr (.inr (.inr (.inr (fun i => some (a (i + 50 + 9))))))))]
def ur_cells (a : Nat → Nat) (k : Nat → ClassId) (σ : ST) : va_W := ur_X a k σ ++ (List.range 110).map (fun i => (a (i + 9), .inl (k 0, ur_len i, .inl (σ i))))
def ur_P (D : va_G) (a : Nat → Nat) (k : Nat → ClassId) (σ : ST) (H : Heap) : Prop := va_P D ub_cl (ur_cells a k σ) H
abbrev ub_K (D : va_G) (k : Nat → ClassId) (s : State) : Prop := va_K D ub_cl [(k 0, .int), (k 1, .boolean), (k 2, .array .int)] s

/-- the addresses are apart -/
def ur_Ad (a : Nat → Nat) : Prop := ∀ i j : Nat, i < 119 → j < 119 → a i = a j → i = j
def ur_A (a : Nat → Nat) : Nat → Prop := fun q => ∃ i : Nat, i < 119 ∧ q = a i
abbrev ur_B (D : va_G) (a : Nat → Nat) (k : Nat → ClassId) (u : ST) (t : State) : Prop := ur_P D a k u t.heap ∧ ub_K D k t
abbrev ur_Pc (D : va_G) (a : Nat → Nat) (k : Nat → ClassId) (σ : ST) (av : List Value) : Array Value → State → Prop := va_Pc av (fun U => ur_P D a k σ U.heap ∧ ub_K D k U)
theorem ur_blind {D : va_G} {a : Nat → Nat} {k : Nat → ClassId} {σ : ST} {av : List Value} : FrameBlind (ur_Pc D a k σ av) := fun v U g mk q => by
  obtain ⟨q0, qP, qK⟩ := q
  exact ⟨q0, qP, va_K.moved (u := U) (U := U.calling g mk v) (Vm.Alike.refl U.vm) qK⟩
theorem ur_at {a : Nat → Nat} {k : Nat → ClassId} {σ : ST} {i : Nat} (hi : i < 110) : (ur_cells a k σ)[i + 9]? = some (a (i + 9), .inl (k 0, ur_len i, .inl (σ i))) := by
  unfold ur_cells
  rw [List.getElem?_append_right (show (ur_X a k σ).length ≤ i + 9 from Nat.le_add_left _ _)]
  rw [show i + 9 - (ur_X a k σ).length = i from Nat.add_sub_cancel i 9]
  rw [List.getElem?_map, List.getElem?_range hi]
  rfl
theorem ur_at0 {a : Nat → Nat} {k : Nat → ClassId} {σ : ST} {i : Nat} (hi : i < 9) : (ur_cells a k σ)[i]? = (ur_X a k σ)[i]? := by
  unfold ur_cells
  rw [List.getElem?_append_left (show i < (ur_X a k σ).length from hi)]
theorem ur_fst {a : Nat → Nat} {k : Nat → ClassId} {σ : ST} {i : Nat} {q : Nat × va_E} (h : (ur_cells a k σ)[i]? = some q) : i < 119 ∧ q.1 = a i := by
  by_cases h0 : i < 9
  · rw [ur_at0 h0] at h
    refine ⟨by omega, ?_⟩
    match i, h0, h with
    | 0, _, h => cases h; rfl
    | 1, _, h => cases h; rfl
    | 2, _, h => cases h; rfl
    | 3, _, h => cases h; rfl
    | 4, _, h => cases h; rfl
    | 5, _, h => cases h; rfl
    | 6, _, h => cases h; rfl
    | 7, _, h => cases h; rfl
    | 8, _, h => cases h; rfl
    | j + 9, h0, _ => exact absurd h0 (by omega)
  · obtain ⟨j, rfl⟩ : ∃ j, i = j + 9 := ⟨i - 9, by omega⟩
    by_cases h1 : j < 110
    · rw [ur_at h1] at h
      cases h
      exact ⟨by omega, rfl⟩
    · exfalso
      have h2 := (List.getElem?_eq_some_iff.mp h).1
      have h3 : (ur_cells a k σ).length = 9 + 110 := by
        unfold ur_cells
        rw [List.length_append, List.length_map, List.length_range]
        rfl
      omega
theorem ur_D {a : Nat → Nat} {k : Nat → ClassId} {σ : ST} (h : ur_Ad a) : va_D (ur_A a) (ur_cells a k σ) :=
  ⟨fun i j x y hi hj hxy => h i j (ur_fst hi).1 (ur_fst hj).1 (by rw [← (ur_fst hi).2, ← (ur_fst hj).2]; exact hxy), fun i x hi => ⟨i, (ur_fst hi).1, (ur_fst hi).2⟩⟩
theorem ur_setA {a : Nat → Nat} {k : Nat → ClassId} {σ : ST} {i j : Nat} {v : Int32} (hi : i < 110) : (ur_cells a k σ).set (i + 9) (a (i + 9), .inl (k 0, ur_len i, .inl (upd (σ i) j v))) = ur_cells a k (wr σ i j v) := by
  have e1 : wr σ i j v 111 = σ 111 := wr_ne (by omega)
  have e2 : wr σ i j v 110 = σ 110 := wr_ne (by omega)
  have hX : ur_X a k (wr σ i j v) = ur_X a k σ := by
    unfold ur_X
    rw [e1, e2]
  apply List.ext_getElem?
  intro x
  by_cases hx : x = i + 9
  · subst hx
    rw [ur_at hi, wr_row, List.getElem?_set_self]
    exact (List.getElem?_eq_some_iff.mp (ur_at hi)).1
  · rw [List.getElem?_set_ne (Ne.symm hx)]
    by_cases h0 : x < 9
    · rw [ur_at0 h0, ur_at0 h0, hX]
    · obtain ⟨j', rfl⟩ : ∃ j', x = j' + 9 := ⟨x - 9, by omega⟩
      by_cases h1 : j' < 110
      · rw [ur_at h1, ur_at h1, wr_ne (by omega)]
      · have q : ∀ τ : ST, (ur_cells a k τ)[j' + 9]? = none := by
          intro τ
          cases hq : (ur_cells a k τ)[j' + 9]? with
          | none => rfl
          | some y => exact absurd (ur_fst hq).1 (by omega)
        rw [q, q]
/-- the same cells but for one of the first places -/
theorem ur_set0 {a : Nat → Nat} {k : Nat → ClassId} {σ τ : ST} {x : Nat} {y : Nat × va_E} (hx : x < 9) (h1 : ∀ i, i < 110 → τ i = σ i) (h2 : (ur_X a k σ).set x y = ur_X a k τ) : (ur_cells a k σ).set x y = ur_cells a k τ := by
  unfold ur_cells
  rw [List.set_append_left x y (show x < (ur_X a k σ).length from hx), h2]
  congr 1
  apply List.map_congr_left
  intro i hi
  rw [h1 i (List.mem_range.mp hi)]
section urSEC
variable {p : Program} {l : Launch} {e : Env} {R : Room} {s : State} {m : MethodId} {args : Array Value} {below : List Frame} {meth : Method} {c : Code} {H : Heap} {locs : List Loc} {cells slots : Nat} {Q : State → Prop}
variable {cc : ByteArray} {pc : Nat} {ls : Array Slot} {rest : List Value} {D : va_G} {a : Nat → Nat} {k : Nat → ClassId} {σ : ST} {H0 : Heap}
theorem ur_iald {i n : Nat} {x : Int32} (hx : p.tables.exec = Jvm.exec) (hb : c.code = cc) (hK : ub_K D k s) (hP : ur_P D a k σ H) (hi : i < 110) (hn : ur_len i = n) (hin : ub_in x n) (hdg : decode cc pc = .ok (.iaload, 1))
    (kk : W p l e R s m args below meth c H locs cells slots Q (F0 m (pc + 1) ls (.int (σ i x.toNatClampNeg) :: rest))) : W p l e R s m args below meth c H locs cells slots Q (F0 m pc ls (.int x :: .ref (a (i + 9)) :: rest)) :=
  va_iald hx hb hK hP (i + 9) 0 (ur_at hi) rfl (hn ▸ hin) hdg kk
theorem ur_iast {i n : Nat} {x v : Int32} (hx : p.tables.exec = Jvm.exec) (hb : c.code = cc) (hK : ub_K D k s) (hP : ur_P D a k σ H) (hAd : ur_Ad a) (hS : va_S (ur_A a) H0 H locs) (hi : i < 110) (hn : ur_len i = n) (hin : ub_in x n) (hdg : decode cc pc = .ok (.iastore, 1))
    (kk : ∀ (H1 : Heap) (locs1 : List Loc), ur_P D a k (wr σ i x.toNatClampNeg v) H1 → va_S (ur_A a) H0 H1 locs1 → W p l e R s m args below meth c H1 locs1 cells slots Q (F0 m (pc + 1) ls rest)) : W p l e R s m args below meth c H locs cells slots Q (F0 m pc ls (.int v :: .int x :: .ref (a (i + 9)) :: rest)) :=
  va_iast hx hb hK hP (ur_D hAd) hS (i + 9) 0 (ur_at hi) rfl (hn ▸ hin) hdg (fun H1 locs1 hP1 _ hS1 => kk H1 locs1 (by rw [ur_setA hi] at hP1; exact hP1) hS1)
theorem ur_alen {i : Nat} (hx : p.tables.exec = Jvm.exec) (hb : c.code = cc) (hK : ub_K D k s) (hP : ur_P D a k σ H) (hi : i < 110) (hdg : decode cc pc = .ok (.arraylength, 1))
    (kk : W p l e R s m args below meth c H locs cells slots Q (F0 m (pc + 1) ls (.int (nI (ur_len i)) :: rest))) : W p l e R s m args below meth c H locs cells slots Q (F0 m pc ls (.ref (a (i + 9)) :: rest)) :=
  va_alen hx hb hK hP (i + 9) 0 (ur_at hi) rfl rfl hdg kk
theorem ur_zald {x : Int32} (hx : p.tables.exec = Jvm.exec) (hb : c.code = cc) (hK : ub_K D k s) (hP : ur_P D a k σ H) (hin : ub_in x 60) (hdg : decode cc pc = .ok (.baload, 1))
    (kk : W p l e R s m args below meth c H locs cells slots Q (F0 m (pc + 1) ls (.int (σ 110 x.toNatClampNeg) :: rest))) : W p l e R s m args below meth c H locs cells slots Q (F0 m pc ls (.int x :: .ref (a 4) :: rest)) :=
  va_zald hx hb hK hP 4 1 rfl rfl hin hdg kk
theorem ur_zast {x v : Int32} (hx : p.tables.exec = Jvm.exec) (hb : c.code = cc) (hK : ub_K D k s) (hP : ur_P D a k σ H) (hAd : ur_Ad a) (hS : va_S (ur_A a) H0 H locs) (hin : ub_in x 60) (hdg : decode cc pc = .ok (.bastore, 1))
    (kk : ∀ (H1 : Heap) (locs1 : List Loc), ur_P D a k (wr σ 110 x.toNatClampNeg (vp_nar .boolean v)) H1 → va_S (ur_A a) H0 H1 locs1 → W p l e R s m args below meth c H1 locs1 cells slots Q (F0 m (pc + 1) ls rest)) : W p l e R s m args below meth c H locs cells slots Q (F0 m pc ls (.int v :: .int x :: .ref (a 4) :: rest)) :=
  va_zast hx hb hK hP (ur_D hAd) hS 4 1 rfl rfl hin hdg (fun H1 locs1 hP1 _ hS1 => kk H1 locs1 (by
    rw [ur_set0 (τ := wr σ 110 x.toNatClampNeg (vp_nar .boolean v)) (by decide) (fun i hi => wr_ne (by omega)) ?_] at hP1
    · exact hP1
    · show _ = _
      unfold ur_X
      rw [wr_row, wr_ne (i' := 111) (by decide)]
      rfl) hS1)
theorem ur_glt0 {x : Int32} (h : ub_in x 12) : x.toNatClampNeg + 14 < 110 := by
  have := Nat.not_le.mp (fun q => h (Or.inr q))
  omega
theorem ur_gln0 {x : Int32} (h : ub_in x 12) : ur_len (x.toNatClampNeg + 14) = 8 := by
  have := Nat.not_le.mp (fun q => h (Or.inr q))
  unfold ur_len
  repeat' split
  all_goals omega
theorem ur_gald0 {x : Int32} (hx : p.tables.exec = Jvm.exec) (hb : c.code = cc) (hK : ub_K D k s) (hP : ur_P D a k σ H) (hin : ub_in x 12) (hdg : decode cc pc = .ok (.aaload, 1))
    (kk : W p l e R s m args below meth c H locs cells slots Q (F0 m (pc + 1) ls (.ref (a (x.toNatClampNeg + 14 + 9)) :: rest))) : W p l e R s m args below meth c H locs cells slots Q (F0 m pc ls (.int x :: .ref (a 5) :: rest)) :=
  ub_aald hx hb hK hP (q0 := 5) (t0 := 2) rfl rfl hin hdg kk
theorem ur_glt1 {x : Int32} (h : ub_in x 12) : x.toNatClampNeg + 26 < 110 := by
  have := Nat.not_le.mp (fun q => h (Or.inr q))
  omega
theorem ur_gln1 {x : Int32} (h : ub_in x 12) : ur_len (x.toNatClampNeg + 26) = 8 := by
  have := Nat.not_le.mp (fun q => h (Or.inr q))
  unfold ur_len
  repeat' split
  all_goals omega
theorem ur_gald1 {x : Int32} (hx : p.tables.exec = Jvm.exec) (hb : c.code = cc) (hK : ub_K D k s) (hP : ur_P D a k σ H) (hin : ub_in x 12) (hdg : decode cc pc = .ok (.aaload, 1))
    (kk : W p l e R s m args below meth c H locs cells slots Q (F0 m (pc + 1) ls (.ref (a (x.toNatClampNeg + 26 + 9)) :: rest))) : W p l e R s m args below meth c H locs cells slots Q (F0 m pc ls (.int x :: .ref (a 6) :: rest)) :=
  ub_aald hx hb hK hP (q0 := 6) (t0 := 2) rfl rfl hin hdg kk
theorem ur_glt2 {x : Int32} (h : ub_in x 12) : x.toNatClampNeg + 38 < 110 := by
  have := Nat.not_le.mp (fun q => h (Or.inr q))
  omega
theorem ur_gln2 {x : Int32} (h : ub_in x 12) : ur_len (x.toNatClampNeg + 38) = 8 := by
  have := Nat.not_le.mp (fun q => h (Or.inr q))
  unfold ur_len
  repeat' split
  all_goals omega
theorem ur_gald2 {x : Int32} (hx : p.tables.exec = Jvm.exec) (hb : c.code = cc) (hK : ub_K D k s) (hP : ur_P D a k σ H) (hin : ub_in x 12) (hdg : decode cc pc = .ok (.aaload, 1))
    (kk : W p l e R s m args below meth c H locs cells slots Q (F0 m (pc + 1) ls (.ref (a (x.toNatClampNeg + 38 + 9)) :: rest))) : W p l e R s m args below meth c H locs cells slots Q (F0 m pc ls (.int x :: .ref (a 7) :: rest)) :=
  ub_aald hx hb hK hP (q0 := 7) (t0 := 2) rfl rfl hin hdg kk
theorem ur_glt3 {x : Int32} (h : ub_in x 60) : x.toNatClampNeg + 50 < 110 := by
  have := Nat.not_le.mp (fun q => h (Or.inr q))
  omega
theorem ur_gln3 {x : Int32} (h : ub_in x 60) : ur_len (x.toNatClampNeg + 50) = 12 := by
  have := Nat.not_le.mp (fun q => h (Or.inr q))
  unfold ur_len
  repeat' split
  all_goals omega
theorem ur_gald3 {x : Int32} (hx : p.tables.exec = Jvm.exec) (hb : c.code = cc) (hK : ub_K D k s) (hP : ur_P D a k σ H) (hin : ub_in x 60) (hdg : decode cc pc = .ok (.aaload, 1))
    (kk : W p l e R s m args below meth c H locs cells slots Q (F0 m (pc + 1) ls (.ref (a (x.toNatClampNeg + 50 + 9)) :: rest))) : W p l e R s m args below meth c H locs cells slots Q (F0 m pc ls (.int x :: .ref (a 8) :: rest)) :=
  ub_aald hx hb hK hP (q0 := 8) (t0 := 2) rfl rfl hin hdg kk
theorem ur_rc0 (hK : ub_K D k s) (hP : ur_P D a k σ H) : ∃ cell : Cell, H[a 0]? = some cell ∧ cell.vm.isStatics = false ∧ s.vm.findClass urR_Rb = some cell.cls := va_recv hK hP (ci := 0) (q0 := 0) rfl rfl
theorem ur_rc1 (hK : ub_K D k s) (hP : ur_P D a k σ H) : ∃ cell : Cell, H[a 1]? = some cell ∧ cell.vm.isStatics = false ∧ s.vm.findClass urR_Nm = some cell.cls := va_recv hK hP (ci := 1) (q0 := 1) rfl rfl
theorem ur_rc2 (hK : ub_K D k s) (hP : ur_P D a k σ H) : ∃ cell : Cell, H[a 2]? = some cell ∧ cell.vm.isStatics = false ∧ s.vm.findClass urR_So = some cell.cls := va_recv hK hP (ci := 2) (q0 := 2) rfl rfl
theorem ur_rc3 (hK : ub_K D k s) (hP : ur_P D a k σ H) : ∃ cell : Cell, H[a 3]? = some cell ∧ cell.vm.isStatics = false ∧ s.vm.findClass urR_Pr = some cell.cls := va_recv hK hP (ci := 3) (q0 := 3) rfl rfl
variable {y : MethodName} {bytes : ByteArray} {maxL nL n index : Nat} {ret : Option FieldType} {ws : List Cond} {rm : Room} {own C : String} {b : Addr} {As st0 : List Value}
theorem ur_cv_ir {res : Int32} (S : CallFix p m c cc nL s args ub_T own) (hM : Met l y ws rm (ur_Pc D a k σ (.ref b :: As)) (va_Qi (fun (r : Int32) (u : ST) => r = res ∧ u = σ) (ur_B D a k) (ur_A a)) 0 0 (ur_A a)) (cw : CallW R s args own C index y bytes maxL ret ws rm 0 0 n) (hrc : ∃ cell : Cell, H[b]? = some cell ∧ cell.vm.isStatics = false ∧ s.vm.findClass C = some cell.cls) (hK : ub_K D k s) (hP : ur_P D a k σ H)
    (hn : As.length = n) (hsz : ls.size = nL) (hst : st0 = As.reverse ++ .ref b :: rest) (hW : (rest.map fun v => v.category).sum ≤ 8) (hdg : decode cc pc = .ok (.invokevirtual index, 3)) (hS : va_S (ur_A a) H0 H locs)
    (kk : ∀ (H1 : Heap) (locs1 : List Loc), ur_P D a k σ H1 → va_S (ur_A a) H0 H1 locs1 → W p l e R s m args below meth c H1 locs1 0 0 Q (F0 m (pc + 3) ls (.int res :: rest))) : W p l e R s m args below meth c H locs 0 0 Q (F0 m pc ls st0) :=
  va_calli (va_runV (As := As) (rest := rest) S hM cw ⟨ur_blind, hrc, fun U hU hW => ⟨rfl, by rw [hU]; exact hP, va_K.moved hW.alike hK⟩⟩ rfl hn hsz hst (lv_room hW) hdg ⟨Nat.zero_le _, Nat.zero_le _⟩) hS (fun q _ h => h) (fun q h => h) (fun r u t H1 locs1 ht _ hw hB _ _ hS => by
    obtain ⟨h1, h2⟩ := hw
    subst h1
    subst h2
    exact kk H1 locs1 (by rw [← ht]; exact hB.1) hS)
theorem ur_cv_iw {res : Int32 × ST} (S : CallFix p m c cc nL s args ub_T own) (hM : Met l y ws rm (ur_Pc D a k σ (.ref b :: As)) (va_Qi (fun (r : Int32) (u : ST) => r = res.1 ∧ u = res.2) (ur_B D a k) (ur_A a)) 0 0 (ur_A a)) (cw : CallW R s args own C index y bytes maxL ret ws rm 0 0 n) (hrc : ∃ cell : Cell, H[b]? = some cell ∧ cell.vm.isStatics = false ∧ s.vm.findClass C = some cell.cls) (hK : ub_K D k s) (hP : ur_P D a k σ H)
    (hn : As.length = n) (hsz : ls.size = nL) (hst : st0 = As.reverse ++ .ref b :: rest) (hW : (rest.map fun v => v.category).sum ≤ 8) (hdg : decode cc pc = .ok (.invokevirtual index, 3)) (hS : va_S (ur_A a) H0 H locs)
    (kk : ∀ (H1 : Heap) (locs1 : List Loc), ur_P D a k res.2 H1 → va_S (ur_A a) H0 H1 locs1 → W p l e R s m args below meth c H1 locs1 0 0 Q (F0 m (pc + 3) ls (.int res.1 :: rest))) : W p l e R s m args below meth c H locs 0 0 Q (F0 m pc ls st0) :=
  va_calli (va_runV (As := As) (rest := rest) S hM cw ⟨ur_blind, hrc, fun U hU hW => ⟨rfl, by rw [hU]; exact hP, va_K.moved hW.alike hK⟩⟩ rfl hn hsz hst (lv_room hW) hdg ⟨Nat.zero_le _, Nat.zero_le _⟩) hS (fun q _ h => h) (fun q h => h) (fun r u t H1 locs1 ht _ hw hB _ _ hS => by
    obtain ⟨h1, h2⟩ := hw
    rw [h1]
    exact kk H1 locs1 (by rw [← ht, ← h2]; exact hB.1) hS)
theorem ur_cv_v {res : ST} (S : CallFix p m c cc nL s args ub_T own) (hM : Met l y ws rm (ur_Pc D a k σ (.ref b :: As)) (va_Qv (fun (u : ST) => u = res) (ur_B D a k) (ur_A a)) 0 0 (ur_A a)) (cw : CallW R s args own C index y bytes maxL ret ws rm 0 0 n) (hrc : ∃ cell : Cell, H[b]? = some cell ∧ cell.vm.isStatics = false ∧ s.vm.findClass C = some cell.cls) (hK : ub_K D k s) (hP : ur_P D a k σ H)
    (hn : As.length = n) (hsz : ls.size = nL) (hst : st0 = As.reverse ++ .ref b :: rest) (hW : (rest.map fun v => v.category).sum ≤ 8) (hdg : decode cc pc = .ok (.invokevirtual index, 3)) (hS : va_S (ur_A a) H0 H locs)
    (kk : ∀ (H1 : Heap) (locs1 : List Loc), ur_P D a k res H1 → va_S (ur_A a) H0 H1 locs1 → W p l e R s m args below meth c H1 locs1 0 0 Q (F0 m (pc + 3) ls rest)) : W p l e R s m args below meth c H locs 0 0 Q (F0 m pc ls st0) :=
  va_callv (va_runV (As := As) (rest := rest) S hM cw ⟨ur_blind, hrc, fun U hU hW => ⟨rfl, by rw [hU]; exact hP, va_K.moved hW.alike hK⟩⟩ rfl hn hsz hst (lv_room hW) hdg ⟨Nat.zero_le _, Nat.zero_le _⟩) hS (fun q _ h => h) (fun q h => h) (fun u t H1 locs1 ht _ hw hB _ _ hS => kk H1 locs1 (by rw [← ht, ← hw]; exact hB.1) hS)
theorem ur_cs_ir {res : Int32} (S : CallFix p m c cc nL s args ub_T own) (hM : Met l y ws rm (ur_Pc D a k σ As) (va_Qi (fun (r : Int32) (u : ST) => r = res ∧ u = σ) (ur_B D a k) (ur_A a)) 0 0 (ur_A a)) (cw : CallB R s args own index y bytes maxL ret ws rm 0 0 n ∧ (Cond.static y).before args s = true) (hK : ub_K D k s) (hP : ur_P D a k σ H)
    (hn : As.length = n) (hsz : ls.size = nL) (hst : st0 = As.reverse ++ rest) (hW : (rest.map fun v => v.category).sum ≤ 8) (hdg : decode cc pc = .ok (.invokestatic index, 3)) (hS : va_S (ur_A a) H0 H locs)
    (kk : ∀ (H1 : Heap) (locs1 : List Loc), ur_P D a k σ H1 → va_S (ur_A a) H0 H1 locs1 → W p l e R s m args below meth c H1 locs1 0 0 Q (F0 m (pc + 3) ls (.int res :: rest))) : W p l e R s m args below meth c H locs 0 0 Q (F0 m pc ls st0) :=
  va_calli (va_runS (As := As) (rest := rest) S hM cw ⟨ur_blind, fun U hU hW => ⟨rfl, by rw [hU]; exact hP, va_K.moved hW.alike hK⟩⟩ rfl hn hsz hst (lv_room hW) hdg ⟨Nat.zero_le _, Nat.zero_le _⟩) hS (fun q _ h => h) (fun q h => h) (fun r u t H1 locs1 ht _ hw hB _ _ hS => by
    obtain ⟨h1, h2⟩ := hw
    subst h1
    subst h2
    exact kk H1 locs1 (by rw [← ht]; exact hB.1) hS)
end urSEC
def rf_len (i : Nat) : Nat := if i < 1 then 12 else if i < 2 then 12 else if i < 3 then 12 else if i < 4 then 12 else if i < 5 then 12 else if i < 6 then 12 else if i < 7 then 12 else if i < 8 then 12 else if i < 9 then 96 else if i < 10 then 96 else if i < 11 then 96 else if i < 12 then 12 else if i < 13 then 60 else if i < 14 then 60 else if i < 15 then 60 else if i < 16 then 60 else if i < 17 then 60 else 720
def rf_X (a : Nat → Nat) (k : Nat → ClassId) (σ : ST) : va_W := [
  (a 0, .inr (4, [.int (σ 18 0), .int (σ 18 1), .int (σ 18 2), .int (σ 18 3), .int (σ 18 4), .int (σ 18 5), .ref (a (0 + 1)), .ref (a (1 + 1)), .ref (a (2 + 1)), .ref (a (3 + 1)), .ref (a (4 + 1)), .ref (a (5 + 1)), .ref (a (6 + 1)), .ref (a (7 + 1)), .ref (a (8 + 1)), .ref (a (9 + 1)), .ref (a (10 + 1)), .ref (a (11 + 1)), .int (σ 18 6), .ref (a (12 + 1)), .ref (a (13 + 1)), .ref (a (14 + 1)), .ref (a (15 + 1)), .ref (a (16 + 1)), .ref (a (17 + 1))]))]
def rf_cells (a : Nat → Nat) (k : Nat → ClassId) (σ : ST) : va_W := rf_X a k σ ++ (List.range 18).map (fun i => (a (i + 1), .inl (k 0, rf_len i, .inl (σ i))))
def rf_P (D : va_G) (a : Nat → Nat) (k : Nat → ClassId) (σ : ST) (H : Heap) : Prop := va_P D ub_cl (rf_cells a k σ) H

/-- the addresses are apart -/
def rf_Ad (a : Nat → Nat) : Prop := ∀ i j : Nat, i < 19 → j < 19 → a i = a j → i = j
def rf_A (a : Nat → Nat) : Nat → Prop := fun q => ∃ i : Nat, i < 19 ∧ q = a i
abbrev rf_B (D : va_G) (a : Nat → Nat) (k : Nat → ClassId) (u : ST) (t : State) : Prop := rf_P D a k u t.heap ∧ ub_K D k t
abbrev rf_Pc (D : va_G) (a : Nat → Nat) (k : Nat → ClassId) (σ : ST) (av : List Value) : Array Value → State → Prop := va_Pc av (fun U => rf_P D a k σ U.heap ∧ ub_K D k U)
theorem rf_blind {D : va_G} {a : Nat → Nat} {k : Nat → ClassId} {σ : ST} {av : List Value} : FrameBlind (rf_Pc D a k σ av) := fun v U g mk q => by
  obtain ⟨q0, qP, qK⟩ := q
  exact ⟨q0, qP, va_K.moved (u := U) (U := U.calling g mk v) (Vm.Alike.refl U.vm) qK⟩
theorem rf_at {a : Nat → Nat} {k : Nat → ClassId} {σ : ST} {i : Nat} (hi : i < 18) : (rf_cells a k σ)[i + 1]? = some (a (i + 1), .inl (k 0, rf_len i, .inl (σ i))) := by
  unfold rf_cells
  rw [List.getElem?_append_right (show (rf_X a k σ).length ≤ i + 1 from Nat.le_add_left _ _)]
  rw [show i + 1 - (rf_X a k σ).length = i from Nat.add_sub_cancel i 1]
  rw [List.getElem?_map, List.getElem?_range hi]
  rfl
theorem rf_at0 {a : Nat → Nat} {k : Nat → ClassId} {σ : ST} {i : Nat} (hi : i < 1) : (rf_cells a k σ)[i]? = (rf_X a k σ)[i]? := by
  unfold rf_cells
  rw [List.getElem?_append_left (show i < (rf_X a k σ).length from hi)]
theorem rf_fst {a : Nat → Nat} {k : Nat → ClassId} {σ : ST} {i : Nat} {q : Nat × va_E} (h : (rf_cells a k σ)[i]? = some q) : i < 19 ∧ q.1 = a i := by
  by_cases h0 : i < 1
  · rw [rf_at0 h0] at h
    refine ⟨by omega, ?_⟩
    match i, h0, h with
    | 0, _, h => cases h; rfl
    | j + 1, h0, _ => exact absurd h0 (by omega)
  · obtain ⟨j, rfl⟩ : ∃ j, i = j + 1 := ⟨i - 1, by omega⟩
    by_cases h1 : j < 18
    · rw [rf_at h1] at h
      cases h
      exact ⟨by omega, rfl⟩
    · exfalso
      have h2 := (List.getElem?_eq_some_iff.mp h).1
      have h3 : (rf_cells a k σ).length = 1 + 18 := by
        unfold rf_cells
        rw [List.length_append, List.length_map, List.length_range]
        rfl
      omega
theorem rf_D {a : Nat → Nat} {k : Nat → ClassId} {σ : ST} (h : rf_Ad a) : va_D (rf_A a) (rf_cells a k σ) :=
  ⟨fun i j x y hi hj hxy => h i j (rf_fst hi).1 (rf_fst hj).1 (by rw [← (rf_fst hi).2, ← (rf_fst hj).2]; exact hxy), fun i x hi => ⟨i, (rf_fst hi).1, (rf_fst hi).2⟩⟩
theorem rf_setA {a : Nat → Nat} {k : Nat → ClassId} {σ : ST} {i j : Nat} {v : Int32} (hi : i < 18) : (rf_cells a k σ).set (i + 1) (a (i + 1), .inl (k 0, rf_len i, .inl (upd (σ i) j v))) = rf_cells a k (wr σ i j v) := by
  have e1 : wr σ i j v 18 = σ 18 := wr_ne (by omega)
  have e2 : wr σ i j v 18 = σ 18 := wr_ne (by omega)
  have hX : rf_X a k (wr σ i j v) = rf_X a k σ := by
    unfold rf_X
    rw [e1]
  apply List.ext_getElem?
  intro x
  by_cases hx : x = i + 1
  · subst hx
    rw [rf_at hi, wr_row, List.getElem?_set_self]
    exact (List.getElem?_eq_some_iff.mp (rf_at hi)).1
  · rw [List.getElem?_set_ne (Ne.symm hx)]
    by_cases h0 : x < 1
    · rw [rf_at0 h0, rf_at0 h0, hX]
    · obtain ⟨j', rfl⟩ : ∃ j', x = j' + 1 := ⟨x - 1, by omega⟩
      by_cases h1 : j' < 18
      · rw [rf_at h1, rf_at h1, wr_ne (by omega)]
      · have q : ∀ τ : ST, (rf_cells a k τ)[j' + 1]? = none := by
          intro τ
          cases hq : (rf_cells a k τ)[j' + 1]? with
          | none => rfl
          | some y => exact absurd (rf_fst hq).1 (by omega)
        rw [q, q]
/-- the same cells but for one of the first places -/
theorem rf_set0 {a : Nat → Nat} {k : Nat → ClassId} {σ τ : ST} {x : Nat} {y : Nat × va_E} (hx : x < 1) (h1 : ∀ i, i < 18 → τ i = σ i) (h2 : (rf_X a k σ).set x y = rf_X a k τ) : (rf_cells a k σ).set x y = rf_cells a k τ := by
  unfold rf_cells
  rw [List.set_append_left x y (show x < (rf_X a k σ).length from hx), h2]
  congr 1
  apply List.map_congr_left
  intro i hi
  rw [h1 i (List.mem_range.mp hi)]
section rfSEC
variable {p : Program} {l : Launch} {e : Env} {R : Room} {s : State} {m : MethodId} {args : Array Value} {below : List Frame} {meth : Method} {c : Code} {H : Heap} {locs : List Loc} {cells slots : Nat} {Q : State → Prop}
variable {cc : ByteArray} {pc : Nat} {ls : Array Slot} {rest : List Value} {D : va_G} {a : Nat → Nat} {k : Nat → ClassId} {σ : ST} {H0 : Heap}
theorem rf_iald {i n : Nat} {x : Int32} (hx : p.tables.exec = Jvm.exec) (hb : c.code = cc) (hK : ub_K D k s) (hP : rf_P D a k σ H) (hi : i < 18) (hn : rf_len i = n) (hin : ub_in x n) (hdg : decode cc pc = .ok (.iaload, 1))
    (kk : W p l e R s m args below meth c H locs cells slots Q (F0 m (pc + 1) ls (.int (σ i x.toNatClampNeg) :: rest))) : W p l e R s m args below meth c H locs cells slots Q (F0 m pc ls (.int x :: .ref (a (i + 1)) :: rest)) :=
  va_iald hx hb hK hP (i + 1) 0 (rf_at hi) rfl (hn ▸ hin) hdg kk
theorem rf_iast {i n : Nat} {x v : Int32} (hx : p.tables.exec = Jvm.exec) (hb : c.code = cc) (hK : ub_K D k s) (hP : rf_P D a k σ H) (hAd : rf_Ad a) (hS : va_S (rf_A a) H0 H locs) (hi : i < 18) (hn : rf_len i = n) (hin : ub_in x n) (hdg : decode cc pc = .ok (.iastore, 1))
    (kk : ∀ (H1 : Heap) (locs1 : List Loc), rf_P D a k (wr σ i x.toNatClampNeg v) H1 → va_S (rf_A a) H0 H1 locs1 → W p l e R s m args below meth c H1 locs1 cells slots Q (F0 m (pc + 1) ls rest)) : W p l e R s m args below meth c H locs cells slots Q (F0 m pc ls (.int v :: .int x :: .ref (a (i + 1)) :: rest)) :=
  va_iast hx hb hK hP (rf_D hAd) hS (i + 1) 0 (rf_at hi) rfl (hn ▸ hin) hdg (fun H1 locs1 hP1 _ hS1 => kk H1 locs1 (by rw [rf_setA hi] at hP1; exact hP1) hS1)
theorem rf_alen {i : Nat} (hx : p.tables.exec = Jvm.exec) (hb : c.code = cc) (hK : ub_K D k s) (hP : rf_P D a k σ H) (hi : i < 18) (hdg : decode cc pc = .ok (.arraylength, 1))
    (kk : W p l e R s m args below meth c H locs cells slots Q (F0 m (pc + 1) ls (.int (nI (rf_len i)) :: rest))) : W p l e R s m args below meth c H locs cells slots Q (F0 m pc ls (.ref (a (i + 1)) :: rest)) :=
  va_alen hx hb hK hP (i + 1) 0 (rf_at hi) rfl rfl hdg kk
theorem rf_rc0 (hK : ub_K D k s) (hP : rf_P D a k σ H) : ∃ cell : Cell, H[a 0]? = some cell ∧ cell.vm.isStatics = false ∧ s.vm.findClass rfR_Md = some cell.cls := va_recv hK hP (ci := 4) (q0 := 0) rfl rfl
variable {y : MethodName} {bytes : ByteArray} {maxL nL n index : Nat} {ret : Option FieldType} {ws : List Cond} {rm : Room} {own C : String} {b : Addr} {As st0 : List Value}
theorem rf_cv_ir {res : Int32} (S : CallFix p m c cc nL s args ub_T own) (hM : Met l y ws rm (rf_Pc D a k σ (.ref b :: As)) (va_Qi (fun (r : Int32) (u : ST) => r = res ∧ u = σ) (rf_B D a k) (rf_A a)) 0 0 (rf_A a)) (cw : CallW R s args own C index y bytes maxL ret ws rm 0 0 n) (hrc : ∃ cell : Cell, H[b]? = some cell ∧ cell.vm.isStatics = false ∧ s.vm.findClass C = some cell.cls) (hK : ub_K D k s) (hP : rf_P D a k σ H)
    (hn : As.length = n) (hsz : ls.size = nL) (hst : st0 = As.reverse ++ .ref b :: rest) (hW : (rest.map fun v => v.category).sum ≤ 8) (hdg : decode cc pc = .ok (.invokevirtual index, 3)) (hS : va_S (rf_A a) H0 H locs)
    (kk : ∀ (H1 : Heap) (locs1 : List Loc), rf_P D a k σ H1 → va_S (rf_A a) H0 H1 locs1 → W p l e R s m args below meth c H1 locs1 0 0 Q (F0 m (pc + 3) ls (.int res :: rest))) : W p l e R s m args below meth c H locs 0 0 Q (F0 m pc ls st0) :=
  va_calli (va_runV (As := As) (rest := rest) S hM cw ⟨rf_blind, hrc, fun U hU hW => ⟨rfl, by rw [hU]; exact hP, va_K.moved hW.alike hK⟩⟩ rfl hn hsz hst (lv_room hW) hdg ⟨Nat.zero_le _, Nat.zero_le _⟩) hS (fun q _ h => h) (fun q h => h) (fun r u t H1 locs1 ht _ hw hB _ _ hS => by
    obtain ⟨h1, h2⟩ := hw
    subst h1
    subst h2
    exact kk H1 locs1 (by rw [← ht]; exact hB.1) hS)
theorem rf_cv_iw {res : Int32 × ST} (S : CallFix p m c cc nL s args ub_T own) (hM : Met l y ws rm (rf_Pc D a k σ (.ref b :: As)) (va_Qi (fun (r : Int32) (u : ST) => r = res.1 ∧ u = res.2) (rf_B D a k) (rf_A a)) 0 0 (rf_A a)) (cw : CallW R s args own C index y bytes maxL ret ws rm 0 0 n) (hrc : ∃ cell : Cell, H[b]? = some cell ∧ cell.vm.isStatics = false ∧ s.vm.findClass C = some cell.cls) (hK : ub_K D k s) (hP : rf_P D a k σ H)
    (hn : As.length = n) (hsz : ls.size = nL) (hst : st0 = As.reverse ++ .ref b :: rest) (hW : (rest.map fun v => v.category).sum ≤ 8) (hdg : decode cc pc = .ok (.invokevirtual index, 3)) (hS : va_S (rf_A a) H0 H locs)
    (kk : ∀ (H1 : Heap) (locs1 : List Loc), rf_P D a k res.2 H1 → va_S (rf_A a) H0 H1 locs1 → W p l e R s m args below meth c H1 locs1 0 0 Q (F0 m (pc + 3) ls (.int res.1 :: rest))) : W p l e R s m args below meth c H locs 0 0 Q (F0 m pc ls st0) :=
  va_calli (va_runV (As := As) (rest := rest) S hM cw ⟨rf_blind, hrc, fun U hU hW => ⟨rfl, by rw [hU]; exact hP, va_K.moved hW.alike hK⟩⟩ rfl hn hsz hst (lv_room hW) hdg ⟨Nat.zero_le _, Nat.zero_le _⟩) hS (fun q _ h => h) (fun q h => h) (fun r u t H1 locs1 ht _ hw hB _ _ hS => by
    obtain ⟨h1, h2⟩ := hw
    rw [h1]
    exact kk H1 locs1 (by rw [← ht, ← h2]; exact hB.1) hS)
theorem rf_cv_v {res : ST} (S : CallFix p m c cc nL s args ub_T own) (hM : Met l y ws rm (rf_Pc D a k σ (.ref b :: As)) (va_Qv (fun (u : ST) => u = res) (rf_B D a k) (rf_A a)) 0 0 (rf_A a)) (cw : CallW R s args own C index y bytes maxL ret ws rm 0 0 n) (hrc : ∃ cell : Cell, H[b]? = some cell ∧ cell.vm.isStatics = false ∧ s.vm.findClass C = some cell.cls) (hK : ub_K D k s) (hP : rf_P D a k σ H)
    (hn : As.length = n) (hsz : ls.size = nL) (hst : st0 = As.reverse ++ .ref b :: rest) (hW : (rest.map fun v => v.category).sum ≤ 8) (hdg : decode cc pc = .ok (.invokevirtual index, 3)) (hS : va_S (rf_A a) H0 H locs)
    (kk : ∀ (H1 : Heap) (locs1 : List Loc), rf_P D a k res H1 → va_S (rf_A a) H0 H1 locs1 → W p l e R s m args below meth c H1 locs1 0 0 Q (F0 m (pc + 3) ls rest)) : W p l e R s m args below meth c H locs 0 0 Q (F0 m pc ls st0) :=
  va_callv (va_runV (As := As) (rest := rest) S hM cw ⟨rf_blind, hrc, fun U hU hW => ⟨rfl, by rw [hU]; exact hP, va_K.moved hW.alike hK⟩⟩ rfl hn hsz hst (lv_room hW) hdg ⟨Nat.zero_le _, Nat.zero_le _⟩) hS (fun q _ h => h) (fun q h => h) (fun u t H1 locs1 ht _ hw hB _ _ hS => kk H1 locs1 (by rw [← ht, ← hw]; exact hB.1) hS)
theorem rf_cs_ir {res : Int32} (S : CallFix p m c cc nL s args ub_T own) (hM : Met l y ws rm (rf_Pc D a k σ As) (va_Qi (fun (r : Int32) (u : ST) => r = res ∧ u = σ) (rf_B D a k) (rf_A a)) 0 0 (rf_A a)) (cw : CallB R s args own index y bytes maxL ret ws rm 0 0 n ∧ (Cond.static y).before args s = true) (hK : ub_K D k s) (hP : rf_P D a k σ H)
    (hn : As.length = n) (hsz : ls.size = nL) (hst : st0 = As.reverse ++ rest) (hW : (rest.map fun v => v.category).sum ≤ 8) (hdg : decode cc pc = .ok (.invokestatic index, 3)) (hS : va_S (rf_A a) H0 H locs)
    (kk : ∀ (H1 : Heap) (locs1 : List Loc), rf_P D a k σ H1 → va_S (rf_A a) H0 H1 locs1 → W p l e R s m args below meth c H1 locs1 0 0 Q (F0 m (pc + 3) ls (.int res :: rest))) : W p l e R s m args below meth c H locs 0 0 Q (F0 m pc ls st0) :=
  va_calli (va_runS (As := As) (rest := rest) S hM cw ⟨rf_blind, fun U hU hW => ⟨rfl, by rw [hU]; exact hP, va_K.moved hW.alike hK⟩⟩ rfl hn hsz hst (lv_room hW) hdg ⟨Nat.zero_le _, Nat.zero_le _⟩) hS (fun q _ h => h) (fun q h => h) (fun r u t H1 locs1 ht _ hw hB _ _ hS => by
    obtain ⟨h1, h2⟩ := hw
    subst h1
    subst h2
    exact kk H1 locs1 (by rw [← ht]; exact hB.1) hS)
end rfSEC
