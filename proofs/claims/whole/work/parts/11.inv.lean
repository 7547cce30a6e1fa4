def Rl (c : Nat) (σ τ : ST) : Prop :=
  σ 0 = τ 0 ∧
  σ 2 = τ 2 ∧
  σ 3 = τ 3 ∧
  σ 4 = τ 4 ∧
  σ 5 = τ 5 ∧
  σ 6 = τ 6 ∧
  σ 7 = τ 7 ∧
  σ 10 = τ 12 ∧
  σ 11 = τ 13 ∧
  σ 12 = τ 14 ∧
  σ 13 = τ 15 ∧
  σ 110 = τ 16 ∧
  (∀ n v : Nat, n < 12 → v < 8 → σ (n + 14) v = τ 8 (8 * n + v)) ∧
  (∀ n v : Nat, n < 12 → v < 8 → σ (n + 26) v = τ 9 (8 * n + v)) ∧
  (∀ n v : Nat, n < 12 → v < 8 → σ (n + 38) v = τ 10 (8 * n + v)) ∧
  (∀ p n : Nat, p < 60 → n < 12 → σ (p + 50) n = τ 17 (12 * p + n)) ∧
  (∀ n : Nat, n < c → σ 1 n = τ 1 n + 1) ∧
  (∀ n : Nat, c ≤ n → τ 1 n = 0) ∧
  σ 111 0 = τ 18 0 ∧
  σ 111 1 = τ 18 2 ∧
  σ 111 2 = τ 18 5 ∧
  τ 18 3 = nI c ∧
  σ 111 4 = τ 18 4
theorem Rl.a0 {c : Nat} {σ τ : ST} (h : Rl c σ τ) : σ 0 = τ 0 := h.1
theorem Rl.a2 {c : Nat} {σ τ : ST} (h : Rl c σ τ) : σ 2 = τ 2 := h.2.1
theorem Rl.a3 {c : Nat} {σ τ : ST} (h : Rl c σ τ) : σ 3 = τ 3 := h.2.2.1
theorem Rl.a4 {c : Nat} {σ τ : ST} (h : Rl c σ τ) : σ 4 = τ 4 := h.2.2.2.1
theorem Rl.a5 {c : Nat} {σ τ : ST} (h : Rl c σ τ) : σ 5 = τ 5 := h.2.2.2.2.1
theorem Rl.a6 {c : Nat} {σ τ : ST} (h : Rl c σ τ) : σ 6 = τ 6 := h.2.2.2.2.2.1
theorem Rl.a7 {c : Nat} {σ τ : ST} (h : Rl c σ τ) : σ 7 = τ 7 := h.2.2.2.2.2.2.1
theorem Rl.a10 {c : Nat} {σ τ : ST} (h : Rl c σ τ) : σ 10 = τ 12 := h.2.2.2.2.2.2.2.1
theorem Rl.a11 {c : Nat} {σ τ : ST} (h : Rl c σ τ) : σ 11 = τ 13 := h.2.2.2.2.2.2.2.2.1
theorem Rl.a12 {c : Nat} {σ τ : ST} (h : Rl c σ τ) : σ 12 = τ 14 := h.2.2.2.2.2.2.2.2.2.1
theorem Rl.a13 {c : Nat} {σ τ : ST} (h : Rl c σ τ) : σ 13 = τ 15 := h.2.2.2.2.2.2.2.2.2.2.1
theorem Rl.a110 {c : Nat} {σ τ : ST} (h : Rl c σ τ) : σ 110 = τ 16 := h.2.2.2.2.2.2.2.2.2.2.2.1
theorem Rl.k14 {c : Nat} {σ τ : ST} (h : Rl c σ τ) : (∀ n v : Nat, n < 12 → v < 8 → σ (n + 14) v = τ 8 (8 * n + v)) := h.2.2.2.2.2.2.2.2.2.2.2.2.1
theorem Rl.k26 {c : Nat} {σ τ : ST} (h : Rl c σ τ) : (∀ n v : Nat, n < 12 → v < 8 → σ (n + 26) v = τ 9 (8 * n + v)) := h.2.2.2.2.2.2.2.2.2.2.2.2.2.1
theorem Rl.k38 {c : Nat} {σ τ : ST} (h : Rl c σ τ) : (∀ n v : Nat, n < 12 → v < 8 → σ (n + 38) v = τ 10 (8 * n + v)) := h.2.2.2.2.2.2.2.2.2.2.2.2.2.2.1
theorem Rl.k50 {c : Nat} {σ τ : ST} (h : Rl c σ τ) : (∀ p n : Nat, p < 60 → n < 12 → σ (p + 50) n = τ 17 (12 * p + n)) := h.2.2.2.2.2.2.2.2.2.2.2.2.2.2.2.1
theorem Rl.v1 {c : Nat} {σ τ : ST} (h : Rl c σ τ) : (∀ n : Nat, n < c → σ 1 n = τ 1 n + 1) := h.2.2.2.2.2.2.2.2.2.2.2.2.2.2.2.2.1
theorem Rl.v0 {c : Nat} {σ τ : ST} (h : Rl c σ τ) : (∀ n : Nat, c ≤ n → τ 1 n = 0) := h.2.2.2.2.2.2.2.2.2.2.2.2.2.2.2.2.2.1
theorem Rl.s0 {c : Nat} {σ τ : ST} (h : Rl c σ τ) : σ 111 0 = τ 18 0 := h.2.2.2.2.2.2.2.2.2.2.2.2.2.2.2.2.2.2.1
theorem Rl.s1 {c : Nat} {σ τ : ST} (h : Rl c σ τ) : σ 111 1 = τ 18 2 := h.2.2.2.2.2.2.2.2.2.2.2.2.2.2.2.2.2.2.2.1
theorem Rl.s2 {c : Nat} {σ τ : ST} (h : Rl c σ τ) : σ 111 2 = τ 18 5 := h.2.2.2.2.2.2.2.2.2.2.2.2.2.2.2.2.2.2.2.2.1
theorem Rl.t3 {c : Nat} {σ τ : ST} (h : Rl c σ τ) : τ 18 3 = nI c := h.2.2.2.2.2.2.2.2.2.2.2.2.2.2.2.2.2.2.2.2.2.1
theorem Rl.s4 {c : Nat} {σ τ : ST} (h : Rl c σ τ) : σ 111 4 = τ 18 4 := h.2.2.2.2.2.2.2.2.2.2.2.2.2.2.2.2.2.2.2.2.2.2
def Wf (X : Nat → Prop) (c m : Nat) (σ : ST) : Prop :=
  c ≤ 12 ∧
  σ 111 3 = nI c ∧
  m ≤ 60 ∧
  σ 111 4 = nI m ∧
  (∀ n : Nat, n < c → ∃ h v : Nat, h < v ∧ v ≤ 8 ∧ σ 2 n = nI h ∧ σ 1 n = nI v) ∧
  (∀ n : Nat, c ≤ n → σ 2 n = 0) ∧
  (∀ n : Nat, n < c → σ 6 n = -1 ∨ ∃ w v : Nat, w < v ∧ v ≤ 8 ∧ σ 6 n = nI w ∧ σ 1 n = nI v) ∧
  (∀ n v : Nat, n < c → v < 8 → nI v < σ 1 n → σ (n + 26) v = -1 ∨ ∃ o : Nat, o < c ∧ σ (n + 26) v = nI o) ∧
  (∀ n v : Nat, n < 12 → v < 8 → ∃ l : Nat, l < 8 ∧ σ (n + 38) v = nI l) ∧
  (∃ t : Nat, t ≤ 1000000000 ∧ σ 111 1 = nI t) ∧
  (∀ p : Nat, p < m → ∃ q : Nat, q < c ∧ σ 11 p = nI q) ∧
  (∀ p : Nat, m ≤ p → σ 12 p = 0) ∧
  (∀ p : Nat, σ 110 p = 0 ∨ σ 110 p = 1) ∧
  (∀ p n : Nat, p < m → c ≤ n → n < 12 → σ (p + 50) n = -1) ∧
  (∀ p n : Nat, p < m → n < 12 → σ 10 p = 0 → X p ∨ σ (p + 50) n = -1 ∨ σ 2 n < σ (p + 50) n) ∧
  (∀ p n : Nat, p < m → n < c → σ (p + 50) n = -1 ∨ ∃ r v : Nat, r < v ∧ v ≤ 8 ∧ σ (p + 50) n = nI r ∧ σ 1 n = nI v)
theorem Wf.c12 {X : Nat → Prop} {c m : Nat} {σ : ST} (h : Wf X c m σ) : c ≤ 12 := h.1
theorem Wf.cn {X : Nat → Prop} {c m : Nat} {σ : ST} (h : Wf X c m σ) : σ 111 3 = nI c := h.2.1
theorem Wf.m60 {X : Nat → Prop} {c m : Nat} {σ : ST} (h : Wf X c m σ) : m ≤ 60 := h.2.2.1
theorem Wf.mn {X : Nat → Prop} {c m : Nat} {σ : ST} (h : Wf X c m σ) : σ 111 4 = nI m := h.2.2.2.1
theorem Wf.had {X : Nat → Prop} {c m : Nat} {σ : ST} (h : Wf X c m σ) : (∀ n : Nat, n < c → ∃ h v : Nat, h < v ∧ v ≤ 8 ∧ σ 2 n = nI h ∧ σ 1 n = nI v) := h.2.2.2.2.1
theorem Wf.had0 {X : Nat → Prop} {c m : Nat} {σ : ST} (h : Wf X c m σ) : (∀ n : Nat, c ≤ n → σ 2 n = 0) := h.2.2.2.2.2.1
theorem Wf.adv {X : Nat → Prop} {c m : Nat} {σ : ST} (h : Wf X c m σ) : (∀ n : Nat, n < c → σ 6 n = -1 ∨ ∃ w v : Nat, w < v ∧ v ≤ 8 ∧ σ 6 n = nI w ∧ σ 1 n = nI v) := h.2.2.2.2.2.2.1
theorem Wf.ned {X : Nat → Prop} {c m : Nat} {σ : ST} (h : Wf X c m σ) : (∀ n v : Nat, n < c → v < 8 → nI v < σ 1 n → σ (n + 26) v = -1 ∨ ∃ o : Nat, o < c ∧ σ (n + 26) v = nI o) := h.2.2.2.2.2.2.2.1
theorem Wf.lst {X : Nat → Prop} {c m : Nat} {σ : ST} (h : Wf X c m σ) : (∀ n v : Nat, n < 12 → v < 8 → ∃ l : Nat, l < 8 ∧ σ (n + 38) v = nI l) := h.2.2.2.2.2.2.2.2.1
theorem Wf.clk {X : Nat → Prop} {c m : Nat} {σ : ST} (h : Wf X c m σ) : (∃ t : Nat, t ≤ 1000000000 ∧ σ 111 1 = nI t) := h.2.2.2.2.2.2.2.2.2.1
theorem Wf.chf {X : Nat → Prop} {c m : Nat} {σ : ST} (h : Wf X c m σ) : (∀ p : Nat, p < m → ∃ q : Nat, q < c ∧ σ 11 p = nI q) := h.2.2.2.2.2.2.2.2.2.2.1
theorem Wf.rdn {X : Nat → Prop} {c m : Nat} {σ : ST} (h : Wf X c m σ) : (∀ p : Nat, m ≤ p → σ 12 p = 0) := h.2.2.2.2.2.2.2.2.2.2.2.1
theorem Wf.hit {X : Nat → Prop} {c m : Nat} {σ : ST} (h : Wf X c m σ) : (∀ p : Nat, σ 110 p = 0 ∨ σ 110 p = 1) := h.2.2.2.2.2.2.2.2.2.2.2.2.1
theorem Wf.row {X : Nat → Prop} {c m : Nat} {σ : ST} (h : Wf X c m σ) : (∀ p n : Nat, p < m → c ≤ n → n < 12 → σ (p + 50) n = -1) := h.2.2.2.2.2.2.2.2.2.2.2.2.2.1
theorem Wf.opn {X : Nat → Prop} {c m : Nat} {σ : ST} (h : Wf X c m σ) : (∀ p n : Nat, p < m → n < 12 → σ 10 p = 0 → X p ∨ σ (p + 50) n = -1 ∨ σ 2 n < σ (p + 50) n) := h.2.2.2.2.2.2.2.2.2.2.2.2.2.2.1
theorem Wf.rwv {X : Nat → Prop} {c m : Nat} {σ : ST} (h : Wf X c m σ) : (∀ p n : Nat, p < m → n < c → σ (p + 50) n = -1 ∨ ∃ r v : Nat, r < v ∧ v ≤ 8 ∧ σ (p + 50) n = nI r ∧ σ 1 n = nI v) := h.2.2.2.2.2.2.2.2.2.2.2.2.2.2.2
def Iv (σ τ : ST) : Prop := ∃ c m : Nat, Wf (fun _ => False) c m σ ∧ Rl c σ τ
variable {X : Nat → Prop}
/-! numbers -/
theorem i_lt (x y : Int32) : x < y ↔ x.toInt < y.toInt := Int32.lt_iff_toInt_lt
theorem i_le (x y : Int32) : x ≤ y ↔ x.toInt ≤ y.toInt := Int32.le_iff_toInt_le
theorem i_eq (x y : Int32) : x = y ↔ x.toInt = y.toInt := ⟨fun h => by rw [h], fun h => Int32.toInt_inj.mp h⟩
theorem t_nI {n : Nat} (h : n < 2 ^ 31) : (nI n).toInt = (n : Int) := nI_toInt h
theorem in_nI {j n : Nat} (h : j < n) (hn : n < 2 ^ 31) : ub_in (nI j) n := vp_in_nI h hn
theorem cl_nI {n : Nat} (h : n < 2 ^ 31) : (nI n).toNatClampNeg = n := nI_clamp h
theorem m1_ne {n : Nat} (h : n < 2 ^ 31) : ¬ nI n = -1 := fun q => by
  have := congrArg Int32.toInt q
  rw [t_nI h] at this
  have h2 : (-1 : Int32).toInt = -1 := by decide
  omega
theorem m1_lt {n : Nat} (h : n < 2 ^ 31) : (-1 : Int32) < nI n := by
  rw [i_lt, t_nI h]
  have h2 : (-1 : Int32).toInt = -1 := by decide
  omega
theorem wr_at (σ : ST) (i j : Nat) (v : Int32) (i' j' : Nat) : wr σ i j v i' j' = if i' = i then (if j' = j then v else σ i' j') else σ i' j' := rfl
theorem ob_s {α β : Type} (x : α) (f : α → Option β) : Option.bind (some x) f = f x := rfl
theorem cs_ix (x : Int32) {n : Nat} (hn : n < 2 ^ 31) : (x < 0 ∨ nI n ≤ x) ∨ ∃ j : Nat, j < n ∧ x = nI j := by
  rcases pk_ix x hn with h | h | h
  · exact Or.inl (Or.inl h)
  · exact Or.inl (Or.inr h)
  · exact Or.inr h
/-! a name that is there, or not -/
theorem kn0 {σ : ST} {c : Nat} {x : Int32} (h : σ 111 3 = nI c) (hx : x < 0 ∨ nI c ≤ x) : urf_Nm_isKnown σ x = some 0 := by
  unfold urf_Nm_isKnown
  by_cases h1 : x < 0
  · rw [if_pos h1]
  · rw [if_neg h1, h, if_pos (hx.resolve_left h1)]
theorem kn1 {σ : ST} {c n : Nat} (h : σ 111 3 = nI c) (hc : c ≤ 60) (hn : n < c) : urf_Nm_isKnown σ (nI n) = some 1 := by
  unfold urf_Nm_isKnown
  rw [if_neg (nI_pos (by omega)), h, if_neg (nI_ge hn (by omega))]
theorem km0 {τ : ST} {c : Nat} {x : Int32} (h : τ 18 3 = nI c) (hx : x < 0 ∨ nI c ≤ x) : rff_Md_isName τ x = some 0 := by
  unfold rff_Md_isName
  by_cases h1 : x < 0
  · rw [if_pos h1]
  · rw [if_neg h1, h, if_pos (hx.resolve_left h1)]
theorem km1 {τ : ST} {c n : Nat} (h : τ 18 3 = nI c) (hc : c ≤ 60) (hn : n < c) : rff_Md_isName τ (nI n) = some 1 := by
  unfold rff_Md_isName
  rw [if_neg (nI_pos (by omega)), h, if_neg (nI_ge hn (by omega))]
theorem pn0 {σ : ST} {m : Nat} {x : Int32} (h : σ 111 4 = nI m) (hx : x < 0 ∨ nI m ≤ x) : urf_Pr_isKnown σ x = some 0 := by
  unfold urf_Pr_isKnown
  by_cases h1 : x < 0
  · rw [if_pos h1]
  · rw [if_neg h1, h, if_pos (hx.resolve_left h1)]
theorem pn1 {σ : ST} {m n : Nat} (h : σ 111 4 = nI m) (hc : m ≤ 60) (hn : n < m) : urf_Pr_isKnown σ (nI n) = some 1 := by
  unfold urf_Pr_isKnown
  rw [if_neg (nI_pos (by omega)), h, if_neg (nI_ge hn (by omega))]
/-- the reference's own note that no call throws: nothing of it is compared -/
theorem Rl.code {c : Nat} {σ τ : ST} (h : Rl c σ τ) : Rl c σ (wr τ 18 1 0) := h
theorem Iv.code {σ τ : ST} (h : Iv σ τ) : Iv σ (wr τ 18 1 0) := h
theorem st_has (σ τ : ST) (x1 : Int32) (h : Iv σ τ) : ∃ (r : Int32) (τ1 : ST), urf_Rb_has σ x1 = some r ∧ rff_Md_has τ x1 = some (r, τ1) ∧ Iv σ τ1 := by
  obtain ⟨c, m, w, r⟩ := h
  have h3 : (wr τ 18 1 0) 18 3 = nI c := r.t3
  have hc := w.c12
  unfold urf_Rb_has rff_Md_has
  rcases cs_ix x1 (n := c) (by omega) with hx | ⟨n, hn, rfl⟩
  · rw [kn0 w.cn hx, km0 h3 hx]
    exact ⟨-1, _, rfl, rfl, c, m, w, r.code⟩
  · rw [kn1 w.cn (by omega) hn, km1 h3 (by omega) hn]
    simp only [ob_s, if_neg (show ¬ (1 : Int32) = 0 by decide), if_pos (in_nI (show n < 12 by omega) (by decide)), cl_nI (show n < 2 ^ 31 by omega)]
    exact ⟨σ 2 n, _, rfl, by rw [r.a2], c, m, w, r.code⟩
theorem st_waiting (σ τ : ST) (h : Iv σ τ) : ∃ (r : Int32) (τ1 : ST), urf_Rb_waiting σ = some r ∧ rff_Md_waiting τ = some (r, τ1) ∧ Iv σ τ1 := by
  obtain ⟨c, m, w, r⟩ := h
  exact ⟨σ 111 2, _, rfl, by unfold rff_Md_waiting; rw [r.s2], c, m, w, r.code⟩
theorem Rl.w0 {c : Nat} {σ τ : ST} (h : Rl c σ τ) (j : Nat) (v : Int32) : Rl c (wr σ 0 j v) (wr τ 0 j v) :=
  ⟨by rw [wr_row, wr_row, h.a0],
   h.a2,
   h.a3,
   h.a4,
   h.a5,
   h.a6,
   h.a7,
   h.a10,
   h.a11,
   h.a12,
   h.a13,
   h.a110,
   fun x y hx hy => (congrFun (wr_ne (by omega)) y).trans (h.k14 x y hx hy),
   fun x y hx hy => (congrFun (wr_ne (by omega)) y).trans (h.k26 x y hx hy),
   fun x y hx hy => (congrFun (wr_ne (by omega)) y).trans (h.k38 x y hx hy),
   fun x y hx hy => (congrFun (wr_ne (by omega)) y).trans (h.k50 x y hx hy),
   h.v1,
   h.v0,
   h.s0,
   h.s1,
   h.s2,
   h.t3,
   h.s4⟩
theorem Rl.w2 {c : Nat} {σ τ : ST} (h : Rl c σ τ) (j : Nat) (v : Int32) : Rl c (wr σ 2 j v) (wr τ 2 j v) :=
  ⟨h.a0,
   by rw [wr_row, wr_row, h.a2],
   h.a3,
   h.a4,
   h.a5,
   h.a6,
   h.a7,
   h.a10,
   h.a11,
   h.a12,
   h.a13,
   h.a110,
   fun x y hx hy => (congrFun (wr_ne (by omega)) y).trans (h.k14 x y hx hy),
   fun x y hx hy => (congrFun (wr_ne (by omega)) y).trans (h.k26 x y hx hy),
   fun x y hx hy => (congrFun (wr_ne (by omega)) y).trans (h.k38 x y hx hy),
   fun x y hx hy => (congrFun (wr_ne (by omega)) y).trans (h.k50 x y hx hy),
   h.v1,
   h.v0,
   h.s0,
   h.s1,
   h.s2,
   h.t3,
   h.s4⟩
theorem Rl.w3 {c : Nat} {σ τ : ST} (h : Rl c σ τ) (j : Nat) (v : Int32) : Rl c (wr σ 3 j v) (wr τ 3 j v) :=
  ⟨h.a0,
   h.a2,
   by rw [wr_row, wr_row, h.a3],
   h.a4,
   h.a5,
   h.a6,
   h.a7,
   h.a10,
   h.a11,
   h.a12,
   h.a13,
   h.a110,
   fun x y hx hy => (congrFun (wr_ne (by omega)) y).trans (h.k14 x y hx hy),
   fun x y hx hy => (congrFun (wr_ne (by omega)) y).trans (h.k26 x y hx hy),
   fun x y hx hy => (congrFun (wr_ne (by omega)) y).trans (h.k38 x y hx hy),
   fun x y hx hy => (congrFun (wr_ne (by omega)) y).trans (h.k50 x y hx hy),
   h.v1,
   h.v0,
   h.s0,
   h.s1,
   h.s2,
   h.t3,
   h.s4⟩
theorem Rl.w4 {c : Nat} {σ τ : ST} (h : Rl c σ τ) (j : Nat) (v : Int32) : Rl c (wr σ 4 j v) (wr τ 4 j v) :=
  ⟨h.a0,
   h.a2,
   h.a3,
   by rw [wr_row, wr_row, h.a4],
   h.a5,
   h.a6,
   h.a7,
   h.a10,
   h.a11,
   h.a12,
   h.a13,
   h.a110,
   fun x y hx hy => (congrFun (wr_ne (by omega)) y).trans (h.k14 x y hx hy),
   fun x y hx hy => (congrFun (wr_ne (by omega)) y).trans (h.k26 x y hx hy),
   fun x y hx hy => (congrFun (wr_ne (by omega)) y).trans (h.k38 x y hx hy),
   fun x y hx hy => (congrFun (wr_ne (by omega)) y).trans (h.k50 x y hx hy),
   h.v1,
   h.v0,
   h.s0,
   h.s1,
   h.s2,
   h.t3,
   h.s4⟩
theorem Rl.w5 {c : Nat} {σ τ : ST} (h : Rl c σ τ) (j : Nat) (v : Int32) : Rl c (wr σ 5 j v) (wr τ 5 j v) :=
  ⟨h.a0,
   h.a2,
   h.a3,
   h.a4,
   by rw [wr_row, wr_row, h.a5],
   h.a6,
   h.a7,
   h.a10,
   h.a11,
   h.a12,
   h.a13,
   h.a110,
   fun x y hx hy => (congrFun (wr_ne (by omega)) y).trans (h.k14 x y hx hy),
   fun x y hx hy => (congrFun (wr_ne (by omega)) y).trans (h.k26 x y hx hy),
   fun x y hx hy => (congrFun (wr_ne (by omega)) y).trans (h.k38 x y hx hy),
   fun x y hx hy => (congrFun (wr_ne (by omega)) y).trans (h.k50 x y hx hy),
   h.v1,
   h.v0,
   h.s0,
   h.s1,
   h.s2,
   h.t3,
   h.s4⟩
theorem Rl.w6 {c : Nat} {σ τ : ST} (h : Rl c σ τ) (j : Nat) (v : Int32) : Rl c (wr σ 6 j v) (wr τ 6 j v) :=
  ⟨h.a0,
   h.a2,
   h.a3,
   h.a4,
   h.a5,
   by rw [wr_row, wr_row, h.a6],
   h.a7,
   h.a10,
   h.a11,
   h.a12,
   h.a13,
   h.a110,
   fun x y hx hy => (congrFun (wr_ne (by omega)) y).trans (h.k14 x y hx hy),
   fun x y hx hy => (congrFun (wr_ne (by omega)) y).trans (h.k26 x y hx hy),
   fun x y hx hy => (congrFun (wr_ne (by omega)) y).trans (h.k38 x y hx hy),
   fun x y hx hy => (congrFun (wr_ne (by omega)) y).trans (h.k50 x y hx hy),
   h.v1,
   h.v0,
   h.s0,
   h.s1,
   h.s2,
   h.t3,
   h.s4⟩
theorem Rl.w7 {c : Nat} {σ τ : ST} (h : Rl c σ τ) (j : Nat) (v : Int32) : Rl c (wr σ 7 j v) (wr τ 7 j v) :=
  ⟨h.a0,
   h.a2,
   h.a3,
   h.a4,
   h.a5,
   h.a6,
   by rw [wr_row, wr_row, h.a7],
   h.a10,
   h.a11,
   h.a12,
   h.a13,
   h.a110,
   fun x y hx hy => (congrFun (wr_ne (by omega)) y).trans (h.k14 x y hx hy),
   fun x y hx hy => (congrFun (wr_ne (by omega)) y).trans (h.k26 x y hx hy),
   fun x y hx hy => (congrFun (wr_ne (by omega)) y).trans (h.k38 x y hx hy),
   fun x y hx hy => (congrFun (wr_ne (by omega)) y).trans (h.k50 x y hx hy),
   h.v1,
   h.v0,
   h.s0,
   h.s1,
   h.s2,
   h.t3,
   h.s4⟩
theorem Rl.w10 {c : Nat} {σ τ : ST} (h : Rl c σ τ) (j : Nat) (v : Int32) : Rl c (wr σ 10 j v) (wr τ 12 j v) :=
  ⟨h.a0,
   h.a2,
   h.a3,
   h.a4,
   h.a5,
   h.a6,
   h.a7,
   by rw [wr_row, wr_row, h.a10],
   h.a11,
   h.a12,
   h.a13,
   h.a110,
   fun x y hx hy => (congrFun (wr_ne (by omega)) y).trans (h.k14 x y hx hy),
   fun x y hx hy => (congrFun (wr_ne (by omega)) y).trans (h.k26 x y hx hy),
   fun x y hx hy => (congrFun (wr_ne (by omega)) y).trans (h.k38 x y hx hy),
   fun x y hx hy => (congrFun (wr_ne (by omega)) y).trans (h.k50 x y hx hy),
   h.v1,
   h.v0,
   h.s0,
   h.s1,
   h.s2,
   h.t3,
   h.s4⟩
theorem Rl.w11 {c : Nat} {σ τ : ST} (h : Rl c σ τ) (j : Nat) (v : Int32) : Rl c (wr σ 11 j v) (wr τ 13 j v) :=
  ⟨h.a0,
   h.a2,
   h.a3,
   h.a4,
   h.a5,
   h.a6,
   h.a7,
   h.a10,
   by rw [wr_row, wr_row, h.a11],
   h.a12,
   h.a13,
   h.a110,
   fun x y hx hy => (congrFun (wr_ne (by omega)) y).trans (h.k14 x y hx hy),
   fun x y hx hy => (congrFun (wr_ne (by omega)) y).trans (h.k26 x y hx hy),
   fun x y hx hy => (congrFun (wr_ne (by omega)) y).trans (h.k38 x y hx hy),
   fun x y hx hy => (congrFun (wr_ne (by omega)) y).trans (h.k50 x y hx hy),
   h.v1,
   h.v0,
   h.s0,
   h.s1,
   h.s2,
   h.t3,
   h.s4⟩
theorem Rl.w12 {c : Nat} {σ τ : ST} (h : Rl c σ τ) (j : Nat) (v : Int32) : Rl c (wr σ 12 j v) (wr τ 14 j v) :=
  ⟨h.a0,
   h.a2,
   h.a3,
   h.a4,
   h.a5,
   h.a6,
   h.a7,
   h.a10,
   h.a11,
   by rw [wr_row, wr_row, h.a12],
   h.a13,
   h.a110,
   fun x y hx hy => (congrFun (wr_ne (by omega)) y).trans (h.k14 x y hx hy),
   fun x y hx hy => (congrFun (wr_ne (by omega)) y).trans (h.k26 x y hx hy),
   fun x y hx hy => (congrFun (wr_ne (by omega)) y).trans (h.k38 x y hx hy),
   fun x y hx hy => (congrFun (wr_ne (by omega)) y).trans (h.k50 x y hx hy),
   h.v1,
   h.v0,
   h.s0,
   h.s1,
   h.s2,
   h.t3,
   h.s4⟩
theorem Rl.w13 {c : Nat} {σ τ : ST} (h : Rl c σ τ) (j : Nat) (v : Int32) : Rl c (wr σ 13 j v) (wr τ 15 j v) :=
  ⟨h.a0,
   h.a2,
   h.a3,
   h.a4,
   h.a5,
   h.a6,
   h.a7,
   h.a10,
   h.a11,
   h.a12,
   by rw [wr_row, wr_row, h.a13],
   h.a110,
   fun x y hx hy => (congrFun (wr_ne (by omega)) y).trans (h.k14 x y hx hy),
   fun x y hx hy => (congrFun (wr_ne (by omega)) y).trans (h.k26 x y hx hy),
   fun x y hx hy => (congrFun (wr_ne (by omega)) y).trans (h.k38 x y hx hy),
   fun x y hx hy => (congrFun (wr_ne (by omega)) y).trans (h.k50 x y hx hy),
   h.v1,
   h.v0,
   h.s0,
   h.s1,
   h.s2,
   h.t3,
   h.s4⟩
theorem Rl.w110 {c : Nat} {σ τ : ST} (h : Rl c σ τ) (j : Nat) (v : Int32) : Rl c (wr σ 110 j v) (wr τ 16 j v) :=
  ⟨h.a0,
   h.a2,
   h.a3,
   h.a4,
   h.a5,
   h.a6,
   h.a7,
   h.a10,
   h.a11,
   h.a12,
   h.a13,
   by rw [wr_row, wr_row, h.a110],
   fun x y hx hy => (congrFun (wr_ne (by omega)) y).trans (h.k14 x y hx hy),
   fun x y hx hy => (congrFun (wr_ne (by omega)) y).trans (h.k26 x y hx hy),
   fun x y hx hy => (congrFun (wr_ne (by omega)) y).trans (h.k38 x y hx hy),
   fun x y hx hy => (congrFun (wr_ne (by omega)) y).trans (h.k50 x y hx hy),
   h.v1,
   h.v0,
   h.s0,
   h.s1,
   h.s2,
   h.t3,
   h.s4⟩
theorem Rl.w8 {c : Nat} {σ τ : ST} (h : Rl c σ τ) (j : Nat) (v : Int32) : Rl c (wr σ 8 j v) τ :=
  ⟨h.a0,
   h.a2,
   h.a3,
   h.a4,
   h.a5,
   h.a6,
   h.a7,
   h.a10,
   h.a11,
   h.a12,
   h.a13,
   h.a110,
   fun x y hx hy => (congrFun (wr_ne (by omega)) y).trans (h.k14 x y hx hy),
   fun x y hx hy => (congrFun (wr_ne (by omega)) y).trans (h.k26 x y hx hy),
   fun x y hx hy => (congrFun (wr_ne (by omega)) y).trans (h.k38 x y hx hy),
   fun x y hx hy => (congrFun (wr_ne (by omega)) y).trans (h.k50 x y hx hy),
   h.v1,
   h.v0,
   h.s0,
   h.s1,
   h.s2,
   h.t3,
   h.s4⟩
theorem Rl.w9 {c : Nat} {σ τ : ST} (h : Rl c σ τ) (j : Nat) (v : Int32) : Rl c (wr σ 9 j v) τ :=
  ⟨h.a0,
   h.a2,
   h.a3,
   h.a4,
   h.a5,
   h.a6,
   h.a7,
   h.a10,
   h.a11,
   h.a12,
   h.a13,
   h.a110,
   fun x y hx hy => (congrFun (wr_ne (by omega)) y).trans (h.k14 x y hx hy),
   fun x y hx hy => (congrFun (wr_ne (by omega)) y).trans (h.k26 x y hx hy),
   fun x y hx hy => (congrFun (wr_ne (by omega)) y).trans (h.k38 x y hx hy),
   fun x y hx hy => (congrFun (wr_ne (by omega)) y).trans (h.k50 x y hx hy),
   h.v1,
   h.v0,
   h.s0,
   h.s1,
   h.s2,
   h.t3,
   h.s4⟩
theorem Rl.t11 {c : Nat} {σ τ : ST} (h : Rl c σ τ) (j : Nat) (v : Int32) : Rl c σ (wr τ 11 j v) := h
theorem Rl.t6 {c : Nat} {σ τ : ST} (h : Rl c σ τ) (v : Int32) : Rl c σ (wr τ 18 6 v) := h
theorem Rl.sc1 {c : Nat} {σ τ : ST} (h : Rl c σ τ) (v : Int32) : Rl c (wr σ 111 1 v) (wr τ 18 2 v) :=
  ⟨h.a0,
   h.a2,
   h.a3,
   h.a4,
   h.a5,
   h.a6,
   h.a7,
   h.a10,
   h.a11,
   h.a12,
   h.a13,
   h.a110,
   fun x y hx hy => (congrFun (wr_ne (by omega)) y).trans (h.k14 x y hx hy),
   fun x y hx hy => (congrFun (wr_ne (by omega)) y).trans (h.k26 x y hx hy),
   fun x y hx hy => (congrFun (wr_ne (by omega)) y).trans (h.k38 x y hx hy),
   fun x y hx hy => (congrFun (wr_ne (by omega)) y).trans (h.k50 x y hx hy),
   h.v1,
   h.v0,
   h.s0,
   rfl,
   h.s2,
   h.t3,
   h.s4⟩
theorem Rl.sc2 {c : Nat} {σ τ : ST} (h : Rl c σ τ) (v : Int32) : Rl c (wr σ 111 2 v) (wr τ 18 5 v) :=
  ⟨h.a0,
   h.a2,
   h.a3,
   h.a4,
   h.a5,
   h.a6,
   h.a7,
   h.a10,
   h.a11,
   h.a12,
   h.a13,
   h.a110,
   fun x y hx hy => (congrFun (wr_ne (by omega)) y).trans (h.k14 x y hx hy),
   fun x y hx hy => (congrFun (wr_ne (by omega)) y).trans (h.k26 x y hx hy),
   fun x y hx hy => (congrFun (wr_ne (by omega)) y).trans (h.k38 x y hx hy),
   fun x y hx hy => (congrFun (wr_ne (by omega)) y).trans (h.k50 x y hx hy),
   h.v1,
   h.v0,
   h.s0,
   h.s1,
   rfl,
   h.t3,
   h.s4⟩
theorem Rl.sc4 {c : Nat} {σ τ : ST} (h : Rl c σ τ) (v : Int32) : Rl c (wr σ 111 4 v) (wr τ 18 4 v) :=
  ⟨h.a0,
   h.a2,
   h.a3,
   h.a4,
   h.a5,
   h.a6,
   h.a7,
   h.a10,
   h.a11,
   h.a12,
   h.a13,
   h.a110,
   fun x y hx hy => (congrFun (wr_ne (by omega)) y).trans (h.k14 x y hx hy),
   fun x y hx hy => (congrFun (wr_ne (by omega)) y).trans (h.k26 x y hx hy),
   fun x y hx hy => (congrFun (wr_ne (by omega)) y).trans (h.k38 x y hx hy),
   fun x y hx hy => (congrFun (wr_ne (by omega)) y).trans (h.k50 x y hx hy),
   h.v1,
   h.v0,
   h.s0,
   h.s1,
   h.s2,
   h.t3,
   rfl⟩
theorem Wf.w0 {c m : Nat} {σ : ST} (h : Wf X c m σ) (j : Nat) (v : Int32) : Wf X c m (wr σ 0 j v) :=
  ⟨h.c12,
   h.cn,
   h.m60,
   h.mn,
   h.had,
   h.had0,
   h.adv,
   fun x y hx hy hz => by rw [wr_ne (by have := h.c12; omega)]; exact h.ned x y hx hy hz,
   fun x y hx hy => by rw [wr_ne (by omega)]; exact h.lst x y hx hy,
   h.clk,
   h.chf,
   h.rdn,
   h.hit,
   fun x y hx hy hz => by rw [wr_ne (by have := h.m60; omega)]; exact h.row x y hx hy hz,
   fun x y hx hy hz => by rw [wr_ne (i' := x + 50) (by have := h.m60; omega)]; exact h.opn x y hx hy hz,
   fun x y hx hy => by rw [wr_ne (i' := x + 50) (by have := h.m60; omega)]; exact h.rwv x y hx hy⟩
theorem Wf.w3 {c m : Nat} {σ : ST} (h : Wf X c m σ) (j : Nat) (v : Int32) : Wf X c m (wr σ 3 j v) :=
  ⟨h.c12,
   h.cn,
   h.m60,
   h.mn,
   h.had,
   h.had0,
   h.adv,
   fun x y hx hy hz => by rw [wr_ne (by have := h.c12; omega)]; exact h.ned x y hx hy hz,
   fun x y hx hy => by rw [wr_ne (by omega)]; exact h.lst x y hx hy,
   h.clk,
   h.chf,
   h.rdn,
   h.hit,
   fun x y hx hy hz => by rw [wr_ne (by have := h.m60; omega)]; exact h.row x y hx hy hz,
   fun x y hx hy hz => by rw [wr_ne (i' := x + 50) (by have := h.m60; omega)]; exact h.opn x y hx hy hz,
   fun x y hx hy => by rw [wr_ne (i' := x + 50) (by have := h.m60; omega)]; exact h.rwv x y hx hy⟩
theorem Wf.w4 {c m : Nat} {σ : ST} (h : Wf X c m σ) (j : Nat) (v : Int32) : Wf X c m (wr σ 4 j v) :=
  ⟨h.c12,
   h.cn,
   h.m60,
   h.mn,
   h.had,
   h.had0,
   h.adv,
   fun x y hx hy hz => by rw [wr_ne (by have := h.c12; omega)]; exact h.ned x y hx hy hz,
   fun x y hx hy => by rw [wr_ne (by omega)]; exact h.lst x y hx hy,
   h.clk,
   h.chf,
   h.rdn,
   h.hit,
   fun x y hx hy hz => by rw [wr_ne (by have := h.m60; omega)]; exact h.row x y hx hy hz,
   fun x y hx hy hz => by rw [wr_ne (i' := x + 50) (by have := h.m60; omega)]; exact h.opn x y hx hy hz,
   fun x y hx hy => by rw [wr_ne (i' := x + 50) (by have := h.m60; omega)]; exact h.rwv x y hx hy⟩
theorem Wf.w5 {c m : Nat} {σ : ST} (h : Wf X c m σ) (j : Nat) (v : Int32) : Wf X c m (wr σ 5 j v) :=
  ⟨h.c12,
   h.cn,
   h.m60,
   h.mn,
   h.had,
   h.had0,
   h.adv,
   fun x y hx hy hz => by rw [wr_ne (by have := h.c12; omega)]; exact h.ned x y hx hy hz,
   fun x y hx hy => by rw [wr_ne (by omega)]; exact h.lst x y hx hy,
   h.clk,
   h.chf,
   h.rdn,
   h.hit,
   fun x y hx hy hz => by rw [wr_ne (by have := h.m60; omega)]; exact h.row x y hx hy hz,
   fun x y hx hy hz => by rw [wr_ne (i' := x + 50) (by have := h.m60; omega)]; exact h.opn x y hx hy hz,
   fun x y hx hy => by rw [wr_ne (i' := x + 50) (by have := h.m60; omega)]; exact h.rwv x y hx hy⟩
theorem Wf.w7 {c m : Nat} {σ : ST} (h : Wf X c m σ) (j : Nat) (v : Int32) : Wf X c m (wr σ 7 j v) :=
  ⟨h.c12,
   h.cn,
   h.m60,
   h.mn,
   h.had,
   h.had0,
   h.adv,
   fun x y hx hy hz => by rw [wr_ne (by have := h.c12; omega)]; exact h.ned x y hx hy hz,
   fun x y hx hy => by rw [wr_ne (by omega)]; exact h.lst x y hx hy,
   h.clk,
   h.chf,
   h.rdn,
   h.hit,
   fun x y hx hy hz => by rw [wr_ne (by have := h.m60; omega)]; exact h.row x y hx hy hz,
   fun x y hx hy hz => by rw [wr_ne (i' := x + 50) (by have := h.m60; omega)]; exact h.opn x y hx hy hz,
   fun x y hx hy => by rw [wr_ne (i' := x + 50) (by have := h.m60; omega)]; exact h.rwv x y hx hy⟩
theorem Wf.w8 {c m : Nat} {σ : ST} (h : Wf X c m σ) (j : Nat) (v : Int32) : Wf X c m (wr σ 8 j v) :=
  ⟨h.c12,
   h.cn,
   h.m60,
   h.mn,
   h.had,
   h.had0,
   h.adv,
   fun x y hx hy hz => by rw [wr_ne (by have := h.c12; omega)]; exact h.ned x y hx hy hz,
   fun x y hx hy => by rw [wr_ne (by omega)]; exact h.lst x y hx hy,
   h.clk,
   h.chf,
   h.rdn,
   h.hit,
   fun x y hx hy hz => by rw [wr_ne (by have := h.m60; omega)]; exact h.row x y hx hy hz,
   fun x y hx hy hz => by rw [wr_ne (i' := x + 50) (by have := h.m60; omega)]; exact h.opn x y hx hy hz,
   fun x y hx hy => by rw [wr_ne (i' := x + 50) (by have := h.m60; omega)]; exact h.rwv x y hx hy⟩
theorem Wf.w9 {c m : Nat} {σ : ST} (h : Wf X c m σ) (j : Nat) (v : Int32) : Wf X c m (wr σ 9 j v) :=
  ⟨h.c12,
   h.cn,
   h.m60,
   h.mn,
   h.had,
   h.had0,
   h.adv,
   fun x y hx hy hz => by rw [wr_ne (by have := h.c12; omega)]; exact h.ned x y hx hy hz,
   fun x y hx hy => by rw [wr_ne (by omega)]; exact h.lst x y hx hy,
   h.clk,
   h.chf,
   h.rdn,
   h.hit,
   fun x y hx hy hz => by rw [wr_ne (by have := h.m60; omega)]; exact h.row x y hx hy hz,
   fun x y hx hy hz => by rw [wr_ne (i' := x + 50) (by have := h.m60; omega)]; exact h.opn x y hx hy hz,
   fun x y hx hy => by rw [wr_ne (i' := x + 50) (by have := h.m60; omega)]; exact h.rwv x y hx hy⟩
theorem Wf.w13 {c m : Nat} {σ : ST} (h : Wf X c m σ) (j : Nat) (v : Int32) : Wf X c m (wr σ 13 j v) :=
  ⟨h.c12,
   h.cn,
   h.m60,
   h.mn,
   h.had,
   h.had0,
   h.adv,
   fun x y hx hy hz => by rw [wr_ne (by have := h.c12; omega)]; exact h.ned x y hx hy hz,
   fun x y hx hy => by rw [wr_ne (by omega)]; exact h.lst x y hx hy,
   h.clk,
   h.chf,
   h.rdn,
   h.hit,
   fun x y hx hy hz => by rw [wr_ne (by have := h.m60; omega)]; exact h.row x y hx hy hz,
   fun x y hx hy hz => by rw [wr_ne (i' := x + 50) (by have := h.m60; omega)]; exact h.opn x y hx hy hz,
   fun x y hx hy => by rw [wr_ne (i' := x + 50) (by have := h.m60; omega)]; exact h.rwv x y hx hy⟩
theorem Wf.sc2 {c m : Nat} {σ : ST} (h : Wf X c m σ) (v : Int32) : Wf X c m (wr σ 111 2 v) :=
  ⟨h.c12,
   h.cn,
   h.m60,
   h.mn,
   h.had,
   h.had0,
   h.adv,
   fun x y hx hy hz => by rw [wr_ne (by have := h.c12; omega)]; exact h.ned x y hx hy hz,
   fun x y hx hy => by rw [wr_ne (by omega)]; exact h.lst x y hx hy,
   h.clk,
   h.chf,
   h.rdn,
   h.hit,
   fun x y hx hy hz => by rw [wr_ne (by have := h.m60; omega)]; exact h.row x y hx hy hz,
   fun x y hx hy hz => by rw [wr_ne (i' := x + 50) (by have := h.m60; omega)]; exact h.opn x y hx hy hz,
   fun x y hx hy => by rw [wr_ne (i' := x + 50) (by have := h.m60; omega)]; exact h.rwv x y hx hy⟩
theorem Wf.sc1 {c m : Nat} {σ : ST} (h : Wf X c m σ) (t : Nat) (ht : t ≤ 1000000000) : Wf X c m (wr σ 111 1 (nI t)) :=
  ⟨h.c12,
   h.cn,
   h.m60,
   h.mn,
   h.had,
   h.had0,
   h.adv,
   fun x y hx hy hz => by rw [wr_ne (by have := h.c12; omega)]; exact h.ned x y hx hy hz,
   fun x y hx hy => by rw [wr_ne (by omega)]; exact h.lst x y hx hy,
   ⟨t, ht, rfl⟩,
   h.chf,
   h.rdn,
   h.hit,
   fun x y hx hy hz => by rw [wr_ne (by have := h.m60; omega)]; exact h.row x y hx hy hz,
   fun x y hx hy hz => by rw [wr_ne (i' := x + 50) (by have := h.m60; omega)]; exact h.opn x y hx hy hz,
   fun x y hx hy => by rw [wr_ne (i' := x + 50) (by have := h.m60; omega)]; exact h.rwv x y hx hy⟩
theorem Wf.w6 {c m : Nat} {σ : ST} (h : Wf X c m σ) (j : Nat) (v : Int32) (hv : v = -1 ∨ ∃ w u : Nat, w < u ∧ u ≤ 8 ∧ v = nI w ∧ σ 1 j = nI u) : Wf X c m (wr σ 6 j v) :=
  ⟨h.c12,
   h.cn,
   h.m60,
   h.mn,
   h.had,
   h.had0,
   fun n hn => by
      rw [wr_at, if_pos rfl]
      by_cases e : n = j
      · rw [if_pos e, e]
        exact hv
      · rw [if_neg e]
        exact h.adv n hn,
   fun x y hx hy hz => by rw [wr_ne (by have := h.c12; omega)]; exact h.ned x y hx hy hz,
   fun x y hx hy => by rw [wr_ne (by omega)]; exact h.lst x y hx hy,
   h.clk,
   h.chf,
   h.rdn,
   h.hit,
   fun x y hx hy hz => by rw [wr_ne (by have := h.m60; omega)]; exact h.row x y hx hy hz,
   fun x y hx hy hz => by rw [wr_ne (i' := x + 50) (by have := h.m60; omega)]; exact h.opn x y hx hy hz,
   fun x y hx hy => by rw [wr_ne (i' := x + 50) (by have := h.m60; omega)]; exact h.rwv x y hx hy⟩
theorem Rl.sc3 {c : Nat} {σ τ : ST} (h : Rl c σ τ) (v : Int32) : Rl c (wr σ 111 3 v) τ :=
  ⟨h.a0,
   h.a2,
   h.a3,
   h.a4,
   h.a5,
   h.a6,
   h.a7,
   h.a10,
   h.a11,
   h.a12,
   h.a13,
   h.a110,
   fun x y hx hy => (congrFun (wr_ne (by omega)) y).trans (h.k14 x y hx hy),
   fun x y hx hy => (congrFun (wr_ne (by omega)) y).trans (h.k26 x y hx hy),
   fun x y hx hy => (congrFun (wr_ne (by omega)) y).trans (h.k38 x y hx hy),
   fun x y hx hy => (congrFun (wr_ne (by omega)) y).trans (h.k50 x y hx hy),
   h.v1,
   h.v0,
   h.s0,
   h.s1,
   h.s2,
   h.t3,
   h.s4⟩
theorem Rl.w1new {c : Nat} {σ τ : ST} (h : Rl c σ τ) (v : Int32) : Rl c (wr σ 1 c v) τ :=
  ⟨h.a0,
   h.a2,
   h.a3,
   h.a4,
   h.a5,
   h.a6,
   h.a7,
   h.a10,
   h.a11,
   h.a12,
   h.a13,
   h.a110,
   fun x y hx hy => (congrFun (wr_ne (by omega)) y).trans (h.k14 x y hx hy),
   fun x y hx hy => (congrFun (wr_ne (by omega)) y).trans (h.k26 x y hx hy),
   fun x y hx hy => (congrFun (wr_ne (by omega)) y).trans (h.k38 x y hx hy),
   fun x y hx hy => (congrFun (wr_ne (by omega)) y).trans (h.k50 x y hx hy),
   fun n hn => by
      rw [wr_at, if_pos rfl, if_neg (by omega)]
      exact h.v1 n hn,
   h.v0,
   h.s0,
   h.s1,
   h.s2,
   h.t3,
   h.s4⟩
theorem Rl.g14 {c : Nat} {σ τ : ST} (h : Rl c σ τ) {i j : Nat} (hi : i < 12) (hj : j < 8) (v : Int32) : Rl c (wr σ (i + 14) j v) (wr τ 8 (8 * i + j) v) :=
  ⟨(wr_ne (by omega)).trans h.a0,
   (wr_ne (by omega)).trans h.a2,
   (wr_ne (by omega)).trans h.a3,
   (wr_ne (by omega)).trans h.a4,
   (wr_ne (by omega)).trans h.a5,
   (wr_ne (by omega)).trans h.a6,
   (wr_ne (by omega)).trans h.a7,
   (wr_ne (by omega)).trans h.a10,
   (wr_ne (by omega)).trans h.a11,
   (wr_ne (by omega)).trans h.a12,
   (wr_ne (by omega)).trans h.a13,
   (wr_ne (by omega)).trans h.a110,
   fun x y hx hy => by
      rw [wr_at, wr_at, if_pos rfl]
      by_cases e : x = i
      · rw [if_pos (by omega)]
        by_cases e2 : y = j
        · rw [if_pos e2, if_pos (by omega)]
        · rw [if_neg e2, if_neg (by omega)]
          exact h.k14 x y hx hy
      · rw [if_neg (by omega), if_neg (by omega)]
        exact h.k14 x y hx hy,
   fun x y hx hy => (congrFun (wr_ne (by omega)) y).trans (h.k26 x y hx hy),
   fun x y hx hy => (congrFun (wr_ne (by omega)) y).trans (h.k38 x y hx hy),
   fun x y hx hy => (congrFun (wr_ne (by omega)) y).trans (h.k50 x y hx hy),
   fun n hn => (congrFun (wr_ne (by omega)) n).trans (h.v1 n hn),
   h.v0,
   (congrFun (wr_ne (by omega)) _).trans h.s0,
   (congrFun (wr_ne (by omega)) _).trans h.s1,
   (congrFun (wr_ne (by omega)) _).trans h.s2,
   h.t3,
   (congrFun (wr_ne (by omega)) _).trans h.s4⟩
theorem Rl.g26 {c : Nat} {σ τ : ST} (h : Rl c σ τ) {i j : Nat} (hi : i < 12) (hj : j < 8) (v : Int32) : Rl c (wr σ (i + 26) j v) (wr τ 9 (8 * i + j) v) :=
  ⟨(wr_ne (by omega)).trans h.a0,
   (wr_ne (by omega)).trans h.a2,
   (wr_ne (by omega)).trans h.a3,
   (wr_ne (by omega)).trans h.a4,
   (wr_ne (by omega)).trans h.a5,
   (wr_ne (by omega)).trans h.a6,
   (wr_ne (by omega)).trans h.a7,
   (wr_ne (by omega)).trans h.a10,
   (wr_ne (by omega)).trans h.a11,
   (wr_ne (by omega)).trans h.a12,
   (wr_ne (by omega)).trans h.a13,
   (wr_ne (by omega)).trans h.a110,
   fun x y hx hy => (congrFun (wr_ne (by omega)) y).trans (h.k14 x y hx hy),
   fun x y hx hy => by
      rw [wr_at, wr_at, if_pos rfl]
      by_cases e : x = i
      · rw [if_pos (by omega)]
        by_cases e2 : y = j
        · rw [if_pos e2, if_pos (by omega)]
        · rw [if_neg e2, if_neg (by omega)]
          exact h.k26 x y hx hy
      · rw [if_neg (by omega), if_neg (by omega)]
        exact h.k26 x y hx hy,
   fun x y hx hy => (congrFun (wr_ne (by omega)) y).trans (h.k38 x y hx hy),
   fun x y hx hy => (congrFun (wr_ne (by omega)) y).trans (h.k50 x y hx hy),
   fun n hn => (congrFun (wr_ne (by omega)) n).trans (h.v1 n hn),
   h.v0,
   (congrFun (wr_ne (by omega)) _).trans h.s0,
   (congrFun (wr_ne (by omega)) _).trans h.s1,
   (congrFun (wr_ne (by omega)) _).trans h.s2,
   h.t3,
   (congrFun (wr_ne (by omega)) _).trans h.s4⟩
theorem Rl.g38 {c : Nat} {σ τ : ST} (h : Rl c σ τ) {i j : Nat} (hi : i < 12) (hj : j < 8) (v : Int32) : Rl c (wr σ (i + 38) j v) (wr τ 10 (8 * i + j) v) :=
  ⟨(wr_ne (by omega)).trans h.a0,
   (wr_ne (by omega)).trans h.a2,
   (wr_ne (by omega)).trans h.a3,
   (wr_ne (by omega)).trans h.a4,
   (wr_ne (by omega)).trans h.a5,
   (wr_ne (by omega)).trans h.a6,
   (wr_ne (by omega)).trans h.a7,
   (wr_ne (by omega)).trans h.a10,
   (wr_ne (by omega)).trans h.a11,
   (wr_ne (by omega)).trans h.a12,
   (wr_ne (by omega)).trans h.a13,
   (wr_ne (by omega)).trans h.a110,
   fun x y hx hy => (congrFun (wr_ne (by omega)) y).trans (h.k14 x y hx hy),
   fun x y hx hy => (congrFun (wr_ne (by omega)) y).trans (h.k26 x y hx hy),
   fun x y hx hy => by
      rw [wr_at, wr_at, if_pos rfl]
      by_cases e : x = i
      · rw [if_pos (by omega)]
        by_cases e2 : y = j
        · rw [if_pos e2, if_pos (by omega)]
        · rw [if_neg e2, if_neg (by omega)]
          exact h.k38 x y hx hy
      · rw [if_neg (by omega), if_neg (by omega)]
        exact h.k38 x y hx hy,
   fun x y hx hy => (congrFun (wr_ne (by omega)) y).trans (h.k50 x y hx hy),
   fun n hn => (congrFun (wr_ne (by omega)) n).trans (h.v1 n hn),
   h.v0,
   (congrFun (wr_ne (by omega)) _).trans h.s0,
   (congrFun (wr_ne (by omega)) _).trans h.s1,
   (congrFun (wr_ne (by omega)) _).trans h.s2,
   h.t3,
   (congrFun (wr_ne (by omega)) _).trans h.s4⟩
theorem Rl.g50 {c : Nat} {σ τ : ST} (h : Rl c σ τ) {i j : Nat} (hi : i < 60) (hj : j < 12) (v : Int32) : Rl c (wr σ (i + 50) j v) (wr τ 17 (12 * i + j) v) :=
  ⟨(wr_ne (by omega)).trans h.a0,
   (wr_ne (by omega)).trans h.a2,
   (wr_ne (by omega)).trans h.a3,
   (wr_ne (by omega)).trans h.a4,
   (wr_ne (by omega)).trans h.a5,
   (wr_ne (by omega)).trans h.a6,
   (wr_ne (by omega)).trans h.a7,
   (wr_ne (by omega)).trans h.a10,
   (wr_ne (by omega)).trans h.a11,
   (wr_ne (by omega)).trans h.a12,
   (wr_ne (by omega)).trans h.a13,
   (wr_ne (by omega)).trans h.a110,
   fun x y hx hy => (congrFun (wr_ne (by omega)) y).trans (h.k14 x y hx hy),
   fun x y hx hy => (congrFun (wr_ne (by omega)) y).trans (h.k26 x y hx hy),
   fun x y hx hy => (congrFun (wr_ne (by omega)) y).trans (h.k38 x y hx hy),
   fun x y hx hy => by
      rw [wr_at, wr_at, if_pos rfl]
      by_cases e : x = i
      · rw [if_pos (by omega)]
        by_cases e2 : y = j
        · rw [if_pos e2, if_pos (by omega)]
        · rw [if_neg e2, if_neg (by omega)]
          exact h.k50 x y hx hy
      · rw [if_neg (by omega), if_neg (by omega)]
        exact h.k50 x y hx hy,
   fun n hn => (congrFun (wr_ne (by omega)) n).trans (h.v1 n hn),
   h.v0,
   (congrFun (wr_ne (by omega)) _).trans h.s0,
   (congrFun (wr_ne (by omega)) _).trans h.s1,
   (congrFun (wr_ne (by omega)) _).trans h.s2,
   h.t3,
   (congrFun (wr_ne (by omega)) _).trans h.s4⟩
theorem Rl.w1 {c : Nat} {σ τ : ST} (h : Rl c σ τ) {i : Nat} (hi : i < c) (u : Nat) : Rl c (wr σ 1 i (nI (u + 1))) (wr τ 1 i (nI u)) :=
  ⟨h.a0,
   h.a2,
   h.a3,
   h.a4,
   h.a5,
   h.a6,
   h.a7,
   h.a10,
   h.a11,
   h.a12,
   h.a13,
   h.a110,
   fun x y hx hy => (congrFun (wr_ne (by omega)) y).trans (h.k14 x y hx hy),
   fun x y hx hy => (congrFun (wr_ne (by omega)) y).trans (h.k26 x y hx hy),
   fun x y hx hy => (congrFun (wr_ne (by omega)) y).trans (h.k38 x y hx hy),
   fun x y hx hy => (congrFun (wr_ne (by omega)) y).trans (h.k50 x y hx hy),
   fun n hn => by
      rw [wr_at, wr_at, if_pos rfl, if_pos rfl]
      by_cases e : n = i
      · rw [if_pos e, if_pos e]
        exact nI_succ u
      · rw [if_neg e, if_neg e]
        exact h.v1 n hn,
   fun n hn => by
      rw [wr_at, if_pos rfl, if_neg (by omega)]
      exact h.v0 n hn,
   h.s0,
   h.s1,
   h.s2,
   h.t3,
   h.s4⟩
theorem wr_self {σ : ST} {i j : Nat} {v : Int32} (h : σ i j = v) : wr σ i j v = σ := by
  funext x y
  rw [wr_at]
  by_cases e : x = i
  · by_cases e2 : y = j
    · rw [if_pos e, if_pos e2, e, e2, h]
    · rw [if_pos e, if_neg e2]
  · rw [if_neg e]
theorem Rl.w2self {c : Nat} {σ τ : ST} (h : Rl c σ τ) {j : Nat} (h0 : σ 2 j = 0) : Rl c (wr σ 2 j 0) τ := by
  rw [wr_self h0]
  exact h
theorem Rl.w12self {c : Nat} {σ τ : ST} (h : Rl c σ τ) {j : Nat} (h0 : σ 12 j = 0) : Rl c (wr σ 12 j 0) τ := by
  rw [wr_self h0]
  exact h
theorem Rl.grow {c : Nat} {σ τ : ST} (h : Rl c σ τ) (h1 : σ 1 c = 1) : Rl (c + 1) σ (wr τ 18 3 (nI (c + 1))) :=
  ⟨h.a0, h.a2, h.a3, h.a4, h.a5, h.a6, h.a7, h.a10, h.a11, h.a12, h.a13, h.a110, h.k14, h.k26, h.k38, h.k50, fun n hn => by
      by_cases e : n = c
      · rw [e, h1]
        show (1 : Int32) = τ 1 c + 1
        rw [h.v0 c (Nat.le_refl c)]
        rfl
      · exact h.v1 n (by omega), fun n hn => h.v0 n (by omega), h.s0, h.s1, h.s2, rfl, h.s4⟩
