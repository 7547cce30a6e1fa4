variable {X : Nat → Prop}
theorem wr_cm {σ : ST} {i j i' j' : Nat} {v v' : Int32} (h : i ≠ i') : wr (wr σ i j v) i' j' v' = wr (wr σ i' j' v') i j v := by
  funext x y
  rw [wr_at, wr_at, wr_at, wr_at]
  by_cases a : x = i
  · have b : ¬ x = i' := by omega
    simp only [if_pos a, if_neg b]
  · by_cases b : x = i'
    · simp only [if_neg a, if_pos b]
    · simp only [if_neg a, if_neg b]
theorem wr_wr (σ : ST) (i j : Nat) (v v' : Int32) : wr (wr σ i j v) i j v' = wr σ i j v' := by
  funext x y
  rw [wr_at, wr_at, wr_at]
  by_cases a : x = i
  · rw [if_pos a, if_pos a, if_pos a]
    by_cases b : y = j
    · rw [if_pos b, if_pos b]
    · rw [if_neg b, if_neg b, if_neg b]
  · rw [if_neg a, if_neg a, if_neg a]
/-- the relation but for how many proposals there are -/
def R4 (c : Nat) (σ τ : ST) : Prop := Rl c (wr σ 111 4 (τ 18 4)) τ
theorem Rl.r4 {c : Nat} {σ τ : ST} (h : Rl c σ τ) (v : Int32) : R4 c (wr σ 111 4 v) τ := by
  unfold R4
  rw [wr_wr, wr_self h.s4]
  exact h
theorem Rl.r4' {c : Nat} {σ τ : ST} (h : Rl c σ τ) : R4 c σ τ := by
  unfold R4
  rw [wr_self h.s4]
  exact h
theorem R4.w10 {c : Nat} {σ τ : ST} (h : R4 c σ τ) (j : Nat) (v : Int32) : R4 c (wr σ 10 j v) (wr τ 12 j v) := by
  unfold R4
  rw [wr_cm (by omega)]
  exact Rl.w10 h j v
theorem R4.w11 {c : Nat} {σ τ : ST} (h : R4 c σ τ) (j : Nat) (v : Int32) : R4 c (wr σ 11 j v) (wr τ 13 j v) := by
  unfold R4
  rw [wr_cm (by omega)]
  exact Rl.w11 h j v
theorem R4.w12 {c : Nat} {σ τ : ST} (h : R4 c σ τ) (j : Nat) (v : Int32) : R4 c (wr σ 12 j v) (wr τ 14 j v) := by
  unfold R4
  rw [wr_cm (by omega)]
  exact Rl.w12 h j v
theorem R4.w12self {c : Nat} {σ τ : ST} (h : R4 c σ τ) {j : Nat} (h0 : σ 12 j = 0) : R4 c (wr σ 12 j 0) τ := by
  rw [wr_self h0]
  exact h
theorem R4.w13 {c : Nat} {σ τ : ST} (h : R4 c σ τ) (j : Nat) (v : Int32) : R4 c (wr σ 13 j v) (wr τ 15 j v) := by
  unfold R4
  rw [wr_cm (by omega)]
  exact Rl.w13 h j v
theorem R4.w110 {c : Nat} {σ τ : ST} (h : R4 c σ τ) (j : Nat) (v : Int32) : R4 c (wr σ 110 j v) (wr τ 16 j v) := by
  unfold R4
  rw [wr_cm (by omega)]
  exact Rl.w110 h j v
theorem R4.g50 {c : Nat} {σ τ : ST} (h : R4 c σ τ) {i j : Nat} (hi : i < 60) (hj : j < 12) (v : Int32) : R4 c (wr σ (i + 50) j v) (wr τ 17 (12 * i + j) v) := by
  unfold R4
  rw [wr_cm (by omega)]
  exact Rl.g50 h hi hj v
theorem R4.end {c : Nat} {σ τ : ST} (h : R4 c σ τ) (v : Int32) (h4 : σ 111 4 = v) : Rl c σ (wr τ 18 4 v) := by
  have q := Rl.sc4 h v
  rw [wr_wr, wr_self h4] at q
  exact q
theorem R4.rl {c : Nat} {σ τ : ST} (h : R4 c σ τ) (h4 : σ 111 4 = τ 18 4) : Rl c σ τ := by
  unfold R4 at h
  rw [wr_self h4] at h
  exact h
theorem fill_eq {c p : Nat} {G : Nat → Int32} (hc : c ≤ 12) (hp : p < 60) (hG : ∀ n, c ≤ n → n < 12 → G n = -1) : ∀ (n j : Nat) (σ τ : ST), R4 c σ τ → σ 9 = G → (∀ i, i < c → rff_Md_raised τ (nI i) = some (G i)) → j ≤ 12 → 12 - j < n → ∃ σ1 τ1 : ST, url_Pr_setRaised_2 9 n σ (nI p) (nI j) = some σ1 ∧ rfl_Md_fill_2 n τ (nI p) (nI j) = some τ1 ∧ R4 c σ1 τ1 ∧ (∀ i, i ≠ p + 50 → σ1 i = σ i) ∧ (∀ i, i ≠ 17 → τ1 i = τ i) ∧ (∀ i, i < j → σ1 (p + 50) i = σ (p + 50) i) ∧ ∀ i, j ≤ i → i < 12 → σ1 (p + 50) i = G i := by
  intro n
  induction n with
  | zero => intro j σ τ r hg hz h1 h2; omega
  | succ n ih =>
    intro j σ τ r hg hz h1 h2
    rw [url_Pr_setRaised_2, rfl_Md_fill_2]
    by_cases e : j = 12
    · subst e
      have z : (12 : Int32) ≤ nI 12 := by decide
      rw [if_pos z, if_pos z]
      exact ⟨σ, τ, rfl, rfl, r, fun _ _ => rfl, fun _ _ => rfl, fun _ _ => rfl, fun i q1 q2 => by omega⟩
    · have z : ¬ (12 : Int32) ≤ nI j := nI_ge (b := 12) (by omega) (by decide)
      have z2 : ¬ nI (ur_len 9) ≤ nI j := z
      have z3 : ub_in (nI j) (ur_len 9) := in_nI (show j < 12 by omega) (by decide)
      have e8 : (12 : Int32) * nI p + nI j = nI (12 * p + j) := by rw [show (12 : Int32) * nI p = nI (12 * p) from pk_mul 12 p, nI_add]
      have t3 : τ 18 3 = nI c := Rl.t3 r
      obtain ⟨σ1, τ1, q1, q2, q3, q4, q5, q6, q7⟩ := ih (j + 1) (wr σ (p + 50) j (G j)) (wr τ 17 (12 * p + j) (G j)) (r.g50 hp (by omega) _) ((wr_ne (by omega)).trans hg) hz (by omega) (by omega)
      have g9 : σ 9 j = G j := congrFun hg j
      simp only [if_neg z, if_neg z2, if_pos z3, if_pos (in_nI hp (by decide)), if_pos (in_nI (show j < 12 by omega) (by decide)), cl_nI (show p < 2 ^ 31 by omega), cl_nI (show j < 2 ^ 31 by omega), t3, e8, if_pos (in_nI (show 12 * p + j < 720 by omega) (by decide)), cl_nI (show 12 * p + j < 2 ^ 31 by omega), nI_1, g9]
      refine ⟨σ1, τ1, q1, ?_, q3, fun i hi => (q4 i hi).trans (wr_ne hi), fun i hi => (q5 i hi).trans (wr_ne hi), fun i hi => (q6 i (by omega)).trans ?_, fun i k1 k2 => ?_⟩
      · by_cases q : c ≤ j
        · rw [if_pos (nI_le q (by omega)), ← hG j q (by omega)]
          exact q2
        · rw [if_neg (nI_ge (show j < c by omega) (by omega)), hz j (by omega)]
          exact q2
      · rw [wr_at, if_pos rfl, if_neg (by omega)]
      · by_cases k3 : i = j
        · subst k3
          rw [q6 i (by omega)]
          exact wr_eq _ _ _ _
        · exact q7 i (by omega) k2
/-- what a row of raised targets may hold -/
def Gr (c : Nat) (σ : ST) (G : Nat → Int32) : Prop := (∀ n, c ≤ n → n < 12 → G n = -1) ∧ ∀ n, n < c → G n = -1 ∨ ∃ t h v : Nat, G n = nI t ∧ σ 2 n = nI h ∧ σ 1 n = nI (v + 1) ∧ h < t ∧ t ≤ v ∧ v ≤ 7
theorem Rz.gr {c : Nat} {σ τ : ST} (h : Rz c σ τ) : Gr c σ (σ 9) := ⟨h.1, fun n hn => (h.2 n hn).2⟩
theorem Gr.opn {c : Nat} {σ : ST} {G : Nat → Int32} (h : Gr c σ G) {n : Nat} (hn : n < 12) : G n = -1 ∨ σ 2 n < G n := by
  by_cases q : c ≤ n
  · exact Or.inl (h.1 n q hn)
  · rcases h.2 n (by omega) with z | ⟨t, hh, v, z1, z2, z3, z4, z5, z6⟩
    · exact Or.inl z
    · rw [z1, z2]
      exact Or.inr (nI_lt z4 (by omega))
theorem Gr.rwv {c : Nat} {σ : ST} {G : Nat → Int32} (h : Gr c σ G) {n : Nat} (hn : n < c) : G n = -1 ∨ ∃ r v : Nat, r < v ∧ v ≤ 8 ∧ G n = nI r ∧ σ 1 n = nI v := by
  rcases h.2 n hn with z | ⟨t, hh, v, z1, z2, z3, z4, z5, z6⟩
  · exact Or.inl z
  · exact Or.inr ⟨t, v + 1, by omega, by omega, z1, z3⟩
/-- the world behind a new proposal -/
theorem Wf.add {c m ch : Nat} {σ σ1 : ST} {G : Nat → Int32} {b : Int32} (w : Wf X c m σ) (hg : Gr c σ G) (hm : m < 60) (hch : ch < c) (hb : b = 0 ∨ b = 1) (e1 : σ1 1 = σ 1) (e2 : σ1 2 = σ 2) (e6 : σ1 6 = σ 6) (e10 : σ1 10 = upd (σ 10) m 0) (e11 : σ1 11 = upd (σ 11) m (nI ch)) (e12 : σ1 12 = upd (σ 12) m 0) (e110 : σ1 110 = upd (σ 110) m b) (e26 : ∀ n, n < 12 → σ1 (n + 26) = σ (n + 26)) (e38 : ∀ n, n < 12 → σ1 (n + 38) = σ (n + 38)) (e50 : ∀ p, p < m → σ1 (p + 50) = σ (p + 50)) (n50 : ∀ n, n < 12 → σ1 (m + 50) n = G n) (s1 : σ1 111 1 = σ 111 1) (s3 : σ1 111 3 = σ 111 3) (s4 : σ1 111 4 = nI (m + 1)) : Wf X c (m + 1) σ1 := by
  have hc := w.c12
  have un : ∀ (f : Nat → Int32) (v : Int32) (n : Nat), ¬ n = m → upd f m v n = f n := fun f v n hn => by
    unfold upd
    rw [if_neg hn]
  have us : ∀ (f : Nat → Int32) (v : Int32), upd f m v m = v := fun f v => by
    unfold upd
    rw [if_pos rfl]
  refine ⟨hc, s3.trans w.cn, by omega, s4, fun n hn => ?_, fun n hn => ?_, fun n hn => ?_, fun n v hn hv hl => ?_, fun n v hn hv => ?_, ?_, fun p hp => ?_, fun p hp => ?_, fun p => ?_, fun p n hp hn h12 => ?_, fun p n hp hn ho => ?_, fun p n hp hn => ?_⟩
  · rw [e1, e2]
    exact w.had n hn
  · rw [e2]
    exact w.had0 n hn
  · rw [e1, e6]
    exact w.adv n hn
  · rw [e1] at hl
    rw [e26 n (by omega)]
    exact w.ned n v hn hv hl
  · rw [e38 n hn]
    exact w.lst n v hn hv
  · rw [s1]
    exact w.clk
  · rw [e11]
    by_cases q : p = m
    · rw [q, us]
      exact ⟨ch, hch, rfl⟩
    · rw [un _ _ _ q]
      exact w.chf p (by omega)
  · rw [e12, un _ _ _ (by omega)]
    exact w.rdn p (by omega)
  · rw [e110]
    by_cases q : p = m
    · rw [q, us]
      exact hb
    · rw [un _ _ _ q]
      exact w.hit p
  · by_cases q : p = m
    · rw [q, n50 n h12]
      exact hg.1 n hn h12
    · rw [e50 p (by omega)]
      exact w.row p n (by omega) hn h12
  · rw [e2]
    by_cases q : p = m
    · rw [q, n50 n hn]
      exact Or.inr (hg.opn hn)
    · rw [e10, un _ _ _ q] at ho
      rw [e50 p (by omega)]
      exact w.opn p n (by omega) hn ho
  · rw [e1]
    by_cases q : p = m
    · rw [q, n50 n (by omega)]
      exact hg.rwv hn
    · rw [e50 p (by omega)]
      exact w.rwv p n (by omega) hn
/-- a proposal leaves the open ones -/
theorem Wf.w10x {X' : Nat → Prop} {c m : Nat} {σ : ST} (h : Wf X c m σ) (j : Nat) {v : Int32} (hv : ¬ v = 0) (hX : ∀ q, ¬ q = j → X q → X' q) : Wf X' c m (wr σ 10 j v) := by
  have hm := h.m60
  have hc := h.c12
  refine ⟨hc, h.cn, hm, h.mn, h.had, h.had0, h.adv, fun x y hx hy hz => ?_, fun x y hx hy => ?_, h.clk, h.chf, h.rdn, h.hit, fun x y hx hy hz => ?_, fun x y hx hy hz => ?_, fun x y hx hy => ?_⟩
  · rw [wr_ne (by omega)]
    exact h.ned x y hx hy hz
  · rw [wr_ne (by omega)]
    exact h.lst x y hx hy
  · rw [wr_ne (by omega)]
    exact h.row x y hx hy hz
  · rw [wr_ne (i' := x + 50) (by omega)]
    rw [wr_at, if_pos rfl] at hz
    by_cases q : x = j
    · rw [if_pos q] at hz
      exact absurd hz hv
    · rw [if_neg q] at hz
      rcases h.opn x y hx hy hz with z | z
      · exact Or.inl (hX x q z)
      · exact Or.inr z
  · rw [wr_ne (i' := x + 50) (by omega)]
    exact h.rwv x y hx hy
theorem Wf.w10 {c m : Nat} {σ : ST} (h : Wf X c m σ) (j : Nat) {v : Int32} (hv : ¬ v = 0) : Wf X c m (wr σ 10 j v) := h.w10x j hv (fun _ _ z => z)
/-- a proposal's row is written anew -/
theorem Wf.rowp {X' : Nat → Prop} {c m p : Nat} {σ σ1 : ST} {G : Nat → Int32} (w : Wf X c m σ) (hX : ∀ q, ¬ q = p → X q → X' q) (hg : Gr c σ G) (hp : p < m) (e : ∀ i, i ≠ p + 50 → i ≠ 12 → σ1 i = σ i) (e12 : ∀ q, m ≤ q → σ1 12 q = σ 12 q) (n50 : ∀ n, n < 12 → σ1 (p + 50) n = G n) : Wf X' c m σ1 := by
  have hc := w.c12
  have hm := w.m60
  refine ⟨hc, (congrFun (e 111 (by omega) (by omega)) 3).trans w.cn, hm, (congrFun (e 111 (by omega) (by omega)) 4).trans w.mn, fun n hn => ?_, fun n hn => ?_, fun n hn => ?_, fun n v hn hv hl => ?_, fun n v hn hv => ?_, ?_, fun q hq => ?_, fun q hq => ?_, fun q => ?_, fun q n hq hn h12 => ?_, fun q n hq hn ho => ?_, fun q n hq hn => ?_⟩
  · rw [e 2 (by omega) (by omega), e 1 (by omega) (by omega)]
    exact w.had n hn
  · rw [e 2 (by omega) (by omega)]
    exact w.had0 n hn
  · rw [e 6 (by omega) (by omega), e 1 (by omega) (by omega)]
    exact w.adv n hn
  · rw [e 1 (by omega) (by omega)] at hl
    rw [e (n + 26) (by omega) (by omega)]
    exact w.ned n v hn hv hl
  · rw [e (n + 38) (by omega) (by omega)]
    exact w.lst n v hn hv
  · rw [e 111 (by omega) (by omega)]
    exact w.clk
  · rw [e 11 (by omega) (by omega)]
    exact w.chf q hq
  · rw [e12 q hq]
    exact w.rdn q hq
  · rw [e 110 (by omega) (by omega)]
    exact w.hit q
  · by_cases z : q = p
    · rw [z, n50 n h12]
      exact hg.1 n hn h12
    · rw [e (q + 50) (by omega) (by omega)]
      exact w.row q n hq hn h12
  · rw [e 2 (by omega) (by omega)]
    by_cases z : q = p
    · rw [z, n50 n hn]
      exact Or.inr (hg.opn hn)
    · rw [e 10 (by omega) (by omega)] at ho
      rw [e (q + 50) (by omega) (by omega)]
      rcases w.opn q n hq hn ho with y | y
      · exact Or.inl (hX q z y)
      · exact Or.inr y
  · rw [e 1 (by omega) (by omega)]
    by_cases z : q = p
    · rw [z, n50 n (by omega)]
      exact hg.rwv hn
    · rw [e (q + 50) (by omega) (by omega)]
      exact w.rwv q n hq hn
