variable {X : Nat → Prop}
theorem Wf.sub {X' : Nat → Prop} {c m : Nat} {σ : ST} (h : Wf X c m σ) (hx : ∀ q, q < m → σ 10 q = 0 → X q → X' q) : Wf X' c m σ :=
  ⟨h.c12, h.cn, h.m60, h.mn, h.had, h.had0, h.adv, h.ned, h.lst, h.clk, h.chf, h.rdn, h.hit, h.row, fun p n hp hn ho => (h.opn p n hp hn ho).imp (hx p hp ho) id, h.rwv⟩
theorem Wf.w2 {c m : Nat} {σ : ST} (h : Wf X c m σ) {n t v : Nat} (hn : n < c) (ev : σ 1 n = nI v) (ht : t < v) (hv : v ≤ 8) (hX : ∀ q, q < m → σ 10 q = 0 → σ (q + 50) n = -1 ∨ X q) : Wf X c m (wr σ 2 n (nI t)) := by
  have hm := h.m60
  have hc := h.c12
  refine ⟨hc, h.cn, hm, h.mn, fun k hk => ?_, fun k hk => ?_, h.adv, fun x y hx hy hz => ?_, fun x y hx hy => ?_, h.clk, h.chf, h.rdn, h.hit, fun x y hx hy hz => ?_, fun x y hx hy hz => ?_, fun x y hx hy => ?_⟩
  · rw [wr_at, if_pos rfl]
    by_cases e : k = n
    · rw [if_pos e]
      exact ⟨t, v, ht, hv, rfl, by rw [e]; exact ev⟩
    · rw [if_neg e]
      exact h.had k hk
  · rw [wr_at, if_pos rfl, if_neg (by omega)]
    exact h.had0 k hk
  · rw [wr_ne (by omega)]
    exact h.ned x y hx hy hz
  · rw [wr_ne (by omega)]
    exact h.lst x y hx hy
  · rw [wr_ne (by omega)]
    exact h.row x y hx hy hz
  · rw [wr_ne (i' := x + 50) (by omega), wr_at, if_pos rfl]
    by_cases e : y = n
    · rw [if_pos e, e]
      rcases hX x hx hz with q | q
      · exact Or.inr (Or.inl q)
      · exact Or.inl q
    · rw [if_neg e]
      exact h.opn x y hx hy hz
  · rw [wr_ne (i' := x + 50) (by omega)]
    exact h.rwv x y hx hy
theorem len50 {p : Nat} (hp : p < 60) : ur_len (p + 50) = 12 := by
  unfold ur_len
  rw [if_neg (by omega), if_neg (by omega), if_neg (by omega)]
/-- what is had moves up: both alike, and the names that moved are told by bits -/
theorem move_eq {c m p : Nat} {x2 : Int32} {Rp : Nat → Int32} (hp : p < m) : ∀ (n j a : Nat) (mask : Int32) (σ τ : ST), Wf X c m σ → Rl c σ τ → σ (p + 50) = Rp → (∀ q i, q < m → i < c → ¬ Rp i = -1 → σ (q + 50) i = -1 ∨ X q) → (∀ i, j ≤ i → i < c → Rp i = -1 ∨ σ 2 i < Rp i) → Bm mask (fun i => i < j ∧ i < c ∧ ¬ Rp i = -1) → j ≤ c → c - j < n → ∃ (k : Nat) (mask1 : Int32) (σ1 τ1 : ST), url_Nm_moveUp_4 (p + 50) n σ (nI a) (nI j) = some (nI k, σ1) ∧ rfl_Md_pass_57 n τ (nI p) x2 mask (nI a) (nI j) = rfl_Md_pass_129 200 τ1 (nI p) x2 mask1 (nI k) 0 ∧ Wf X c m σ1 ∧ Rl c σ1 τ1 ∧ (∀ i, i ≠ 2 → σ1 i = σ i) ∧ Bm mask1 (fun i => i < c ∧ ¬ Rp i = -1) := by
  intro n
  induction n with
  | zero => intro j a mask σ τ w r h1 h2 h3 h4 h5 h6; omega
  | succ n ih =>
    intro j a mask σ τ w r h1 h2 h3 h4 h5 h6
    have hc := w.c12
    have hm := w.m60
    have hl : ur_len (p + 50) = 12 := len50 (by omega)
    rw [url_Nm_moveUp_4, rfl_Md_pass_57, w.cn, r.t3, hl]
    by_cases e : j = c
    · subst e
      rw [if_pos (Int32.le_refl (nI j)), if_pos (Int32.le_refl (nI j))]
      exact ⟨a, mask, σ, τ, rfl, rfl, w, r, fun _ _ => rfl, Bm_to h4 (fun i _ => ⟨fun q => q.2, fun q => ⟨q.1, q⟩⟩)⟩
    · have hj : j < c := by omega
      have z : ¬ nI 12 ≤ nI j := nI_ge (by omega) (by omega)
      have e8 : (12 : Int32) * nI p + nI j = nI (12 * p + j) := by rw [show (12 : Int32) * nI p = nI (12 * p) from pk_mul 12 p, nI_add]
      obtain ⟨h, v, v1, v2, v3, v4⟩ := w.had j hj
      simp only [if_neg (nI_ge hj (by omega)), if_neg z, if_pos (in_nI (show j < 12 by omega) (by decide)), cl_nI (show j < 2 ^ 31 by omega), e8, if_pos (in_nI (show 12 * p + j < 720 by omega) (by decide)), cl_nI (show 12 * p + j < 2 ^ 31 by omega), ← r.k50 p j (by omega) (by omega), ← r.a2, h1, nI_1]
      by_cases q : Rp j = -1
      · have b1 : Rp j ≤ σ 2 j := by
          rw [q, v3]
          exact Int32.le_of_lt (m1_lt (by omega))
        simp only [if_pos b1, if_neg (Int32.not_lt.mpr b1)]
        refine ih (j + 1) a mask σ τ w r h1 h2 (fun i k1 k2 => h3 i (by omega) k2) (Bm_to h4 (fun i _ => ⟨fun k => ⟨by omega, k.2⟩, fun k => ⟨?_, k.2⟩⟩)) (by omega) (by omega)
        rcases Nat.lt_or_ge i j with y | y
        · exact y
        · have : i = j := by omega
          subst this
          exact absurd q k.2.2
      · have b2 : σ 2 j < Rp j := (h3 j (Nat.le_refl j) hj).resolve_left q
        simp only [if_neg (Int32.not_le.mpr b2), if_pos b2]
        rcases w.rwv p j hp hj with y | ⟨t, u, t1, t2, t3, t4⟩
        · rw [h1] at y
          exact absurd y q
        · rw [h1] at t3
          have w1 : Wf X c m (wr σ 2 j (Rp j)) := by
            rw [t3]
            exact w.w2 hj t4 t1 t2 (fun x hx _ => h2 x j hx hj q)
          have hB : Bm (mask ||| (1 <<< (nI j &&& 31))) (fun i => i < j + 1 ∧ i < c ∧ ¬ Rp i = -1) := by
            refine Bm_to (Bm_or h4 (show j < 12 by omega)) (fun i _ => ⟨fun y => ?_, fun y => ?_⟩)
            · rcases y with y | y
              · exact ⟨by omega, y.2⟩
              · rw [y]
                exact ⟨by omega, hj, q⟩
            · rcases Nat.lt_or_ge i j with y' | y'
              · exact Or.inl ⟨y', y.2⟩
              · exact Or.inr (by omega)
          obtain ⟨k, mask1, σ1, τ1, k1, k2, k3, k4, k5, k6⟩ := ih (j + 1) (a + 1) (mask ||| (1 <<< (nI j &&& 31))) (wr σ 2 j (Rp j)) (wr τ 2 j (Rp j)) w1 (r.w2 j _) ((wr_ne (by omega)).trans h1) (fun x i hx hi hr => by rw [wr_ne (by omega)]; exact h2 x i hx hi hr) (fun i y1 y2 => by rw [wr_at, if_pos rfl, if_neg (by omega)]; exact h3 i (by omega) y2) hB (by omega) (by omega)
          exact ⟨k, mask1, σ1, τ1, k1, k2, k3, k4, fun i hi => (k5 i hi).trans (wr_ne hi), k6⟩
/-! does a proposal touch what moved -/
theorem touch1 {c : Nat} {σ τ : ST} (r : Rl c σ τ) (hc : c ≤ 12) (y1 y2 y3 y4 y5 : Int32) : ∀ (n i : Nat), i ≤ c → c - i < n → ∃ e7 : Int32, rfl_Md_pass_144 n τ y1 y2 y3 y4 y5 1 (nI i) = some (τ, y1, y2, y3, y4, y5, 1, e7) := by
  intro n
  induction n with
  | zero => intro i h1 h2; omega
  | succ n ih =>
    intro i h1 h2
    rw [rfl_Md_pass_144, r.t3]
    by_cases e : i = c
    · subst e
      rw [if_pos (Int32.le_refl (nI i))]
      exact ⟨_, rfl⟩
    · simp only [if_neg (nI_ge (show i < c by omega) (by omega)), if_neg one_ne, nI_1]
      exact ih (i + 1) (by omega) (by omega)
theorem over_tail {c m j p : Nat} {σ : ST} (w : Wf X c m σ) (hj : j < m) (hp : p < m) : ∀ (n i : Nat), c ≤ i → i ≤ 12 → 12 - i < n → url_Pr_overlap_2 σ n (nI j) (nI p) (nI i) = some 0 := by
  have hm := w.m60
  intro n
  induction n with
  | zero => intro i h1 h2 h3; omega
  | succ n ih =>
    intro i h1 h2 h3
    rw [url_Pr_overlap_2]
    by_cases e : i = 12
    · subst e
      have z : (12 : Int32) ≤ nI 12 := by decide
      rw [if_pos z]
    · have z : ¬ (12 : Int32) ≤ nI i := nI_ge (b := 12) (by omega) (by decide)
      simp only [if_neg z, if_pos (in_nI (show j < 60 by omega) (by decide)), if_pos (in_nI (show i < 12 by omega) (by decide)), cl_nI (show j < 2 ^ 31 by omega), cl_nI (show i < 2 ^ 31 by omega), if_pos (w.row j i hj h1 (by omega)), nI_1]
      exact ih (i + 1) (by omega) (by omega) (by omega)
theorem over_eq {c m j p : Nat} {σ τ : ST} {mask : Int32} (w : Wf X c m σ) (r : Rl c σ τ) (hj : j < m) (hp : p < m) (hb : Bm mask (fun i => i < c ∧ ¬ σ (p + 50) i = -1)) (y1 y2 y4 : Int32) : ∀ (d i n n' : Nat), i + d = c → 13 - i ≤ n → d < n' → ∃ b e7 : Int32, (b = 0 ∨ b = 1) ∧ (b = 0 → ∀ i', i ≤ i' → i' < c → σ (p + 50) i' = -1 ∨ σ (j + 50) i' = -1) ∧ url_Pr_overlap_2 σ n (nI j) (nI p) (nI i) = some b ∧ rfl_Md_pass_144 n' τ y1 y2 mask y4 (nI j) 0 (nI i) = some (τ, y1, y2, mask, y4, nI j, b, e7) := by
  have hm := w.m60
  have hc := w.c12
  intro d
  induction d with
  | zero =>
    intro i n n' h1 h2 h3
    have hi : i = c := by omega
    subst hi
    obtain ⟨n2, rfl⟩ : ∃ z, n' = z + 1 := ⟨n' - 1, by omega⟩
    refine ⟨0, nI i, Or.inl rfl, fun _ i' k1 k2 => by omega, over_tail w hj hp n i (Nat.le_refl i) hc (by omega), ?_⟩
    rw [rfl_Md_pass_144, r.t3, if_pos (Int32.le_refl (nI i))]
  | succ d ih =>
    intro i n n' h1 h2 h3
    have hi : i < c := by omega
    obtain ⟨n1, rfl⟩ : ∃ z, n = z + 1 := ⟨n - 1, by omega⟩
    obtain ⟨n2, rfl⟩ : ∃ z, n' = z + 1 := ⟨n' - 1, by omega⟩
    obtain ⟨b, e7, q1, q2, q3, q4⟩ := ih (i + 1) n1 n2 (by omega) (by omega) (by omega)
    have z : ¬ (12 : Int32) ≤ nI i := nI_ge (b := 12) (by omega) (by decide)
    have e8 : (12 : Int32) * nI j + nI i = nI (12 * j + i) := by rw [show (12 : Int32) * nI j = nI (12 * j) from pk_mul 12 j, nI_add]
    have hbi := hb i (by omega)
    rw [url_Pr_overlap_2, rfl_Md_pass_144, r.t3]
    simp only [if_neg z, if_pos (in_nI (show j < 60 by omega) (by decide)), if_pos (in_nI (show p < 60 by omega) (by decide)), if_pos (in_nI (show i < 12 by omega) (by decide)), cl_nI (show j < 2 ^ 31 by omega), cl_nI (show p < 2 ^ 31 by omega), cl_nI (show i < 2 ^ 31 by omega), if_neg (nI_ge hi (show c < 2 ^ 31 by omega)), if_pos, e8, if_pos (in_nI (show 12 * j + i < 720 by omega) (by decide)), cl_nI (show 12 * j + i < 2 ^ 31 by omega), ← r.k50 j i (by omega) (by omega), nI_1]
    by_cases a1 : σ (j + 50) i = -1
    · simp only [if_pos a1, ite_self]
      refine ⟨b, e7, q1, fun b0 i' k1 k2 => ?_, q3, q4⟩
      by_cases y : i' = i
      · rw [y]; exact Or.inr a1
      · exact q2 b0 i' (by omega) k2
    · simp only [if_neg a1]
      by_cases a2 : σ (p + 50) i = -1
      · have nb : ¬ ((mask >>> (nI i &&& 31)) &&& 1) = 1 := fun y => (hbi.mp y).2 a2
        simp only [if_pos a2, if_neg nb]
        refine ⟨b, e7, q1, fun b0 i' k1 k2 => ?_, q3, q4⟩
        by_cases y : i' = i
        · rw [y]; exact Or.inl a2
        · exact q2 b0 i' (by omega) k2
      · have nb : ((mask >>> (nI i &&& 31)) &&& 1) = 1 := hbi.mpr ⟨hi, a2⟩
        simp only [if_neg a2, if_pos nb]
        obtain ⟨e7', k7⟩ := touch1 r hc y1 y2 mask y4 (nI j) n2 (i + 1) (by omega) (by omega)
        exact ⟨1, e7', Or.inr rfl, fun y => absurd y one_ne, rfl, k7⟩
/-! redone -/
theorem fl_w14 (j : Nat) (v : Int32) : ∀ (n : Nat) (τ : ST) (x y : Int32), rfl_Md_fill_2 n (wr τ 14 j v) x y = Option.map (fun t => wr t 14 j v) (rfl_Md_fill_2 n τ x y) := by
  intro n
  induction n with
  | zero => intro τ x y; rfl
  | succ n ih =>
    intro τ x y
    rw [rfl_Md_fill_2, rfl_Md_fill_2]
    have e3 : (wr τ 14 j v) 18 3 = τ 18 3 := rfl
    have er : rff_Md_raised (wr τ 14 j v) y = rff_Md_raised τ y := rfl
    have ew : ∀ (a : Nat) (z : Int32), wr (wr τ 14 j v) 17 a z = wr (wr τ 17 a z) 14 j v := fun a z => wr_cm (by omega)
    rw [e3, er]
    simp only [ew, ih]
    by_cases a1 : (12 : Int32) ≤ y
    · rw [if_pos a1, if_pos a1]
      rfl
    · rw [if_neg a1, if_neg a1]
      by_cases a2 : τ 18 3 ≤ y
      · rw [if_pos a2, if_pos a2]
        by_cases a3 : ub_in (12 * x + y) 720
        · rw [if_pos a3, if_pos a3]
        · rw [if_neg a3, if_neg a3]
          rfl
      · rw [if_neg a2, if_neg a2]
        cases rff_Md_raised τ y with
        | none => rfl
        | some z =>
          simp only [ob_s]
          by_cases a3 : ub_in (12 * x + y) 720
          · rw [if_pos a3, if_pos a3]
          · rw [if_neg a3, if_neg a3]
            rfl
theorem redo_eq {X' : Nat → Prop} {c m j : Nat} {σ τ : ST} (w : Wf X c m σ) (r : Rl c σ τ) (hj : j < m) (hX : ∀ q, ¬ q = j → X q → X' q) : ∃ σ1 τ1 : ST, urf_Rb_redo σ (nI j) = some σ1 ∧ rff_Md_redo τ (nI j) = some τ1 ∧ Wf X' c m σ1 ∧ Rl c σ1 τ1 ∧ (∀ q, ¬ q = j → q < 60 → σ1 (q + 50) = σ (q + 50)) ∧ ∀ q, ¬ q = j → σ1 10 q = σ 10 q := by
  have hm := w.m60
  have hc := w.c12
  have n3 : ¬ (3 : Int32) = 0 := by decide
  obtain ⟨k, hk, ek⟩ := w.chf j hj
  obtain ⟨g, hg⟩ := ch_ex σ k
  have hg1 := hg.1
  unfold urf_Rb_redo rff_Md_redo
  simp only [if_pos (in_nI (show j < 60 by omega) (by decide)), cl_nI (show j < 2 ^ 31 by omega), ← r.a11, ek, rf_ch r (show k < 12 by omega) hg, ob_s]
  by_cases eg : g = k
  · subst eg
    obtain ⟨z, z', σs, τs, s1, s2, k1, k2, k3⟩ := solve_eq w r hk hg
    have ws := w.k k1
    have rs := r.k k1 k2
    simp only [ur_isch w hk hg, ob_s, if_neg one_ne, if_pos, s1, s2]
    have stop : z ≤ 0 → ¬ 0 < z' → ∃ σ1 τ1 : ST, (if z ≤ 0 then some (wr σs 10 j 3) else Option.bind (urf_Pr_setRaised σs (nI j) 9) (fun q8 => some (wr q8 12 j (q8 12 j + 1)))) = some σ1 ∧ (if 0 < z' then Option.bind (rff_Md_fill (wr τs 14 j (τs 14 j + 1)) (nI j)) (fun q9 => some q9) else some (wr τs 12 j 3)) = some τ1 ∧ Wf X' c m σ1 ∧ Rl c σ1 τ1 ∧ (∀ q, ¬ q = j → q < 60 → σ1 (q + 50) = σ (q + 50)) ∧ ∀ q, ¬ q = j → σ1 10 q = σ 10 q := by
      intro h1 h2
      rw [if_pos h1, if_neg h2]
      refine ⟨_, _, rfl, rfl, ws.w10x j n3 hX, rs.w10 j 3, fun q hq h60 => ?_, fun q hq => ?_⟩
      · rw [wr_ne (by omega)]
        exact k1 (q + 50) (by omega) (by omega)
      · rw [wr_at, if_pos rfl, if_neg hq]
        exact congrFun (k1 10 (by omega) (by omega)) q
    rcases k3 with ⟨o, o1, o2, o3, o4⟩ | ⟨kk, j1, j2, j3, hz⟩
    · subst o2
      subst o3
      refine stop ?_ (by decide)
      have e2 : (-2 : Int32) = -nI 2 := by decide
      have e1 : (-2 : Int32) - nI o = nI 0 - nI (2 + o) := by
        rw [← nI_add 2 o, nI_0, Int32.zero_sub, Int32.neg_add, e2]
      have t1 : (nI 0 - nI (2 + o)).toInt = ((0 : Nat) : Int) - ((2 + o : Nat) : Int) := pk_sub_toInt (by omega) (by omega)
      have t0 : (0 : Int32).toInt = 0 := by decide
      rw [i_le, e1, t1, t0]
      omega
    · subst j2
      subst j3
      by_cases k0 : kk = 0
      · subst k0
        exact stop (by decide) (by decide)
      · have kp : (0 : Int32) < nI kk := nI_lt (a := 0) (by omega) (by omega)
        rw [if_neg (Int32.not_le.mpr kp), if_pos kp]
        obtain ⟨σ1, τ1, q1, q2, q3, q4, q5, q6, q7⟩ := fill_eq (G := σs 9) (p := j) hc (by omega) hz.1 200 0 σs τs rs.r4' rfl (fun i hi => (hz.2 i hi).1) (by omega) (by omega)
        have q1 : urf_Pr_setRaised σs (nI j) 9 = some σ1 := q1
        have e14 : τs 14 j = σ1 12 j := by rw [q4 12 (by omega), rs.a12]
        have q2 : rff_Md_fill (wr τs 14 j (τs 14 j + 1)) (nI j) = some (wr τ1 14 j (τs 14 j + 1)) := by
          unfold rff_Md_fill
          have q2 : rfl_Md_fill_2 200 τs (nI j) 0 = some τ1 := q2
          rw [fl_w14, q2]
          rfl
        rw [q1, q2, e14]
        refine ⟨_, _, rfl, rfl, ?_, ?_, fun q hq h60 => ?_, fun q hq => ?_⟩
        · refine ws.rowp (G := σs 9) hX hz.gr hj (fun i h1 h2 => (wr_ne h2).trans (q4 i h1)) (fun q hq => ?_) (fun i hi => ?_)
          · rw [wr_at, if_pos rfl, if_neg (by omega), q4 12 (by omega)]
          · rw [wr_ne (by omega)]
            exact q7 i (by omega) hi
        · refine (q3.w12 j (σ1 12 j + 1)).rl ?_
          have a1 : σ1 111 4 = σs 111 4 := congrFun (q4 111 (by omega)) 4
          have a2 : τ1 18 4 = τs 18 4 := congrFun (q5 18 (by omega)) 4
          show σ1 111 4 = τ1 18 4
          rw [a1, a2, rs.s4]
        · rw [wr_ne (by omega), q4 (q + 50) (by omega)]
          exact k1 (q + 50) (by omega) (by omega)
        · show σ1 10 q = σ 10 q
          rw [q4 10 (by omega)]
          exact congrFun (k1 10 (by omega) (by omega)) q
  · have ne : ¬ nI g = nI k := fun q => eg ((nI_eq (by omega) (by omega)).mp q)
    simp only [ur_noch w hk hg eg, ob_s, if_pos, if_neg ne]
    refine ⟨_, _, rfl, rfl, w.w10x j n3 hX, r.w10 j 3, fun q hq h60 => wr_ne (by omega), fun q hq => ?_⟩
    rw [wr_at, if_pos rfl, if_neg hq]
/-- all that the landing touches is redone -/
theorem redoAll_eq {c m p : Nat} {x2 mask y4 : Int32} {R : Nat → Nat → Int32} (hp : p < m) (hb : Bm mask (fun i => i < c ∧ ¬ R p i = -1)) : ∀ (n j : Nat) (σ τ : ST), Wf (fun q => j ≤ q ∧ ∃ i, i < c ∧ ¬ R p i = -1 ∧ ¬ R q i = -1) c m σ → Rl c σ τ → σ 10 p = 1 → (∀ q, q < m → (j ≤ q ∨ q = p) → σ (q + 50) = R q) → j ≤ m → m - j < n → ∃ σ1 τ1 : ST, url_Rb_redoAllTouchedBy_2 n σ (nI p) (nI j) = some σ1 ∧ rfl_Md_pass_129 n τ (nI p) x2 mask y4 (nI j) = some (y4, τ1) ∧ Iv σ1 τ1 := by
  intro n
  induction n with
  | zero => intro j σ τ w r h1 h2 h3 h4; omega
  | succ n ih =>
    intro j σ τ w r h1 h2 h3 h4
    have hm := w.m60
    have hc := w.c12
    rw [url_Rb_redoAllTouchedBy_2, rfl_Md_pass_129, ← r.s4, w.mn]
    by_cases e : j = m
    · subst e
      rw [if_pos (Int32.le_refl (nI j)), if_pos (Int32.le_refl (nI j))]
      exact ⟨σ, τ, rfl, rfl, c, j, w.sub (fun q k1 k2 k3 => by omega), r⟩
    · have hj : j < m := by omega
      have hb' : Bm mask (fun i => i < c ∧ ¬ σ (p + 50) i = -1) := by
        rw [h2 p hp (Or.inr rfl)]
        exact hb
      obtain ⟨b, e7, b0, b1, b2, b3⟩ := over_eq w r hj hp hb' (nI p) x2 y4 c 0 200 200 (by omega) (by omega) (by omega)
      have b2 : urf_Pr_overlap σ (nI j) (nI p) = some b := b2
      have b3 : rfl_Md_pass_144 200 τ (nI p) x2 mask y4 (nI j) 0 0 = some (τ, nI p, x2, mask, y4, nI j, b, e7) := b3
      unfold urf_Pr_isOpen
      simp only [if_neg (nI_ge hj (show m < 2 ^ 31 by omega)), pn1 w.mn hm hj, ob_s, if_neg one_ne, if_pos (in_nI (show j < 60 by omega) (by decide)), cl_nI (show j < 2 ^ 31 by omega), b2, b3, ← r.a10, nI_1]
      by_cases o : σ 10 j = 0
      · simp only [if_pos o, ob_s, if_neg one_ne]
        by_cases bz : b = 0
        · simp only [if_pos bz]
          refine ih (j + 1) σ τ (w.sub (fun q k1 k2 k3 => ⟨?_, k3.2⟩)) r h1 (fun q k1 k2 => h2 q k1 (by omega)) (by omega) (by omega)
          rcases Nat.lt_or_ge j q with y | y
          · exact y
          · have : q = j := by omega
            subst this
            obtain ⟨i, i1, i2, i3⟩ := k3.2
            rcases b1 bz i (by omega) i1 with y | y
            · rw [h2 p hp (Or.inr rfl)] at y
              exact absurd y i2
            · rw [h2 q k1 (Or.inl (Nat.le_refl q))] at y
              exact absurd y i3
        · simp only [if_neg bz]
          have jp : ¬ p = j := fun y => by
            rw [← y, h1] at o
            exact absurd o one_ne
          obtain ⟨σ1, τ1, q1, q2, q3, q4, q5, q6⟩ := redo_eq (X' := fun q => j + 1 ≤ q ∧ ∃ i, i < c ∧ ¬ R p i = -1 ∧ ¬ R q i = -1) w r hj (fun q k1 k2 => ⟨by omega, k2.2⟩)
          simp only [q1, q2, ob_s]
          refine ih (j + 1) σ1 τ1 q3 q4 ((q6 p jp).trans h1) (fun q k1 k2 => ?_) (by omega) (by omega)
          have qj : ¬ q = j := fun y => by
            rcases k2 with k2 | k2
            · omega
            · exact jp (by omega)
          rw [q5 q qj (by omega)]
          exact h2 q k1 (by omega)
      · simp only [if_neg o, ob_s, if_pos]
        refine ih (j + 1) σ τ (w.sub (fun q k1 k2 k3 => ⟨?_, k3.2⟩)) r h1 (fun q k1 k2 => h2 q k1 (by omega)) (by omega) (by omega)
        rcases Nat.lt_or_ge j q with y | y
        · exact y
        · have : q = j := by omega
          subst this
          exact absurd k2 o
theorem st_pass (σ τ : ST) (x1 x2 : Int32) (h : Iv σ τ) (hx2 : x2 = 0 ∨ x2 = 1) : ∃ (r : Int32) (σ1 τ1 : ST), urf_Rb_pass σ x1 x2 = some (r, σ1) ∧ rff_Md_pass τ x1 x2 = some (r, τ1) ∧ Iv σ1 τ1 := by
  obtain ⟨c, m, w, r⟩ := h
  have hm := w.m60
  have hc := w.c12
  have no : ∃ (r : Int32) (σ1 τ1 : ST), some ((-1 : Int32), σ) = some (r, σ1) ∧ some ((-1 : Int32), wr τ 18 1 0) = some (r, τ1) ∧ Iv σ1 τ1 := ⟨-1, _, _, rfl, rfl, c, m, w, r.code⟩
  unfold urf_Rb_pass rff_Md_pass rfj_Md_pass_26 urf_Pr_isOpen
  rw [← r.s4, w.mn, ← r.a10]
  rcases cs_ix x1 (n := m) (by omega) with hx | ⟨p, hp, rfl⟩
  · rw [pn0 w.mn hx]
    rcases hx with hx | hx
    · simp only [ob_s, if_pos hx, if_pos]
      exact no
    · simp only [ob_s, if_pos hx, if_pos, ite_self]
      exact no
  · rw [pn1 w.mn hm hp]
    simp only [ob_s, if_neg one_ne, if_neg (nI_pos (show p < 2 ^ 31 by omega)), if_neg (nI_ge hp (show m < 2 ^ 31 by omega)), if_pos (in_nI (show p < 60 by omega) (by decide)), cl_nI (show p < 2 ^ 31 by omega)]
    by_cases o : σ 10 p = 0
    · simp only [if_pos o, ob_s, if_neg one_ne]
      rcases hx2 with hx2 | hx2
      · subst hx2
        simp only [if_pos]
        exact ⟨0, _, _, rfl, rfl, c, m, w.w10 p (by decide), r.code.w10 p 4⟩
      · subst hx2
        simp only [if_neg one_ne]
        have w1 : Wf (fun _ => False) c m (wr σ 10 p 1) := w.w10 p one_ne
        have r1 := r.code.w10 p 1
        have rowe : ∀ q, (wr σ 10 p 1) (q + 50) = σ (q + 50) := fun q => wr_ne (by omega)
        obtain ⟨k, mask1, σ1, τ1, q1, q2, q3, q4, q5, q6⟩ := move_eq (X := fun q => 0 ≤ q ∧ ∃ i, i < c ∧ ¬ σ (p + 50) i = -1 ∧ ¬ σ (q + 50) i = -1) (x2 := 1) (Rp := σ (p + 50)) hp 200 0 0 0 (wr σ 10 p 1) _ (w1.sub (fun q _ _ z => z.elim)) r1 (rowe p) (fun q i hq hi hr => by
          rw [rowe q]
          by_cases y : σ (q + 50) i = -1
          · exact Or.inl y
          · exact Or.inr ⟨Nat.zero_le q, i, hi, hr, y⟩) (fun i _ hi => by
          rcases w.opn p i hp (by omega) o with y | y
          · exact y.elim
          · exact y) (Bm_0 (fun i _ y => by omega)) (by omega) (by omega)
        have q1 : urf_Nm_moveUp (wr σ 10 p 1) (p + 50) = some (nI k, σ1) := q1
        have q2 : rfl_Md_pass_57 200 (wr (wr τ 18 1 0) 12 p 1) (nI p) 1 0 0 0 = rfl_Md_pass_129 200 τ1 (nI p) 1 mask1 (nI k) 0 := q2
        obtain ⟨σ2, τ2, k1, k2, k3⟩ := redoAll_eq (x2 := 1) (mask := mask1) (y4 := nI k) (R := fun q => σ (q + 50)) hp q6 200 0 σ1 τ1 q3 q4 (by rw [q5 10 (by omega)]; exact wr_eq _ _ _ _) (fun q _ _ => by rw [q5 (q + 50) (by omega)]; exact rowe q) (by omega) (by omega)
        have k1 : urf_Rb_redoAllTouchedBy σ1 (nI p) = some σ2 := k1
        have k2 : rfl_Md_pass_129 200 τ1 (nI p) 1 mask1 (nI k) 0 = some (nI k, τ2) := k2
        simp only [q1, ob_s, k1, q2, k2]
        exact ⟨_, _, _, rfl, rfl, k3⟩
    · simp only [if_neg o, ob_s, if_pos]
      exact no
