variable {X : Nat → Prop}
theorem Wf.newer {c m : Nat} {σ : ST} (w : Wf X c m σ) {n v : Nat} (hn : n < c) (hv : v < 8) (e : σ 1 n = nI v) (x : Int32) : Wf X c m (wr (wr (wr σ 1 n (nI (v + 1))) (n + 14) v x) (n + 26) v (-1)) := by
  have hc := w.c12
  have hm := w.m60
  have L : ∀ i, i < 14 ∨ (38 ≤ i ∧ i ≠ 1) → i ≠ 1 → (wr (wr (wr σ 1 n (nI (v + 1))) (n + 14) v x) (n + 26) v (-1)) i = σ i := fun i hi h1 => by
    rw [wr_ne (by omega), wr_ne (by omega), wr_ne h1]
  have L1 : ∀ k, (wr (wr (wr σ 1 n (nI (v + 1))) (n + 14) v x) (n + 26) v (-1)) 1 k = if k = n then nI (v + 1) else σ 1 k := fun k => by
    rw [wr_ne (by omega), wr_ne (by omega), wr_at, if_pos rfl]
  refine ⟨hc, (congrFun (L 111 (by omega) (by omega)) 3).trans w.cn, hm, (congrFun (L 111 (by omega) (by omega)) 4).trans w.mn, fun k hk => ?_, fun k hk => ?_, fun k hk => ?_, fun k u hk hu hl => ?_, fun k u hk hu => ?_, ?_, fun p hp => ?_, fun p hp => ?_, fun p => ?_, fun p k hp hk h12 => ?_, fun p k hp hk ho => ?_, fun p k hp hk => ?_⟩
  · rw [L 2 (by omega) (by omega), L1]
    obtain ⟨h, y, h1, h2, h3, h4⟩ := w.had k hk
    by_cases q : k = n
    · subst q
      rw [if_pos rfl]
      have : y = v := by
        rw [e] at h4
        exact ((nI_eq (by omega) (by omega)).mp h4).symm
      exact ⟨h, v + 1, by omega, by omega, h3, rfl⟩
    · rw [if_neg q]
      exact ⟨h, y, h1, h2, h3, h4⟩
  · rw [L 2 (by omega) (by omega)]
    exact w.had0 k hk
  · rw [L 6 (by omega) (by omega), L1]
    rcases w.adv k hk with q | ⟨a, y, h1, h2, h3, h4⟩
    · exact Or.inl q
    · by_cases q : k = n
      · subst q
        rw [if_pos rfl]
        have : y = v := by
          rw [e] at h4
          exact ((nI_eq (by omega) (by omega)).mp h4).symm
        exact Or.inr ⟨a, v + 1, by omega, by omega, h3, rfl⟩
      · rw [if_neg q]
        exact Or.inr ⟨a, y, h1, h2, h3, h4⟩
  · rw [L1] at hl
    rw [wr_at]
    by_cases q : k = n
    · subst q
      rw [if_pos rfl] at hl ⊢
      by_cases q2 : u = v
      · rw [if_pos q2]
        exact Or.inl rfl
      · rw [if_neg q2, wr_ne (by omega), wr_ne (by omega)]
        have h1 : u < v + 1 := (nI_ltI (by omega) (by omega)).mp hl
        exact w.ned k u hk hu (by rw [e]; exact nI_lt (by omega) (by omega))
    · rw [if_neg q] at hl
      rw [if_neg (by omega), wr_ne (by omega), wr_ne (by omega)]
      exact w.ned k u hk hu hl
  · rw [L (k + 38) (by omega) (by omega)]
    exact w.lst k u hk hu
  · rw [L 111 (by omega) (by omega)]
    exact w.clk
  · rw [L 11 (by omega) (by omega)]
    exact w.chf p hp
  · rw [L 12 (by omega) (by omega)]
    exact w.rdn p hp
  · rw [L 110 (by omega) (by omega)]
    exact w.hit p
  · rw [L (p + 50) (by omega) (by omega)]
    exact w.row p k hp hk h12
  · rw [L 10 (by omega) (by omega)] at ho
    rw [L (p + 50) (by omega) (by omega), L 2 (by omega) (by omega)]
    exact w.opn p k hp hk ho
  · rw [L (p + 50) (by omega) (by omega), L1]
    rcases w.rwv p k hp hk with q | ⟨a, y, h1, h2, h3, h4⟩
    · exact Or.inl q
    · by_cases q : k = n
      · subst q
        rw [if_pos rfl]
        have : y = v := by
          rw [e] at h4
          exact ((nI_eq (by omega) (by omega)).mp h4).symm
        exact Or.inr ⟨a, v + 1, by omega, by omega, h3, rfl⟩
      · rw [if_neg q]
        exact Or.inr ⟨a, y, h1, h2, h3, h4⟩
theorem st_newer (σ τ : ST) (x1 x2 : Int32) (h : Iv σ τ) : ∃ (r : Int32) (σ1 τ1 : ST), urf_Rb_newer σ x1 x2 = some (r, σ1) ∧ rff_Md_newer τ x1 x2 = some (r, τ1) ∧ Iv σ1 τ1 := by
  obtain ⟨c, m, w, r⟩ := h
  have h3 : (wr τ 18 1 0) 18 3 = nI c := r.t3
  have hc := w.c12
  have no : ∃ (r : Int32) (σ1 τ1 : ST), some ((-1 : Int32), σ) = some (r, σ1) ∧ some ((-1 : Int32), wr τ 18 1 0) = some (r, τ1) ∧ Iv σ1 τ1 := ⟨-1, _, _, rfl, rfl, c, m, w, r.code⟩
  unfold urf_Rb_newer rff_Md_newer rfj_Md_newer_33
  rcases cs_ix x1 (n := c) (by omega) with hx | ⟨n, hn, rfl⟩
  · rw [kn0 w.cn hx, km0 h3 hx]
    exact no
  · obtain ⟨hh, v, e1, e2, e3, e4, e5⟩ := vnew w r hn
    rw [kn1 w.cn (by omega) hn, km1 h3 (by omega) hn]
    simp only [ob_s, if_neg one_ne, if_pos (in_nI (show n < 12 by omega) (by decide)), cl_nI (show n < 2 ^ 31 by omega), e5]
    by_cases a1 : x2 < 0
    · simp only [if_pos a1]
      exact no
    by_cases a2 : x2 < 3
    · have b2 := (lt3 x2).mp a2
      simp only [if_neg a1, if_pos a2, if_neg b2]
      unfold urf_Nm_addVersion
      simp only [if_pos (in_nI (show n < 12 by omega) (by decide)), cl_nI (show n < 2 ^ 31 by omega), e4]
      by_cases a3 : v = 7
      · subst a3
        have b3 : ¬ nI (7 + 1) < 8 := by decide
        have b4 : nI 7 = 7 := rfl
        simp only [if_neg b3, if_pos b4, ob_s]
        exact no
      · have b3 : nI (v + 1) < 8 := nI_lt (b := 8) (by omega) (by decide)
        have b4 : ¬ nI v = 7 := fun q => a3 ((nI_eq (b := 7) (by omega) (by decide)).mp q)
        have e6 : nI v + 1 = nI (v + 1) := nI_1 v
        have e7 : nI (v + 1) + 1 = nI (v + 1 + 1) := nI_1 (v + 1)
        have e8 : (8 : Int32) * nI n + nI (v + 1) = nI (8 * n + (v + 1)) := by rw [show (8 : Int32) * nI n = nI (8 * n) from pk_mul 8 n, nI_add]
        simp only [if_pos b3, if_neg b4, ob_s, e6, e7, wr_eq, e8, cl_nI (show v + 1 < 2 ^ 31 by omega), cl_nI (show 8 * n + (v + 1) < 2 ^ 31 by omega), if_pos (in_nI (show v + 1 < 8 by omega) (by decide)), if_pos (in_nI (show 8 * n + (v + 1) < 96 by omega) (by decide))]
        exact ⟨_, _, _, rfl, rfl, c, m, w.newer hn (by omega) e4 x2, ((r.code.w1 hn (v + 1)).g14 (by omega) (by omega) x2).g26 (by omega) (by omega) (-1)⟩
    · have b2 : 2 < x2 := Classical.byContradiction fun q => a2 ((lt3 x2).mpr q)
      simp only [if_neg a1, if_neg a2, if_pos b2]
      exact no
theorem Wf.needs {c m : Nat} {σ : ST} (w : Wf X c m σ) {n v o l : Nat} (hn : n < c) (hv : v < 8) (ho : o < c) (hl : l < 8) : Wf X c m (wr (wr σ (n + 26) v (nI o)) (n + 38) v (nI l)) := by
  have hc := w.c12
  have hm := w.m60
  have L : ∀ i, i < 26 ∨ 50 ≤ i → (wr (wr σ (n + 26) v (nI o)) (n + 38) v (nI l)) i = σ i := fun i hi => by
    rw [wr_ne (by omega), wr_ne (by omega)]
  refine ⟨hc, (congrFun (L 111 (by omega)) 3).trans w.cn, hm, (congrFun (L 111 (by omega)) 4).trans w.mn, fun k hk => ?_, fun k hk => ?_, fun k hk => ?_, fun k u hk hu hl => ?_, fun k u hk hu => ?_, ?_, fun p hp => ?_, fun p hp => ?_, fun p => ?_, fun p k hp hk h12 => ?_, fun p k hp hk ho => ?_, fun p k hp hk => ?_⟩
  · rw [L 2 (by omega), L 1 (by omega)]
    exact w.had k hk
  · rw [L 2 (by omega)]
    exact w.had0 k hk
  · rw [L 6 (by omega), L 1 (by omega)]
    exact w.adv k hk
  · rw [L 1 (by omega)] at hl
    rw [wr_ne (by omega), wr_at]
    by_cases q : k + 26 = n + 26
    · rw [if_pos q]
      by_cases q2 : u = v
      · rw [if_pos q2]
        exact Or.inr ⟨o, ho, rfl⟩
      · rw [if_neg q2]
        exact w.ned k u hk hu hl
    · rw [if_neg q]
      exact w.ned k u hk hu hl
  · rw [wr_at]
    by_cases q : k + 38 = n + 38
    · rw [if_pos q]
      by_cases q2 : u = v
      · rw [if_pos q2]
        exact ⟨l, hl, rfl⟩
      · rw [if_neg q2, wr_ne (by omega)]
        exact w.lst k u hk hu
    · rw [if_neg q, wr_ne (by omega)]
      exact w.lst k u hk hu
  · rw [L 111 (by omega)]
    exact w.clk
  · rw [L 11 (by omega)]
    exact w.chf p hp
  · rw [L 12 (by omega)]
    exact w.rdn p hp
  · rw [L 110 (by omega)]
    exact w.hit p
  · rw [L (p + 50) (by omega)]
    exact w.row p k hp hk h12
  · rw [L 10 (by omega)] at ho
    rw [L (p + 50) (by omega), L 2 (by omega)]
    exact w.opn p k hp hk ho
  · rw [L (p + 50) (by omega), L 1 (by omega)]
    exact w.rwv p k hp hk
theorem st_needs (σ τ : ST) (x1 x2 x3 x4 : Int32) (h : Iv σ τ) : ∃ (r : Int32) (σ1 τ1 : ST), urf_Rb_needs σ x1 x2 x3 x4 = some (r, σ1) ∧ rff_Md_needs τ x1 x2 x3 x4 = some (r, τ1) ∧ Iv σ1 τ1 := by
  obtain ⟨c, m, w, r⟩ := h
  have h3 : (wr τ 18 1 0) 18 3 = nI c := r.t3
  have hc := w.c12
  have no : ∃ (r : Int32) (σ1 τ1 : ST), some ((0 : Int32), σ) = some (r, σ1) ∧ some ((0 : Int32), wr τ 18 1 0) = some (r, τ1) ∧ Iv σ1 τ1 := ⟨0, _, _, rfl, rfl, c, m, w, r.code⟩
  unfold urf_Rb_needs rff_Md_needs rfj_Md_needs_52
  rcases cs_ix x1 (n := c) (by omega) with hx | ⟨n, hn, rfl⟩
  · rw [hvn w hx, km0 h3 hx]
    exact no
  · obtain ⟨hh, v, e1, e2, e3, e4, e5⟩ := vnew w r hn
    rw [hv0 w hn, km1 h3 (by omega) hn]
    have z0 : (0 : Int32) = 0 := rfl
    simp only [ob_s, if_neg one_ne, if_pos (in_nI (show n < 12 by omega) (by decide)), cl_nI (show n < 2 ^ 31 by omega), e4, e5]
    by_cases a1 : x2 < 0
    · have b1 : ¬ (0 ≤ x2 ∧ x2 < nI (v + 1)) := fun q => absurd q.1 (Int32.not_le.mpr a1)
      simp only [if_pos a1, if_neg b1, if_pos]
      exact no
    obtain ⟨u, hu, rfl⟩ := nI_of a1
    by_cases a2 : u ≤ v
    · have b1 : (0 : Int32) ≤ nI u ∧ nI u < nI (v + 1) := ⟨nI_pos' hu, nI_lt (by omega) (by omega)⟩
      have b2 : ¬ nI v < nI u := nI_nlt a2 (by omega)
      simp only [if_neg a1, if_pos b1, if_neg b2, if_neg one_ne]
      rcases cs_ix x3 (n := c) (by omega) with hx | ⟨o, ho, rfl⟩
      · rw [kn0 w.cn hx, km0 h3 hx]
        exact no
      · rw [kn1 w.cn (by omega) ho, km1 h3 (by omega) ho]
        simp only [ob_s, if_neg one_ne]
        by_cases a3 : nI n = nI o
        · simp only [if_pos a3, if_pos a3.symm]
          exact no
        have a4 : ¬ nI o = nI n := fun q => a3 q.symm
        simp only [if_neg a3, if_neg a4]
        by_cases a5 : x4 < 0
        · simp only [if_pos a5]
          exact no
        by_cases a6 : x4 < 8
        · obtain ⟨l, hl, rfl⟩ := nI_of a5
          have hl8 : l < 8 := (nI_ltI (b := 8) hl (by decide)).mp a6
          have e8 : (8 : Int32) * nI n + nI u = nI (8 * n + u) := by rw [show (8 : Int32) * nI n = nI (8 * n) from pk_mul 8 n, nI_add]
          simp only [if_neg a5, if_pos a6, if_pos ((lt8 _).mp a6), e8, cl_nI hu, cl_nI (show 8 * n + u < 2 ^ 31 by omega), if_pos (in_nI (show u < 8 by omega) (by decide)), if_pos (in_nI (show 8 * n + u < 96 by omega) (by decide))]
          exact ⟨1, _, _, rfl, rfl, c, m, w.needs hn (by omega) ho hl8, (r.code.g26 (by omega) (by omega) _).g38 (by omega) (by omega) _⟩
        · simp only [if_neg a5, if_neg a6, if_neg (fun q => a6 ((lt8 x4).mpr q))]
          exact no
    · have b1 : ¬ ((0 : Int32) ≤ nI u ∧ nI u < nI (v + 1)) := fun q => by
        have := (nI_ltI hu (by omega)).mp q.2
        omega
      have b2 : nI v < nI u := nI_lt (by omega) hu
      simp only [if_neg a1, if_neg b1, if_pos b2, if_pos]
      exact no
theorem st_about (σ τ : ST) (x1 x2 : Int32) (h : Iv σ τ) : ∃ (r : Int32) (τ1 : ST), urf_Rb_about σ x1 x2 = some r ∧ rff_Md_about τ x1 x2 = some (r, τ1) ∧ Iv σ τ1 := by
  obtain ⟨c, m, w, r⟩ := h
  have hm := w.m60
  have no : ∃ (r : Int32) (τ1 : ST), some (-1 : Int32) = some r ∧ some ((-1 : Int32), wr τ 18 1 0) = some (r, τ1) ∧ Iv σ τ1 := ⟨-1, _, rfl, rfl, c, m, w, r.code⟩
  unfold urf_Rb_about rff_Md_about rfj_Md_about_17
  rw [← r.s4, w.mn, ← r.a10, ← r.a11, ← r.a12, ← r.a13, ← r.a110]
  rcases cs_ix x1 (n := m) (by omega) with hx | ⟨p, hp, rfl⟩
  · rw [pn0 w.mn hx]
    rcases hx with hx | hx
    · simp only [ob_s, if_pos hx, if_pos]
      exact no
    · have h1 : ¬ x1 < nI m := Int32.not_lt.mpr hx
      simp only [ob_s, if_neg h1, if_pos, ite_self]
      exact no
  · rw [pn1 w.mn hm hp]
    simp only [ob_s, if_neg one_ne, if_neg (nI_pos (show p < 2 ^ 31 by omega)), if_pos (nI_lt hp (by omega)), if_pos (in_nI (show p < 60 by omega) (by decide)), cl_nI (show p < 2 ^ 31 by omega)]
    have ok : ∀ z : Int32, ∃ (r : Int32) (τ1 : ST), some z = some r ∧ some (z, wr τ 18 1 0) = some (r, τ1) ∧ Iv σ τ1 := fun z => ⟨z, _, rfl, rfl, c, m, w, r.code⟩
    by_cases a0 : x2 = 0
    · simp only [if_pos a0]
      exact ok _
    by_cases a1 : x2 = 1
    · simp only [if_neg a0, if_pos a1]
      exact ok _
    by_cases a2 : x2 = 2
    · simp only [if_neg a0, if_neg a1, if_pos a2]
      exact ok _
    by_cases a3 : x2 = 3
    · simp only [if_neg a0, if_neg a1, if_neg a2, if_pos a3]
      exact ok _
    by_cases a4 : x2 = 4
    · simp only [if_neg a0, if_neg a1, if_neg a2, if_neg a3, if_pos a4]
      rcases w.hit p with q | q
      · rw [q]
        exact ok 0
      · rw [q]
        exact ok 1
    · simp only [if_neg a0, if_neg a1, if_neg a2, if_neg a3, if_neg a4]
      exact no
theorem st_target (σ τ : ST) (x1 x2 : Int32) (h : Iv σ τ) : ∃ (r : Int32) (τ1 : ST), urf_Rb_target σ x1 x2 = some r ∧ rff_Md_target τ x1 x2 = some (r, τ1) ∧ Iv σ τ1 := by
  obtain ⟨c, m, w, r⟩ := h
  have h3 : (wr τ 18 1 0) 18 3 = nI c := r.t3
  have hc := w.c12
  have hm := w.m60
  have no : ∃ (r : Int32) (τ1 : ST), some (-1 : Int32) = some r ∧ some ((-1 : Int32), wr τ 18 1 0) = some (r, τ1) ∧ Iv σ τ1 := ⟨-1, _, rfl, rfl, c, m, w, r.code⟩
  unfold urf_Rb_target rff_Md_target
  rw [← r.s4, w.mn]
  rcases cs_ix x1 (n := m) (by omega) with hx | ⟨p, hp, rfl⟩
  · rw [pn0 w.mn hx]
    rcases hx with hx | hx
    · simp only [ob_s, if_pos hx, if_pos]
      exact no
    · simp only [ob_s, if_pos hx, if_pos, ite_self]
      exact no
  · rw [pn1 w.mn hm hp]
    simp only [ob_s, if_neg one_ne, if_neg (nI_pos (show p < 2 ^ 31 by omega)), if_neg (nI_ge hp (by omega))]
    rcases cs_ix x2 (n := c) (by omega) with hx | ⟨n, hn, rfl⟩
    · rw [kn0 w.cn hx, km0 h3 hx]
      exact no
    · rw [kn1 w.cn (by omega) hn, km1 h3 (by omega) hn]
      have e8 : (12 : Int32) * nI p + nI n = nI (12 * p + n) := by rw [show (12 : Int32) * nI p = nI (12 * p) from pk_mul 12 p, nI_add]
      simp only [ob_s, if_neg one_ne, e8, cl_nI (show p < 2 ^ 31 by omega), cl_nI (show n < 2 ^ 31 by omega), cl_nI (show 12 * p + n < 2 ^ 31 by omega), if_pos (in_nI (show p < 60 by omega) (by decide)), if_pos (in_nI (show n < 12 by omega) (by decide)), if_pos (in_nI (show 12 * p + n < 720 by omega) (by decide))]
      exact ⟨_, _, rfl, by rw [r.k50 p n (by omega) (by omega)], c, m, w, r.code⟩
/-- how many are open: both count alike -/
theorem opens_eq {c m : Nat} {σ τ : ST} (w : Wf X c m σ) (r : Rl c σ τ) (x : Int32) : ∀ (n j : Nat) (a : Int32), j ≤ m → m - j < n → ∃ q : Int32, url_Rb_openIn_4 σ n x a (nI j) = some q ∧ rfl_Md_opens_4 τ n x a (nI j) = some q := by
  have hm := w.m60
  have hc := w.c12
  intro n
  induction n with
  | zero => intro j a h1 h2; omega
  | succ n ih =>
    intro j a h1 h2
    rw [url_Rb_openIn_4, rfl_Md_opens_4, ← r.s4, w.mn, ← r.a10, ← r.a11, ← r.a0]
    by_cases e : j = m
    · subst e
      simp only [if_pos (Int32.le_refl (nI j))]
      exact ⟨a, rfl, rfl⟩
    · have hj : j < m := by omega
      obtain ⟨q, hq, eq⟩ := w.chf j hj
      unfold urf_Pr_isOpen
      rw [pn1 w.mn hm hj]
      simp only [ob_s, if_neg one_ne, if_neg (nI_ge hj (by omega)), if_pos (in_nI (show j < 60 by omega) (by decide)), cl_nI (show j < 2 ^ 31 by omega), eq, cl_nI (show q < 2 ^ 31 by omega), if_pos (in_nI (show q < 12 by omega) (by decide)), nI_1, Int32.add_zero]
      by_cases o : σ 10 j = 0
      · simp only [if_pos o, ob_s, if_neg one_ne]
        by_cases o2 : σ 0 q = x
        · simp only [if_pos o2]
          exact ih (j + 1) (a + 1) (by omega) (by omega)
        · simp only [if_neg o2]
          exact ih (j + 1) a (by omega) (by omega)
      · simp only [if_neg o, ob_s, if_pos]
        exact ih (j + 1) a (by omega) (by omega)
theorem openIn_eq {c m : Nat} {σ τ : ST} (w : Wf X c m σ) (r : Rl c σ τ) (x : Int32) : ∃ q : Int32, urf_Rb_openIn σ x = some q ∧ rff_Md_opens τ x = some q :=
  opens_eq w r x 200 0 0 (by omega) (by have := w.m60; omega)
theorem st_open (σ τ : ST) (x1 : Int32) (h : Iv σ τ) : ∃ (r : Int32) (τ1 : ST), urf_Rb_open σ x1 = some r ∧ rff_Md_open τ x1 = some (r, τ1) ∧ Iv σ τ1 := by
  obtain ⟨c, m, w, r⟩ := h
  have no : ∃ (r : Int32) (τ1 : ST), some (-1 : Int32) = some r ∧ some ((-1 : Int32), wr τ 18 1 0) = some (r, τ1) ∧ Iv σ τ1 := ⟨-1, _, rfl, rfl, c, m, w, r.code⟩
  unfold urf_Rb_open rff_Md_open urf_Rb_isRepository
  obtain ⟨q, e1, e2⟩ := openIn_eq w r.code x1
  have h1 : (3 : Int32).toInt = 3 := by decide
  have h2 : (2 : Int32).toInt = 2 := by decide
  by_cases a1 : x1 < 0
  · simp only [if_pos a1, ob_s, if_pos]
    exact no
  by_cases a2 : 3 ≤ x1
  · have b2 : ¬ x1 ≤ 2 := fun q => by
      rw [i_le] at a2 q
      omega
    have b3 : 2 < x1 := Int32.not_le.mp b2
    simp only [if_neg a1, if_pos a2, ob_s, if_pos, if_neg b2, if_pos b3]
    exact no
  · have b2 : x1 ≤ 2 := by
      rw [i_le] at a2 ⊢
      omega
    have b3 : ¬ 2 < x1 := Int32.not_lt.mpr b2
    simp only [if_neg a1, if_neg a2, ob_s, if_neg one_ne, if_pos b2, if_neg b3, e1, e2]
    exact ⟨q, _, rfl, rfl, c, m, w, r.code⟩
