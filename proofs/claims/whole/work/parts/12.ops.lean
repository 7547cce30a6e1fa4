variable {X : Nat → Prop}
theorem lt3 (x : Int32) : x < 3 ↔ ¬ 2 < x := by
  rw [i_lt, i_lt]
  have h1 : (3 : Int32).toInt = 3 := by decide
  have h2 : (2 : Int32).toInt = 2 := by decide
  omega
theorem lt4 (x : Int32) : x < 4 ↔ x ≤ 3 := by
  rw [i_lt, i_le]
  have h1 : (4 : Int32).toInt = 4 := by decide
  have h2 : (3 : Int32).toInt = 3 := by decide
  omega
theorem lt8 (x : Int32) : x < 8 ↔ x ≤ 7 := by
  rw [i_lt, i_le]
  have h1 : (8 : Int32).toInt = 8 := by decide
  have h2 : (7 : Int32).toInt = 7 := by decide
  omega
theorem one_ne : ¬ (1 : Int32) = 0 := by decide
theorem st_rule (σ τ : ST) (x1 x2 x3 x4 : Int32) (h : Iv σ τ) : ∃ (r : Int32) (σ1 τ1 : ST), urf_Rb_rule σ x1 x2 x3 x4 = some (r, σ1) ∧ rff_Md_rule τ x1 x2 x3 x4 = some (r, τ1) ∧ Iv σ1 τ1 := by
  obtain ⟨c, m, w, r⟩ := h
  have h3 : (wr τ 18 1 0) 18 3 = nI c := r.t3
  have hc := w.c12
  have no : ∃ (r : Int32) (σ1 τ1 : ST), some ((0 : Int32), σ) = some (r, σ1) ∧ some ((0 : Int32), wr τ 18 1 0) = some (r, τ1) ∧ Iv σ1 τ1 := ⟨0, _, _, rfl, rfl, c, m, w, r.code⟩
  unfold urf_Rb_rule rff_Md_rule
  rcases cs_ix x1 (n := c) (by omega) with hx | ⟨n, hn, rfl⟩
  · rw [kn0 w.cn hx, km0 h3 hx]
    exact no
  · rw [kn1 w.cn (by omega) hn, km1 h3 (by omega) hn]
    simp only [ob_s, if_neg one_ne, if_pos (in_nI (show n < 12 by omega) (by decide)), cl_nI (show n < 2 ^ 31 by omega)]
    by_cases a1 : x2 < -1
    · simp only [if_pos a1]
      exact no
    by_cases a2 : x2 < 3
    · have b2 := (lt3 x2).mp a2
      simp only [if_neg a1, if_pos a2, if_neg b2]
      by_cases a3 : x3 < 1
      · simp only [if_pos a3]
        exact no
      by_cases a4 : 1000 < x3
      · simp only [if_neg a3, if_pos a4]
        exact no
      by_cases a5 : x4 < -1
      · simp only [if_neg a3, if_neg a4, if_pos a5]
        exact no
      by_cases a6 : x4 < 4
      · simp only [if_neg a3, if_neg a4, if_neg a5, if_pos a6, if_pos ((lt4 x4).mp a6)]
        exact ⟨1, _, _, rfl, rfl, c, m, ((w.w3 n x2).w4 n x3).w5 n x4, ((r.code.w3 n x2).w4 n x3).w5 n x4⟩
      · simp only [if_neg a3, if_neg a4, if_neg a5, if_neg a6, if_neg (fun q => a6 ((lt4 x4).mpr q))]
        exact no
    · have b2 : 2 < x2 := Classical.byContradiction fun q => a2 ((lt3 x2).mpr q)
      simp only [if_neg a1, if_neg a2, if_pos b2]
      exact no
theorem st_tick (σ τ : ST) (x1 : Int32) (h : Iv σ τ) : ∃ (r : Int32) (σ1 τ1 : ST), urf_Rb_tick σ x1 = some (r, σ1) ∧ rff_Md_tick τ x1 = some (r, τ1) ∧ Iv σ1 τ1 := by
  obtain ⟨c, m, w, r⟩ := h
  have no : ∃ (r : Int32) (σ1 τ1 : ST), some ((-1 : Int32), σ) = some (r, σ1) ∧ some ((-1 : Int32), wr τ 18 1 0) = some (r, τ1) ∧ Iv σ1 τ1 := ⟨-1, _, _, rfl, rfl, c, m, w, r.code⟩
  obtain ⟨t, ht, et⟩ := w.clk
  unfold urf_Rb_tick rff_Md_tick
  rw [← r.s1, et]
  by_cases a1 : x1 < 0
  · simp only [if_pos a1]
    exact no
  by_cases a2 : 100000 < x1
  · simp only [if_neg a1, if_pos a2]
    exact no
  obtain ⟨k, hk, rfl⟩ : ∃ k : Nat, k ≤ 100000 ∧ x1 = nI k := nI_of2 (M := 100000) (by decide) a1 (Int32.not_lt.mp a2)
  simp only [if_neg a1, if_neg a2]
  have e1 : (1000000000 : Int32) - nI t = nI (1000000000 - t) := pk_sub (a := 1000000000) ht
  have e2 : nI t + nI k = nI (t + k) := nI_add t k
  rw [e1, e2]
  by_cases a3 : t + k ≤ 1000000000
  · have b1 : nI k ≤ nI (1000000000 - t) := nI_le (by omega) (by omega)
    have b2 : nI (t + k) ≤ 1000000000 := nI_le (b := 1000000000) a3 (by decide)
    simp only [if_pos b1, if_pos b2]
    exact ⟨_, _, _, rfl, rfl, c, m, w.sc1 (t + k) a3, r.code.sc1 _⟩
  · have b1 : ¬ nI k ≤ nI (1000000000 - t) := nI_ge (by omega) (by omega)
    have b2 : ¬ nI (t + k) ≤ 1000000000 := nI_ge (a := 1000000000) (by omega) (by omega)
    simp only [if_neg b1, if_neg b2]
    exact no
/-- a VERSION that is there: on both sides -/
theorem hv0 {c m : Nat} {σ : ST} (w : Wf X c m σ) {n : Nat} (hn : n < c) (x : Int32) : urf_Nm_hasVersion σ (nI n) x = some (if 0 ≤ x ∧ x < σ 1 n then 1 else 0) := by
  have hc := w.c12
  unfold urf_Nm_hasVersion
  rw [kn1 w.cn (by omega) hn]
  simp only [ob_s, if_neg one_ne, if_pos (in_nI (show n < 12 by omega) (by decide)), cl_nI (show n < 2 ^ 31 by omega)]
  by_cases a1 : x < 0
  · rw [if_pos a1, if_neg (fun q => absurd q.1 (Int32.not_le.mpr a1))]
  · rw [if_neg a1]
    by_cases a2 : σ 1 n ≤ x
    · rw [if_pos a2, if_neg (fun q => absurd q.2 (Int32.not_lt.mpr a2))]
    · rw [if_neg a2, if_pos ⟨Int32.not_lt.mp a1, Int32.not_le.mp a2⟩]
theorem hvn {c m : Nat} {σ : ST} (w : Wf X c m σ) {x y : Int32} (hx : x < 0 ∨ nI c ≤ x) : urf_Nm_hasVersion σ x y = some 0 := by
  unfold urf_Nm_hasVersion
  rw [kn0 w.cn hx]
  rfl
/-- newest is the number of versions less one -/
theorem vnew {c m : Nat} {σ τ : ST} (w : Wf X c m σ) (r : Rl c σ τ) {n : Nat} (hn : n < c) : ∃ h v : Nat, h ≤ v ∧ v ≤ 7 ∧ σ 2 n = nI h ∧ σ 1 n = nI (v + 1) ∧ τ 1 n = nI v := by
  obtain ⟨h, v, h1, h2, h4, h5⟩ := w.had n hn
  obtain ⟨u, rfl⟩ : ∃ u, v = u + 1 := ⟨v - 1, by omega⟩
  refine ⟨h, u, by omega, by omega, h4, h5, ?_⟩
  have e := r.v1 n hn
  rw [h5, nI_succ] at e
  have e2 := congrArg (fun z => z - 1) e
  simp only [Int32.add_sub_cancel] at e2
  exact e2.symm
theorem st_advise (σ τ : ST) (x1 x2 : Int32) (h : Iv σ τ) : ∃ (r : Int32) (σ1 τ1 : ST), urf_Rb_advise σ x1 x2 = some (r, σ1) ∧ rff_Md_advise τ x1 x2 = some (r, τ1) ∧ Iv σ1 τ1 := by
  obtain ⟨c, m, w, r⟩ := h
  have h3 : (wr τ 18 1 0) 18 3 = nI c := r.t3
  have hc := w.c12
  have no : ∃ (r : Int32) (σ1 τ1 : ST), some ((0 : Int32), σ) = some (r, σ1) ∧ some ((0 : Int32), wr τ 18 1 0) = some (r, τ1) ∧ Iv σ1 τ1 := ⟨0, _, _, rfl, rfl, c, m, w, r.code⟩
  unfold urf_Rb_advise rff_Md_advise
  rcases cs_ix x1 (n := c) (by omega) with hx | ⟨n, hn, rfl⟩
  · rw [kn0 w.cn hx, km0 h3 hx]
    exact no
  · obtain ⟨hh, v, e1, e2, e3, e4, e5⟩ := vnew w r hn
    rw [kn1 w.cn (by omega) hn, km1 h3 (by omega) hn]
    simp only [ob_s, if_neg one_ne, if_pos (in_nI (show n < 12 by omega) (by decide)), cl_nI (show n < 2 ^ 31 by omega), hv0 w hn, e4, e5]
    have hm1 : (-1 : Int32).toInt = -1 := by decide
    have hz : (0 : Int32).toInt = 0 := by decide
    have tv : (nI v).toInt = (v : Int) := t_nI (by omega)
    have tv1 : (nI (v + 1)).toInt = ((v + 1 : Nat) : Int) := t_nI (by omega)
    by_cases a1 : x2 = -1
    · subst a1
      have b1 : ¬ (-1 : Int32) < -1 := by decide
      have b2 : (-1 : Int32) ≤ nI v := by rw [i_le, hm1, tv]; omega
      simp only [if_pos, if_neg b1, if_pos b2]
      exact ⟨1, _, _, rfl, rfl, c, m, w.w6 n _ (Or.inl rfl), r.code.w6 n _⟩
    · simp only [if_neg a1]
      by_cases a2 : 0 ≤ x2 ∧ x2 < nI (v + 1)
      · obtain ⟨q1, q2⟩ := a2
        rw [i_le, hz] at q1
        rw [i_lt, tv1] at q2
        obtain ⟨u, hu, rfl⟩ : ∃ u : Nat, u ≤ v ∧ x2 = nI u := by
          obtain ⟨u, hu, e⟩ := nI_of (x := x2) (by rw [i_lt, hz]; omega)
          subst e
          rw [t_nI hu] at q2
          exact ⟨u, by omega, rfl⟩
        have b1 : ¬ nI u < -1 := by rw [i_lt, hm1, t_nI (by omega)]; omega
        have b2 : nI u ≤ nI v := nI_le hu (by omega)
        have b3 : (0 : Int32) ≤ nI u ∧ nI u < nI (v + 1) := ⟨nI_pos' (by omega), nI_lt (by omega) (by omega)⟩
        simp only [if_neg b1, if_pos b2, if_pos b3, if_neg one_ne]
        exact ⟨1, _, _, rfl, rfl, c, m, w.w6 n _ (Or.inr ⟨u, v + 1, by omega, by omega, rfl, e4⟩), r.code.w6 n _⟩
      · simp only [if_neg a2, if_pos]
        by_cases b1 : x2 < -1
        · simp only [if_pos b1]
          exact no
        · have b2 : ¬ x2 ≤ nI v := fun q => a2 (by
            rw [i_lt, hm1] at b1
            rw [i_eq, hm1] at a1
            rw [i_le, tv] at q
            refine ⟨?_, ?_⟩
            · rw [i_le, hz]; omega
            · rw [i_lt, tv1]; omega)
          simp only [if_neg b1, if_neg b2]
          exact no
