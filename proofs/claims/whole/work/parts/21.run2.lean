theorem run_eq {c m0 : Nat} : ∀ (n j m : Nat) (σ τ : ST), m0 ≤ m → Wf (fun _ => False) c m σ → Rl c σ τ → j ≤ c → c - j < n → ∃ (z : Int32) (σ1 τ1 : ST), url_Rb_run_15 n σ (nI m0) (nI j) = some (z, σ1) ∧ rfl_Md_run_14 n τ (nI (m - m0)) (nI j) = some (z, τ1) ∧ Iv σ1 τ1 := by
  intro n
  induction n with
  | zero => intro j m σ τ h0 w r h1 h2; omega
  | succ n ih =>
    intro j m σ τ h0 w r h1 h2
    have h12 := w.c12
    have hm := w.m60
    rw [url_Rb_run_15, rfl_Md_run_14, w.cn, r.t3, w.mn]
    by_cases e : j = c
    · subst e
      rw [if_pos (Int32.le_refl (nI j)), if_pos (Int32.le_refl (nI j)), pk_sub h0]
      exact ⟨_, _, _, rfl, rfl, j, m, w, r⟩
    · have hj : j < c := by omega
      obtain ⟨k, hk⟩ := ch_ex σ j
      have hk1 := hk.1
      simp only [if_neg (nI_ge hj (by omega)), rf_ch r (show j < 12 by omega) hk, ob_s, nI_1, if_pos (in_nI (show j < 12 by omega) (by decide)), cl_nI (show j < 2 ^ 31 by omega), ← r.s1]
      by_cases ek : k = j
      · subst ek
        simp only [ur_isch w hj hk, ob_s, if_neg one_ne, if_pos]
        obtain ⟨b, b1, b2⟩ := isDue_eq w r hj hk
        simp only [b1, b2, ob_s]
        by_cases bz : b = 0
        · simp only [if_pos bz]
          exact ih (k + 1) m σ τ h0 w r (by omega) (by omega)
        · simp only [if_neg bz]
          obtain ⟨q, σ1, τ1, q1, q2, q3⟩ := review_eq (w.w7 k (σ 111 1)) (r.w7 k (σ 111 1)) hj hk
          simp only [q1, q2, ob_s]
          rcases q3 with ⟨e1, w1, r1⟩ | ⟨e1, w1, r1⟩ | ⟨e1, w1, r1⟩
          · subst e1
            have ne : ¬ (1 : Int32) = -1 := by decide
            simp only [if_pos, if_neg ne, Int32.add_zero, wr_self (σ := τ1) (i := 18) (j := 5) rfl, nI_1]
            have := ih (k + 1) (m + 1) σ1 τ1 (by omega) w1 r1 (by omega) (by omega)
            rw [show m + 1 - m0 = m - m0 + 1 by omega] at this
            exact this
          · subst e1
            have n1 : ¬ (0 : Int32) = 1 := by decide
            have n2 : ¬ (0 : Int32) = -1 := by decide
            simp only [if_neg n1, if_neg n2, Int32.add_zero, wr_self (σ := τ1) (i := 18) (j := 5) rfl]
            exact ih (k + 1) m σ1 τ1 h0 w1 r1 (by omega) (by omega)
          · subst e1
            have n1 : ¬ (-1 : Int32) = 1 := by decide
            simp only [if_neg n1, if_pos, Int32.add_zero]
            exact ih (k + 1) m σ1 _ h0 w1 r1 (by omega) (by omega)
      · have ne : ¬ nI k = nI j := fun q => ek ((nI_eq (by omega) (by omega)).mp q)
        simp only [ur_noch w hj hk ek, ob_s, if_pos, if_neg ne]
        exact ih (j + 1) m σ τ h0 w r (by omega) (by omega)
theorem st_run (σ τ : ST) (h : Iv σ τ) : ∃ (r : Int32) (σ1 τ1 : ST), urf_Rb_run σ = some (r, σ1) ∧ rff_Md_run τ = some (r, τ1) ∧ Iv σ1 τ1 := by
  obtain ⟨c, m, w, r⟩ := h
  have h12 := w.c12
  have q := run_eq (m0 := m) 200 0 m (wr σ 111 2 0) (wr (wr τ 18 1 0) 18 5 0) (Nat.le_refl m) (w.sc2 0) (r.code.sc2 0) (by omega) (by omega)
  rw [Nat.sub_self] at q
  unfold urf_Rb_run rff_Md_run
  rw [w.mn]
  exact q
